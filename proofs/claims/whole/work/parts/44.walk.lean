/-! ===== walks of methods, printed by a program of ours ===== -/
/-! WebHostModel.chosen()I -/
def fX16_chosen_L221 (fu : Nat)  (a0 : Nat) (a1 : Int32)  (M : Mm) : Option (Int32 × Mm) :=
    (gI M 16 1067 (some a0)).bind fun v1 =>
    if v1 = (200 : Int32) then (
    some (a1, M))
    else (
    (gI M 16 1067 (some a0)).bind fun v2 =>
    if v2 = (304 : Int32) then (
    some (a1, M))
    else (
    some ((-1 : Int32), M)))
def fX16_chosen_L218 (fu : Nat)  (a0 : Nat) (a1 : Int32) (s0 : Option Nat) (s1 : Int32) (M : Mm) : Option (Int32 × Mm) :=
    (pF M 16 1067 s0 s1).bind fun M1 =>
    fX16_chosen_L221 fu  a0 a1 M1
def fX16_chosen_L215 (fu : Nat)  (a0 : Nat) (a1 : Int32) (s0 : Option Nat) (M : Mm) : Option (Int32 × Mm) :=
    fX16_chosen_L218 fu  a0 a1 s0 (200 : Int32) M
def fX16_chosen_L122 (fu : Nat)  (a0 : Nat)  (M : Mm) : Option (Int32 × Mm) :=
    (gI M 16 1067 (some a0)).bind fun v1 =>
    if v1 = 0 then (
    (rc M 16 (some a0)).bind fun q2 =>
    b2 (fX16_found fu q2  M) fun v4 M3 =>
    if 0 ≤ v4 then (
    (gR M3 16 1038 (some a0)).bind fun v5 =>
    (gA M3 101 v5 v4).bind fun v6 =>
    (gR M3 16 1038 (some a0)).bind fun v7 =>
    (gA M3 101 v7 v4).bind fun v8 =>
    (gR M3 16 1039 (some a0)).bind fun v9 =>
    (gA M3 101 v9 v4).bind fun v10 =>
    (rc M3 16 (some a0)).bind fun q11 =>
    b2 (fX16_check fu q11 v6 (v8 + v10) M3) fun v13 M12 =>
    (gR M12 16 1040 (some a0)).bind fun v14 =>
    (gA M12 101 v14 v4).bind fun v15 =>
    if v13 = v15 then (
    (gI M12 16 1074 (some a0)).bind fun v16 =>
    if v16 = (1 : Int32) then (
    (rc M12 16 (some a0)).bind fun q17 =>
    b2 (fX16_fits fu q17 v4 M12) fun v19 M18 =>
    if v19 = 0 then (
    fX16_chosen_L215 fu  a0 v4 (some a0) M18)
    else (
    fX16_chosen_L218 fu  a0 v4 (some a0) (304 : Int32) M18))
    else (
    fX16_chosen_L215 fu  a0 v4 (some a0) M12))
    else (
    (pF M12 16 1067 (some a0) (500 : Int32)).bind fun M20 =>
    fX16_chosen_L221 fu  a0 v4 M20))
    else (
    (pF M3 16 1067 (some a0) (404 : Int32)).bind fun M21 =>
    fX16_chosen_L221 fu  a0 v4 M21))
    else (
    some ((-1 : Int32), M))
def fX16_chosen_L22 (fu : Nat)  (a0 : Nat)  (M : Mm) : Option (Int32 × Mm) :=
    (pF M 16 1067 (some a0) (400 : Int32)).bind fun M1 =>
    fX16_chosen_L122 fu  a0 M1
def fX16_chosen_L64 (fu : Nat)  (a0 : Nat)  (M : Mm) : Option (Int32 × Mm) :=
    (pF M 16 1067 (some a0) (400 : Int32)).bind fun M1 =>
    fX16_chosen_L122 fu  a0 M1
def fX16_chosen_L32 (fu : Nat)  (a0 : Nat)  (M : Mm) : Option (Int32 × Mm) :=
    (gI M 16 1078 (some a0)).bind fun v1 =>
    if v1 = 0 then (
    (gI M 16 1073 (some a0)).bind fun v2 =>
    if (1 : Int32) < v2 then (
    fX16_chosen_L64 fu  a0 M)
    else (
    (gI M 16 1076 (some a0)).bind fun v3 =>
    if v3 = 0 then (
    (gI M 16 1077 (some a0)).bind fun v4 =>
    if v4 = 0 then (
    (gI M 16 1084 (some a0)).bind fun v5 =>
    if v5 = 0 then (
    (rc M 16 (some a0)).bind fun q6 =>
    b2 (fX16_unfolded fu q6  M) fun v8 M7 =>
    if v8 = 0 then (
    (pF M7 16 1067 (some a0) (400 : Int32)).bind fun M9 =>
    fX16_chosen_L122 fu  a0 M9)
    else (
    fX16_chosen_L122 fu  a0 M7))
    else (
    (pF M 16 1067 (some a0) (405 : Int32)).bind fun M10 =>
    fX16_chosen_L122 fu  a0 M10))
    else (
    (pF M 16 1067 (some a0) (413 : Int32)).bind fun M11 =>
    fX16_chosen_L122 fu  a0 M11))
    else (
    fX16_chosen_L64 fu  a0 M)))
    else (
    (pF M 16 1067 (some a0) (501 : Int32)).bind fun M12 =>
    fX16_chosen_L122 fu  a0 M12)
def fX16_chosen (fu : Nat)  (a0 : Nat)  (M : Mm) : Option (Int32 × Mm) :=
    (gI M 16 1072 (some a0)).bind fun v1 =>
    if (1 : Int32) < v1 then (
    fX16_chosen_L22 fu  a0 M)
    else (
    (gI M 16 1069 (some a0)).bind fun v2 =>
    if v2 = 0 then (
    (gI M 16 1072 (some a0)).bind fun v3 =>
    if v3 = 0 then (
    fX16_chosen_L22 fu  a0 M)
    else (
    fX16_chosen_L32 fu  a0 M))
    else (
    fX16_chosen_L32 fu  a0 M))
theorem dX16_chosen_0 : decode cX16_chosen 0 = .ok (.aload_n 0, 1) := by decide +kernel
theorem dX16_chosen_1 : decode cX16_chosen 1 = .ok (.getfield 654, 3) := by decide +kernel
theorem dX16_chosen_4 : decode cX16_chosen 4 = .ok (.iconst 1, 1) := by decide +kernel
theorem dX16_chosen_5 : decode cX16_chosen 5 = .ok (.if_icmp .gt 17, 3) := by decide +kernel
theorem dX16_chosen_8 : decode cX16_chosen 8 = .ok (.aload_n 0, 1) := by decide +kernel
theorem dX16_chosen_9 : decode cX16_chosen 9 = .ok (.getfield 645, 3) := by decide +kernel
theorem dX16_chosen_12 : decode cX16_chosen 12 = .ok (.ifCond .ne 20, 3) := by decide +kernel
theorem dX16_chosen_15 : decode cX16_chosen 15 = .ok (.aload_n 0, 1) := by decide +kernel
theorem dX16_chosen_16 : decode cX16_chosen 16 = .ok (.getfield 654, 3) := by decide +kernel
theorem dX16_chosen_19 : decode cX16_chosen 19 = .ok (.ifCond .ne 13, 3) := by decide +kernel
theorem dX16_chosen_22 : decode cX16_chosen 22 = .ok (.aload_n 0, 1) := by decide +kernel
theorem dX16_chosen_23 : decode cX16_chosen 23 = .ok (.sipush 400, 3) := by decide +kernel
theorem dX16_chosen_26 : decode cX16_chosen 26 = .ok (.putfield 637, 3) := by decide +kernel
theorem dX16_chosen_29 : decode cX16_chosen 29 = .ok (.goto 93, 3) := by decide +kernel
theorem dX16_chosen_32 : decode cX16_chosen 32 = .ok (.aload_n 0, 1) := by decide +kernel
theorem dX16_chosen_33 : decode cX16_chosen 33 = .ok (.getfield 672, 3) := by decide +kernel
theorem dX16_chosen_36 : decode cX16_chosen 36 = .ok (.ifCond .eq 13, 3) := by decide +kernel
theorem dX16_chosen_39 : decode cX16_chosen 39 = .ok (.aload_n 0, 1) := by decide +kernel
theorem dX16_chosen_40 : decode cX16_chosen 40 = .ok (.sipush 501, 3) := by decide +kernel
theorem dX16_chosen_43 : decode cX16_chosen 43 = .ok (.putfield 637, 3) := by decide +kernel
theorem dX16_chosen_46 : decode cX16_chosen 46 = .ok (.goto 76, 3) := by decide +kernel
theorem dX16_chosen_49 : decode cX16_chosen 49 = .ok (.aload_n 0, 1) := by decide +kernel
theorem dX16_chosen_50 : decode cX16_chosen 50 = .ok (.getfield 657, 3) := by decide +kernel
theorem dX16_chosen_53 : decode cX16_chosen 53 = .ok (.iconst 1, 1) := by decide +kernel
theorem dX16_chosen_54 : decode cX16_chosen 54 = .ok (.if_icmp .gt 10, 3) := by decide +kernel
theorem dX16_chosen_57 : decode cX16_chosen 57 = .ok (.aload_n 0, 1) := by decide +kernel
theorem dX16_chosen_58 : decode cX16_chosen 58 = .ok (.getfield 666, 3) := by decide +kernel
theorem dX16_chosen_61 : decode cX16_chosen 61 = .ok (.ifCond .eq 13, 3) := by decide +kernel
theorem dX16_chosen_64 : decode cX16_chosen 64 = .ok (.aload_n 0, 1) := by decide +kernel
theorem dX16_chosen_65 : decode cX16_chosen 65 = .ok (.sipush 400, 3) := by decide +kernel
theorem dX16_chosen_68 : decode cX16_chosen 68 = .ok (.putfield 637, 3) := by decide +kernel
theorem dX16_chosen_71 : decode cX16_chosen 71 = .ok (.goto 51, 3) := by decide +kernel
theorem dX16_chosen_74 : decode cX16_chosen 74 = .ok (.aload_n 0, 1) := by decide +kernel
theorem dX16_chosen_75 : decode cX16_chosen 75 = .ok (.getfield 669, 3) := by decide +kernel
theorem dX16_chosen_78 : decode cX16_chosen 78 = .ok (.ifCond .eq 13, 3) := by decide +kernel
theorem dX16_chosen_81 : decode cX16_chosen 81 = .ok (.aload_n 0, 1) := by decide +kernel
theorem dX16_chosen_82 : decode cX16_chosen 82 = .ok (.sipush 413, 3) := by decide +kernel
theorem dX16_chosen_85 : decode cX16_chosen 85 = .ok (.putfield 637, 3) := by decide +kernel
theorem dX16_chosen_88 : decode cX16_chosen 88 = .ok (.goto 34, 3) := by decide +kernel
theorem dX16_chosen_91 : decode cX16_chosen 91 = .ok (.aload_n 0, 1) := by decide +kernel
theorem dX16_chosen_92 : decode cX16_chosen 92 = .ok (.getfield 708, 3) := by decide +kernel
theorem dX16_chosen_95 : decode cX16_chosen 95 = .ok (.ifCond .eq 13, 3) := by decide +kernel
theorem dX16_chosen_98 : decode cX16_chosen 98 = .ok (.aload_n 0, 1) := by decide +kernel
theorem dX16_chosen_99 : decode cX16_chosen 99 = .ok (.sipush 405, 3) := by decide +kernel
theorem dX16_chosen_102 : decode cX16_chosen 102 = .ok (.putfield 637, 3) := by decide +kernel
theorem dX16_chosen_105 : decode cX16_chosen 105 = .ok (.goto 17, 3) := by decide +kernel
theorem dX16_chosen_108 : decode cX16_chosen 108 = .ok (.aload_n 0, 1) := by decide +kernel
theorem dX16_chosen_109 : decode cX16_chosen 109 = .ok (.invokevirtual 766, 3) := by decide +kernel
theorem dX16_chosen_112 : decode cX16_chosen 112 = .ok (.ifCond .ne 10, 3) := by decide +kernel
theorem dX16_chosen_115 : decode cX16_chosen 115 = .ok (.aload_n 0, 1) := by decide +kernel
theorem dX16_chosen_116 : decode cX16_chosen 116 = .ok (.sipush 400, 3) := by decide +kernel
theorem dX16_chosen_119 : decode cX16_chosen 119 = .ok (.putfield 637, 3) := by decide +kernel
theorem dX16_chosen_122 : decode cX16_chosen 122 = .ok (.aload_n 0, 1) := by decide +kernel
theorem dX16_chosen_123 : decode cX16_chosen 123 = .ok (.getfield 637, 3) := by decide +kernel
theorem dX16_chosen_126 : decode cX16_chosen 126 = .ok (.ifCond .eq 5, 3) := by decide +kernel
theorem dX16_chosen_129 : decode cX16_chosen 129 = .ok (.iconst (-1), 1) := by decide +kernel
theorem dX16_chosen_130 : decode cX16_chosen 130 = .ok (.ireturn, 1) := by decide +kernel
theorem dX16_chosen_131 : decode cX16_chosen 131 = .ok (.aload_n 0, 1) := by decide +kernel
theorem dX16_chosen_132 : decode cX16_chosen 132 = .ok (.invokevirtual 770, 3) := by decide +kernel
theorem dX16_chosen_135 : decode cX16_chosen 135 = .ok (.istore_n 1, 1) := by decide +kernel
theorem dX16_chosen_136 : decode cX16_chosen 136 = .ok (.iload_n 1, 1) := by decide +kernel
theorem dX16_chosen_137 : decode cX16_chosen 137 = .ok (.ifCond .ge 13, 3) := by decide +kernel
theorem dX16_chosen_140 : decode cX16_chosen 140 = .ok (.aload_n 0, 1) := by decide +kernel
theorem dX16_chosen_141 : decode cX16_chosen 141 = .ok (.sipush 404, 3) := by decide +kernel
theorem dX16_chosen_144 : decode cX16_chosen 144 = .ok (.putfield 637, 3) := by decide +kernel
theorem dX16_chosen_147 : decode cX16_chosen 147 = .ok (.goto 74, 3) := by decide +kernel
theorem dX16_chosen_150 : decode cX16_chosen 150 = .ok (.aload_n 0, 1) := by decide +kernel
theorem dX16_chosen_151 : decode cX16_chosen 151 = .ok (.aload_n 0, 1) := by decide +kernel
theorem dX16_chosen_152 : decode cX16_chosen 152 = .ok (.getfield 21, 3) := by decide +kernel
theorem dX16_chosen_155 : decode cX16_chosen 155 = .ok (.iload_n 1, 1) := by decide +kernel
theorem dX16_chosen_156 : decode cX16_chosen 156 = .ok (.iaload, 1) := by decide +kernel
theorem dX16_chosen_157 : decode cX16_chosen 157 = .ok (.aload_n 0, 1) := by decide +kernel
theorem dX16_chosen_158 : decode cX16_chosen 158 = .ok (.getfield 21, 3) := by decide +kernel
theorem dX16_chosen_161 : decode cX16_chosen 161 = .ok (.iload_n 1, 1) := by decide +kernel
theorem dX16_chosen_162 : decode cX16_chosen 162 = .ok (.iaload, 1) := by decide +kernel
theorem dX16_chosen_163 : decode cX16_chosen 163 = .ok (.aload_n 0, 1) := by decide +kernel
theorem dX16_chosen_164 : decode cX16_chosen 164 = .ok (.getfield 25, 3) := by decide +kernel
theorem dX16_chosen_167 : decode cX16_chosen 167 = .ok (.iload_n 1, 1) := by decide +kernel
theorem dX16_chosen_168 : decode cX16_chosen 168 = .ok (.iaload, 1) := by decide +kernel
theorem dX16_chosen_169 : decode cX16_chosen 169 = .ok (.iadd, 1) := by decide +kernel
theorem dX16_chosen_170 : decode cX16_chosen 170 = .ok (.invokevirtual 100, 3) := by decide +kernel
theorem dX16_chosen_173 : decode cX16_chosen 173 = .ok (.aload_n 0, 1) := by decide +kernel
theorem dX16_chosen_174 : decode cX16_chosen 174 = .ok (.getfield 28, 3) := by decide +kernel
theorem dX16_chosen_177 : decode cX16_chosen 177 = .ok (.iload_n 1, 1) := by decide +kernel
theorem dX16_chosen_178 : decode cX16_chosen 178 = .ok (.iaload, 1) := by decide +kernel
theorem dX16_chosen_179 : decode cX16_chosen 179 = .ok (.if_icmp .eq 13, 3) := by decide +kernel
theorem dX16_chosen_182 : decode cX16_chosen 182 = .ok (.aload_n 0, 1) := by decide +kernel
theorem dX16_chosen_183 : decode cX16_chosen 183 = .ok (.sipush 500, 3) := by decide +kernel
theorem dX16_chosen_186 : decode cX16_chosen 186 = .ok (.putfield 637, 3) := by decide +kernel
theorem dX16_chosen_189 : decode cX16_chosen 189 = .ok (.goto 32, 3) := by decide +kernel
theorem dX16_chosen_192 : decode cX16_chosen 192 = .ok (.aload_n 0, 1) := by decide +kernel
theorem dX16_chosen_193 : decode cX16_chosen 193 = .ok (.aload_n 0, 1) := by decide +kernel
theorem dX16_chosen_194 : decode cX16_chosen 194 = .ok (.getfield 660, 3) := by decide +kernel
theorem dX16_chosen_197 : decode cX16_chosen 197 = .ok (.iconst 1, 1) := by decide +kernel
theorem dX16_chosen_198 : decode cX16_chosen 198 = .ok (.if_icmp .ne 17, 3) := by decide +kernel
theorem dX16_chosen_201 : decode cX16_chosen 201 = .ok (.aload_n 0, 1) := by decide +kernel
theorem dX16_chosen_202 : decode cX16_chosen 202 = .ok (.iload_n 1, 1) := by decide +kernel
theorem dX16_chosen_203 : decode cX16_chosen 203 = .ok (.invokevirtual 773, 3) := by decide +kernel
theorem dX16_chosen_206 : decode cX16_chosen 206 = .ok (.ifCond .eq 9, 3) := by decide +kernel
theorem dX16_chosen_209 : decode cX16_chosen 209 = .ok (.sipush 304, 3) := by decide +kernel
theorem dX16_chosen_212 : decode cX16_chosen 212 = .ok (.goto 6, 3) := by decide +kernel
theorem dX16_chosen_215 : decode cX16_chosen 215 = .ok (.sipush 200, 3) := by decide +kernel
theorem dX16_chosen_218 : decode cX16_chosen 218 = .ok (.putfield 637, 3) := by decide +kernel
theorem dX16_chosen_221 : decode cX16_chosen 221 = .ok (.aload_n 0, 1) := by decide +kernel
theorem dX16_chosen_222 : decode cX16_chosen 222 = .ok (.getfield 637, 3) := by decide +kernel
theorem dX16_chosen_225 : decode cX16_chosen 225 = .ok (.sipush 200, 3) := by decide +kernel
theorem dX16_chosen_228 : decode cX16_chosen 228 = .ok (.if_icmp .eq 13, 3) := by decide +kernel
theorem dX16_chosen_231 : decode cX16_chosen 231 = .ok (.aload_n 0, 1) := by decide +kernel
theorem dX16_chosen_232 : decode cX16_chosen 232 = .ok (.getfield 637, 3) := by decide +kernel
theorem dX16_chosen_235 : decode cX16_chosen 235 = .ok (.sipush 304, 3) := by decide +kernel
theorem dX16_chosen_238 : decode cX16_chosen 238 = .ok (.if_icmp .ne 7, 3) := by decide +kernel
theorem dX16_chosen_241 : decode cX16_chosen 241 = .ok (.iload_n 1, 1) := by decide +kernel
theorem dX16_chosen_242 : decode cX16_chosen 242 = .ok (.goto 4, 3) := by decide +kernel
theorem dX16_chosen_245 : decode cX16_chosen 245 = .ok (.iconst (-1), 1) := by decide +kernel
theorem dX16_chosen_246 : decode cX16_chosen 246 = .ok (.ireturn, 1) := by decide +kernel
theorem wX16_chosen_L221 {x : GX} {n0 sl0 : Nat} (X : Cx x cX16_chosen RX16 (some .int) n0 sl0 7 152) {out : Int32 × Mm} (hE : Ends x n0 sl0 (some (pI out.1)) out.2) (hn : xn x = 2) (fu : Nat)   (a0 : Nat) (a1 : Int32)  (M : Mm) (h : fX16_chosen_L221 fu  a0 a1 M = some out) : Gw x M 221 [(0, pR (some a0)), (1, pI a1)] [] := by
  unfold fX16_chosen_L221 at h
  refine g_aload_n X (pc := 221) 0 rfl rfl dX16_chosen_221 ?_
  obtain ⟨v1, ev1, h⟩ := bd h
  refine g_getI X (pc := 222) fk_16_43 rfl rfl ev1 tb_1857 dX16_chosen_222 ?_
  refine g_sipush X (pc := 225) (v := 200) dX16_chosen_225 (by decide) ?_
  refine g_icmp_eq X (pc := 228) (tgt := 241) dX16_chosen_228 (by decide) (fun hc => ?_) (fun hc => ?_)
  · have h := (if_pos hc).symm.trans h
    refine g_iload_n X (pc := 241) 1 rfl rfl dX16_chosen_241 ?_
    refine g_goto X (pc := 242) (tgt := 246) dX16_chosen_242 (by decide) ?_
    obtain rfl := Option.some.inj h
    exact g_ireturn X hE dX16_chosen_246
  · have h := (if_neg hc).symm.trans h
    refine g_aload_n X (pc := 231) 0 rfl rfl dX16_chosen_231 ?_
    obtain ⟨v2, ev2, h⟩ := bd h
    refine g_getI X (pc := 232) fk_16_43 rfl rfl ev2 tb_1857 dX16_chosen_232 ?_
    refine g_sipush X (pc := 235) (v := 304) dX16_chosen_235 (by decide) ?_
    refine g_icmp_ne X (pc := 238) (tgt := 245) dX16_chosen_238 (by decide) (fun hc => ?_) (fun hc => ?_)
    · have h := (if_neg hc).symm.trans h
      refine g_iconst X (pc := 245) (v := (-1)) dX16_chosen_245 (by decide) ?_
      obtain rfl := Option.some.inj h
      exact g_ireturn X hE dX16_chosen_246
    · have h := (if_pos hc).symm.trans h
      refine g_iload_n X (pc := 241) 1 rfl rfl dX16_chosen_241 ?_
      refine g_goto X (pc := 242) (tgt := 246) dX16_chosen_242 (by decide) ?_
      obtain rfl := Option.some.inj h
      exact g_ireturn X hE dX16_chosen_246
theorem wX16_chosen_L218 {x : GX} {n0 sl0 : Nat} (X : Cx x cX16_chosen RX16 (some .int) n0 sl0 7 152) {out : Int32 × Mm} (hE : Ends x n0 sl0 (some (pI out.1)) out.2) (hn : xn x = 2) (fu : Nat)   (a0 : Nat) (a1 : Int32) (s0 : Option Nat) (s1 : Int32) (M : Mm) (h : fX16_chosen_L218 fu  a0 a1 s0 s1 M = some out) : Gw x M 218 [(0, pR (some a0)), (1, pI a1)] [pI s1, pR s0] := by
  unfold fX16_chosen_L218 at h
  obtain ⟨M1, eM1, h⟩ := bd h
  refine g_putI X (pc := 218) fk_16_43 rfl rfl rfl eM1 tb_1857 (Or.inl rfl) dX16_chosen_218 ?_
  exact wX16_chosen_L221 X hE hn fu   a0 a1 M1 h
theorem wX16_chosen_L215 {x : GX} {n0 sl0 : Nat} (X : Cx x cX16_chosen RX16 (some .int) n0 sl0 7 152) {out : Int32 × Mm} (hE : Ends x n0 sl0 (some (pI out.1)) out.2) (hn : xn x = 2) (fu : Nat)   (a0 : Nat) (a1 : Int32) (s0 : Option Nat) (M : Mm) (h : fX16_chosen_L215 fu  a0 a1 s0 M = some out) : Gw x M 215 [(0, pR (some a0)), (1, pI a1)] [pR s0] := by
  unfold fX16_chosen_L215 at h
  refine g_sipush X (pc := 215) (v := 200) dX16_chosen_215 (by decide) ?_
  exact wX16_chosen_L218 X hE hn fu   a0 a1 s0 (200 : Int32) M h
theorem wX16_chosen_L122 {x : GX} {n0 sl0 : Nat} (X : Cx x cX16_chosen RX16 (some .int) n0 sl0 7 152) {out : Int32 × Mm} (hE : Ends x n0 sl0 (some (pI out.1)) out.2) (hn : xn x = 2) (fu : Nat)   (a0 : Nat)  (M : Mm) (h : fX16_chosen_L122 fu  a0 M = some out) : Gw x M 122 [(0, pR (some a0))] [] := by
  unfold fX16_chosen_L122 at h
  refine g_aload_n X (pc := 122) 0 rfl rfl dX16_chosen_122 ?_
  obtain ⟨v1, ev1, h⟩ := bd h
  refine g_getI X (pc := 123) fk_16_43 rfl rfl ev1 tb_1857 dX16_chosen_123 ?_
  refine g_if_eq X (pc := 126) (tgt := 131) dX16_chosen_126 (by decide) (fun hc => ?_) (fun hc => ?_)
  · have h := (if_pos hc).symm.trans h
    refine g_aload_n X (pc := 131) 0 rfl rfl dX16_chosen_131 ?_
    obtain ⟨q2, eq2, h⟩ := bd h
    obtain ⟨v4, M3, eM3, h⟩ := b2d h
    refine g_callV X (pc := 132) (M' := M3) (ro := some (pI v4)) (c := 16) rfl (by decide) (as := []) (as' := []) (st := []) eq2 (ctX16_found _ _ _ _ _ _ fu q2  M _ eM3) tb_2414 tb_2411 tb_2413 ts_132 tb_8 ⟨rfl, hyX16_found⟩ rfl rfl ⟨by decide, by decide⟩ (Nat.le_of_ble_eq_true rfl) dX16_chosen_132 ?_
    refine g_istore_n X (pc := 135) [(1, pI v4), (0, pR (some a0))] rfl (lt_n hn (by decide)) rfl dX16_chosen_135 ?_
    refine g_iload_n X (pc := 136) 0 rfl rfl dX16_chosen_136 ?_
    refine g_if_ge X (pc := 137) (tgt := 150) dX16_chosen_137 (by decide) (fun hc => ?_) (fun hc => ?_)
    · have h := (if_pos hc).symm.trans h
      refine g_aload_n X (pc := 150) 1 rfl rfl dX16_chosen_150 ?_
      refine g_aload_n X (pc := 151) 1 rfl rfl dX16_chosen_151 ?_
      obtain ⟨v5, ev5, h⟩ := bd h
      refine g_getR X (pc := 152) fk_16_14 rfl rfl ev5 tb_1828 dX16_chosen_152 ?_
      refine g_iload_n X (pc := 155) 0 rfl rfl dX16_chosen_155 ?_
      obtain ⟨v6, ev6, h⟩ := bd h
      refine g_iaload X (pc := 156) ev6 dX16_chosen_156 ?_
      refine g_aload_n X (pc := 157) 1 rfl rfl dX16_chosen_157 ?_
      obtain ⟨v7, ev7, h⟩ := bd h
      refine g_getR X (pc := 158) fk_16_14 rfl rfl ev7 tb_1828 dX16_chosen_158 ?_
      refine g_iload_n X (pc := 161) 0 rfl rfl dX16_chosen_161 ?_
      obtain ⟨v8, ev8, h⟩ := bd h
      refine g_iaload X (pc := 162) ev8 dX16_chosen_162 ?_
      refine g_aload_n X (pc := 163) 1 rfl rfl dX16_chosen_163 ?_
      obtain ⟨v9, ev9, h⟩ := bd h
      refine g_getR X (pc := 164) fk_16_15 rfl rfl ev9 tb_1829 dX16_chosen_164 ?_
      refine g_iload_n X (pc := 167) 0 rfl rfl dX16_chosen_167 ?_
      obtain ⟨v10, ev10, h⟩ := bd h
      refine g_iaload X (pc := 168) ev10 dX16_chosen_168 ?_
      refine g_iadd X (pc := 169) dX16_chosen_169 ?_
      obtain ⟨q11, eq11, h⟩ := bd h
      obtain ⟨v13, M12, eM12, h⟩ := b2d h
      refine g_callV X (pc := 170) (M' := M12) (ro := some (pI v13)) (c := 16) rfl (by decide) (as := [pI v6, pI (v8 + v10)]) (as' := [pI (v8 + v10), pI v6]) (st := []) eq11 (ctX16_check _ _ _ _ _ _ fu q11 v6 (v8 + v10) M3 _ eM12) tb_2034 tb_2031 tb_2033 ts_65 tb_8 ⟨rfl, hyX16_check⟩ rfl rfl ⟨by decide, by decide⟩ (Nat.le_of_ble_eq_true rfl) dX16_chosen_170 ?_
      refine g_aload_n X (pc := 173) 1 rfl rfl dX16_chosen_173 ?_
      obtain ⟨v14, ev14, h⟩ := bd h
      refine g_getR X (pc := 174) fk_16_16 rfl rfl ev14 tb_1830 dX16_chosen_174 ?_
      refine g_iload_n X (pc := 177) 0 rfl rfl dX16_chosen_177 ?_
      obtain ⟨v15, ev15, h⟩ := bd h
      refine g_iaload X (pc := 178) ev15 dX16_chosen_178 ?_
      refine g_icmp_eq X (pc := 179) (tgt := 192) dX16_chosen_179 (by decide) (fun hc => ?_) (fun hc => ?_)
      · have h := (if_pos hc).symm.trans h
        refine g_aload_n X (pc := 192) 1 rfl rfl dX16_chosen_192 ?_
        refine g_aload_n X (pc := 193) 1 rfl rfl dX16_chosen_193 ?_
        obtain ⟨v16, ev16, h⟩ := bd h
        refine g_getI X (pc := 194) fk_16_50 rfl rfl ev16 tb_1864 dX16_chosen_194 ?_
        refine g_iconst X (pc := 197) (v := 1) dX16_chosen_197 (by decide) ?_
        refine g_icmp_ne X (pc := 198) (tgt := 215) dX16_chosen_198 (by decide) (fun hc => ?_) (fun hc => ?_)
        · have h := (if_neg hc).symm.trans h
          refine g_sub [1, 0] [(0, pR (some a0)), (1, pI v4)] rfl ?_
          exact wX16_chosen_L215 X hE hn fu   a0 v4 (some a0) M12 h
        · have h := (if_pos hc).symm.trans h
          refine g_aload_n X (pc := 201) 1 rfl rfl dX16_chosen_201 ?_
          refine g_iload_n X (pc := 202) 0 rfl rfl dX16_chosen_202 ?_
          obtain ⟨q17, eq17, h⟩ := bd h
          obtain ⟨v19, M18, eM18, h⟩ := b2d h
          refine g_callV X (pc := 203) (M' := M18) (ro := some (pI v19)) (c := 16) rfl (by decide) (as := [pI v4]) (as' := [pI v4]) (st := [pR (some a0)]) eq17 (ctX16_fits _ _ _ _ _ _ fu q17 v4 M12 _ eM18) tb_2418 tb_2415 tb_2417 ts_133 tb_8 ⟨rfl, hyX16_fits⟩ rfl rfl ⟨by decide, by decide⟩ (Nat.le_of_ble_eq_true rfl) dX16_chosen_203 ?_
          refine g_if_eq X (pc := 206) (tgt := 215) dX16_chosen_206 (by decide) (fun hc => ?_) (fun hc => ?_)
          · have h := (if_pos hc).symm.trans h
            refine g_sub [1, 0] [(0, pR (some a0)), (1, pI v4)] rfl ?_
            exact wX16_chosen_L215 X hE hn fu   a0 v4 (some a0) M18 h
          · have h := (if_neg hc).symm.trans h
            refine g_sipush X (pc := 209) (v := 304) dX16_chosen_209 (by decide) ?_
            refine g_goto X (pc := 212) (tgt := 218) dX16_chosen_212 (by decide) ?_
            refine g_sub [1, 0] [(0, pR (some a0)), (1, pI v4)] rfl ?_
            exact wX16_chosen_L218 X hE hn fu   a0 v4 (some a0) (304 : Int32) M18 h
      · have h := (if_neg hc).symm.trans h
        refine g_aload_n X (pc := 182) 1 rfl rfl dX16_chosen_182 ?_
        refine g_sipush X (pc := 183) (v := 500) dX16_chosen_183 (by decide) ?_
        obtain ⟨M20, eM20, h⟩ := bd h
        refine g_putI X (pc := 186) fk_16_43 rfl rfl rfl eM20 tb_1857 (Or.inl rfl) dX16_chosen_186 ?_
        refine g_goto X (pc := 189) (tgt := 221) dX16_chosen_189 (by decide) ?_
        refine g_sub [1, 0] [(0, pR (some a0)), (1, pI v4)] rfl ?_
        exact wX16_chosen_L221 X hE hn fu   a0 v4 M20 h
    · have h := (if_neg hc).symm.trans h
      refine g_aload_n X (pc := 140) 1 rfl rfl dX16_chosen_140 ?_
      refine g_sipush X (pc := 141) (v := 404) dX16_chosen_141 (by decide) ?_
      obtain ⟨M21, eM21, h⟩ := bd h
      refine g_putI X (pc := 144) fk_16_43 rfl rfl rfl eM21 tb_1857 (Or.inl rfl) dX16_chosen_144 ?_
      refine g_goto X (pc := 147) (tgt := 221) dX16_chosen_147 (by decide) ?_
      refine g_sub [1, 0] [(0, pR (some a0)), (1, pI v4)] rfl ?_
      exact wX16_chosen_L221 X hE hn fu   a0 v4 M21 h
  · have h := (if_neg hc).symm.trans h
    refine g_iconst X (pc := 129) (v := (-1)) dX16_chosen_129 (by decide) ?_
    obtain rfl := Option.some.inj h
    exact g_ireturn X hE dX16_chosen_130
theorem wX16_chosen_L22 {x : GX} {n0 sl0 : Nat} (X : Cx x cX16_chosen RX16 (some .int) n0 sl0 7 152) {out : Int32 × Mm} (hE : Ends x n0 sl0 (some (pI out.1)) out.2) (hn : xn x = 2) (fu : Nat)   (a0 : Nat)  (M : Mm) (h : fX16_chosen_L22 fu  a0 M = some out) : Gw x M 22 [(0, pR (some a0))] [] := by
  unfold fX16_chosen_L22 at h
  refine g_aload_n X (pc := 22) 0 rfl rfl dX16_chosen_22 ?_
  refine g_sipush X (pc := 23) (v := 400) dX16_chosen_23 (by decide) ?_
  obtain ⟨M1, eM1, h⟩ := bd h
  refine g_putI X (pc := 26) fk_16_43 rfl rfl rfl eM1 tb_1857 (Or.inl rfl) dX16_chosen_26 ?_
  refine g_goto X (pc := 29) (tgt := 122) dX16_chosen_29 (by decide) ?_
  exact wX16_chosen_L122 X hE hn fu   a0 M1 h
theorem wX16_chosen_L64 {x : GX} {n0 sl0 : Nat} (X : Cx x cX16_chosen RX16 (some .int) n0 sl0 7 152) {out : Int32 × Mm} (hE : Ends x n0 sl0 (some (pI out.1)) out.2) (hn : xn x = 2) (fu : Nat)   (a0 : Nat)  (M : Mm) (h : fX16_chosen_L64 fu  a0 M = some out) : Gw x M 64 [(0, pR (some a0))] [] := by
  unfold fX16_chosen_L64 at h
  refine g_aload_n X (pc := 64) 0 rfl rfl dX16_chosen_64 ?_
  refine g_sipush X (pc := 65) (v := 400) dX16_chosen_65 (by decide) ?_
  obtain ⟨M1, eM1, h⟩ := bd h
  refine g_putI X (pc := 68) fk_16_43 rfl rfl rfl eM1 tb_1857 (Or.inl rfl) dX16_chosen_68 ?_
  refine g_goto X (pc := 71) (tgt := 122) dX16_chosen_71 (by decide) ?_
  exact wX16_chosen_L122 X hE hn fu   a0 M1 h
theorem wX16_chosen_L32 {x : GX} {n0 sl0 : Nat} (X : Cx x cX16_chosen RX16 (some .int) n0 sl0 7 152) {out : Int32 × Mm} (hE : Ends x n0 sl0 (some (pI out.1)) out.2) (hn : xn x = 2) (fu : Nat)   (a0 : Nat)  (M : Mm) (h : fX16_chosen_L32 fu  a0 M = some out) : Gw x M 32 [(0, pR (some a0))] [] := by
  unfold fX16_chosen_L32 at h
  refine g_aload_n X (pc := 32) 0 rfl rfl dX16_chosen_32 ?_
  obtain ⟨v1, ev1, h⟩ := bd h
  refine g_getI X (pc := 33) fk_16_54 rfl rfl ev1 tb_1868 dX16_chosen_33 ?_
  refine g_if_eq X (pc := 36) (tgt := 49) dX16_chosen_36 (by decide) (fun hc => ?_) (fun hc => ?_)
  · have h := (if_pos hc).symm.trans h
    refine g_aload_n X (pc := 49) 0 rfl rfl dX16_chosen_49 ?_
    obtain ⟨v2, ev2, h⟩ := bd h
    refine g_getI X (pc := 50) fk_16_49 rfl rfl ev2 tb_1863 dX16_chosen_50 ?_
    refine g_iconst X (pc := 53) (v := 1) dX16_chosen_53 (by decide) ?_
    refine g_icmp_gt X (pc := 54) (tgt := 64) dX16_chosen_54 (by decide) (fun hc => ?_) (fun hc => ?_)
    · have h := (if_pos hc).symm.trans h
      exact wX16_chosen_L64 X hE hn fu   a0 M h
    · have h := (if_neg hc).symm.trans h
      refine g_aload_n X (pc := 57) 0 rfl rfl dX16_chosen_57 ?_
      obtain ⟨v3, ev3, h⟩ := bd h
      refine g_getI X (pc := 58) fk_16_52 rfl rfl ev3 tb_1866 dX16_chosen_58 ?_
      refine g_if_eq X (pc := 61) (tgt := 74) dX16_chosen_61 (by decide) (fun hc => ?_) (fun hc => ?_)
      · have h := (if_pos hc).symm.trans h
        refine g_aload_n X (pc := 74) 0 rfl rfl dX16_chosen_74 ?_
        obtain ⟨v4, ev4, h⟩ := bd h
        refine g_getI X (pc := 75) fk_16_53 rfl rfl ev4 tb_1867 dX16_chosen_75 ?_
        refine g_if_eq X (pc := 78) (tgt := 91) dX16_chosen_78 (by decide) (fun hc => ?_) (fun hc => ?_)
        · have h := (if_pos hc).symm.trans h
          refine g_aload_n X (pc := 91) 0 rfl rfl dX16_chosen_91 ?_
          obtain ⟨v5, ev5, h⟩ := bd h
          refine g_getI X (pc := 92) fk_16_60 rfl rfl ev5 tb_1874 dX16_chosen_92 ?_
          refine g_if_eq X (pc := 95) (tgt := 108) dX16_chosen_95 (by decide) (fun hc => ?_) (fun hc => ?_)
          · have h := (if_pos hc).symm.trans h
            refine g_aload_n X (pc := 108) 0 rfl rfl dX16_chosen_108 ?_
            obtain ⟨q6, eq6, h⟩ := bd h
            obtain ⟨v8, M7, eM7, h⟩ := b2d h
            refine g_callV X (pc := 109) (M' := M7) (ro := some (pI v8)) (c := 16) rfl (by decide) (as := []) (as' := []) (st := []) eq6 (ctX16_unfolded _ _ _ _ _ _ fu q6  M _ eM7) tb_2406 tb_2403 tb_2405 ts_131 tb_8 ⟨rfl, hyX16_unfolded⟩ rfl rfl ⟨by decide, by decide⟩ (Nat.le_of_ble_eq_true rfl) dX16_chosen_109 ?_
            refine g_if_ne X (pc := 112) (tgt := 122) dX16_chosen_112 (by decide) (fun hc => ?_) (fun hc => ?_)
            · have h := (if_neg hc).symm.trans h
              exact wX16_chosen_L122 X hE hn fu   a0 M7 h
            · have h := (if_pos hc).symm.trans h
              refine g_aload_n X (pc := 115) 0 rfl rfl dX16_chosen_115 ?_
              refine g_sipush X (pc := 116) (v := 400) dX16_chosen_116 (by decide) ?_
              obtain ⟨M9, eM9, h⟩ := bd h
              refine g_putI X (pc := 119) fk_16_43 rfl rfl rfl eM9 tb_1857 (Or.inl rfl) dX16_chosen_119 ?_
              exact wX16_chosen_L122 X hE hn fu   a0 M9 h
          · have h := (if_neg hc).symm.trans h
            refine g_aload_n X (pc := 98) 0 rfl rfl dX16_chosen_98 ?_
            refine g_sipush X (pc := 99) (v := 405) dX16_chosen_99 (by decide) ?_
            obtain ⟨M10, eM10, h⟩ := bd h
            refine g_putI X (pc := 102) fk_16_43 rfl rfl rfl eM10 tb_1857 (Or.inl rfl) dX16_chosen_102 ?_
            refine g_goto X (pc := 105) (tgt := 122) dX16_chosen_105 (by decide) ?_
            exact wX16_chosen_L122 X hE hn fu   a0 M10 h
        · have h := (if_neg hc).symm.trans h
          refine g_aload_n X (pc := 81) 0 rfl rfl dX16_chosen_81 ?_
          refine g_sipush X (pc := 82) (v := 413) dX16_chosen_82 (by decide) ?_
          obtain ⟨M11, eM11, h⟩ := bd h
          refine g_putI X (pc := 85) fk_16_43 rfl rfl rfl eM11 tb_1857 (Or.inl rfl) dX16_chosen_85 ?_
          refine g_goto X (pc := 88) (tgt := 122) dX16_chosen_88 (by decide) ?_
          exact wX16_chosen_L122 X hE hn fu   a0 M11 h
      · have h := (if_neg hc).symm.trans h
        exact wX16_chosen_L64 X hE hn fu   a0 M h
  · have h := (if_neg hc).symm.trans h
    refine g_aload_n X (pc := 39) 0 rfl rfl dX16_chosen_39 ?_
    refine g_sipush X (pc := 40) (v := 501) dX16_chosen_40 (by decide) ?_
    obtain ⟨M12, eM12, h⟩ := bd h
    refine g_putI X (pc := 43) fk_16_43 rfl rfl rfl eM12 tb_1857 (Or.inl rfl) dX16_chosen_43 ?_
    refine g_goto X (pc := 46) (tgt := 122) dX16_chosen_46 (by decide) ?_
    exact wX16_chosen_L122 X hE hn fu   a0 M12 h
theorem wX16_chosen {x : GX} {n0 sl0 : Nat} (X : Cx x cX16_chosen RX16 (some .int) n0 sl0 7 152) {out : Int32 × Mm} (hE : Ends x n0 sl0 (some (pI out.1)) out.2) (hn : xn x = 2) (fu : Nat)   (a0 : Nat)  (M : Mm) (h : fX16_chosen fu  a0 M = some out) : Gw x M 0 [(0, pR (some a0))] [] := by
  unfold fX16_chosen at h
  refine g_aload_n X (pc := 0) 0 rfl rfl dX16_chosen_0 ?_
  obtain ⟨v1, ev1, h⟩ := bd h
  refine g_getI X (pc := 1) fk_16_48 rfl rfl ev1 tb_1862 dX16_chosen_1 ?_
  refine g_iconst X (pc := 4) (v := 1) dX16_chosen_4 (by decide) ?_
  refine g_icmp_gt X (pc := 5) (tgt := 22) dX16_chosen_5 (by decide) (fun hc => ?_) (fun hc => ?_)
  · have h := (if_pos hc).symm.trans h
    exact wX16_chosen_L22 X hE hn fu   a0 M h
  · have h := (if_neg hc).symm.trans h
    refine g_aload_n X (pc := 8) 0 rfl rfl dX16_chosen_8 ?_
    obtain ⟨v2, ev2, h⟩ := bd h
    refine g_getI X (pc := 9) fk_16_45 rfl rfl ev2 tb_1859 dX16_chosen_9 ?_
    refine g_if_ne X (pc := 12) (tgt := 32) dX16_chosen_12 (by decide) (fun hc => ?_) (fun hc => ?_)
    · have h := (if_neg hc).symm.trans h
      exact wX16_chosen_L32 X hE hn fu   a0 M h
    · have h := (if_pos hc).symm.trans h
      refine g_aload_n X (pc := 15) 0 rfl rfl dX16_chosen_15 ?_
      obtain ⟨v3, ev3, h⟩ := bd h
      refine g_getI X (pc := 16) fk_16_48 rfl rfl ev3 tb_1862 dX16_chosen_16 ?_
      refine g_if_ne X (pc := 19) (tgt := 32) dX16_chosen_19 (by decide) (fun hc => ?_) (fun hc => ?_)
      · have h := (if_neg hc).symm.trans h
        exact wX16_chosen_L32 X hE hn fu   a0 M h
      · have h := (if_pos hc).symm.trans h
        exact wX16_chosen_L22 X hE hn fu   a0 M h
theorem hyX16_chosen : yX16_chosen.cls ≠ "java/lang/invoke/MethodHandle" ∧ yX16_chosen.cls ≠ "java/lang/invoke/VarHandle" ∧ (parseMethodDescriptor yX16_chosen.desc).map (fun d => d.parameters.length) = some 0 := ⟨by decide +kernel, by decide +kernel, by decide +kernel⟩
theorem ctX16_chosen (l : Launch) (E : Nat → Nat) (D : va_G) (dA : Nat → ClassId) (lo : Nat) (H0 : Heap) (fu : Nat) (a0 : Nat) (M : Mm) (out : Int32 × Mm) (h : fX16_chosen fu a0 M = some out) : Ct l E D dA lo H0 yX16_chosen cX16_chosen 2 (some .int) 7 152 [pR (some a0)] M (some (pI out.1)) out.2 := by
  refine ct_of (by decide +kernel) (Nat.le_of_ble_eq_true rfl) ?_
  intro x hl he hd ha ho hh hn hin X hE
  exact wX16_chosen X hE hn fu a0 M h
/-! WebHostModel.code(LWebHostModel$Connection;I)V -/
def fX16_code (fu : Nat)  (a0 : Nat) (a1 : Option Nat) (a2 : Int32)  (M : Mm) : Option (Mm) :=
    (gR M 12 793 a1).bind fun v1 =>
    (gI M 12 794 a1).bind fun v2 =>
    (pA M 100 v1 v2 (Int8.toInt32 (Int32.toInt8 (Int8.toInt32 (Int32.toInt8 a2))))).bind fun M3 =>
    (gI M3 12 794 a1).bind fun v4 =>
    (pF M3 12 794 a1 (v4 + (1 : Int32))).bind fun M5 =>
    some M5
theorem dX16_code_0 : decode cX16_code 0 = .ok (.aload_n 1, 1) := by decide +kernel
theorem dX16_code_1 : decode cX16_code 1 = .ok (.getfield 394, 3) := by decide +kernel
theorem dX16_code_4 : decode cX16_code 4 = .ok (.aload_n 1, 1) := by decide +kernel
theorem dX16_code_5 : decode cX16_code 5 = .ok (.getfield 391, 3) := by decide +kernel
theorem dX16_code_8 : decode cX16_code 8 = .ok (.iload_n 2, 1) := by decide +kernel
theorem dX16_code_9 : decode cX16_code 9 = .ok (.i2b, 1) := by decide +kernel
theorem dX16_code_10 : decode cX16_code 10 = .ok (.bastore, 1) := by decide +kernel
theorem dX16_code_11 : decode cX16_code 11 = .ok (.aload_n 1, 1) := by decide +kernel
theorem dX16_code_12 : decode cX16_code 12 = .ok (.dup, 1) := by decide +kernel
theorem dX16_code_13 : decode cX16_code 13 = .ok (.getfield 391, 3) := by decide +kernel
theorem dX16_code_16 : decode cX16_code 16 = .ok (.iconst 1, 1) := by decide +kernel
theorem dX16_code_17 : decode cX16_code 17 = .ok (.iadd, 1) := by decide +kernel
theorem dX16_code_18 : decode cX16_code 18 = .ok (.putfield 391, 3) := by decide +kernel
theorem dX16_code_21 : decode cX16_code 21 = .ok (.return_, 1) := by decide +kernel
theorem wX16_code {x : GX} {n0 sl0 : Nat} (X : Cx x cX16_code RX16 none n0 sl0 0 0) {out : Mm} (hE : Ends x n0 sl0 none out) (hn : xn x = 3) (fu : Nat)   (a0 : Nat) (a1 : Option Nat) (a2 : Int32)  (M : Mm) (h : fX16_code fu  a0 a1 a2 M = some out) : Gw x M 0 [(0, pR (some a0)), (1, pR a1), (2, pI a2)] [] := by
  unfold fX16_code at h
  refine g_aload_n X (pc := 0) 1 rfl rfl dX16_code_0 ?_
  obtain ⟨v1, ev1, h⟩ := bd h
  refine g_getR X (pc := 1) fk_12_25 rfl rfl ev1 tb_1606 dX16_code_1 ?_
  refine g_aload_n X (pc := 4) 1 rfl rfl dX16_code_4 ?_
  obtain ⟨v2, ev2, h⟩ := bd h
  refine g_getI X (pc := 5) fk_12_26 rfl rfl ev2 tb_1608 dX16_code_5 ?_
  refine g_iload_n X (pc := 8) 2 rfl rfl dX16_code_8 ?_
  refine g_i2b X (pc := 9) dX16_code_9 ?_
  obtain ⟨M3, eM3, h⟩ := bd h
  refine g_bastore X (pc := 10) eM3 dX16_code_10 ?_
  refine g_aload_n X (pc := 11) 1 rfl rfl dX16_code_11 ?_
  refine g_dup X (pc := 12) rfl dX16_code_12 ?_
  obtain ⟨v4, ev4, h⟩ := bd h
  refine g_getI X (pc := 13) fk_12_26 rfl rfl ev4 tb_1608 dX16_code_13 ?_
  refine g_iconst X (pc := 16) (v := 1) dX16_code_16 (by decide) ?_
  refine g_iadd X (pc := 17) dX16_code_17 ?_
  obtain ⟨M5, eM5, h⟩ := bd h
  refine g_putI X (pc := 18) fk_12_26 rfl rfl rfl eM5 tb_1608 (Or.inl rfl) dX16_code_18 ?_
  obtain rfl := Option.some.inj h
  exact g_return X hE dX16_code_21
theorem hyX16_code : yX16_code.cls ≠ "java/lang/invoke/MethodHandle" ∧ yX16_code.cls ≠ "java/lang/invoke/VarHandle" ∧ (parseMethodDescriptor yX16_code.desc).map (fun d => d.parameters.length) = some 2 := ⟨by decide +kernel, by decide +kernel, by decide +kernel⟩
theorem ctX16_code (l : Launch) (E : Nat → Nat) (D : va_G) (dA : Nat → ClassId) (lo : Nat) (H0 : Heap) (fu : Nat) (a0 : Nat) (a1 : Option Nat) (a2 : Int32) (M : Mm) (out : Mm) (h : fX16_code fu a0 a1 a2 M = some out) : Ct l E D dA lo H0 yX16_code cX16_code 3 none 0 0 [pR (some a0), pR a1, pI a2] M none out := by
  refine ct_of (by decide +kernel) (Nat.le_of_ble_eq_true rfl) ?_
  intro x hl he hd ha ho hh hn hin X hE
  exact wX16_code X hE hn fu a0 a1 a2 M h
/-! WebHostModel.say(LWebHostModel$Connection;Ljava/lang/String;)V -/
def fX16_say_L2 (fu : Nat)  : Nat → Nat → Option Nat → Option Nat → Int32 → Mm → Option (Mm)
  | 0, _, _, _, _, _ => none
  | n + 1, a0, a1, a2, a3, M =>
    (rcS a2).bind fun q1 =>
    b2 (fJ0_length_8abf5 fu q1  M) fun v3 M2 =>
    if v3 ≤ a3 then (
    some M2)
    else (
    (rcS a2).bind fun q4 =>
    b2 (fJ0_charAt_5068e fu q4 a3 M2) fun v6 M5 =>
    (rc M5 16 (some a0)).bind fun q7 =>
    (fX16_code fu q7 a1 v6 M5).bind fun M8 =>
    fX16_say_L2 fu  n a0 a1 a2 (a3 + (1 : Int32)) M8)
def fX16_say (fu : Nat)  (a0 : Nat) (a1 : Option Nat) (a2 : Option Nat)  (M : Mm) : Option (Mm) :=
    fX16_say_L2 fu  fu a0 a1 a2 (0 : Int32) M
theorem dX16_say_0 : decode cX16_say 0 = .ok (.iconst 0, 1) := by decide +kernel
theorem dX16_say_1 : decode cX16_say 1 = .ok (.istore_n 3, 1) := by decide +kernel
theorem dX16_say_2 : decode cX16_say 2 = .ok (.iload_n 3, 1) := by decide +kernel
theorem dX16_say_3 : decode cX16_say 3 = .ok (.aload_n 2, 1) := by decide +kernel
theorem dX16_say_4 : decode cX16_say 4 = .ok (.invokevirtual 717, 3) := by decide +kernel
theorem dX16_say_7 : decode cX16_say 7 = .ok (.if_icmp .ge 19, 3) := by decide +kernel
theorem dX16_say_10 : decode cX16_say 10 = .ok (.aload_n 0, 1) := by decide +kernel
theorem dX16_say_11 : decode cX16_say 11 = .ok (.aload_n 1, 1) := by decide +kernel
theorem dX16_say_12 : decode cX16_say 12 = .ok (.aload_n 2, 1) := by decide +kernel
theorem dX16_say_13 : decode cX16_say 13 = .ok (.iload_n 3, 1) := by decide +kernel
theorem dX16_say_14 : decode cX16_say 14 = .ok (.invokevirtual 721, 3) := by decide +kernel
theorem dX16_say_17 : decode cX16_say 17 = .ok (.invokevirtual 789, 3) := by decide +kernel
theorem dX16_say_20 : decode cX16_say 20 = .ok (.iinc 3 1, 3) := by decide +kernel
theorem dX16_say_23 : decode cX16_say 23 = .ok (.goto (-21), 3) := by decide +kernel
theorem dX16_say_26 : decode cX16_say 26 = .ok (.return_, 1) := by decide +kernel
theorem wX16_say_L2 {x : GX} {n0 sl0 : Nat} (X : Cx x cX16_say RX16 none n0 sl0 5 106) {out : Mm} (hE : Ends x n0 sl0 none out) (hn : xn x = 4) (fu : Nat)   : ∀ (n : Nat) (a0 : Nat) (a1 : Option Nat) (a2 : Option Nat) (a3 : Int32)  (M : Mm), fX16_say_L2 fu  n a0 a1 a2 a3 M = some out → Gw x M 2 [(0, pR (some a0)), (1, pR a1), (2, pR a2), (3, pI a3)] [] := by
  intro n
  induction n with
  | zero =>
    intro a0 a1 a2 a3 M h
    have h : (none : Option (Mm)) = some out := h
    cases h
  | succ n ih =>
    intro a0 a1 a2 a3 M h
    rw [fX16_say_L2] at h
    refine g_iload_n X (pc := 2) 3 rfl rfl dX16_say_2 ?_
    refine g_aload_n X (pc := 3) 2 rfl rfl dX16_say_3 ?_
    obtain ⟨q1, eq1, h⟩ := bd h
    obtain ⟨v3, M2, eM2, h⟩ := b2d h
    refine g_callVS X (pc := 4) (M' := M2) (ro := some (pI v3)) (as := []) (as' := []) (st := [pI a3]) eq1 (ctJ0_length_8abf5 _ _ _ _ _ _ fu q1  M _ eM2) tb_1214 tb_2358 tb_1212 tb_1213 tb_21 ⟨rfl, hyJ0_length_8abf5⟩ rfl rfl ⟨by decide, by decide⟩ (Nat.le_of_ble_eq_true rfl) dX16_say_4 ?_
    refine g_icmp_ge X (pc := 7) (tgt := 26) dX16_say_7 (by decide) (fun hc => ?_) (fun hc => ?_)
    · have h := (if_pos hc).symm.trans h
      obtain rfl := Option.some.inj h
      exact g_return X hE dX16_say_26
    · have h := (if_neg hc).symm.trans h
      refine g_aload_n X (pc := 10) 0 rfl rfl dX16_say_10 ?_
      refine g_aload_n X (pc := 11) 1 rfl rfl dX16_say_11 ?_
      refine g_aload_n X (pc := 12) 2 rfl rfl dX16_say_12 ?_
      refine g_iload_n X (pc := 13) 3 rfl rfl dX16_say_13 ?_
      obtain ⟨q4, eq4, h⟩ := bd h
      obtain ⟨v6, M5, eM5, h⟩ := b2d h
      refine g_callVS X (pc := 14) (M' := M5) (ro := some (pI v6)) (as := [pI a3]) (as' := [pI a3]) (st := [pR a1, pR (some a0)]) eq4 (ctJ0_charAt_5068e _ _ _ _ _ _ fu q4 a3 M2 _ eM5) tb_1224 tb_2359 tb_1222 tb_1223 tb_21 ⟨rfl, hyJ0_charAt_5068e⟩ rfl rfl ⟨by decide, by decide⟩ (Nat.le_of_ble_eq_true rfl) dX16_say_14 ?_
      obtain ⟨q7, eq7, h⟩ := bd h
      obtain ⟨M8, eM8, h⟩ := bd h
      refine g_callV X (pc := 17) (M' := M8) (ro := none) (c := 16) rfl (by decide) (as := [pR a1, pI v6]) (as' := [pI v6, pR a1]) (st := []) eq7 (ctX16_code _ _ _ _ _ _ fu q7 a1 v6 M5 _ eM8) tb_2435 tb_2432 tb_2434 ts_136 tb_8 ⟨rfl, hyX16_code⟩ rfl rfl ⟨by decide, by decide⟩ (Nat.le_of_ble_eq_true rfl) dX16_say_17 ?_
      refine g_iinc X (pc := 20) 3 [(3, pI (a3 + (1 : Int32))), (0, pR (some a0)), (1, pR a1), (2, pR a2)] rfl (iinc_e (by decide)) (lt_n hn (by decide)) rfl dX16_say_20 ?_
      refine g_goto X (pc := 23) (tgt := 2) dX16_say_23 (by decide) ?_
      refine g_sub [1, 2, 3, 0] [(0, pR (some a0)), (1, pR a1), (2, pR a2), (3, pI (a3 + (1 : Int32)))] rfl ?_
      exact ih a0 a1 a2 (a3 + (1 : Int32)) M8 h
theorem wX16_say {x : GX} {n0 sl0 : Nat} (X : Cx x cX16_say RX16 none n0 sl0 5 106) {out : Mm} (hE : Ends x n0 sl0 none out) (hn : xn x = 4) (fu : Nat)   (a0 : Nat) (a1 : Option Nat) (a2 : Option Nat)  (M : Mm) (h : fX16_say fu  a0 a1 a2 M = some out) : Gw x M 0 [(0, pR (some a0)), (1, pR a1), (2, pR a2)] [] := by
  unfold fX16_say at h
  refine g_iconst X (pc := 0) (v := 0) dX16_say_0 (by decide) ?_
  refine g_istore_n X (pc := 1) [(3, pI (0 : Int32)), (0, pR (some a0)), (1, pR a1), (2, pR a2)] rfl (lt_n hn (by decide)) rfl dX16_say_1 ?_
  refine g_sub [1, 2, 3, 0] [(0, pR (some a0)), (1, pR a1), (2, pR a2), (3, pI (0 : Int32))] rfl ?_
  exact wX16_say_L2 X hE hn fu   fu a0 a1 a2 (0 : Int32) M h
theorem hyX16_say : yX16_say.cls ≠ "java/lang/invoke/MethodHandle" ∧ yX16_say.cls ≠ "java/lang/invoke/VarHandle" ∧ (parseMethodDescriptor yX16_say.desc).map (fun d => d.parameters.length) = some 2 := ⟨by decide +kernel, by decide +kernel, by decide +kernel⟩
theorem ctX16_say (l : Launch) (E : Nat → Nat) (D : va_G) (dA : Nat → ClassId) (lo : Nat) (H0 : Heap) (fu : Nat) (a0 : Nat) (a1 : Option Nat) (a2 : Option Nat) (M : Mm) (out : Mm) (h : fX16_say fu a0 a1 a2 M = some out) : Ct l E D dA lo H0 yX16_say cX16_say 4 none 5 106 [pR (some a0), pR a1, pR a2] M none out := by
  refine ct_of (by decide +kernel) (Nat.le_of_ble_eq_true rfl) ?_
  intro x hl he hd ha ho hh hn hin X hE
  exact wX16_say X hE hn fu a0 a1 a2 M h
/-! WebHostModel.sayNumber(LWebHostModel$Connection;I)V -/
def fX16_sayNumber_L21 (fu : Nat)  : Nat → Nat → Option Nat → Int32 → Int32 → Mm → Option (Mm)
  | 0, _, _, _, _, _ => none
  | n + 1, a0, a1, a2, a4, M =>
    if a4 ≤ 0 then (
    some M)
    else (
    if a4 = 0 then none else
    (rc M 16 (some a0)).bind fun q1 =>
    (fX16_code fu q1 a1 ((48 : Int32) + (irm (a2 / a4) (10 : Int32))) M).bind fun M2 =>
    fX16_sayNumber_L21 fu  n a0 a1 a2 (a4 / (10 : Int32)) M2)
def fX16_sayNumber_L2 (fu : Nat)  : Nat → Nat → Option Nat → Int32 → Int32 → Mm → Option (Mm)
  | 0, _, _, _, _, _ => none
  | n + 1, a0, a1, a2, a3, M =>
    if a3 = 0 then none else
    if (a2 / a3) < (10 : Int32) then (
    fX16_sayNumber_L21 fu  fu a0 a1 a2 a3 M)
    else (
    fX16_sayNumber_L2 fu  n a0 a1 a2 (a3 * (10 : Int32)) M)
def fX16_sayNumber (fu : Nat)  (a0 : Nat) (a1 : Option Nat) (a2 : Int32)  (M : Mm) : Option (Mm) :=
    fX16_sayNumber_L2 fu  fu a0 a1 a2 (1 : Int32) M
theorem dX16_sayNumber_0 : decode cX16_sayNumber 0 = .ok (.iconst 1, 1) := by decide +kernel
theorem dX16_sayNumber_1 : decode cX16_sayNumber 1 = .ok (.istore_n 3, 1) := by decide +kernel
theorem dX16_sayNumber_2 : decode cX16_sayNumber 2 = .ok (.iload_n 2, 1) := by decide +kernel
theorem dX16_sayNumber_3 : decode cX16_sayNumber 3 = .ok (.iload_n 3, 1) := by decide +kernel
theorem dX16_sayNumber_4 : decode cX16_sayNumber 4 = .ok (.idiv, 1) := by decide +kernel
theorem dX16_sayNumber_5 : decode cX16_sayNumber 5 = .ok (.bipush 10, 2) := by decide +kernel
theorem dX16_sayNumber_7 : decode cX16_sayNumber 7 = .ok (.if_icmp .lt 11, 3) := by decide +kernel
theorem dX16_sayNumber_10 : decode cX16_sayNumber 10 = .ok (.iload_n 3, 1) := by decide +kernel
theorem dX16_sayNumber_11 : decode cX16_sayNumber 11 = .ok (.bipush 10, 2) := by decide +kernel
theorem dX16_sayNumber_13 : decode cX16_sayNumber 13 = .ok (.imul, 1) := by decide +kernel
theorem dX16_sayNumber_14 : decode cX16_sayNumber 14 = .ok (.istore_n 3, 1) := by decide +kernel
theorem dX16_sayNumber_15 : decode cX16_sayNumber 15 = .ok (.goto (-13), 3) := by decide +kernel
theorem dX16_sayNumber_18 : decode cX16_sayNumber 18 = .ok (.iload_n 3, 1) := by decide +kernel
theorem dX16_sayNumber_19 : decode cX16_sayNumber 19 = .ok (.istore 4, 2) := by decide +kernel
theorem dX16_sayNumber_21 : decode cX16_sayNumber 21 = .ok (.iload 4, 2) := by decide +kernel
theorem dX16_sayNumber_23 : decode cX16_sayNumber 23 = .ok (.ifCond .le 28, 3) := by decide +kernel
theorem dX16_sayNumber_26 : decode cX16_sayNumber 26 = .ok (.aload_n 0, 1) := by decide +kernel
theorem dX16_sayNumber_27 : decode cX16_sayNumber 27 = .ok (.aload_n 1, 1) := by decide +kernel
theorem dX16_sayNumber_28 : decode cX16_sayNumber 28 = .ok (.bipush 48, 2) := by decide +kernel
theorem dX16_sayNumber_30 : decode cX16_sayNumber 30 = .ok (.iload_n 2, 1) := by decide +kernel
theorem dX16_sayNumber_31 : decode cX16_sayNumber 31 = .ok (.iload 4, 2) := by decide +kernel
theorem dX16_sayNumber_33 : decode cX16_sayNumber 33 = .ok (.idiv, 1) := by decide +kernel
theorem dX16_sayNumber_34 : decode cX16_sayNumber 34 = .ok (.bipush 10, 2) := by decide +kernel
theorem dX16_sayNumber_36 : decode cX16_sayNumber 36 = .ok (.irem, 1) := by decide +kernel
theorem dX16_sayNumber_37 : decode cX16_sayNumber 37 = .ok (.iadd, 1) := by decide +kernel
theorem dX16_sayNumber_38 : decode cX16_sayNumber 38 = .ok (.invokevirtual 789, 3) := by decide +kernel
theorem dX16_sayNumber_41 : decode cX16_sayNumber 41 = .ok (.iload 4, 2) := by decide +kernel
theorem dX16_sayNumber_43 : decode cX16_sayNumber 43 = .ok (.bipush 10, 2) := by decide +kernel
theorem dX16_sayNumber_45 : decode cX16_sayNumber 45 = .ok (.idiv, 1) := by decide +kernel
theorem dX16_sayNumber_46 : decode cX16_sayNumber 46 = .ok (.istore 4, 2) := by decide +kernel
theorem dX16_sayNumber_48 : decode cX16_sayNumber 48 = .ok (.goto (-27), 3) := by decide +kernel
theorem dX16_sayNumber_51 : decode cX16_sayNumber 51 = .ok (.return_, 1) := by decide +kernel
theorem wX16_sayNumber_L21 {x : GX} {n0 sl0 : Nat} (X : Cx x cX16_sayNumber RX16 none n0 sl0 1 22) {out : Mm} (hE : Ends x n0 sl0 none out) (hn : xn x = 5) (fu : Nat)   : ∀ (n : Nat) (a0 : Nat) (a1 : Option Nat) (a2 : Int32) (a4 : Int32)  (M : Mm), fX16_sayNumber_L21 fu  n a0 a1 a2 a4 M = some out → Gw x M 21 [(0, pR (some a0)), (1, pR a1), (2, pI a2), (4, pI a4)] [] := by
  intro n
  induction n with
  | zero =>
    intro a0 a1 a2 a4 M h
    have h : (none : Option (Mm)) = some out := h
    cases h
  | succ n ih =>
    intro a0 a1 a2 a4 M h
    rw [fX16_sayNumber_L21] at h
    refine g_iload X (pc := 21) 3 rfl dX16_sayNumber_21 ?_
    refine g_if_le X (pc := 23) (tgt := 51) dX16_sayNumber_23 (by decide) (fun hc => ?_) (fun hc => ?_)
    · have h := (if_pos hc).symm.trans h
      obtain rfl := Option.some.inj h
      exact g_return X hE dX16_sayNumber_51
    · have h := (if_neg hc).symm.trans h
      refine g_aload_n X (pc := 26) 0 rfl rfl dX16_sayNumber_26 ?_
      refine g_aload_n X (pc := 27) 1 rfl rfl dX16_sayNumber_27 ?_
      refine g_bipush X (pc := 28) (v := 48) dX16_sayNumber_28 (by decide) ?_
      refine g_iload_n X (pc := 30) 2 rfl rfl dX16_sayNumber_30 ?_
      refine g_iload X (pc := 31) 3 rfl dX16_sayNumber_31 ?_
      by_cases hz : a4 = 0
      · rw [if_pos hz] at h; cases h
      have h := (if_neg hz).symm.trans h
      refine g_idiv X (pc := 33) hz dX16_sayNumber_33 ?_
      refine g_bipush X (pc := 34) (v := 10) dX16_sayNumber_34 (by decide) ?_
      refine g_irem X (pc := 36) (by decide) dX16_sayNumber_36 ?_
      refine g_iadd X (pc := 37) dX16_sayNumber_37 ?_
      obtain ⟨q1, eq1, h⟩ := bd h
      obtain ⟨M2, eM2, h⟩ := bd h
      refine g_callV X (pc := 38) (M' := M2) (ro := none) (c := 16) rfl (by decide) (as := [pR a1, pI ((48 : Int32) + (irm (a2 / a4) (10 : Int32)))]) (as' := [pI ((48 : Int32) + (irm (a2 / a4) (10 : Int32))), pR a1]) (st := []) eq1 (ctX16_code _ _ _ _ _ _ fu q1 a1 ((48 : Int32) + (irm (a2 / a4) (10 : Int32))) M _ eM2) tb_2435 tb_2432 tb_2434 ts_136 tb_8 ⟨rfl, hyX16_code⟩ rfl rfl ⟨by decide, by decide⟩ (Nat.le_of_ble_eq_true rfl) dX16_sayNumber_38 ?_
      refine g_iload X (pc := 41) 3 rfl dX16_sayNumber_41 ?_
      refine g_bipush X (pc := 43) (v := 10) dX16_sayNumber_43 (by decide) ?_
      refine g_idiv X (pc := 45) (by decide) dX16_sayNumber_45 ?_
      refine g_istore X (pc := 46) [(4, pI (a4 / (10 : Int32))), (0, pR (some a0)), (1, pR a1), (2, pI a2)] (lt_n hn (by decide)) rfl dX16_sayNumber_46 ?_
      refine g_goto X (pc := 48) (tgt := 21) dX16_sayNumber_48 (by decide) ?_
      refine g_sub [1, 2, 3, 0] [(0, pR (some a0)), (1, pR a1), (2, pI a2), (4, pI (a4 / (10 : Int32)))] rfl ?_
      exact ih a0 a1 a2 (a4 / (10 : Int32)) M2 h
theorem wX16_sayNumber_L2 {x : GX} {n0 sl0 : Nat} (X : Cx x cX16_sayNumber RX16 none n0 sl0 1 22) {out : Mm} (hE : Ends x n0 sl0 none out) (hn : xn x = 5) (fu : Nat)   : ∀ (n : Nat) (a0 : Nat) (a1 : Option Nat) (a2 : Int32) (a3 : Int32)  (M : Mm), fX16_sayNumber_L2 fu  n a0 a1 a2 a3 M = some out → Gw x M 2 [(0, pR (some a0)), (1, pR a1), (2, pI a2), (3, pI a3)] [] := by
  intro n
  induction n with
  | zero =>
    intro a0 a1 a2 a3 M h
    have h : (none : Option (Mm)) = some out := h
    cases h
  | succ n ih =>
    intro a0 a1 a2 a3 M h
    rw [fX16_sayNumber_L2] at h
    refine g_iload_n X (pc := 2) 2 rfl rfl dX16_sayNumber_2 ?_
    refine g_iload_n X (pc := 3) 3 rfl rfl dX16_sayNumber_3 ?_
    by_cases hz : a3 = 0
    · rw [if_pos hz] at h; cases h
    have h := (if_neg hz).symm.trans h
    refine g_idiv X (pc := 4) hz dX16_sayNumber_4 ?_
    refine g_bipush X (pc := 5) (v := 10) dX16_sayNumber_5 (by decide) ?_
    refine g_icmp_lt X (pc := 7) (tgt := 18) dX16_sayNumber_7 (by decide) (fun hc => ?_) (fun hc => ?_)
    · have h := (if_pos hc).symm.trans h
      refine g_iload_n X (pc := 18) 3 rfl rfl dX16_sayNumber_18 ?_
      refine g_istore X (pc := 19) [(4, pI a3), (0, pR (some a0)), (1, pR a1), (2, pI a2), (3, pI a3)] (lt_n hn (by decide)) rfl dX16_sayNumber_19 ?_
      refine g_sub [1, 2, 3, 0] [(0, pR (some a0)), (1, pR a1), (2, pI a2), (4, pI a3)] rfl ?_
      exact wX16_sayNumber_L21 X hE hn fu   fu a0 a1 a2 a3 M h
    · have h := (if_neg hc).symm.trans h
      refine g_iload_n X (pc := 10) 3 rfl rfl dX16_sayNumber_10 ?_
      refine g_bipush X (pc := 11) (v := 10) dX16_sayNumber_11 (by decide) ?_
      refine g_imul X (pc := 13) dX16_sayNumber_13 ?_
      refine g_istore_n X (pc := 14) [(3, pI (a3 * (10 : Int32))), (0, pR (some a0)), (1, pR a1), (2, pI a2)] rfl (lt_n hn (by decide)) rfl dX16_sayNumber_14 ?_
      refine g_goto X (pc := 15) (tgt := 2) dX16_sayNumber_15 (by decide) ?_
      refine g_sub [1, 2, 3, 0] [(0, pR (some a0)), (1, pR a1), (2, pI a2), (3, pI (a3 * (10 : Int32)))] rfl ?_
      exact ih a0 a1 a2 (a3 * (10 : Int32)) M h
theorem wX16_sayNumber {x : GX} {n0 sl0 : Nat} (X : Cx x cX16_sayNumber RX16 none n0 sl0 1 22) {out : Mm} (hE : Ends x n0 sl0 none out) (hn : xn x = 5) (fu : Nat)   (a0 : Nat) (a1 : Option Nat) (a2 : Int32)  (M : Mm) (h : fX16_sayNumber fu  a0 a1 a2 M = some out) : Gw x M 0 [(0, pR (some a0)), (1, pR a1), (2, pI a2)] [] := by
  unfold fX16_sayNumber at h
  refine g_iconst X (pc := 0) (v := 1) dX16_sayNumber_0 (by decide) ?_
  refine g_istore_n X (pc := 1) [(3, pI (1 : Int32)), (0, pR (some a0)), (1, pR a1), (2, pI a2)] rfl (lt_n hn (by decide)) rfl dX16_sayNumber_1 ?_
  refine g_sub [1, 2, 3, 0] [(0, pR (some a0)), (1, pR a1), (2, pI a2), (3, pI (1 : Int32))] rfl ?_
  exact wX16_sayNumber_L2 X hE hn fu   fu a0 a1 a2 (1 : Int32) M h
theorem hyX16_sayNumber : yX16_sayNumber.cls ≠ "java/lang/invoke/MethodHandle" ∧ yX16_sayNumber.cls ≠ "java/lang/invoke/VarHandle" ∧ (parseMethodDescriptor yX16_sayNumber.desc).map (fun d => d.parameters.length) = some 2 := ⟨by decide +kernel, by decide +kernel, by decide +kernel⟩
theorem ctX16_sayNumber (l : Launch) (E : Nat → Nat) (D : va_G) (dA : Nat → ClassId) (lo : Nat) (H0 : Heap) (fu : Nat) (a0 : Nat) (a1 : Option Nat) (a2 : Int32) (M : Mm) (out : Mm) (h : fX16_sayNumber fu a0 a1 a2 M = some out) : Ct l E D dA lo H0 yX16_sayNumber cX16_sayNumber 5 none 1 22 [pR (some a0), pR a1, pI a2] M none out := by
  refine ct_of (by decide +kernel) (Nat.le_of_ble_eq_true rfl) ?_
  intro x hl he hd ha ho hh hn hin X hE
  exact wX16_sayNumber X hE hn fu a0 a1 a2 M h
/-! WebHostModel.phrase(I)Ljava/lang/String; -/
def fX16_phrase (fu : Nat)  (a0 : Int32)  (M : Mm) : Option (Option Nat × Mm) :=
    if a0 = (200 : Int32) then (
    some ((some 14), M))
    else (
    if a0 = (304 : Int32) then (
    some ((some 15), M))
    else (
    if a0 = (400 : Int32) then (
    some ((some 16), M))
    else (
    if a0 = (404 : Int32) then (
    some ((some 17), M))
    else (
    if a0 = (405 : Int32) then (
    some ((some 18), M))
    else (
    if a0 = (413 : Int32) then (
    some ((some 19), M))
    else (
    if a0 = (431 : Int32) then (
    some ((some 20), M))
    else (
    if a0 = (500 : Int32) then (
    some ((some 21), M))
    else (
    some ((some 22), M)))))))))
theorem dX16_phrase_0 : decode cX16_phrase 0 = .ok (.iload_n 0, 1) := by decide +kernel
theorem dX16_phrase_1 : decode cX16_phrase 1 = .ok (.lookupswitch 107 #[(200, 75), (304, 79), (400, 83), (404, 87), (405, 91), (413, 95), (431, 99), (500, 103)], 75) := by decide +kernel
theorem dX16_phrase_76 : decode cX16_phrase 76 = .ok (.ldc_w 792, 3) := by decide +kernel
theorem dX16_phrase_79 : decode cX16_phrase 79 = .ok (.areturn, 1) := by decide +kernel
theorem dX16_phrase_80 : decode cX16_phrase 80 = .ok (.ldc_w 794, 3) := by decide +kernel
theorem dX16_phrase_83 : decode cX16_phrase 83 = .ok (.areturn, 1) := by decide +kernel
theorem dX16_phrase_84 : decode cX16_phrase 84 = .ok (.ldc_w 796, 3) := by decide +kernel
theorem dX16_phrase_87 : decode cX16_phrase 87 = .ok (.areturn, 1) := by decide +kernel
theorem dX16_phrase_88 : decode cX16_phrase 88 = .ok (.ldc_w 798, 3) := by decide +kernel
theorem dX16_phrase_91 : decode cX16_phrase 91 = .ok (.areturn, 1) := by decide +kernel
theorem dX16_phrase_92 : decode cX16_phrase 92 = .ok (.ldc_w 800, 3) := by decide +kernel
theorem dX16_phrase_95 : decode cX16_phrase 95 = .ok (.areturn, 1) := by decide +kernel
theorem dX16_phrase_96 : decode cX16_phrase 96 = .ok (.ldc_w 802, 3) := by decide +kernel
theorem dX16_phrase_99 : decode cX16_phrase 99 = .ok (.areturn, 1) := by decide +kernel
theorem dX16_phrase_100 : decode cX16_phrase 100 = .ok (.ldc_w 804, 3) := by decide +kernel
theorem dX16_phrase_103 : decode cX16_phrase 103 = .ok (.areturn, 1) := by decide +kernel
theorem dX16_phrase_104 : decode cX16_phrase 104 = .ok (.ldc_w 806, 3) := by decide +kernel
theorem dX16_phrase_107 : decode cX16_phrase 107 = .ok (.areturn, 1) := by decide +kernel
theorem dX16_phrase_108 : decode cX16_phrase 108 = .ok (.ldc_w 808, 3) := by decide +kernel
theorem dX16_phrase_111 : decode cX16_phrase 111 = .ok (.areturn, 1) := by decide +kernel
theorem wX16_phrase {x : GX} {n0 sl0 : Nat} (X : Cx x cX16_phrase RX16 (some (.object "java/lang/String")) n0 sl0 0 0) {out : Option Nat × Mm} (hE : Ends x n0 sl0 (some (pR out.1)) out.2) (hn : xn x = 1) (fu : Nat)   (a0 : Int32)  (M : Mm) (h : fX16_phrase fu  a0 M = some out) : Gw x M 0 [(0, pI a0)] [] := by
  unfold fX16_phrase at h
  refine g_iload_n X (pc := 0) 0 rfl rfl dX16_phrase_0 ?_
  by_cases hc0 : a0 = (200 : Int32)
  · have h := (if_pos hc0).symm.trans h
    refine g_look X (pc := 1) (tgt := 76) hc0 dX16_phrase_1 (by decide) rfl (by decide) ?_
    refine g_ldcwS X (pc := 76) (List.mem_of_getElem? (i := 57) rfl) dX16_phrase_76 ?_
    obtain rfl := Option.some.inj h
    exact g_areturn X rfl (Or.inl ⟨_, rfl⟩) hE dX16_phrase_79
  have h := (if_neg hc0).symm.trans h
  by_cases hc1 : a0 = (304 : Int32)
  · have h := (if_pos hc1).symm.trans h
    refine g_look X (pc := 1) (tgt := 80) hc1 dX16_phrase_1 (by decide) rfl (by decide) ?_
    refine g_ldcwS X (pc := 80) (List.mem_of_getElem? (i := 58) rfl) dX16_phrase_80 ?_
    obtain rfl := Option.some.inj h
    exact g_areturn X rfl (Or.inl ⟨_, rfl⟩) hE dX16_phrase_83
  have h := (if_neg hc1).symm.trans h
  by_cases hc2 : a0 = (400 : Int32)
  · have h := (if_pos hc2).symm.trans h
    refine g_look X (pc := 1) (tgt := 84) hc2 dX16_phrase_1 (by decide) rfl (by decide) ?_
    refine g_ldcwS X (pc := 84) (List.mem_of_getElem? (i := 59) rfl) dX16_phrase_84 ?_
    obtain rfl := Option.some.inj h
    exact g_areturn X rfl (Or.inl ⟨_, rfl⟩) hE dX16_phrase_87
  have h := (if_neg hc2).symm.trans h
  by_cases hc3 : a0 = (404 : Int32)
  · have h := (if_pos hc3).symm.trans h
    refine g_look X (pc := 1) (tgt := 88) hc3 dX16_phrase_1 (by decide) rfl (by decide) ?_
    refine g_ldcwS X (pc := 88) (List.mem_of_getElem? (i := 60) rfl) dX16_phrase_88 ?_
    obtain rfl := Option.some.inj h
    exact g_areturn X rfl (Or.inl ⟨_, rfl⟩) hE dX16_phrase_91
  have h := (if_neg hc3).symm.trans h
  by_cases hc4 : a0 = (405 : Int32)
  · have h := (if_pos hc4).symm.trans h
    refine g_look X (pc := 1) (tgt := 92) hc4 dX16_phrase_1 (by decide) rfl (by decide) ?_
    refine g_ldcwS X (pc := 92) (List.mem_of_getElem? (i := 61) rfl) dX16_phrase_92 ?_
    obtain rfl := Option.some.inj h
    exact g_areturn X rfl (Or.inl ⟨_, rfl⟩) hE dX16_phrase_95
  have h := (if_neg hc4).symm.trans h
  by_cases hc5 : a0 = (413 : Int32)
  · have h := (if_pos hc5).symm.trans h
    refine g_look X (pc := 1) (tgt := 96) hc5 dX16_phrase_1 (by decide) rfl (by decide) ?_
    refine g_ldcwS X (pc := 96) (List.mem_of_getElem? (i := 62) rfl) dX16_phrase_96 ?_
    obtain rfl := Option.some.inj h
    exact g_areturn X rfl (Or.inl ⟨_, rfl⟩) hE dX16_phrase_99
  have h := (if_neg hc5).symm.trans h
  by_cases hc6 : a0 = (431 : Int32)
  · have h := (if_pos hc6).symm.trans h
    refine g_look X (pc := 1) (tgt := 100) hc6 dX16_phrase_1 (by decide) rfl (by decide) ?_
    refine g_ldcwS X (pc := 100) (List.mem_of_getElem? (i := 63) rfl) dX16_phrase_100 ?_
    obtain rfl := Option.some.inj h
    exact g_areturn X rfl (Or.inl ⟨_, rfl⟩) hE dX16_phrase_103
  have h := (if_neg hc6).symm.trans h
  by_cases hc7 : a0 = (500 : Int32)
  · have h := (if_pos hc7).symm.trans h
    refine g_look X (pc := 1) (tgt := 104) hc7 dX16_phrase_1 (by decide) rfl (by decide) ?_
    refine g_ldcwS X (pc := 104) (List.mem_of_getElem? (i := 64) rfl) dX16_phrase_104 ?_
    obtain rfl := Option.some.inj h
    exact g_areturn X rfl (Or.inl ⟨_, rfl⟩) hE dX16_phrase_107
  have h := (if_neg hc7).symm.trans h
  refine g_lookup X (pc := 1) (tgt := 108) dX16_phrase_1 (by decide) (lk_cons hc0 (by decide) (lk_cons hc1 (by decide) (lk_cons hc2 (by decide) (lk_cons hc3 (by decide) (lk_cons hc4 (by decide) (lk_cons hc5 (by decide) (lk_cons hc6 (by decide) (lk_cons hc7 (by decide) lk_nil)))))))) (by decide) ?_
  refine g_ldcwS X (pc := 108) (List.mem_of_getElem? (i := 65) rfl) dX16_phrase_108 ?_
  obtain rfl := Option.some.inj h
  exact g_areturn X rfl (Or.inl ⟨_, rfl⟩) hE dX16_phrase_111
theorem hyX16_phrase : yX16_phrase.cls ≠ "java/lang/invoke/MethodHandle" ∧ yX16_phrase.cls ≠ "java/lang/invoke/VarHandle" ∧ (parseMethodDescriptor yX16_phrase.desc).map (fun d => d.parameters.length) = some 1 := ⟨by decide +kernel, by decide +kernel, by decide +kernel⟩
theorem ctX16_phrase (l : Launch) (E : Nat → Nat) (D : va_G) (dA : Nat → ClassId) (lo : Nat) (H0 : Heap) (fu : Nat) (a0 : Int32) (M : Mm) (out : Option Nat × Mm) (h : fX16_phrase fu a0 M = some out) : Ct l E D dA lo H0 yX16_phrase cX16_phrase 1 (some (.object "java/lang/String")) 0 0 [pI a0] M (some (pR out.1)) out.2 := by
  refine ct_of (by decide +kernel) (Nat.le_of_ble_eq_true rfl) ?_
  intro x hl he hd ha ho hh hn hin X hE
  exact wX16_phrase X hE hn fu a0 M h
/-! WebHostModel.line(LWebHostModel$Connection;)V -/
def fX16_line (fu : Nat)  (a0 : Nat) (a1 : Option Nat)  (M : Mm) : Option (Mm) :=
    (rc M 16 (some a0)).bind fun q1 =>
    (fX16_code fu q1 a1 (13 : Int32) M).bind fun M2 =>
    (rc M2 16 (some a0)).bind fun q3 =>
    (fX16_code fu q3 a1 (10 : Int32) M2).bind fun M4 =>
    some M4
theorem dX16_line_0 : decode cX16_line 0 = .ok (.aload_n 0, 1) := by decide +kernel
theorem dX16_line_1 : decode cX16_line 1 = .ok (.aload_n 1, 1) := by decide +kernel
theorem dX16_line_2 : decode cX16_line 2 = .ok (.bipush 13, 2) := by decide +kernel
theorem dX16_line_4 : decode cX16_line 4 = .ok (.invokevirtual 789, 3) := by decide +kernel
theorem dX16_line_7 : decode cX16_line 7 = .ok (.aload_n 0, 1) := by decide +kernel
theorem dX16_line_8 : decode cX16_line 8 = .ok (.aload_n 1, 1) := by decide +kernel
theorem dX16_line_9 : decode cX16_line 9 = .ok (.bipush 10, 2) := by decide +kernel
theorem dX16_line_11 : decode cX16_line 11 = .ok (.invokevirtual 789, 3) := by decide +kernel
theorem dX16_line_14 : decode cX16_line 14 = .ok (.return_, 1) := by decide +kernel
theorem wX16_line {x : GX} {n0 sl0 : Nat} (X : Cx x cX16_line RX16 none n0 sl0 1 22) {out : Mm} (hE : Ends x n0 sl0 none out) (hn : xn x = 2) (fu : Nat)   (a0 : Nat) (a1 : Option Nat)  (M : Mm) (h : fX16_line fu  a0 a1 M = some out) : Gw x M 0 [(0, pR (some a0)), (1, pR a1)] [] := by
  unfold fX16_line at h
  refine g_aload_n X (pc := 0) 0 rfl rfl dX16_line_0 ?_
  refine g_aload_n X (pc := 1) 1 rfl rfl dX16_line_1 ?_
  refine g_bipush X (pc := 2) (v := 13) dX16_line_2 (by decide) ?_
  obtain ⟨q1, eq1, h⟩ := bd h
  obtain ⟨M2, eM2, h⟩ := bd h
  refine g_callV X (pc := 4) (M' := M2) (ro := none) (c := 16) rfl (by decide) (as := [pR a1, pI (13 : Int32)]) (as' := [pI (13 : Int32), pR a1]) (st := []) eq1 (ctX16_code _ _ _ _ _ _ fu q1 a1 (13 : Int32) M _ eM2) tb_2435 tb_2432 tb_2434 ts_136 tb_8 ⟨rfl, hyX16_code⟩ rfl rfl ⟨by decide, by decide⟩ (Nat.le_of_ble_eq_true rfl) dX16_line_4 ?_
  refine g_aload_n X (pc := 7) 0 rfl rfl dX16_line_7 ?_
  refine g_aload_n X (pc := 8) 1 rfl rfl dX16_line_8 ?_
  refine g_bipush X (pc := 9) (v := 10) dX16_line_9 (by decide) ?_
  obtain ⟨q3, eq3, h⟩ := bd h
  obtain ⟨M4, eM4, h⟩ := bd h
  refine g_callV X (pc := 11) (M' := M4) (ro := none) (c := 16) rfl (by decide) (as := [pR a1, pI (10 : Int32)]) (as' := [pI (10 : Int32), pR a1]) (st := []) eq3 (ctX16_code _ _ _ _ _ _ fu q3 a1 (10 : Int32) M2 _ eM4) tb_2435 tb_2432 tb_2434 ts_136 tb_8 ⟨rfl, hyX16_code⟩ rfl rfl ⟨by decide, by decide⟩ (Nat.le_of_ble_eq_true rfl) dX16_line_11 ?_
  obtain rfl := Option.some.inj h
  exact g_return X hE dX16_line_14
theorem hyX16_line : yX16_line.cls ≠ "java/lang/invoke/MethodHandle" ∧ yX16_line.cls ≠ "java/lang/invoke/VarHandle" ∧ (parseMethodDescriptor yX16_line.desc).map (fun d => d.parameters.length) = some 1 := ⟨by decide +kernel, by decide +kernel, by decide +kernel⟩
theorem ctX16_line (l : Launch) (E : Nat → Nat) (D : va_G) (dA : Nat → ClassId) (lo : Nat) (H0 : Heap) (fu : Nat) (a0 : Nat) (a1 : Option Nat) (M : Mm) (out : Mm) (h : fX16_line fu a0 a1 M = some out) : Ct l E D dA lo H0 yX16_line cX16_line 2 none 1 22 [pR (some a0), pR a1] M none out := by
  refine ct_of (by decide +kernel) (Nat.le_of_ble_eq_true rfl) ?_
  intro x hl he hd ha ho hh hn hin X hE
  exact wX16_line X hE hn fu a0 a1 M h
/-! WebHostModel.endsWith(ILjava/lang/String;)Z -/
def fX16_endsWith_L41 (fu : Nat)  : Nat → Nat → Int32 → Option Nat → Int32 → Int32 → Mm → Option (Int32 × Mm)
  | 0, _, _, _, _, _, _ => none
  | n + 1, a0, a1, a2, a3, a4, M =>
    (rcS a2).bind fun q1 =>
    b2 (fJ0_length_8abf5 fu q1  M) fun v3 M2 =>
    if v3 ≤ a4 then (
    rN .boolean (1 : Int32) M2)
    else (
    (gR M2 16 1037 (some a0)).bind fun v4 =>
    (rcS a2).bind fun q5 =>
    b2 (fJ0_length_8abf5 fu q5  M2) fun v7 M6 =>
    (gA M6 100 v4 (((((48 : Int32) * a1) + a3) - v7) + a4)).bind fun v8 =>
    (rcS a2).bind fun q9 =>
    b2 (fJ0_charAt_5068e fu q9 a4 M6) fun v11 M10 =>
    if v8 = v11 then (
    fX16_endsWith_L41 fu  n a0 a1 a2 a3 (a4 + (1 : Int32)) M10)
    else (
    rN .boolean (0 : Int32) M10))
def fX16_endsWith_L28 (fu : Nat)  (a0 : Nat) (a1 : Int32) (a2 : Option Nat) (a3 : Int32)  (M : Mm) : Option (Int32 × Mm) :=
    (rcS a2).bind fun q1 =>
    b2 (fJ0_length_8abf5 fu q1  M) fun v3 M2 =>
    if v3 ≤ a3 then (
    fX16_endsWith_L41 fu  fu a0 a1 a2 a3 (0 : Int32) M2)
    else (
    rN .boolean (0 : Int32) M2)
def fX16_endsWith_L2 (fu : Nat)  : Nat → Nat → Int32 → Option Nat → Int32 → Mm → Option (Int32 × Mm)
  | 0, _, _, _, _, _ => none
  | n + 1, a0, a1, a2, a3, M =>
    if (48 : Int32) ≤ a3 then (
    fX16_endsWith_L28 fu  a0 a1 a2 a3 M)
    else (
    (gR M 16 1037 (some a0)).bind fun v1 =>
    (gA M 100 v1 (((48 : Int32) * a1) + a3)).bind fun v2 =>
    if v2 = 0 then (
    fX16_endsWith_L28 fu  a0 a1 a2 a3 M)
    else (
    fX16_endsWith_L2 fu  n a0 a1 a2 (a3 + (1 : Int32)) M))
def fX16_endsWith (fu : Nat)  (a0 : Nat) (a1 : Int32) (a2 : Option Nat)  (M : Mm) : Option (Int32 × Mm) :=
    fX16_endsWith_L2 fu  fu a0 a1 a2 (0 : Int32) M
theorem dX16_endsWith_0 : decode cX16_endsWith 0 = .ok (.iconst 0, 1) := by decide +kernel
theorem dX16_endsWith_1 : decode cX16_endsWith 1 = .ok (.istore_n 3, 1) := by decide +kernel
theorem dX16_endsWith_2 : decode cX16_endsWith 2 = .ok (.iload_n 3, 1) := by decide +kernel
theorem dX16_endsWith_3 : decode cX16_endsWith 3 = .ok (.bipush 48, 2) := by decide +kernel
theorem dX16_endsWith_5 : decode cX16_endsWith 5 = .ok (.if_icmp .ge 23, 3) := by decide +kernel
theorem dX16_endsWith_8 : decode cX16_endsWith 8 = .ok (.aload_n 0, 1) := by decide +kernel
theorem dX16_endsWith_9 : decode cX16_endsWith 9 = .ok (.getfield 18, 3) := by decide +kernel
theorem dX16_endsWith_12 : decode cX16_endsWith 12 = .ok (.bipush 48, 2) := by decide +kernel
theorem dX16_endsWith_14 : decode cX16_endsWith 14 = .ok (.iload_n 1, 1) := by decide +kernel
theorem dX16_endsWith_15 : decode cX16_endsWith 15 = .ok (.imul, 1) := by decide +kernel
theorem dX16_endsWith_16 : decode cX16_endsWith 16 = .ok (.iload_n 3, 1) := by decide +kernel
theorem dX16_endsWith_17 : decode cX16_endsWith 17 = .ok (.iadd, 1) := by decide +kernel
theorem dX16_endsWith_18 : decode cX16_endsWith 18 = .ok (.baload, 1) := by decide +kernel
theorem dX16_endsWith_19 : decode cX16_endsWith 19 = .ok (.ifCond .eq 9, 3) := by decide +kernel
theorem dX16_endsWith_22 : decode cX16_endsWith 22 = .ok (.iinc 3 1, 3) := by decide +kernel
theorem dX16_endsWith_25 : decode cX16_endsWith 25 = .ok (.goto (-23), 3) := by decide +kernel
theorem dX16_endsWith_28 : decode cX16_endsWith 28 = .ok (.iload_n 3, 1) := by decide +kernel
theorem dX16_endsWith_29 : decode cX16_endsWith 29 = .ok (.aload_n 2, 1) := by decide +kernel
theorem dX16_endsWith_30 : decode cX16_endsWith 30 = .ok (.invokevirtual 717, 3) := by decide +kernel
theorem dX16_endsWith_33 : decode cX16_endsWith 33 = .ok (.if_icmp .ge 5, 3) := by decide +kernel
theorem dX16_endsWith_36 : decode cX16_endsWith 36 = .ok (.iconst 0, 1) := by decide +kernel
theorem dX16_endsWith_37 : decode cX16_endsWith 37 = .ok (.ireturn, 1) := by decide +kernel
theorem dX16_endsWith_38 : decode cX16_endsWith 38 = .ok (.iconst 0, 1) := by decide +kernel
theorem dX16_endsWith_39 : decode cX16_endsWith 39 = .ok (.istore 4, 2) := by decide +kernel
theorem dX16_endsWith_41 : decode cX16_endsWith 41 = .ok (.iload 4, 2) := by decide +kernel
theorem dX16_endsWith_43 : decode cX16_endsWith 43 = .ok (.aload_n 2, 1) := by decide +kernel
theorem dX16_endsWith_44 : decode cX16_endsWith 44 = .ok (.invokevirtual 717, 3) := by decide +kernel
theorem dX16_endsWith_47 : decode cX16_endsWith 47 = .ok (.if_icmp .ge 39, 3) := by decide +kernel
theorem dX16_endsWith_50 : decode cX16_endsWith 50 = .ok (.aload_n 0, 1) := by decide +kernel
theorem dX16_endsWith_51 : decode cX16_endsWith 51 = .ok (.getfield 18, 3) := by decide +kernel
theorem dX16_endsWith_54 : decode cX16_endsWith 54 = .ok (.bipush 48, 2) := by decide +kernel
theorem dX16_endsWith_56 : decode cX16_endsWith 56 = .ok (.iload_n 1, 1) := by decide +kernel
theorem dX16_endsWith_57 : decode cX16_endsWith 57 = .ok (.imul, 1) := by decide +kernel
theorem dX16_endsWith_58 : decode cX16_endsWith 58 = .ok (.iload_n 3, 1) := by decide +kernel
theorem dX16_endsWith_59 : decode cX16_endsWith 59 = .ok (.iadd, 1) := by decide +kernel
theorem dX16_endsWith_60 : decode cX16_endsWith 60 = .ok (.aload_n 2, 1) := by decide +kernel
theorem dX16_endsWith_61 : decode cX16_endsWith 61 = .ok (.invokevirtual 717, 3) := by decide +kernel
theorem dX16_endsWith_64 : decode cX16_endsWith 64 = .ok (.isub, 1) := by decide +kernel
theorem dX16_endsWith_65 : decode cX16_endsWith 65 = .ok (.iload 4, 2) := by decide +kernel
theorem dX16_endsWith_67 : decode cX16_endsWith 67 = .ok (.iadd, 1) := by decide +kernel
theorem dX16_endsWith_68 : decode cX16_endsWith 68 = .ok (.baload, 1) := by decide +kernel
theorem dX16_endsWith_69 : decode cX16_endsWith 69 = .ok (.aload_n 2, 1) := by decide +kernel
theorem dX16_endsWith_70 : decode cX16_endsWith 70 = .ok (.iload 4, 2) := by decide +kernel
theorem dX16_endsWith_72 : decode cX16_endsWith 72 = .ok (.invokevirtual 721, 3) := by decide +kernel
theorem dX16_endsWith_75 : decode cX16_endsWith 75 = .ok (.if_icmp .eq 5, 3) := by decide +kernel
theorem dX16_endsWith_78 : decode cX16_endsWith 78 = .ok (.iconst 0, 1) := by decide +kernel
theorem dX16_endsWith_79 : decode cX16_endsWith 79 = .ok (.ireturn, 1) := by decide +kernel
theorem dX16_endsWith_80 : decode cX16_endsWith 80 = .ok (.iinc 4 1, 3) := by decide +kernel
theorem dX16_endsWith_83 : decode cX16_endsWith 83 = .ok (.goto (-42), 3) := by decide +kernel
theorem dX16_endsWith_86 : decode cX16_endsWith 86 = .ok (.iconst 1, 1) := by decide +kernel
theorem dX16_endsWith_87 : decode cX16_endsWith 87 = .ok (.ireturn, 1) := by decide +kernel
theorem wX16_endsWith_L41 {x : GX} {n0 sl0 : Nat} (X : Cx x cX16_endsWith RX16 (some .boolean) n0 sl0 5 106) {out : Int32 × Mm} (hE : Ends x n0 sl0 (some (pI out.1)) out.2) (hn : xn x = 5) (fu : Nat)   : ∀ (n : Nat) (a0 : Nat) (a1 : Int32) (a2 : Option Nat) (a3 : Int32) (a4 : Int32)  (M : Mm), fX16_endsWith_L41 fu  n a0 a1 a2 a3 a4 M = some out → Gw x M 41 [(0, pR (some a0)), (1, pI a1), (2, pR a2), (3, pI a3), (4, pI a4)] [] := by
  intro n
  induction n with
  | zero =>
    intro a0 a1 a2 a3 a4 M h
    have h : (none : Option (Int32 × Mm)) = some out := h
    cases h
  | succ n ih =>
    intro a0 a1 a2 a3 a4 M h
    rw [fX16_endsWith_L41] at h
    refine g_iload X (pc := 41) 4 rfl dX16_endsWith_41 ?_
    refine g_aload_n X (pc := 43) 2 rfl rfl dX16_endsWith_43 ?_
    obtain ⟨q1, eq1, h⟩ := bd h
    obtain ⟨v3, M2, eM2, h⟩ := b2d h
    refine g_callVS X (pc := 44) (M' := M2) (ro := some (pI v3)) (as := []) (as' := []) (st := [pI a4]) eq1 (ctJ0_length_8abf5 _ _ _ _ _ _ fu q1  M _ eM2) tb_1214 tb_2358 tb_1212 tb_1213 tb_21 ⟨rfl, hyJ0_length_8abf5⟩ rfl rfl ⟨by decide, by decide⟩ (Nat.le_of_ble_eq_true rfl) dX16_endsWith_44 ?_
    refine g_icmp_ge X (pc := 47) (tgt := 86) dX16_endsWith_47 (by decide) (fun hc => ?_) (fun hc => ?_)
    · have h := (if_pos hc).symm.trans h
      refine g_iconst X (pc := 86) (v := 1) dX16_endsWith_86 (by decide) ?_
      obtain ⟨hz, rfl⟩ := rN_some h
      exact g_nreturn X rfl hz hE dX16_endsWith_87
    · have h := (if_neg hc).symm.trans h
      refine g_aload_n X (pc := 50) 0 rfl rfl dX16_endsWith_50 ?_
      obtain ⟨v4, ev4, h⟩ := bd h
      refine g_getR X (pc := 51) fk_16_13 rfl rfl ev4 tb_1827 dX16_endsWith_51 ?_
      refine g_bipush X (pc := 54) (v := 48) dX16_endsWith_54 (by decide) ?_
      refine g_iload_n X (pc := 56) 1 rfl rfl dX16_endsWith_56 ?_
      refine g_imul X (pc := 57) dX16_endsWith_57 ?_
      refine g_iload_n X (pc := 58) 3 rfl rfl dX16_endsWith_58 ?_
      refine g_iadd X (pc := 59) dX16_endsWith_59 ?_
      refine g_aload_n X (pc := 60) 2 rfl rfl dX16_endsWith_60 ?_
      obtain ⟨q5, eq5, h⟩ := bd h
      obtain ⟨v7, M6, eM6, h⟩ := b2d h
      refine g_callVS X (pc := 61) (M' := M6) (ro := some (pI v7)) (as := []) (as' := []) (st := [pI (((48 : Int32) * a1) + a3), pR v4]) eq5 (ctJ0_length_8abf5 _ _ _ _ _ _ fu q5  M2 _ eM6) tb_1214 tb_2358 tb_1212 tb_1213 tb_21 ⟨rfl, hyJ0_length_8abf5⟩ rfl rfl ⟨by decide, by decide⟩ (Nat.le_of_ble_eq_true rfl) dX16_endsWith_61 ?_
      refine g_isub X (pc := 64) dX16_endsWith_64 ?_
      refine g_iload X (pc := 65) 4 rfl dX16_endsWith_65 ?_
      refine g_iadd X (pc := 67) dX16_endsWith_67 ?_
      obtain ⟨v8, ev8, h⟩ := bd h
      refine g_baload X (pc := 68) ev8 dX16_endsWith_68 ?_
      refine g_aload_n X (pc := 69) 2 rfl rfl dX16_endsWith_69 ?_
      refine g_iload X (pc := 70) 4 rfl dX16_endsWith_70 ?_
      obtain ⟨q9, eq9, h⟩ := bd h
      obtain ⟨v11, M10, eM10, h⟩ := b2d h
      refine g_callVS X (pc := 72) (M' := M10) (ro := some (pI v11)) (as := [pI a4]) (as' := [pI a4]) (st := [pI v8]) eq9 (ctJ0_charAt_5068e _ _ _ _ _ _ fu q9 a4 M6 _ eM10) tb_1224 tb_2359 tb_1222 tb_1223 tb_21 ⟨rfl, hyJ0_charAt_5068e⟩ rfl rfl ⟨by decide, by decide⟩ (Nat.le_of_ble_eq_true rfl) dX16_endsWith_72 ?_
      refine g_icmp_eq X (pc := 75) (tgt := 80) dX16_endsWith_75 (by decide) (fun hc => ?_) (fun hc => ?_)
      · have h := (if_pos hc).symm.trans h
        refine g_iinc X (pc := 80) 4 [(4, pI (a4 + (1 : Int32))), (0, pR (some a0)), (1, pI a1), (2, pR a2), (3, pI a3)] rfl (iinc_e (by decide)) (lt_n hn (by decide)) rfl dX16_endsWith_80 ?_
        refine g_goto X (pc := 83) (tgt := 41) dX16_endsWith_83 (by decide) ?_
        refine g_sub [1, 2, 3, 4, 0] [(0, pR (some a0)), (1, pI a1), (2, pR a2), (3, pI a3), (4, pI (a4 + (1 : Int32)))] rfl ?_
        exact ih a0 a1 a2 a3 (a4 + (1 : Int32)) M10 h
      · have h := (if_neg hc).symm.trans h
        refine g_iconst X (pc := 78) (v := 0) dX16_endsWith_78 (by decide) ?_
        obtain ⟨hz, rfl⟩ := rN_some h
        exact g_nreturn X rfl hz hE dX16_endsWith_79
theorem wX16_endsWith_L28 {x : GX} {n0 sl0 : Nat} (X : Cx x cX16_endsWith RX16 (some .boolean) n0 sl0 5 106) {out : Int32 × Mm} (hE : Ends x n0 sl0 (some (pI out.1)) out.2) (hn : xn x = 5) (fu : Nat)   (a0 : Nat) (a1 : Int32) (a2 : Option Nat) (a3 : Int32)  (M : Mm) (h : fX16_endsWith_L28 fu  a0 a1 a2 a3 M = some out) : Gw x M 28 [(0, pR (some a0)), (1, pI a1), (2, pR a2), (3, pI a3)] [] := by
  unfold fX16_endsWith_L28 at h
  refine g_iload_n X (pc := 28) 3 rfl rfl dX16_endsWith_28 ?_
  refine g_aload_n X (pc := 29) 2 rfl rfl dX16_endsWith_29 ?_
  obtain ⟨q1, eq1, h⟩ := bd h
  obtain ⟨v3, M2, eM2, h⟩ := b2d h
  refine g_callVS X (pc := 30) (M' := M2) (ro := some (pI v3)) (as := []) (as' := []) (st := [pI a3]) eq1 (ctJ0_length_8abf5 _ _ _ _ _ _ fu q1  M _ eM2) tb_1214 tb_2358 tb_1212 tb_1213 tb_21 ⟨rfl, hyJ0_length_8abf5⟩ rfl rfl ⟨by decide, by decide⟩ (Nat.le_of_ble_eq_true rfl) dX16_endsWith_30 ?_
  refine g_icmp_ge X (pc := 33) (tgt := 38) dX16_endsWith_33 (by decide) (fun hc => ?_) (fun hc => ?_)
  · have h := (if_pos hc).symm.trans h
    refine g_iconst X (pc := 38) (v := 0) dX16_endsWith_38 (by decide) ?_
    refine g_istore X (pc := 39) [(4, pI (0 : Int32)), (0, pR (some a0)), (1, pI a1), (2, pR a2), (3, pI a3)] (lt_n hn (by decide)) rfl dX16_endsWith_39 ?_
    refine g_sub [1, 2, 3, 4, 0] [(0, pR (some a0)), (1, pI a1), (2, pR a2), (3, pI a3), (4, pI (0 : Int32))] rfl ?_
    exact wX16_endsWith_L41 X hE hn fu   fu a0 a1 a2 a3 (0 : Int32) M2 h
  · have h := (if_neg hc).symm.trans h
    refine g_iconst X (pc := 36) (v := 0) dX16_endsWith_36 (by decide) ?_
    obtain ⟨hz, rfl⟩ := rN_some h
    exact g_nreturn X rfl hz hE dX16_endsWith_37
theorem wX16_endsWith_L2 {x : GX} {n0 sl0 : Nat} (X : Cx x cX16_endsWith RX16 (some .boolean) n0 sl0 5 106) {out : Int32 × Mm} (hE : Ends x n0 sl0 (some (pI out.1)) out.2) (hn : xn x = 5) (fu : Nat)   : ∀ (n : Nat) (a0 : Nat) (a1 : Int32) (a2 : Option Nat) (a3 : Int32)  (M : Mm), fX16_endsWith_L2 fu  n a0 a1 a2 a3 M = some out → Gw x M 2 [(0, pR (some a0)), (1, pI a1), (2, pR a2), (3, pI a3)] [] := by
  intro n
  induction n with
  | zero =>
    intro a0 a1 a2 a3 M h
    have h : (none : Option (Int32 × Mm)) = some out := h
    cases h
  | succ n ih =>
    intro a0 a1 a2 a3 M h
    rw [fX16_endsWith_L2] at h
    refine g_iload_n X (pc := 2) 3 rfl rfl dX16_endsWith_2 ?_
    refine g_bipush X (pc := 3) (v := 48) dX16_endsWith_3 (by decide) ?_
    refine g_icmp_ge X (pc := 5) (tgt := 28) dX16_endsWith_5 (by decide) (fun hc => ?_) (fun hc => ?_)
    · have h := (if_pos hc).symm.trans h
      exact wX16_endsWith_L28 X hE hn fu   a0 a1 a2 a3 M h
    · have h := (if_neg hc).symm.trans h
      refine g_aload_n X (pc := 8) 0 rfl rfl dX16_endsWith_8 ?_
      obtain ⟨v1, ev1, h⟩ := bd h
      refine g_getR X (pc := 9) fk_16_13 rfl rfl ev1 tb_1827 dX16_endsWith_9 ?_
      refine g_bipush X (pc := 12) (v := 48) dX16_endsWith_12 (by decide) ?_
      refine g_iload_n X (pc := 14) 1 rfl rfl dX16_endsWith_14 ?_
      refine g_imul X (pc := 15) dX16_endsWith_15 ?_
      refine g_iload_n X (pc := 16) 3 rfl rfl dX16_endsWith_16 ?_
      refine g_iadd X (pc := 17) dX16_endsWith_17 ?_
      obtain ⟨v2, ev2, h⟩ := bd h
      refine g_baload X (pc := 18) ev2 dX16_endsWith_18 ?_
      refine g_if_eq X (pc := 19) (tgt := 28) dX16_endsWith_19 (by decide) (fun hc => ?_) (fun hc => ?_)
      · have h := (if_pos hc).symm.trans h
        exact wX16_endsWith_L28 X hE hn fu   a0 a1 a2 a3 M h
      · have h := (if_neg hc).symm.trans h
        refine g_iinc X (pc := 22) 3 [(3, pI (a3 + (1 : Int32))), (0, pR (some a0)), (1, pI a1), (2, pR a2)] rfl (iinc_e (by decide)) (lt_n hn (by decide)) rfl dX16_endsWith_22 ?_
        refine g_goto X (pc := 25) (tgt := 2) dX16_endsWith_25 (by decide) ?_
        refine g_sub [1, 2, 3, 0] [(0, pR (some a0)), (1, pI a1), (2, pR a2), (3, pI (a3 + (1 : Int32)))] rfl ?_
        exact ih a0 a1 a2 (a3 + (1 : Int32)) M h
theorem wX16_endsWith {x : GX} {n0 sl0 : Nat} (X : Cx x cX16_endsWith RX16 (some .boolean) n0 sl0 5 106) {out : Int32 × Mm} (hE : Ends x n0 sl0 (some (pI out.1)) out.2) (hn : xn x = 5) (fu : Nat)   (a0 : Nat) (a1 : Int32) (a2 : Option Nat)  (M : Mm) (h : fX16_endsWith fu  a0 a1 a2 M = some out) : Gw x M 0 [(0, pR (some a0)), (1, pI a1), (2, pR a2)] [] := by
  unfold fX16_endsWith at h
  refine g_iconst X (pc := 0) (v := 0) dX16_endsWith_0 (by decide) ?_
  refine g_istore_n X (pc := 1) [(3, pI (0 : Int32)), (0, pR (some a0)), (1, pI a1), (2, pR a2)] rfl (lt_n hn (by decide)) rfl dX16_endsWith_1 ?_
  refine g_sub [1, 2, 3, 0] [(0, pR (some a0)), (1, pI a1), (2, pR a2), (3, pI (0 : Int32))] rfl ?_
  exact wX16_endsWith_L2 X hE hn fu   fu a0 a1 a2 (0 : Int32) M h
theorem hyX16_endsWith : yX16_endsWith.cls ≠ "java/lang/invoke/MethodHandle" ∧ yX16_endsWith.cls ≠ "java/lang/invoke/VarHandle" ∧ (parseMethodDescriptor yX16_endsWith.desc).map (fun d => d.parameters.length) = some 2 := ⟨by decide +kernel, by decide +kernel, by decide +kernel⟩
theorem ctX16_endsWith (l : Launch) (E : Nat → Nat) (D : va_G) (dA : Nat → ClassId) (lo : Nat) (H0 : Heap) (fu : Nat) (a0 : Nat) (a1 : Int32) (a2 : Option Nat) (M : Mm) (out : Int32 × Mm) (h : fX16_endsWith fu a0 a1 a2 M = some out) : Ct l E D dA lo H0 yX16_endsWith cX16_endsWith 5 (some .boolean) 5 106 [pR (some a0), pI a1, pR a2] M (some (pI out.1)) out.2 := by
  refine ct_of (by decide +kernel) (Nat.le_of_ble_eq_true rfl) ?_
  intro x hl he hd ha ho hh hn hin X hE
  exact wX16_endsWith X hE hn fu a0 a1 a2 M h
/-! WebHostModel.type(I)Ljava/lang/String; -/
def fX16_type (fu : Nat)  (a0 : Nat) (a1 : Int32)  (M : Mm) : Option (Option Nat × Mm) :=
    if a1 < 0 then (
    some ((some 34), M))
    else (
    (rc M 16 (some a0)).bind fun q1 =>
    b2 (fX16_endsWith fu q1 a1 (some 33) M) fun v3 M2 =>
    if v3 = 0 then (
    (rc M2 16 (some a0)).bind fun q4 =>
    b2 (fX16_endsWith fu q4 a1 (some 27) M2) fun v6 M5 =>
    if v6 = 0 then (
    (rc M5 16 (some a0)).bind fun q7 =>
    b2 (fX16_endsWith fu q7 a1 (some 29) M5) fun v9 M8 =>
    if v9 = 0 then (
    (rc M8 16 (some a0)).bind fun q10 =>
    b2 (fX16_endsWith fu q10 a1 (some 31) M8) fun v12 M11 =>
    if v12 = 0 then (
    (rc M11 16 (some a0)).bind fun q13 =>
    b2 (fX16_endsWith fu q13 a1 (some 35) M11) fun v15 M14 =>
    if v15 = 0 then (
    some ((some 37), M14))
    else (
    some ((some 36), M14)))
    else (
    some ((some 32), M11)))
    else (
    some ((some 30), M8)))
    else (
    some ((some 28), M5)))
    else (
    some ((some 34), M2)))
theorem dX16_type_0 : decode cX16_type 0 = .ok (.iload_n 1, 1) := by decide +kernel
theorem dX16_type_1 : decode cX16_type 1 = .ok (.ifCond .lt 14, 3) := by decide +kernel
theorem dX16_type_4 : decode cX16_type 4 = .ok (.aload_n 0, 1) := by decide +kernel
theorem dX16_type_5 : decode cX16_type 5 = .ok (.iload_n 1, 1) := by decide +kernel
theorem dX16_type_6 : decode cX16_type 6 = .ok (.ldc_w 810, 3) := by decide +kernel
theorem dX16_type_9 : decode cX16_type 9 = .ok (.invokevirtual 812, 3) := by decide +kernel
theorem dX16_type_12 : decode cX16_type 12 = .ok (.ifCond .eq 7, 3) := by decide +kernel
theorem dX16_type_15 : decode cX16_type 15 = .ok (.ldc_w 816, 3) := by decide +kernel
theorem dX16_type_18 : decode cX16_type 18 = .ok (.areturn, 1) := by decide +kernel
theorem dX16_type_19 : decode cX16_type 19 = .ok (.aload_n 0, 1) := by decide +kernel
theorem dX16_type_20 : decode cX16_type 20 = .ok (.iload_n 1, 1) := by decide +kernel
theorem dX16_type_21 : decode cX16_type 21 = .ok (.ldc_w 818, 3) := by decide +kernel
theorem dX16_type_24 : decode cX16_type 24 = .ok (.invokevirtual 812, 3) := by decide +kernel
theorem dX16_type_27 : decode cX16_type 27 = .ok (.ifCond .eq 7, 3) := by decide +kernel
theorem dX16_type_30 : decode cX16_type 30 = .ok (.ldc_w 820, 3) := by decide +kernel
theorem dX16_type_33 : decode cX16_type 33 = .ok (.areturn, 1) := by decide +kernel
theorem dX16_type_34 : decode cX16_type 34 = .ok (.aload_n 0, 1) := by decide +kernel
theorem dX16_type_35 : decode cX16_type 35 = .ok (.iload_n 1, 1) := by decide +kernel
theorem dX16_type_36 : decode cX16_type 36 = .ok (.ldc_w 822, 3) := by decide +kernel
theorem dX16_type_39 : decode cX16_type 39 = .ok (.invokevirtual 812, 3) := by decide +kernel
theorem dX16_type_42 : decode cX16_type 42 = .ok (.ifCond .eq 7, 3) := by decide +kernel
theorem dX16_type_45 : decode cX16_type 45 = .ok (.ldc_w 824, 3) := by decide +kernel
theorem dX16_type_48 : decode cX16_type 48 = .ok (.areturn, 1) := by decide +kernel
theorem dX16_type_49 : decode cX16_type 49 = .ok (.aload_n 0, 1) := by decide +kernel
theorem dX16_type_50 : decode cX16_type 50 = .ok (.iload_n 1, 1) := by decide +kernel
theorem dX16_type_51 : decode cX16_type 51 = .ok (.ldc_w 826, 3) := by decide +kernel
theorem dX16_type_54 : decode cX16_type 54 = .ok (.invokevirtual 812, 3) := by decide +kernel
theorem dX16_type_57 : decode cX16_type 57 = .ok (.ifCond .eq 7, 3) := by decide +kernel
theorem dX16_type_60 : decode cX16_type 60 = .ok (.ldc_w 828, 3) := by decide +kernel
theorem dX16_type_63 : decode cX16_type 63 = .ok (.areturn, 1) := by decide +kernel
theorem dX16_type_64 : decode cX16_type 64 = .ok (.aload_n 0, 1) := by decide +kernel
theorem dX16_type_65 : decode cX16_type 65 = .ok (.iload_n 1, 1) := by decide +kernel
theorem dX16_type_66 : decode cX16_type 66 = .ok (.ldc_w 830, 3) := by decide +kernel
theorem dX16_type_69 : decode cX16_type 69 = .ok (.invokevirtual 812, 3) := by decide +kernel
theorem dX16_type_72 : decode cX16_type 72 = .ok (.ifCond .eq 9, 3) := by decide +kernel
theorem dX16_type_75 : decode cX16_type 75 = .ok (.ldc_w 832, 3) := by decide +kernel
theorem dX16_type_78 : decode cX16_type 78 = .ok (.goto 6, 3) := by decide +kernel
theorem dX16_type_81 : decode cX16_type 81 = .ok (.ldc_w 834, 3) := by decide +kernel
theorem dX16_type_84 : decode cX16_type 84 = .ok (.areturn, 1) := by decide +kernel
theorem wX16_type {x : GX} {n0 sl0 : Nat} (X : Cx x cX16_type RX16 (some (.object "java/lang/String")) n0 sl0 6 130) {out : Option Nat × Mm} (hE : Ends x n0 sl0 (some (pR out.1)) out.2) (hn : xn x = 2) (fu : Nat)   (a0 : Nat) (a1 : Int32)  (M : Mm) (h : fX16_type fu  a0 a1 M = some out) : Gw x M 0 [(0, pR (some a0)), (1, pI a1)] [] := by
  unfold fX16_type at h
  refine g_iload_n X (pc := 0) 1 rfl rfl dX16_type_0 ?_
  refine g_if_lt X (pc := 1) (tgt := 15) dX16_type_1 (by decide) (fun hc => ?_) (fun hc => ?_)
  · have h := (if_pos hc).symm.trans h
    refine g_ldcwS X (pc := 15) (List.mem_of_getElem? (i := 69) rfl) dX16_type_15 ?_
    obtain rfl := Option.some.inj h
    exact g_areturn X rfl (Or.inl ⟨_, rfl⟩) hE dX16_type_18
  · have h := (if_neg hc).symm.trans h
    refine g_aload_n X (pc := 4) 0 rfl rfl dX16_type_4 ?_
    refine g_iload_n X (pc := 5) 1 rfl rfl dX16_type_5 ?_
    refine g_ldcwS X (pc := 6) (List.mem_of_getElem? (i := 68) rfl) dX16_type_6 ?_
    obtain ⟨q1, eq1, h⟩ := bd h
    obtain ⟨v3, M2, eM2, h⟩ := b2d h
    refine g_callV X (pc := 9) (M' := M2) (ro := some (pI v3)) (c := 16) rfl (by decide) (as := [pI a1, pR (some 33)]) (as' := [pR (some 33), pI a1]) (st := []) eq1 (ctX16_endsWith _ _ _ _ _ _ fu q1 a1 (some 33) M _ eM2) tb_2466 tb_2463 tb_2465 ts_140 tb_8 ⟨rfl, hyX16_endsWith⟩ rfl rfl ⟨by decide, by decide⟩ (Nat.le_of_ble_eq_true rfl) dX16_type_9 ?_
    refine g_if_eq X (pc := 12) (tgt := 19) dX16_type_12 (by decide) (fun hc => ?_) (fun hc => ?_)
    · have h := (if_pos hc).symm.trans h
      refine g_aload_n X (pc := 19) 0 rfl rfl dX16_type_19 ?_
      refine g_iload_n X (pc := 20) 1 rfl rfl dX16_type_20 ?_
      refine g_ldcwS X (pc := 21) (List.mem_of_getElem? (i := 70) rfl) dX16_type_21 ?_
      obtain ⟨q4, eq4, h⟩ := bd h
      obtain ⟨v6, M5, eM5, h⟩ := b2d h
      refine g_callV X (pc := 24) (M' := M5) (ro := some (pI v6)) (c := 16) rfl (by decide) (as := [pI a1, pR (some 27)]) (as' := [pR (some 27), pI a1]) (st := []) eq4 (ctX16_endsWith _ _ _ _ _ _ fu q4 a1 (some 27) M2 _ eM5) tb_2466 tb_2463 tb_2465 ts_140 tb_8 ⟨rfl, hyX16_endsWith⟩ rfl rfl ⟨by decide, by decide⟩ (Nat.le_of_ble_eq_true rfl) dX16_type_24 ?_
      refine g_if_eq X (pc := 27) (tgt := 34) dX16_type_27 (by decide) (fun hc => ?_) (fun hc => ?_)
      · have h := (if_pos hc).symm.trans h
        refine g_aload_n X (pc := 34) 0 rfl rfl dX16_type_34 ?_
        refine g_iload_n X (pc := 35) 1 rfl rfl dX16_type_35 ?_
        refine g_ldcwS X (pc := 36) (List.mem_of_getElem? (i := 72) rfl) dX16_type_36 ?_
        obtain ⟨q7, eq7, h⟩ := bd h
        obtain ⟨v9, M8, eM8, h⟩ := b2d h
        refine g_callV X (pc := 39) (M' := M8) (ro := some (pI v9)) (c := 16) rfl (by decide) (as := [pI a1, pR (some 29)]) (as' := [pR (some 29), pI a1]) (st := []) eq7 (ctX16_endsWith _ _ _ _ _ _ fu q7 a1 (some 29) M5 _ eM8) tb_2466 tb_2463 tb_2465 ts_140 tb_8 ⟨rfl, hyX16_endsWith⟩ rfl rfl ⟨by decide, by decide⟩ (Nat.le_of_ble_eq_true rfl) dX16_type_39 ?_
        refine g_if_eq X (pc := 42) (tgt := 49) dX16_type_42 (by decide) (fun hc => ?_) (fun hc => ?_)
        · have h := (if_pos hc).symm.trans h
          refine g_aload_n X (pc := 49) 0 rfl rfl dX16_type_49 ?_
          refine g_iload_n X (pc := 50) 1 rfl rfl dX16_type_50 ?_
          refine g_ldcwS X (pc := 51) (List.mem_of_getElem? (i := 74) rfl) dX16_type_51 ?_
          obtain ⟨q10, eq10, h⟩ := bd h
          obtain ⟨v12, M11, eM11, h⟩ := b2d h
          refine g_callV X (pc := 54) (M' := M11) (ro := some (pI v12)) (c := 16) rfl (by decide) (as := [pI a1, pR (some 31)]) (as' := [pR (some 31), pI a1]) (st := []) eq10 (ctX16_endsWith _ _ _ _ _ _ fu q10 a1 (some 31) M8 _ eM11) tb_2466 tb_2463 tb_2465 ts_140 tb_8 ⟨rfl, hyX16_endsWith⟩ rfl rfl ⟨by decide, by decide⟩ (Nat.le_of_ble_eq_true rfl) dX16_type_54 ?_
          refine g_if_eq X (pc := 57) (tgt := 64) dX16_type_57 (by decide) (fun hc => ?_) (fun hc => ?_)
          · have h := (if_pos hc).symm.trans h
            refine g_aload_n X (pc := 64) 0 rfl rfl dX16_type_64 ?_
            refine g_iload_n X (pc := 65) 1 rfl rfl dX16_type_65 ?_
            refine g_ldcwS X (pc := 66) (List.mem_of_getElem? (i := 76) rfl) dX16_type_66 ?_
            obtain ⟨q13, eq13, h⟩ := bd h
            obtain ⟨v15, M14, eM14, h⟩ := b2d h
            refine g_callV X (pc := 69) (M' := M14) (ro := some (pI v15)) (c := 16) rfl (by decide) (as := [pI a1, pR (some 35)]) (as' := [pR (some 35), pI a1]) (st := []) eq13 (ctX16_endsWith _ _ _ _ _ _ fu q13 a1 (some 35) M11 _ eM14) tb_2466 tb_2463 tb_2465 ts_140 tb_8 ⟨rfl, hyX16_endsWith⟩ rfl rfl ⟨by decide, by decide⟩ (Nat.le_of_ble_eq_true rfl) dX16_type_69 ?_
            refine g_if_eq X (pc := 72) (tgt := 81) dX16_type_72 (by decide) (fun hc => ?_) (fun hc => ?_)
            · have h := (if_pos hc).symm.trans h
              refine g_ldcwS X (pc := 81) (List.mem_of_getElem? (i := 78) rfl) dX16_type_81 ?_
              obtain rfl := Option.some.inj h
              exact g_areturn X rfl (Or.inl ⟨_, rfl⟩) hE dX16_type_84
            · have h := (if_neg hc).symm.trans h
              refine g_ldcwS X (pc := 75) (List.mem_of_getElem? (i := 77) rfl) dX16_type_75 ?_
              refine g_goto X (pc := 78) (tgt := 84) dX16_type_78 (by decide) ?_
              obtain rfl := Option.some.inj h
              exact g_areturn X rfl (Or.inl ⟨_, rfl⟩) hE dX16_type_84
          · have h := (if_neg hc).symm.trans h
            refine g_ldcwS X (pc := 60) (List.mem_of_getElem? (i := 75) rfl) dX16_type_60 ?_
            obtain rfl := Option.some.inj h
            exact g_areturn X rfl (Or.inl ⟨_, rfl⟩) hE dX16_type_63
        · have h := (if_neg hc).symm.trans h
          refine g_ldcwS X (pc := 45) (List.mem_of_getElem? (i := 73) rfl) dX16_type_45 ?_
          obtain rfl := Option.some.inj h
          exact g_areturn X rfl (Or.inl ⟨_, rfl⟩) hE dX16_type_48
      · have h := (if_neg hc).symm.trans h
        refine g_ldcwS X (pc := 30) (List.mem_of_getElem? (i := 71) rfl) dX16_type_30 ?_
        obtain rfl := Option.some.inj h
        exact g_areturn X rfl (Or.inl ⟨_, rfl⟩) hE dX16_type_33
    · have h := (if_neg hc).symm.trans h
      refine g_ldcwS X (pc := 15) (List.mem_of_getElem? (i := 69) rfl) dX16_type_15 ?_
      obtain rfl := Option.some.inj h
      exact g_areturn X rfl (Or.inl ⟨_, rfl⟩) hE dX16_type_18
theorem hyX16_type : yX16_type.cls ≠ "java/lang/invoke/MethodHandle" ∧ yX16_type.cls ≠ "java/lang/invoke/VarHandle" ∧ (parseMethodDescriptor yX16_type.desc).map (fun d => d.parameters.length) = some 1 := ⟨by decide +kernel, by decide +kernel, by decide +kernel⟩
theorem ctX16_type (l : Launch) (E : Nat → Nat) (D : va_G) (dA : Nat → ClassId) (lo : Nat) (H0 : Heap) (fu : Nat) (a0 : Nat) (a1 : Int32) (M : Mm) (out : Option Nat × Mm) (h : fX16_type fu a0 a1 M = some out) : Ct l E D dA lo H0 yX16_type cX16_type 2 (some (.object "java/lang/String")) 6 130 [pR (some a0), pI a1] M (some (pR out.1)) out.2 := by
  refine ct_of (by decide +kernel) (Nat.le_of_ble_eq_true rfl) ?_
  intro x hl he hd ha ho hh hn hin X hE
  exact wX16_type X hE hn fu a0 a1 M h
/-! WebHostModel.make(LWebHostModel$Connection;IZ)V -/
def fX16_make_L308 (fu : Nat)  (a0 : Nat) (a1 : Option Nat) (a2 : Int32) (a5 : Int32) (s0 : Option Nat) (s1 : Int32) (M : Mm) : Option (Mm) :=
    (pF M 12 796 s0 s1).bind fun M1 =>
    if a5 = 0 then (
    some M1)
    else (
    if 0 ≤ a2 then (
    some M1)
    else (
    (gI M1 16 1067 (some a0)).bind fun v2 =>
    (rc M1 16 (some a0)).bind fun q3 =>
    (fX16_sayNumber fu q3 a1 v2 M1).bind fun M4 =>
    (rc M4 16 (some a0)).bind fun q5 =>
    (fX16_code fu q5 a1 (32 : Int32) M4).bind fun M6 =>
    (gI M6 16 1067 (some a0)).bind fun v7 =>
    b2 (fX16_phrase fu  v7 M6) fun v9 M8 =>
    (rc M8 16 (some a0)).bind fun q10 =>
    (fX16_say fu q10 a1 v9 M8).bind fun M11 =>
    (rc M11 16 (some a0)).bind fun q12 =>
    (fX16_code fu q12 a1 (10 : Int32) M11).bind fun M13 =>
    some M13))
def fX16_make_L307 (fu : Nat)  (a0 : Nat) (a1 : Option Nat) (a2 : Int32) (a5 : Int32) (s0 : Option Nat) (M : Mm) : Option (Mm) :=
    fX16_make_L308 fu  a0 a1 a2 a5 s0 (0 : Int32) M
def fX16_make_L289 (fu : Nat)  (a0 : Nat) (a1 : Option Nat) (a2 : Int32) (a4 : Int32) (a5 : Int32) (s0 : Option Nat) (s1 : Int32) (M : Mm) : Option (Mm) :=
    (pF M 12 795 s0 s1).bind fun M1 =>
    if a5 = 0 then (
    fX16_make_L307 fu  a0 a1 a2 a5 a1 M1)
    else (
    if a2 < 0 then (
    fX16_make_L307 fu  a0 a1 a2 a5 a1 M1)
    else (
    fX16_make_L308 fu  a0 a1 a2 a5 a1 a4 M1))
def fX16_make_L272 (fu : Nat)  (a0 : Nat) (a1 : Option Nat) (a2 : Int32) (a4 : Int32) (s0 : Int32) (M : Mm) : Option (Mm) :=
    if a2 < 0 then (
    fX16_make_L289 fu  a0 a1 a2 a4 s0 a1 (0 : Int32) M)
    else (
    (gR M 16 1038 (some a0)).bind fun v1 =>
    (gA M 101 v1 a2).bind fun v2 =>
    fX16_make_L289 fu  a0 a1 a2 a4 s0 a1 v2 M)
def fX16_make_L271 (fu : Nat)  (a0 : Nat) (a1 : Option Nat) (a2 : Int32) (a4 : Int32)  (M : Mm) : Option (Mm) :=
    fX16_make_L272 fu  a0 a1 a2 a4 (0 : Int32) M
def fX16_make_L245 (fu : Nat)  (a0 : Nat) (a1 : Option Nat) (a2 : Int32) (a4 : Int32)  (M : Mm) : Option (Mm) :=
    (rc M 16 (some a0)).bind fun q1 =>
    (fX16_line fu q1 a1 M).bind fun M2 =>
    (gI M2 16 1068 (some a0)).bind fun v3 =>
    if v3 = 0 then (
    (gI M2 16 1067 (some a0)).bind fun v4 =>
    if v4 = (304 : Int32) then (
    fX16_make_L271 fu  a0 a1 a2 a4 M2)
    else (
    fX16_make_L272 fu  a0 a1 a2 a4 (1 : Int32) M2))
    else (
    fX16_make_L271 fu  a0 a1 a2 a4 M2)
def fX16_make_L228 (fu : Nat)  (a0 : Nat) (a1 : Option Nat) (a2 : Int32) (a3 : Int32) (a4 : Int32)  (M : Mm) : Option (Mm) :=
    if a3 = 0 then (
    fX16_make_L245 fu  a0 a1 a2 a4 M)
    else (
    (rc M 16 (some a0)).bind fun q1 =>
    (fX16_say fu q1 a1 (some 49) M).bind fun M2 =>
    (rc M2 16 (some a0)).bind fun q3 =>
    (fX16_line fu q3 a1 M2).bind fun M4 =>
    fX16_make_L245 fu  a0 a1 a2 a4 M4)
def fX16_make_L205 (fu : Nat)  (a0 : Nat) (a1 : Option Nat) (a2 : Int32) (a3 : Int32) (a4 : Int32)  (M : Mm) : Option (Mm) :=
    (gI M 16 1067 (some a0)).bind fun v1 =>
    if v1 = (405 : Int32) then (
    (rc M 16 (some a0)).bind fun q2 =>
    (fX16_say fu q2 a1 (some 48) M).bind fun M3 =>
    (rc M3 16 (some a0)).bind fun q4 =>
    (fX16_line fu q4 a1 M3).bind fun M5 =>
    fX16_make_L228 fu  a0 a1 a2 a3 a4 M5)
    else (
    fX16_make_L228 fu  a0 a1 a2 a3 a4 M)
def fX16_make_L164 (fu : Nat)  : Nat → Nat → Option Nat → Int32 → Int32 → Int32 → Int32 → Mm → Option (Mm)
  | 0, _, _, _, _, _, _, _ => none
  | n + 1, a0, a1, a2, a3, a4, a5, M =>
    if (8 : Int32) ≤ a5 then (
    (rc M 16 (some a0)).bind fun q1 =>
    (fX16_code fu q1 a1 (34 : Int32) M).bind fun M2 =>
    (rc M2 16 (some a0)).bind fun q3 =>
    (fX16_line fu q3 a1 M2).bind fun M4 =>
    fX16_make_L205 fu  a0 a1 a2 a3 a4 M4)
    else (
    (gR M 16 1040 (some a0)).bind fun v5 =>
    (gA M 101 v5 a2).bind fun v6 =>
    b2 (fX16_hexDigit fu  v6 a5 M) fun v8 M7 =>
    (rc M7 16 (some a0)).bind fun q9 =>
    (fX16_code fu q9 a1 v8 M7).bind fun M10 =>
    fX16_make_L164 fu  n a0 a1 a2 a3 a4 (a5 + (1 : Int32)) M10)
def fX16_make_L149 (fu : Nat)  (a0 : Nat) (a1 : Option Nat) (a2 : Int32) (a3 : Int32) (a4 : Int32)  (M : Mm) : Option (Mm) :=
    if a2 < 0 then (
    fX16_make_L205 fu  a0 a1 a2 a3 a4 M)
    else (
    (rc M 16 (some a0)).bind fun q1 =>
    (fX16_say fu q1 a1 (some 47) M).bind fun M2 =>
    fX16_make_L164 fu  fu a0 a1 a2 a3 a4 (0 : Int32) M2)
def fX16_make_L94 (fu : Nat)  (a0 : Nat) (a1 : Option Nat) (a2 : Int32) (a3 : Int32) (s0 : Int32) (M : Mm) : Option (Mm) :=
    (gI M 16 1067 (some a0)).bind fun v1 =>
    if v1 = (304 : Int32) then (
    fX16_make_L149 fu  a0 a1 a2 a3 s0 M)
    else (
    (rc M 16 (some a0)).bind fun q2 =>
    (fX16_say fu q2 a1 (some 45) M).bind fun M3 =>
    (rc M3 16 (some a0)).bind fun q4 =>
    (fX16_sayNumber fu q4 a1 s0 M3).bind fun M5 =>
    (rc M5 16 (some a0)).bind fun q6 =>
    (fX16_line fu q6 a1 M5).bind fun M7 =>
    (rc M7 16 (some a0)).bind fun q8 =>
    (fX16_say fu q8 a1 (some 46) M7).bind fun M9 =>
    (rc M9 16 (some a0)).bind fun q10 =>
    b2 (fX16_type fu q10 a2 M9) fun v12 M11 =>
    (rc M11 16 (some a0)).bind fun q13 =>
    (fX16_say fu q13 a1 v12 M11).bind fun M14 =>
    (rc M14 16 (some a0)).bind fun q15 =>
    (fX16_line fu q15 a1 M14).bind fun M16 =>
    fX16_make_L149 fu  a0 a1 a2 a3 s0 M16)
def fX16_make (fu : Nat)  (a0 : Nat) (a1 : Option Nat) (a2 : Int32) (a3 : Int32)  (M : Mm) : Option (Mm) :=
    (gR M 16 1041 (some a0)).bind fun v1 =>
    (gA M 101 v1 (4 : Int32)).bind fun v2 =>
    (pA M 101 v1 (4 : Int32) (v2 + (1 : Int32))).bind fun M3 =>
    (gI M3 12 773 a1).bind fun v4 =>
    (pF M3 12 797 a1 v4).bind fun M5 =>
    (pF M5 12 794 a1 (0 : Int32)).bind fun M6 =>
    (pZ M6 12 798 a1 a3).bind fun M7 =>
    (rc M7 16 (some a0)).bind fun q8 =>
    (fX16_say fu q8 a1 (some 23) M7).bind fun M9 =>
    (gI M9 16 1067 (some a0)).bind fun v10 =>
    (rc M9 16 (some a0)).bind fun q11 =>
    (fX16_sayNumber fu q11 a1 v10 M9).bind fun M12 =>
    (rc M12 16 (some a0)).bind fun q13 =>
    (fX16_code fu q13 a1 (32 : Int32) M12).bind fun M14 =>
    (gI M14 16 1067 (some a0)).bind fun v15 =>
    b2 (fX16_phrase fu  v15 M14) fun v17 M16 =>
    (rc M16 16 (some a0)).bind fun q18 =>
    (fX16_say fu q18 a1 v17 M16).bind fun M19 =>
    (rc M19 16 (some a0)).bind fun q20 =>
    (fX16_line fu q20 a1 M19).bind fun M21 =>
    if a2 < 0 then (
    (gI M21 16 1067 (some a0)).bind fun v22 =>
    b2 (fX16_phrase fu  v22 M21) fun v24 M23 =>
    (rcS v24).bind fun q25 =>
    b2 (fJ0_length_8abf5 fu q25  M23) fun v27 M26 =>
    fX16_make_L94 fu  a0 a1 a2 a3 ((5 : Int32) + v27) M26)
    else (
    (gR M21 16 1039 (some a0)).bind fun v28 =>
    (gA M21 101 v28 a2).bind fun v29 =>
    fX16_make_L94 fu  a0 a1 a2 a3 v29 M21)
theorem dX16_make_0 : decode cX16_make 0 = .ok (.aload_n 0, 1) := by decide +kernel
theorem dX16_make_1 : decode cX16_make 1 = .ok (.getfield 31, 3) := by decide +kernel
theorem dX16_make_4 : decode cX16_make 4 = .ok (.iconst 4, 1) := by decide +kernel
theorem dX16_make_5 : decode cX16_make 5 = .ok (.dup2, 1) := by decide +kernel
theorem dX16_make_6 : decode cX16_make 6 = .ok (.iaload, 1) := by decide +kernel
theorem dX16_make_7 : decode cX16_make 7 = .ok (.iconst 1, 1) := by decide +kernel
theorem dX16_make_8 : decode cX16_make 8 = .ok (.iadd, 1) := by decide +kernel
theorem dX16_make_9 : decode cX16_make 9 = .ok (.iastore, 1) := by decide +kernel
theorem dX16_make_10 : decode cX16_make 10 = .ok (.aload_n 1, 1) := by decide +kernel
theorem dX16_make_11 : decode cX16_make 11 = .ok (.aload_n 1, 1) := by decide +kernel
theorem dX16_make_12 : decode cX16_make 12 = .ok (.getfield 345, 3) := by decide +kernel
theorem dX16_make_15 : decode cX16_make 15 = .ok (.putfield 388, 3) := by decide +kernel
theorem dX16_make_18 : decode cX16_make 18 = .ok (.aload_n 1, 1) := by decide +kernel
theorem dX16_make_19 : decode cX16_make 19 = .ok (.iconst 0, 1) := by decide +kernel
theorem dX16_make_20 : decode cX16_make 20 = .ok (.putfield 391, 3) := by decide +kernel
theorem dX16_make_23 : decode cX16_make 23 = .ok (.aload_n 1, 1) := by decide +kernel
theorem dX16_make_24 : decode cX16_make 24 = .ok (.iload_n 3, 1) := by decide +kernel
theorem dX16_make_25 : decode cX16_make 25 = .ok (.putfield 418, 3) := by decide +kernel
theorem dX16_make_28 : decode cX16_make 28 = .ok (.aload_n 0, 1) := by decide +kernel
theorem dX16_make_29 : decode cX16_make 29 = .ok (.aload_n 1, 1) := by decide +kernel
theorem dX16_make_30 : decode cX16_make 30 = .ok (.ldc_w 836, 3) := by decide +kernel
theorem dX16_make_33 : decode cX16_make 33 = .ok (.invokevirtual 838, 3) := by decide +kernel
theorem dX16_make_36 : decode cX16_make 36 = .ok (.aload_n 0, 1) := by decide +kernel
theorem dX16_make_37 : decode cX16_make 37 = .ok (.aload_n 1, 1) := by decide +kernel
theorem dX16_make_38 : decode cX16_make 38 = .ok (.aload_n 0, 1) := by decide +kernel
theorem dX16_make_39 : decode cX16_make 39 = .ok (.getfield 637, 3) := by decide +kernel
theorem dX16_make_42 : decode cX16_make 42 = .ok (.invokevirtual 842, 3) := by decide +kernel
theorem dX16_make_45 : decode cX16_make 45 = .ok (.aload_n 0, 1) := by decide +kernel
theorem dX16_make_46 : decode cX16_make 46 = .ok (.aload_n 1, 1) := by decide +kernel
theorem dX16_make_47 : decode cX16_make 47 = .ok (.bipush 32, 2) := by decide +kernel
theorem dX16_make_49 : decode cX16_make 49 = .ok (.invokevirtual 789, 3) := by decide +kernel
theorem dX16_make_52 : decode cX16_make 52 = .ok (.aload_n 0, 1) := by decide +kernel
theorem dX16_make_53 : decode cX16_make 53 = .ok (.aload_n 1, 1) := by decide +kernel
theorem dX16_make_54 : decode cX16_make 54 = .ok (.aload_n 0, 1) := by decide +kernel
theorem dX16_make_55 : decode cX16_make 55 = .ok (.getfield 637, 3) := by decide +kernel
theorem dX16_make_58 : decode cX16_make 58 = .ok (.invokestatic 845, 3) := by decide +kernel
theorem dX16_make_61 : decode cX16_make 61 = .ok (.invokevirtual 838, 3) := by decide +kernel
theorem dX16_make_64 : decode cX16_make 64 = .ok (.aload_n 0, 1) := by decide +kernel
theorem dX16_make_65 : decode cX16_make 65 = .ok (.aload_n 1, 1) := by decide +kernel
theorem dX16_make_66 : decode cX16_make 66 = .ok (.invokevirtual 849, 3) := by decide +kernel
theorem dX16_make_69 : decode cX16_make 69 = .ok (.iload_n 2, 1) := by decide +kernel
theorem dX16_make_70 : decode cX16_make 70 = .ok (.ifCond .lt 12, 3) := by decide +kernel
theorem dX16_make_73 : decode cX16_make 73 = .ok (.aload_n 0, 1) := by decide +kernel
theorem dX16_make_74 : decode cX16_make 74 = .ok (.getfield 25, 3) := by decide +kernel
theorem dX16_make_77 : decode cX16_make 77 = .ok (.iload_n 2, 1) := by decide +kernel
theorem dX16_make_78 : decode cX16_make 78 = .ok (.iaload, 1) := by decide +kernel
theorem dX16_make_79 : decode cX16_make 79 = .ok (.goto 15, 3) := by decide +kernel
theorem dX16_make_82 : decode cX16_make 82 = .ok (.iconst 5, 1) := by decide +kernel
theorem dX16_make_83 : decode cX16_make 83 = .ok (.aload_n 0, 1) := by decide +kernel
theorem dX16_make_84 : decode cX16_make 84 = .ok (.getfield 637, 3) := by decide +kernel
theorem dX16_make_87 : decode cX16_make 87 = .ok (.invokestatic 845, 3) := by decide +kernel
theorem dX16_make_90 : decode cX16_make 90 = .ok (.invokevirtual 717, 3) := by decide +kernel
theorem dX16_make_93 : decode cX16_make 93 = .ok (.iadd, 1) := by decide +kernel
theorem dX16_make_94 : decode cX16_make 94 = .ok (.istore 4, 2) := by decide +kernel
theorem dX16_make_96 : decode cX16_make 96 = .ok (.aload_n 0, 1) := by decide +kernel
theorem dX16_make_97 : decode cX16_make 97 = .ok (.getfield 637, 3) := by decide +kernel
theorem dX16_make_100 : decode cX16_make 100 = .ok (.sipush 304, 3) := by decide +kernel
theorem dX16_make_103 : decode cX16_make 103 = .ok (.if_icmp .eq 46, 3) := by decide +kernel
theorem dX16_make_106 : decode cX16_make 106 = .ok (.aload_n 0, 1) := by decide +kernel
theorem dX16_make_107 : decode cX16_make 107 = .ok (.aload_n 1, 1) := by decide +kernel
theorem dX16_make_108 : decode cX16_make 108 = .ok (.ldc_w 852, 3) := by decide +kernel
theorem dX16_make_111 : decode cX16_make 111 = .ok (.invokevirtual 838, 3) := by decide +kernel
theorem dX16_make_114 : decode cX16_make 114 = .ok (.aload_n 0, 1) := by decide +kernel
theorem dX16_make_115 : decode cX16_make 115 = .ok (.aload_n 1, 1) := by decide +kernel
theorem dX16_make_116 : decode cX16_make 116 = .ok (.iload 4, 2) := by decide +kernel
theorem dX16_make_118 : decode cX16_make 118 = .ok (.invokevirtual 842, 3) := by decide +kernel
theorem dX16_make_121 : decode cX16_make 121 = .ok (.aload_n 0, 1) := by decide +kernel
theorem dX16_make_122 : decode cX16_make 122 = .ok (.aload_n 1, 1) := by decide +kernel
theorem dX16_make_123 : decode cX16_make 123 = .ok (.invokevirtual 849, 3) := by decide +kernel
theorem dX16_make_126 : decode cX16_make 126 = .ok (.aload_n 0, 1) := by decide +kernel
theorem dX16_make_127 : decode cX16_make 127 = .ok (.aload_n 1, 1) := by decide +kernel
theorem dX16_make_128 : decode cX16_make 128 = .ok (.ldc_w 854, 3) := by decide +kernel
theorem dX16_make_131 : decode cX16_make 131 = .ok (.invokevirtual 838, 3) := by decide +kernel
theorem dX16_make_134 : decode cX16_make 134 = .ok (.aload_n 0, 1) := by decide +kernel
theorem dX16_make_135 : decode cX16_make 135 = .ok (.aload_n 1, 1) := by decide +kernel
theorem dX16_make_136 : decode cX16_make 136 = .ok (.aload_n 0, 1) := by decide +kernel
theorem dX16_make_137 : decode cX16_make 137 = .ok (.iload_n 2, 1) := by decide +kernel
theorem dX16_make_138 : decode cX16_make 138 = .ok (.invokevirtual 856, 3) := by decide +kernel
theorem dX16_make_141 : decode cX16_make 141 = .ok (.invokevirtual 838, 3) := by decide +kernel
theorem dX16_make_144 : decode cX16_make 144 = .ok (.aload_n 0, 1) := by decide +kernel
theorem dX16_make_145 : decode cX16_make 145 = .ok (.aload_n 1, 1) := by decide +kernel
theorem dX16_make_146 : decode cX16_make 146 = .ok (.invokevirtual 849, 3) := by decide +kernel
theorem dX16_make_149 : decode cX16_make 149 = .ok (.iload_n 2, 1) := by decide +kernel
theorem dX16_make_150 : decode cX16_make 150 = .ok (.ifCond .lt 55, 3) := by decide +kernel
theorem dX16_make_153 : decode cX16_make 153 = .ok (.aload_n 0, 1) := by decide +kernel
theorem dX16_make_154 : decode cX16_make 154 = .ok (.aload_n 1, 1) := by decide +kernel
theorem dX16_make_155 : decode cX16_make 155 = .ok (.ldc_w 859, 3) := by decide +kernel
theorem dX16_make_158 : decode cX16_make 158 = .ok (.invokevirtual 838, 3) := by decide +kernel
theorem dX16_make_161 : decode cX16_make 161 = .ok (.iconst 0, 1) := by decide +kernel
theorem dX16_make_162 : decode cX16_make 162 = .ok (.istore 5, 2) := by decide +kernel
theorem dX16_make_164 : decode cX16_make 164 = .ok (.iload 5, 2) := by decide +kernel
theorem dX16_make_166 : decode cX16_make 166 = .ok (.bipush 8, 2) := by decide +kernel
theorem dX16_make_168 : decode cX16_make 168 = .ok (.if_icmp .ge 25, 3) := by decide +kernel
theorem dX16_make_171 : decode cX16_make 171 = .ok (.aload_n 0, 1) := by decide +kernel
theorem dX16_make_172 : decode cX16_make 172 = .ok (.aload_n 1, 1) := by decide +kernel
theorem dX16_make_173 : decode cX16_make 173 = .ok (.aload_n 0, 1) := by decide +kernel
theorem dX16_make_174 : decode cX16_make 174 = .ok (.getfield 28, 3) := by decide +kernel
theorem dX16_make_177 : decode cX16_make 177 = .ok (.iload_n 2, 1) := by decide +kernel
theorem dX16_make_178 : decode cX16_make 178 = .ok (.iaload, 1) := by decide +kernel
theorem dX16_make_179 : decode cX16_make 179 = .ok (.iload 5, 2) := by decide +kernel
theorem dX16_make_181 : decode cX16_make 181 = .ok (.invokestatic 786, 3) := by decide +kernel
theorem dX16_make_184 : decode cX16_make 184 = .ok (.invokevirtual 789, 3) := by decide +kernel
theorem dX16_make_187 : decode cX16_make 187 = .ok (.iinc 5 1, 3) := by decide +kernel
theorem dX16_make_190 : decode cX16_make 190 = .ok (.goto (-26), 3) := by decide +kernel
theorem dX16_make_193 : decode cX16_make 193 = .ok (.aload_n 0, 1) := by decide +kernel
theorem dX16_make_194 : decode cX16_make 194 = .ok (.aload_n 1, 1) := by decide +kernel
theorem dX16_make_195 : decode cX16_make 195 = .ok (.bipush 34, 2) := by decide +kernel
theorem dX16_make_197 : decode cX16_make 197 = .ok (.invokevirtual 789, 3) := by decide +kernel
theorem dX16_make_200 : decode cX16_make 200 = .ok (.aload_n 0, 1) := by decide +kernel
theorem dX16_make_201 : decode cX16_make 201 = .ok (.aload_n 1, 1) := by decide +kernel
theorem dX16_make_202 : decode cX16_make 202 = .ok (.invokevirtual 849, 3) := by decide +kernel
theorem dX16_make_205 : decode cX16_make 205 = .ok (.aload_n 0, 1) := by decide +kernel
theorem dX16_make_206 : decode cX16_make 206 = .ok (.getfield 637, 3) := by decide +kernel
theorem dX16_make_209 : decode cX16_make 209 = .ok (.sipush 405, 3) := by decide +kernel
theorem dX16_make_212 : decode cX16_make 212 = .ok (.if_icmp .ne 16, 3) := by decide +kernel
theorem dX16_make_215 : decode cX16_make 215 = .ok (.aload_n 0, 1) := by decide +kernel
theorem dX16_make_216 : decode cX16_make 216 = .ok (.aload_n 1, 1) := by decide +kernel
theorem dX16_make_217 : decode cX16_make 217 = .ok (.ldc_w 861, 3) := by decide +kernel
theorem dX16_make_220 : decode cX16_make 220 = .ok (.invokevirtual 838, 3) := by decide +kernel
theorem dX16_make_223 : decode cX16_make 223 = .ok (.aload_n 0, 1) := by decide +kernel
theorem dX16_make_224 : decode cX16_make 224 = .ok (.aload_n 1, 1) := by decide +kernel
theorem dX16_make_225 : decode cX16_make 225 = .ok (.invokevirtual 849, 3) := by decide +kernel
theorem dX16_make_228 : decode cX16_make 228 = .ok (.iload_n 3, 1) := by decide +kernel
theorem dX16_make_229 : decode cX16_make 229 = .ok (.ifCond .eq 16, 3) := by decide +kernel
theorem dX16_make_232 : decode cX16_make 232 = .ok (.aload_n 0, 1) := by decide +kernel
theorem dX16_make_233 : decode cX16_make 233 = .ok (.aload_n 1, 1) := by decide +kernel
theorem dX16_make_234 : decode cX16_make 234 = .ok (.ldc_w 863, 3) := by decide +kernel
theorem dX16_make_237 : decode cX16_make 237 = .ok (.invokevirtual 838, 3) := by decide +kernel
theorem dX16_make_240 : decode cX16_make 240 = .ok (.aload_n 0, 1) := by decide +kernel
theorem dX16_make_241 : decode cX16_make 241 = .ok (.aload_n 1, 1) := by decide +kernel
theorem dX16_make_242 : decode cX16_make 242 = .ok (.invokevirtual 849, 3) := by decide +kernel
theorem dX16_make_245 : decode cX16_make 245 = .ok (.aload_n 0, 1) := by decide +kernel
theorem dX16_make_246 : decode cX16_make 246 = .ok (.aload_n 1, 1) := by decide +kernel
theorem dX16_make_247 : decode cX16_make 247 = .ok (.invokevirtual 849, 3) := by decide +kernel
theorem dX16_make_250 : decode cX16_make 250 = .ok (.aload_n 0, 1) := by decide +kernel
theorem dX16_make_251 : decode cX16_make 251 = .ok (.getfield 634, 3) := by decide +kernel
theorem dX16_make_254 : decode cX16_make 254 = .ok (.ifCond .ne 17, 3) := by decide +kernel
theorem dX16_make_257 : decode cX16_make 257 = .ok (.aload_n 0, 1) := by decide +kernel
theorem dX16_make_258 : decode cX16_make 258 = .ok (.getfield 637, 3) := by decide +kernel
theorem dX16_make_261 : decode cX16_make 261 = .ok (.sipush 304, 3) := by decide +kernel
theorem dX16_make_264 : decode cX16_make 264 = .ok (.if_icmp .eq 7, 3) := by decide +kernel
theorem dX16_make_267 : decode cX16_make 267 = .ok (.iconst 1, 1) := by decide +kernel
theorem dX16_make_268 : decode cX16_make 268 = .ok (.goto 4, 3) := by decide +kernel
theorem dX16_make_271 : decode cX16_make 271 = .ok (.iconst 0, 1) := by decide +kernel
theorem dX16_make_272 : decode cX16_make 272 = .ok (.istore 5, 2) := by decide +kernel
theorem dX16_make_274 : decode cX16_make 274 = .ok (.aload_n 1, 1) := by decide +kernel
theorem dX16_make_275 : decode cX16_make 275 = .ok (.iload_n 2, 1) := by decide +kernel
theorem dX16_make_276 : decode cX16_make 276 = .ok (.ifCond .lt 12, 3) := by decide +kernel
theorem dX16_make_279 : decode cX16_make 279 = .ok (.aload_n 0, 1) := by decide +kernel
theorem dX16_make_280 : decode cX16_make 280 = .ok (.getfield 21, 3) := by decide +kernel
theorem dX16_make_283 : decode cX16_make 283 = .ok (.iload_n 2, 1) := by decide +kernel
theorem dX16_make_284 : decode cX16_make 284 = .ok (.iaload, 1) := by decide +kernel
theorem dX16_make_285 : decode cX16_make 285 = .ok (.goto 4, 3) := by decide +kernel
theorem dX16_make_288 : decode cX16_make 288 = .ok (.iconst 0, 1) := by decide +kernel
theorem dX16_make_289 : decode cX16_make 289 = .ok (.putfield 395, 3) := by decide +kernel
theorem dX16_make_292 : decode cX16_make 292 = .ok (.aload_n 1, 1) := by decide +kernel
theorem dX16_make_293 : decode cX16_make 293 = .ok (.iload 5, 2) := by decide +kernel
theorem dX16_make_295 : decode cX16_make 295 = .ok (.ifCond .eq 12, 3) := by decide +kernel
theorem dX16_make_298 : decode cX16_make 298 = .ok (.iload_n 2, 1) := by decide +kernel
theorem dX16_make_299 : decode cX16_make 299 = .ok (.ifCond .lt 8, 3) := by decide +kernel
theorem dX16_make_302 : decode cX16_make 302 = .ok (.iload 4, 2) := by decide +kernel
theorem dX16_make_304 : decode cX16_make 304 = .ok (.goto 4, 3) := by decide +kernel
theorem dX16_make_307 : decode cX16_make 307 = .ok (.iconst 0, 1) := by decide +kernel
theorem dX16_make_308 : decode cX16_make 308 = .ok (.putfield 472, 3) := by decide +kernel
theorem dX16_make_311 : decode cX16_make 311 = .ok (.iload 5, 2) := by decide +kernel
theorem dX16_make_313 : decode cX16_make 313 = .ok (.ifCond .eq 42, 3) := by decide +kernel
theorem dX16_make_316 : decode cX16_make 316 = .ok (.iload_n 2, 1) := by decide +kernel
theorem dX16_make_317 : decode cX16_make 317 = .ok (.ifCond .ge 38, 3) := by decide +kernel
theorem dX16_make_320 : decode cX16_make 320 = .ok (.aload_n 0, 1) := by decide +kernel
theorem dX16_make_321 : decode cX16_make 321 = .ok (.aload_n 1, 1) := by decide +kernel
theorem dX16_make_322 : decode cX16_make 322 = .ok (.aload_n 0, 1) := by decide +kernel
theorem dX16_make_323 : decode cX16_make 323 = .ok (.getfield 637, 3) := by decide +kernel
theorem dX16_make_326 : decode cX16_make 326 = .ok (.invokevirtual 842, 3) := by decide +kernel
theorem dX16_make_329 : decode cX16_make 329 = .ok (.aload_n 0, 1) := by decide +kernel
theorem dX16_make_330 : decode cX16_make 330 = .ok (.aload_n 1, 1) := by decide +kernel
theorem dX16_make_331 : decode cX16_make 331 = .ok (.bipush 32, 2) := by decide +kernel
theorem dX16_make_333 : decode cX16_make 333 = .ok (.invokevirtual 789, 3) := by decide +kernel
theorem dX16_make_336 : decode cX16_make 336 = .ok (.aload_n 0, 1) := by decide +kernel
theorem dX16_make_337 : decode cX16_make 337 = .ok (.aload_n 1, 1) := by decide +kernel
theorem dX16_make_338 : decode cX16_make 338 = .ok (.aload_n 0, 1) := by decide +kernel
theorem dX16_make_339 : decode cX16_make 339 = .ok (.getfield 637, 3) := by decide +kernel
theorem dX16_make_342 : decode cX16_make 342 = .ok (.invokestatic 845, 3) := by decide +kernel
theorem dX16_make_345 : decode cX16_make 345 = .ok (.invokevirtual 838, 3) := by decide +kernel
theorem dX16_make_348 : decode cX16_make 348 = .ok (.aload_n 0, 1) := by decide +kernel
theorem dX16_make_349 : decode cX16_make 349 = .ok (.aload_n 1, 1) := by decide +kernel
theorem dX16_make_350 : decode cX16_make 350 = .ok (.bipush 10, 2) := by decide +kernel
theorem dX16_make_352 : decode cX16_make 352 = .ok (.invokevirtual 789, 3) := by decide +kernel
theorem dX16_make_355 : decode cX16_make 355 = .ok (.return_, 1) := by decide +kernel
theorem wX16_make_L308 {x : GX} {n0 sl0 : Nat} (X : Cx x cX16_make RX16 none n0 sl0 7 151) {out : Mm} (hE : Ends x n0 sl0 none out) (hn : xn x = 6) (fu : Nat)   (a0 : Nat) (a1 : Option Nat) (a2 : Int32) (a5 : Int32) (s0 : Option Nat) (s1 : Int32) (M : Mm) (h : fX16_make_L308 fu  a0 a1 a2 a5 s0 s1 M = some out) : Gw x M 308 [(0, pR (some a0)), (1, pR a1), (2, pI a2), (5, pI a5)] [pI s1, pR s0] := by
  unfold fX16_make_L308 at h
  obtain ⟨M1, eM1, h⟩ := bd h
  refine g_putI X (pc := 308) fk_12_28 rfl rfl rfl eM1 tb_1611 (Or.inl rfl) dX16_make_308 ?_
  refine g_iload X (pc := 311) 3 rfl dX16_make_311 ?_
  refine g_if_eq X (pc := 313) (tgt := 355) dX16_make_313 (by decide) (fun hc => ?_) (fun hc => ?_)
  · have h := (if_pos hc).symm.trans h
    obtain rfl := Option.some.inj h
    exact g_return X hE dX16_make_355
  · have h := (if_neg hc).symm.trans h
    refine g_iload_n X (pc := 316) 2 rfl rfl dX16_make_316 ?_
    refine g_if_ge X (pc := 317) (tgt := 355) dX16_make_317 (by decide) (fun hc => ?_) (fun hc => ?_)
    · have h := (if_pos hc).symm.trans h
      obtain rfl := Option.some.inj h
      exact g_return X hE dX16_make_355
    · have h := (if_neg hc).symm.trans h
      refine g_aload_n X (pc := 320) 0 rfl rfl dX16_make_320 ?_
      refine g_aload_n X (pc := 321) 1 rfl rfl dX16_make_321 ?_
      refine g_aload_n X (pc := 322) 0 rfl rfl dX16_make_322 ?_
      obtain ⟨v2, ev2, h⟩ := bd h
      refine g_getI X (pc := 323) fk_16_43 rfl rfl ev2 tb_1857 dX16_make_323 ?_
      obtain ⟨q3, eq3, h⟩ := bd h
      obtain ⟨M4, eM4, h⟩ := bd h
      refine g_callV X (pc := 326) (M' := M4) (ro := none) (c := 16) rfl (by decide) (as := [pR a1, pI v2]) (as' := [pI v2, pR a1]) (st := []) eq3 (ctX16_sayNumber _ _ _ _ _ _ fu q3 a1 v2 M1 _ eM4) tb_2439 tb_2436 tb_2438 ts_137 tb_8 ⟨rfl, hyX16_sayNumber⟩ rfl rfl ⟨by decide, by decide⟩ (Nat.le_of_ble_eq_true rfl) dX16_make_326 ?_
      refine g_aload_n X (pc := 329) 0 rfl rfl dX16_make_329 ?_
      refine g_aload_n X (pc := 330) 1 rfl rfl dX16_make_330 ?_
      refine g_bipush X (pc := 331) (v := 32) dX16_make_331 (by decide) ?_
      obtain ⟨q5, eq5, h⟩ := bd h
      obtain ⟨M6, eM6, h⟩ := bd h
      refine g_callV X (pc := 333) (M' := M6) (ro := none) (c := 16) rfl (by decide) (as := [pR a1, pI (32 : Int32)]) (as' := [pI (32 : Int32), pR a1]) (st := []) eq5 (ctX16_code _ _ _ _ _ _ fu q5 a1 (32 : Int32) M4 _ eM6) tb_2435 tb_2432 tb_2434 ts_136 tb_8 ⟨rfl, hyX16_code⟩ rfl rfl ⟨by decide, by decide⟩ (Nat.le_of_ble_eq_true rfl) dX16_make_333 ?_
      refine g_aload_n X (pc := 336) 0 rfl rfl dX16_make_336 ?_
      refine g_aload_n X (pc := 337) 1 rfl rfl dX16_make_337 ?_
      refine g_aload_n X (pc := 338) 0 rfl rfl dX16_make_338 ?_
      obtain ⟨v7, ev7, h⟩ := bd h
      refine g_getI X (pc := 339) fk_16_43 rfl rfl ev7 tb_1857 dX16_make_339 ?_
      obtain ⟨v9, M8, eM8, h⟩ := b2d h
      refine g_callS X (pc := 342) (M' := M8) (ro := some (pR v9)) (as := [pI v7]) (as' := [pI v7]) (st := [pR a1, pR (some a0)]) (ctX16_phrase _ _ _ _ _ _ fu  v7 M6 _ eM8) tb_2442 tb_2440 tb_2441 tb_8 hyX16_phrase rfl rfl ⟨by decide, by decide⟩ (Nat.le_of_ble_eq_true rfl) dX16_make_342 ?_
      obtain ⟨q10, eq10, h⟩ := bd h
      obtain ⟨M11, eM11, h⟩ := bd h
      refine g_callV X (pc := 345) (M' := M11) (ro := none) (c := 16) rfl (by decide) (as := [pR a1, pR v9]) (as' := [pR v9, pR a1]) (st := []) eq10 (ctX16_say _ _ _ _ _ _ fu q10 a1 v9 M8 _ eM11) tb_2431 tb_2428 tb_2430 ts_135 tb_8 ⟨rfl, hyX16_say⟩ rfl rfl ⟨by decide, by decide⟩ (Nat.le_of_ble_eq_true rfl) dX16_make_345 ?_
      refine g_aload_n X (pc := 348) 0 rfl rfl dX16_make_348 ?_
      refine g_aload_n X (pc := 349) 1 rfl rfl dX16_make_349 ?_
      refine g_bipush X (pc := 350) (v := 10) dX16_make_350 (by decide) ?_
      obtain ⟨q12, eq12, h⟩ := bd h
      obtain ⟨M13, eM13, h⟩ := bd h
      refine g_callV X (pc := 352) (M' := M13) (ro := none) (c := 16) rfl (by decide) (as := [pR a1, pI (10 : Int32)]) (as' := [pI (10 : Int32), pR a1]) (st := []) eq12 (ctX16_code _ _ _ _ _ _ fu q12 a1 (10 : Int32) M11 _ eM13) tb_2435 tb_2432 tb_2434 ts_136 tb_8 ⟨rfl, hyX16_code⟩ rfl rfl ⟨by decide, by decide⟩ (Nat.le_of_ble_eq_true rfl) dX16_make_352 ?_
      obtain rfl := Option.some.inj h
      exact g_return X hE dX16_make_355
theorem wX16_make_L307 {x : GX} {n0 sl0 : Nat} (X : Cx x cX16_make RX16 none n0 sl0 7 151) {out : Mm} (hE : Ends x n0 sl0 none out) (hn : xn x = 6) (fu : Nat)   (a0 : Nat) (a1 : Option Nat) (a2 : Int32) (a5 : Int32) (s0 : Option Nat) (M : Mm) (h : fX16_make_L307 fu  a0 a1 a2 a5 s0 M = some out) : Gw x M 307 [(0, pR (some a0)), (1, pR a1), (2, pI a2), (5, pI a5)] [pR s0] := by
  unfold fX16_make_L307 at h
  refine g_iconst X (pc := 307) (v := 0) dX16_make_307 (by decide) ?_
  exact wX16_make_L308 X hE hn fu   a0 a1 a2 a5 s0 (0 : Int32) M h
theorem wX16_make_L289 {x : GX} {n0 sl0 : Nat} (X : Cx x cX16_make RX16 none n0 sl0 7 151) {out : Mm} (hE : Ends x n0 sl0 none out) (hn : xn x = 6) (fu : Nat)   (a0 : Nat) (a1 : Option Nat) (a2 : Int32) (a4 : Int32) (a5 : Int32) (s0 : Option Nat) (s1 : Int32) (M : Mm) (h : fX16_make_L289 fu  a0 a1 a2 a4 a5 s0 s1 M = some out) : Gw x M 289 [(0, pR (some a0)), (1, pR a1), (2, pI a2), (4, pI a4), (5, pI a5)] [pI s1, pR s0] := by
  unfold fX16_make_L289 at h
  obtain ⟨M1, eM1, h⟩ := bd h
  refine g_putI X (pc := 289) fk_12_27 rfl rfl rfl eM1 tb_1609 (Or.inl rfl) dX16_make_289 ?_
  refine g_aload_n X (pc := 292) 1 rfl rfl dX16_make_292 ?_
  refine g_iload X (pc := 293) 4 rfl dX16_make_293 ?_
  refine g_if_eq X (pc := 295) (tgt := 307) dX16_make_295 (by decide) (fun hc => ?_) (fun hc => ?_)
  · have h := (if_pos hc).symm.trans h
    refine g_sub [0, 1, 2, 4] [(0, pR (some a0)), (1, pR a1), (2, pI a2), (5, pI a5)] rfl ?_
    exact wX16_make_L307 X hE hn fu   a0 a1 a2 a5 a1 M1 h
  · have h := (if_neg hc).symm.trans h
    refine g_iload_n X (pc := 298) 2 rfl rfl dX16_make_298 ?_
    refine g_if_lt X (pc := 299) (tgt := 307) dX16_make_299 (by decide) (fun hc => ?_) (fun hc => ?_)
    · have h := (if_pos hc).symm.trans h
      refine g_sub [0, 1, 2, 4] [(0, pR (some a0)), (1, pR a1), (2, pI a2), (5, pI a5)] rfl ?_
      exact wX16_make_L307 X hE hn fu   a0 a1 a2 a5 a1 M1 h
    · have h := (if_neg hc).symm.trans h
      refine g_iload X (pc := 302) 3 rfl dX16_make_302 ?_
      refine g_goto X (pc := 304) (tgt := 308) dX16_make_304 (by decide) ?_
      refine g_sub [0, 1, 2, 4] [(0, pR (some a0)), (1, pR a1), (2, pI a2), (5, pI a5)] rfl ?_
      exact wX16_make_L308 X hE hn fu   a0 a1 a2 a5 a1 a4 M1 h
theorem wX16_make_L272 {x : GX} {n0 sl0 : Nat} (X : Cx x cX16_make RX16 none n0 sl0 7 151) {out : Mm} (hE : Ends x n0 sl0 none out) (hn : xn x = 6) (fu : Nat)   (a0 : Nat) (a1 : Option Nat) (a2 : Int32) (a4 : Int32) (s0 : Int32) (M : Mm) (h : fX16_make_L272 fu  a0 a1 a2 a4 s0 M = some out) : Gw x M 272 [(0, pR (some a0)), (1, pR a1), (2, pI a2), (4, pI a4)] [pI s0] := by
  unfold fX16_make_L272 at h
  refine g_istore X (pc := 272) [(5, pI s0), (0, pR (some a0)), (1, pR a1), (2, pI a2), (4, pI a4)] (lt_n hn (by decide)) rfl dX16_make_272 ?_
  refine g_aload_n X (pc := 274) 2 rfl rfl dX16_make_274 ?_
  refine g_iload_n X (pc := 275) 3 rfl rfl dX16_make_275 ?_
  refine g_if_lt X (pc := 276) (tgt := 288) dX16_make_276 (by decide) (fun hc => ?_) (fun hc => ?_)
  · have h := (if_pos hc).symm.trans h
    refine g_iconst X (pc := 288) (v := 0) dX16_make_288 (by decide) ?_
    refine g_sub [1, 2, 3, 4, 0] [(0, pR (some a0)), (1, pR a1), (2, pI a2), (4, pI a4), (5, pI s0)] rfl ?_
    exact wX16_make_L289 X hE hn fu   a0 a1 a2 a4 s0 a1 (0 : Int32) M h
  · have h := (if_neg hc).symm.trans h
    refine g_aload_n X (pc := 279) 1 rfl rfl dX16_make_279 ?_
    obtain ⟨v1, ev1, h⟩ := bd h
    refine g_getR X (pc := 280) fk_16_14 rfl rfl ev1 tb_1828 dX16_make_280 ?_
    refine g_iload_n X (pc := 283) 3 rfl rfl dX16_make_283 ?_
    obtain ⟨v2, ev2, h⟩ := bd h
    refine g_iaload X (pc := 284) ev2 dX16_make_284 ?_
    refine g_goto X (pc := 285) (tgt := 289) dX16_make_285 (by decide) ?_
    refine g_sub [1, 2, 3, 4, 0] [(0, pR (some a0)), (1, pR a1), (2, pI a2), (4, pI a4), (5, pI s0)] rfl ?_
    exact wX16_make_L289 X hE hn fu   a0 a1 a2 a4 s0 a1 v2 M h
theorem wX16_make_L271 {x : GX} {n0 sl0 : Nat} (X : Cx x cX16_make RX16 none n0 sl0 7 151) {out : Mm} (hE : Ends x n0 sl0 none out) (hn : xn x = 6) (fu : Nat)   (a0 : Nat) (a1 : Option Nat) (a2 : Int32) (a4 : Int32)  (M : Mm) (h : fX16_make_L271 fu  a0 a1 a2 a4 M = some out) : Gw x M 271 [(0, pR (some a0)), (1, pR a1), (2, pI a2), (4, pI a4)] [] := by
  unfold fX16_make_L271 at h
  refine g_iconst X (pc := 271) (v := 0) dX16_make_271 (by decide) ?_
  exact wX16_make_L272 X hE hn fu   a0 a1 a2 a4 (0 : Int32) M h
theorem wX16_make_L245 {x : GX} {n0 sl0 : Nat} (X : Cx x cX16_make RX16 none n0 sl0 7 151) {out : Mm} (hE : Ends x n0 sl0 none out) (hn : xn x = 6) (fu : Nat)   (a0 : Nat) (a1 : Option Nat) (a2 : Int32) (a4 : Int32)  (M : Mm) (h : fX16_make_L245 fu  a0 a1 a2 a4 M = some out) : Gw x M 245 [(0, pR (some a0)), (1, pR a1), (2, pI a2), (4, pI a4)] [] := by
  unfold fX16_make_L245 at h
  refine g_aload_n X (pc := 245) 0 rfl rfl dX16_make_245 ?_
  refine g_aload_n X (pc := 246) 1 rfl rfl dX16_make_246 ?_
  obtain ⟨q1, eq1, h⟩ := bd h
  obtain ⟨M2, eM2, h⟩ := bd h
  refine g_callV X (pc := 247) (M' := M2) (ro := none) (c := 16) rfl (by decide) (as := [pR a1]) (as' := [pR a1]) (st := []) eq1 (ctX16_line _ _ _ _ _ _ fu q1 a1 M _ eM2) tb_2455 tb_2452 tb_2454 ts_138 tb_8 ⟨rfl, hyX16_line⟩ rfl rfl ⟨by decide, by decide⟩ (Nat.le_of_ble_eq_true rfl) dX16_make_247 ?_
  refine g_aload_n X (pc := 250) 0 rfl rfl dX16_make_250 ?_
  obtain ⟨v3, ev3, h⟩ := bd h
  refine g_getI X (pc := 251) fk_16_44 rfl rfl ev3 tb_1858 dX16_make_251 ?_
  refine g_if_ne X (pc := 254) (tgt := 271) dX16_make_254 (by decide) (fun hc => ?_) (fun hc => ?_)
  · have h := (if_neg hc).symm.trans h
    exact wX16_make_L271 X hE hn fu   a0 a1 a2 a4 M2 h
  · have h := (if_pos hc).symm.trans h
    refine g_aload_n X (pc := 257) 0 rfl rfl dX16_make_257 ?_
    obtain ⟨v4, ev4, h⟩ := bd h
    refine g_getI X (pc := 258) fk_16_43 rfl rfl ev4 tb_1857 dX16_make_258 ?_
    refine g_sipush X (pc := 261) (v := 304) dX16_make_261 (by decide) ?_
    refine g_icmp_eq X (pc := 264) (tgt := 271) dX16_make_264 (by decide) (fun hc => ?_) (fun hc => ?_)
    · have h := (if_pos hc).symm.trans h
      exact wX16_make_L271 X hE hn fu   a0 a1 a2 a4 M2 h
    · have h := (if_neg hc).symm.trans h
      refine g_iconst X (pc := 267) (v := 1) dX16_make_267 (by decide) ?_
      refine g_goto X (pc := 268) (tgt := 272) dX16_make_268 (by decide) ?_
      exact wX16_make_L272 X hE hn fu   a0 a1 a2 a4 (1 : Int32) M2 h
theorem wX16_make_L228 {x : GX} {n0 sl0 : Nat} (X : Cx x cX16_make RX16 none n0 sl0 7 151) {out : Mm} (hE : Ends x n0 sl0 none out) (hn : xn x = 6) (fu : Nat)   (a0 : Nat) (a1 : Option Nat) (a2 : Int32) (a3 : Int32) (a4 : Int32)  (M : Mm) (h : fX16_make_L228 fu  a0 a1 a2 a3 a4 M = some out) : Gw x M 228 [(0, pR (some a0)), (1, pR a1), (2, pI a2), (3, pI a3), (4, pI a4)] [] := by
  unfold fX16_make_L228 at h
  refine g_iload_n X (pc := 228) 3 rfl rfl dX16_make_228 ?_
  refine g_if_eq X (pc := 229) (tgt := 245) dX16_make_229 (by decide) (fun hc => ?_) (fun hc => ?_)
  · have h := (if_pos hc).symm.trans h
    refine g_sub [0, 1, 2, 4] [(0, pR (some a0)), (1, pR a1), (2, pI a2), (4, pI a4)] rfl ?_
    exact wX16_make_L245 X hE hn fu   a0 a1 a2 a4 M h
  · have h := (if_neg hc).symm.trans h
    refine g_aload_n X (pc := 232) 0 rfl rfl dX16_make_232 ?_
    refine g_aload_n X (pc := 233) 1 rfl rfl dX16_make_233 ?_
    refine g_ldcwS X (pc := 234) (List.mem_of_getElem? (i := 81) rfl) dX16_make_234 ?_
    obtain ⟨q1, eq1, h⟩ := bd h
    obtain ⟨M2, eM2, h⟩ := bd h
    refine g_callV X (pc := 237) (M' := M2) (ro := none) (c := 16) rfl (by decide) (as := [pR a1, pR (some 49)]) (as' := [pR (some 49), pR a1]) (st := []) eq1 (ctX16_say _ _ _ _ _ _ fu q1 a1 (some 49) M _ eM2) tb_2431 tb_2428 tb_2430 ts_135 tb_8 ⟨rfl, hyX16_say⟩ rfl rfl ⟨by decide, by decide⟩ (Nat.le_of_ble_eq_true rfl) dX16_make_237 ?_
    refine g_aload_n X (pc := 240) 0 rfl rfl dX16_make_240 ?_
    refine g_aload_n X (pc := 241) 1 rfl rfl dX16_make_241 ?_
    obtain ⟨q3, eq3, h⟩ := bd h
    obtain ⟨M4, eM4, h⟩ := bd h
    refine g_callV X (pc := 242) (M' := M4) (ro := none) (c := 16) rfl (by decide) (as := [pR a1]) (as' := [pR a1]) (st := []) eq3 (ctX16_line _ _ _ _ _ _ fu q3 a1 M2 _ eM4) tb_2455 tb_2452 tb_2454 ts_138 tb_8 ⟨rfl, hyX16_line⟩ rfl rfl ⟨by decide, by decide⟩ (Nat.le_of_ble_eq_true rfl) dX16_make_242 ?_
    refine g_sub [0, 1, 2, 4] [(0, pR (some a0)), (1, pR a1), (2, pI a2), (4, pI a4)] rfl ?_
    exact wX16_make_L245 X hE hn fu   a0 a1 a2 a4 M4 h
theorem wX16_make_L205 {x : GX} {n0 sl0 : Nat} (X : Cx x cX16_make RX16 none n0 sl0 7 151) {out : Mm} (hE : Ends x n0 sl0 none out) (hn : xn x = 6) (fu : Nat)   (a0 : Nat) (a1 : Option Nat) (a2 : Int32) (a3 : Int32) (a4 : Int32)  (M : Mm) (h : fX16_make_L205 fu  a0 a1 a2 a3 a4 M = some out) : Gw x M 205 [(0, pR (some a0)), (1, pR a1), (2, pI a2), (3, pI a3), (4, pI a4)] [] := by
  unfold fX16_make_L205 at h
  refine g_aload_n X (pc := 205) 0 rfl rfl dX16_make_205 ?_
  obtain ⟨v1, ev1, h⟩ := bd h
  refine g_getI X (pc := 206) fk_16_43 rfl rfl ev1 tb_1857 dX16_make_206 ?_
  refine g_sipush X (pc := 209) (v := 405) dX16_make_209 (by decide) ?_
  refine g_icmp_ne X (pc := 212) (tgt := 228) dX16_make_212 (by decide) (fun hc => ?_) (fun hc => ?_)
  · have h := (if_neg hc).symm.trans h
    exact wX16_make_L228 X hE hn fu   a0 a1 a2 a3 a4 M h
  · have h := (if_pos hc).symm.trans h
    refine g_aload_n X (pc := 215) 0 rfl rfl dX16_make_215 ?_
    refine g_aload_n X (pc := 216) 1 rfl rfl dX16_make_216 ?_
    refine g_ldcwS X (pc := 217) (List.mem_of_getElem? (i := 80) rfl) dX16_make_217 ?_
    obtain ⟨q2, eq2, h⟩ := bd h
    obtain ⟨M3, eM3, h⟩ := bd h
    refine g_callV X (pc := 220) (M' := M3) (ro := none) (c := 16) rfl (by decide) (as := [pR a1, pR (some 48)]) (as' := [pR (some 48), pR a1]) (st := []) eq2 (ctX16_say _ _ _ _ _ _ fu q2 a1 (some 48) M _ eM3) tb_2431 tb_2428 tb_2430 ts_135 tb_8 ⟨rfl, hyX16_say⟩ rfl rfl ⟨by decide, by decide⟩ (Nat.le_of_ble_eq_true rfl) dX16_make_220 ?_
    refine g_aload_n X (pc := 223) 0 rfl rfl dX16_make_223 ?_
    refine g_aload_n X (pc := 224) 1 rfl rfl dX16_make_224 ?_
    obtain ⟨q4, eq4, h⟩ := bd h
    obtain ⟨M5, eM5, h⟩ := bd h
    refine g_callV X (pc := 225) (M' := M5) (ro := none) (c := 16) rfl (by decide) (as := [pR a1]) (as' := [pR a1]) (st := []) eq4 (ctX16_line _ _ _ _ _ _ fu q4 a1 M3 _ eM5) tb_2455 tb_2452 tb_2454 ts_138 tb_8 ⟨rfl, hyX16_line⟩ rfl rfl ⟨by decide, by decide⟩ (Nat.le_of_ble_eq_true rfl) dX16_make_225 ?_
    exact wX16_make_L228 X hE hn fu   a0 a1 a2 a3 a4 M5 h
theorem wX16_make_L164 {x : GX} {n0 sl0 : Nat} (X : Cx x cX16_make RX16 none n0 sl0 7 151) {out : Mm} (hE : Ends x n0 sl0 none out) (hn : xn x = 6) (fu : Nat)   : ∀ (n : Nat) (a0 : Nat) (a1 : Option Nat) (a2 : Int32) (a3 : Int32) (a4 : Int32) (a5 : Int32)  (M : Mm), fX16_make_L164 fu  n a0 a1 a2 a3 a4 a5 M = some out → Gw x M 164 [(0, pR (some a0)), (1, pR a1), (2, pI a2), (3, pI a3), (4, pI a4), (5, pI a5)] [] := by
  intro n
  induction n with
  | zero =>
    intro a0 a1 a2 a3 a4 a5 M h
    have h : (none : Option (Mm)) = some out := h
    cases h
  | succ n ih =>
    intro a0 a1 a2 a3 a4 a5 M h
    rw [fX16_make_L164] at h
    refine g_iload X (pc := 164) 5 rfl dX16_make_164 ?_
    refine g_bipush X (pc := 166) (v := 8) dX16_make_166 (by decide) ?_
    refine g_icmp_ge X (pc := 168) (tgt := 193) dX16_make_168 (by decide) (fun hc => ?_) (fun hc => ?_)
    · have h := (if_pos hc).symm.trans h
      refine g_aload_n X (pc := 193) 0 rfl rfl dX16_make_193 ?_
      refine g_aload_n X (pc := 194) 1 rfl rfl dX16_make_194 ?_
      refine g_bipush X (pc := 195) (v := 34) dX16_make_195 (by decide) ?_
      obtain ⟨q1, eq1, h⟩ := bd h
      obtain ⟨M2, eM2, h⟩ := bd h
      refine g_callV X (pc := 197) (M' := M2) (ro := none) (c := 16) rfl (by decide) (as := [pR a1, pI (34 : Int32)]) (as' := [pI (34 : Int32), pR a1]) (st := []) eq1 (ctX16_code _ _ _ _ _ _ fu q1 a1 (34 : Int32) M _ eM2) tb_2435 tb_2432 tb_2434 ts_136 tb_8 ⟨rfl, hyX16_code⟩ rfl rfl ⟨by decide, by decide⟩ (Nat.le_of_ble_eq_true rfl) dX16_make_197 ?_
      refine g_aload_n X (pc := 200) 0 rfl rfl dX16_make_200 ?_
      refine g_aload_n X (pc := 201) 1 rfl rfl dX16_make_201 ?_
      obtain ⟨q3, eq3, h⟩ := bd h
      obtain ⟨M4, eM4, h⟩ := bd h
      refine g_callV X (pc := 202) (M' := M4) (ro := none) (c := 16) rfl (by decide) (as := [pR a1]) (as' := [pR a1]) (st := []) eq3 (ctX16_line _ _ _ _ _ _ fu q3 a1 M2 _ eM4) tb_2455 tb_2452 tb_2454 ts_138 tb_8 ⟨rfl, hyX16_line⟩ rfl rfl ⟨by decide, by decide⟩ (Nat.le_of_ble_eq_true rfl) dX16_make_202 ?_
      refine g_sub [0, 1, 2, 3, 4] [(0, pR (some a0)), (1, pR a1), (2, pI a2), (3, pI a3), (4, pI a4)] rfl ?_
      exact wX16_make_L205 X hE hn fu   a0 a1 a2 a3 a4 M4 h
    · have h := (if_neg hc).symm.trans h
      refine g_aload_n X (pc := 171) 0 rfl rfl dX16_make_171 ?_
      refine g_aload_n X (pc := 172) 1 rfl rfl dX16_make_172 ?_
      refine g_aload_n X (pc := 173) 0 rfl rfl dX16_make_173 ?_
      obtain ⟨v5, ev5, h⟩ := bd h
      refine g_getR X (pc := 174) fk_16_16 rfl rfl ev5 tb_1830 dX16_make_174 ?_
      refine g_iload_n X (pc := 177) 2 rfl rfl dX16_make_177 ?_
      obtain ⟨v6, ev6, h⟩ := bd h
      refine g_iaload X (pc := 178) ev6 dX16_make_178 ?_
      refine g_iload X (pc := 179) 5 rfl dX16_make_179 ?_
      obtain ⟨v8, M7, eM7, h⟩ := b2d h
      refine g_callS X (pc := 181) (M' := M7) (ro := some (pI v8)) (as := [pI v6, pI a5]) (as' := [pI a5, pI v6]) (st := [pR a1, pR (some a0)]) (ctX16_hexDigit _ _ _ _ _ _ fu  v6 a5 M _ eM7) tb_2422 tb_2420 tb_2421 tb_8 hyX16_hexDigit rfl rfl ⟨by decide, by decide⟩ (Nat.le_of_ble_eq_true rfl) dX16_make_181 ?_
      obtain ⟨q9, eq9, h⟩ := bd h
      obtain ⟨M10, eM10, h⟩ := bd h
      refine g_callV X (pc := 184) (M' := M10) (ro := none) (c := 16) rfl (by decide) (as := [pR a1, pI v8]) (as' := [pI v8, pR a1]) (st := []) eq9 (ctX16_code _ _ _ _ _ _ fu q9 a1 v8 M7 _ eM10) tb_2435 tb_2432 tb_2434 ts_136 tb_8 ⟨rfl, hyX16_code⟩ rfl rfl ⟨by decide, by decide⟩ (Nat.le_of_ble_eq_true rfl) dX16_make_184 ?_
      refine g_iinc X (pc := 187) 5 [(5, pI (a5 + (1 : Int32))), (0, pR (some a0)), (1, pR a1), (2, pI a2), (3, pI a3), (4, pI a4)] rfl (iinc_e (by decide)) (lt_n hn (by decide)) rfl dX16_make_187 ?_
      refine g_goto X (pc := 190) (tgt := 164) dX16_make_190 (by decide) ?_
      refine g_sub [1, 2, 3, 4, 5, 0] [(0, pR (some a0)), (1, pR a1), (2, pI a2), (3, pI a3), (4, pI a4), (5, pI (a5 + (1 : Int32)))] rfl ?_
      exact ih a0 a1 a2 a3 a4 (a5 + (1 : Int32)) M10 h
theorem wX16_make_L149 {x : GX} {n0 sl0 : Nat} (X : Cx x cX16_make RX16 none n0 sl0 7 151) {out : Mm} (hE : Ends x n0 sl0 none out) (hn : xn x = 6) (fu : Nat)   (a0 : Nat) (a1 : Option Nat) (a2 : Int32) (a3 : Int32) (a4 : Int32)  (M : Mm) (h : fX16_make_L149 fu  a0 a1 a2 a3 a4 M = some out) : Gw x M 149 [(0, pR (some a0)), (1, pR a1), (2, pI a2), (3, pI a3), (4, pI a4)] [] := by
  unfold fX16_make_L149 at h
  refine g_iload_n X (pc := 149) 2 rfl rfl dX16_make_149 ?_
  refine g_if_lt X (pc := 150) (tgt := 205) dX16_make_150 (by decide) (fun hc => ?_) (fun hc => ?_)
  · have h := (if_pos hc).symm.trans h
    exact wX16_make_L205 X hE hn fu   a0 a1 a2 a3 a4 M h
  · have h := (if_neg hc).symm.trans h
    refine g_aload_n X (pc := 153) 0 rfl rfl dX16_make_153 ?_
    refine g_aload_n X (pc := 154) 1 rfl rfl dX16_make_154 ?_
    refine g_ldcwS X (pc := 155) (List.mem_of_getElem? (i := 79) rfl) dX16_make_155 ?_
    obtain ⟨q1, eq1, h⟩ := bd h
    obtain ⟨M2, eM2, h⟩ := bd h
    refine g_callV X (pc := 158) (M' := M2) (ro := none) (c := 16) rfl (by decide) (as := [pR a1, pR (some 47)]) (as' := [pR (some 47), pR a1]) (st := []) eq1 (ctX16_say _ _ _ _ _ _ fu q1 a1 (some 47) M _ eM2) tb_2431 tb_2428 tb_2430 ts_135 tb_8 ⟨rfl, hyX16_say⟩ rfl rfl ⟨by decide, by decide⟩ (Nat.le_of_ble_eq_true rfl) dX16_make_158 ?_
    refine g_iconst X (pc := 161) (v := 0) dX16_make_161 (by decide) ?_
    refine g_istore X (pc := 162) [(5, pI (0 : Int32)), (0, pR (some a0)), (1, pR a1), (2, pI a2), (3, pI a3), (4, pI a4)] (lt_n hn (by decide)) rfl dX16_make_162 ?_
    refine g_sub [1, 2, 3, 4, 5, 0] [(0, pR (some a0)), (1, pR a1), (2, pI a2), (3, pI a3), (4, pI a4), (5, pI (0 : Int32))] rfl ?_
    exact wX16_make_L164 X hE hn fu   fu a0 a1 a2 a3 a4 (0 : Int32) M2 h
theorem wX16_make_L94 {x : GX} {n0 sl0 : Nat} (X : Cx x cX16_make RX16 none n0 sl0 7 151) {out : Mm} (hE : Ends x n0 sl0 none out) (hn : xn x = 6) (fu : Nat)   (a0 : Nat) (a1 : Option Nat) (a2 : Int32) (a3 : Int32) (s0 : Int32) (M : Mm) (h : fX16_make_L94 fu  a0 a1 a2 a3 s0 M = some out) : Gw x M 94 [(0, pR (some a0)), (1, pR a1), (2, pI a2), (3, pI a3)] [pI s0] := by
  unfold fX16_make_L94 at h
  refine g_istore X (pc := 94) [(4, pI s0), (0, pR (some a0)), (1, pR a1), (2, pI a2), (3, pI a3)] (lt_n hn (by decide)) rfl dX16_make_94 ?_
  refine g_aload_n X (pc := 96) 1 rfl rfl dX16_make_96 ?_
  obtain ⟨v1, ev1, h⟩ := bd h
  refine g_getI X (pc := 97) fk_16_43 rfl rfl ev1 tb_1857 dX16_make_97 ?_
  refine g_sipush X (pc := 100) (v := 304) dX16_make_100 (by decide) ?_
  refine g_icmp_eq X (pc := 103) (tgt := 149) dX16_make_103 (by decide) (fun hc => ?_) (fun hc => ?_)
  · have h := (if_pos hc).symm.trans h
    refine g_sub [1, 2, 3, 4, 0] [(0, pR (some a0)), (1, pR a1), (2, pI a2), (3, pI a3), (4, pI s0)] rfl ?_
    exact wX16_make_L149 X hE hn fu   a0 a1 a2 a3 s0 M h
  · have h := (if_neg hc).symm.trans h
    refine g_aload_n X (pc := 106) 1 rfl rfl dX16_make_106 ?_
    refine g_aload_n X (pc := 107) 2 rfl rfl dX16_make_107 ?_
    refine g_ldcwS X (pc := 108) (List.mem_of_getElem? (i := 66) rfl) dX16_make_108 ?_
    obtain ⟨q2, eq2, h⟩ := bd h
    obtain ⟨M3, eM3, h⟩ := bd h
    refine g_callV X (pc := 111) (M' := M3) (ro := none) (c := 16) rfl (by decide) (as := [pR a1, pR (some 45)]) (as' := [pR (some 45), pR a1]) (st := []) eq2 (ctX16_say _ _ _ _ _ _ fu q2 a1 (some 45) M _ eM3) tb_2431 tb_2428 tb_2430 ts_135 tb_8 ⟨rfl, hyX16_say⟩ rfl rfl ⟨by decide, by decide⟩ (Nat.le_of_ble_eq_true rfl) dX16_make_111 ?_
    refine g_aload_n X (pc := 114) 1 rfl rfl dX16_make_114 ?_
    refine g_aload_n X (pc := 115) 2 rfl rfl dX16_make_115 ?_
    refine g_iload X (pc := 116) 0 rfl dX16_make_116 ?_
    obtain ⟨q4, eq4, h⟩ := bd h
    obtain ⟨M5, eM5, h⟩ := bd h
    refine g_callV X (pc := 118) (M' := M5) (ro := none) (c := 16) rfl (by decide) (as := [pR a1, pI s0]) (as' := [pI s0, pR a1]) (st := []) eq4 (ctX16_sayNumber _ _ _ _ _ _ fu q4 a1 s0 M3 _ eM5) tb_2439 tb_2436 tb_2438 ts_137 tb_8 ⟨rfl, hyX16_sayNumber⟩ rfl rfl ⟨by decide, by decide⟩ (Nat.le_of_ble_eq_true rfl) dX16_make_118 ?_
    refine g_aload_n X (pc := 121) 1 rfl rfl dX16_make_121 ?_
    refine g_aload_n X (pc := 122) 2 rfl rfl dX16_make_122 ?_
    obtain ⟨q6, eq6, h⟩ := bd h
    obtain ⟨M7, eM7, h⟩ := bd h
    refine g_callV X (pc := 123) (M' := M7) (ro := none) (c := 16) rfl (by decide) (as := [pR a1]) (as' := [pR a1]) (st := []) eq6 (ctX16_line _ _ _ _ _ _ fu q6 a1 M5 _ eM7) tb_2455 tb_2452 tb_2454 ts_138 tb_8 ⟨rfl, hyX16_line⟩ rfl rfl ⟨by decide, by decide⟩ (Nat.le_of_ble_eq_true rfl) dX16_make_123 ?_
    refine g_aload_n X (pc := 126) 1 rfl rfl dX16_make_126 ?_
    refine g_aload_n X (pc := 127) 2 rfl rfl dX16_make_127 ?_
    refine g_ldcwS X (pc := 128) (List.mem_of_getElem? (i := 67) rfl) dX16_make_128 ?_
    obtain ⟨q8, eq8, h⟩ := bd h
    obtain ⟨M9, eM9, h⟩ := bd h
    refine g_callV X (pc := 131) (M' := M9) (ro := none) (c := 16) rfl (by decide) (as := [pR a1, pR (some 46)]) (as' := [pR (some 46), pR a1]) (st := []) eq8 (ctX16_say _ _ _ _ _ _ fu q8 a1 (some 46) M7 _ eM9) tb_2431 tb_2428 tb_2430 ts_135 tb_8 ⟨rfl, hyX16_say⟩ rfl rfl ⟨by decide, by decide⟩ (Nat.le_of_ble_eq_true rfl) dX16_make_131 ?_
    refine g_aload_n X (pc := 134) 1 rfl rfl dX16_make_134 ?_
    refine g_aload_n X (pc := 135) 2 rfl rfl dX16_make_135 ?_
    refine g_aload_n X (pc := 136) 1 rfl rfl dX16_make_136 ?_
    refine g_iload_n X (pc := 137) 3 rfl rfl dX16_make_137 ?_
    obtain ⟨q10, eq10, h⟩ := bd h
    obtain ⟨v12, M11, eM11, h⟩ := b2d h
    refine g_callV X (pc := 138) (M' := M11) (ro := some (pR v12)) (c := 16) rfl (by decide) (as := [pI a2]) (as' := [pI a2]) (st := [pR a1, pR (some a0)]) eq10 (ctX16_type _ _ _ _ _ _ fu q10 a2 M9 _ eM11) tb_2461 tb_2458 tb_2460 ts_139 tb_8 ⟨rfl, hyX16_type⟩ rfl rfl ⟨by decide, by decide⟩ (Nat.le_of_ble_eq_true rfl) dX16_make_138 ?_
    obtain ⟨q13, eq13, h⟩ := bd h
    obtain ⟨M14, eM14, h⟩ := bd h
    refine g_callV X (pc := 141) (M' := M14) (ro := none) (c := 16) rfl (by decide) (as := [pR a1, pR v12]) (as' := [pR v12, pR a1]) (st := []) eq13 (ctX16_say _ _ _ _ _ _ fu q13 a1 v12 M11 _ eM14) tb_2431 tb_2428 tb_2430 ts_135 tb_8 ⟨rfl, hyX16_say⟩ rfl rfl ⟨by decide, by decide⟩ (Nat.le_of_ble_eq_true rfl) dX16_make_141 ?_
    refine g_aload_n X (pc := 144) 1 rfl rfl dX16_make_144 ?_
    refine g_aload_n X (pc := 145) 2 rfl rfl dX16_make_145 ?_
    obtain ⟨q15, eq15, h⟩ := bd h
    obtain ⟨M16, eM16, h⟩ := bd h
    refine g_callV X (pc := 146) (M' := M16) (ro := none) (c := 16) rfl (by decide) (as := [pR a1]) (as' := [pR a1]) (st := []) eq15 (ctX16_line _ _ _ _ _ _ fu q15 a1 M14 _ eM16) tb_2455 tb_2452 tb_2454 ts_138 tb_8 ⟨rfl, hyX16_line⟩ rfl rfl ⟨by decide, by decide⟩ (Nat.le_of_ble_eq_true rfl) dX16_make_146 ?_
    refine g_sub [1, 2, 3, 4, 0] [(0, pR (some a0)), (1, pR a1), (2, pI a2), (3, pI a3), (4, pI s0)] rfl ?_
    exact wX16_make_L149 X hE hn fu   a0 a1 a2 a3 s0 M16 h
theorem wX16_make {x : GX} {n0 sl0 : Nat} (X : Cx x cX16_make RX16 none n0 sl0 7 151) {out : Mm} (hE : Ends x n0 sl0 none out) (hn : xn x = 6) (fu : Nat)   (a0 : Nat) (a1 : Option Nat) (a2 : Int32) (a3 : Int32)  (M : Mm) (h : fX16_make fu  a0 a1 a2 a3 M = some out) : Gw x M 0 [(0, pR (some a0)), (1, pR a1), (2, pI a2), (3, pI a3)] [] := by
  unfold fX16_make at h
  refine g_aload_n X (pc := 0) 0 rfl rfl dX16_make_0 ?_
  obtain ⟨v1, ev1, h⟩ := bd h
  refine g_getR X (pc := 1) fk_16_17 rfl rfl ev1 tb_1831 dX16_make_1 ?_
  refine g_iconst X (pc := 4) (v := 4) dX16_make_4 (by decide) ?_
  refine g_dup2 X (pc := 5) rfl rfl dX16_make_5 ?_
  obtain ⟨v2, ev2, h⟩ := bd h
  refine g_iaload X (pc := 6) ev2 dX16_make_6 ?_
  refine g_iconst X (pc := 7) (v := 1) dX16_make_7 (by decide) ?_
  refine g_iadd X (pc := 8) dX16_make_8 ?_
  obtain ⟨M3, eM3, h⟩ := bd h
  refine g_iastore X (pc := 9) eM3 dX16_make_9 ?_
  refine g_aload_n X (pc := 10) 1 rfl rfl dX16_make_10 ?_
  refine g_aload_n X (pc := 11) 1 rfl rfl dX16_make_11 ?_
  obtain ⟨v4, ev4, h⟩ := bd h
  refine g_getI X (pc := 12) fk_12_5 rfl rfl ev4 tb_1585 dX16_make_12 ?_
  obtain ⟨M5, eM5, h⟩ := bd h
  refine g_putI X (pc := 15) fk_12_29 rfl rfl rfl eM5 tb_1613 (Or.inl rfl) dX16_make_15 ?_
  refine g_aload_n X (pc := 18) 1 rfl rfl dX16_make_18 ?_
  refine g_iconst X (pc := 19) (v := 0) dX16_make_19 (by decide) ?_
  obtain ⟨M6, eM6, h⟩ := bd h
  refine g_putI X (pc := 20) fk_12_26 rfl rfl rfl eM6 tb_1608 (Or.inl rfl) dX16_make_20 ?_
  refine g_aload_n X (pc := 23) 1 rfl rfl dX16_make_23 ?_
  refine g_iload_n X (pc := 24) 3 rfl rfl dX16_make_24 ?_
  obtain ⟨M7, eM7, h⟩ := bd h
  refine g_putZ X (pc := 25) fk_12_30 rfl rfl rfl eM7 tb_1615 (Or.inl rfl) dX16_make_25 ?_
  refine g_aload_n X (pc := 28) 0 rfl rfl dX16_make_28 ?_
  refine g_aload_n X (pc := 29) 1 rfl rfl dX16_make_29 ?_
  refine g_ldcwS X (pc := 30) (List.mem_of_getElem? (i := 56) rfl) dX16_make_30 ?_
  obtain ⟨q8, eq8, h⟩ := bd h
  obtain ⟨M9, eM9, h⟩ := bd h
  refine g_callV X (pc := 33) (M' := M9) (ro := none) (c := 16) rfl (by decide) (as := [pR a1, pR (some 23)]) (as' := [pR (some 23), pR a1]) (st := []) eq8 (ctX16_say _ _ _ _ _ _ fu q8 a1 (some 23) M7 _ eM9) tb_2431 tb_2428 tb_2430 ts_135 tb_8 ⟨rfl, hyX16_say⟩ rfl rfl ⟨by decide, by decide⟩ (Nat.le_of_ble_eq_true rfl) dX16_make_33 ?_
  refine g_aload_n X (pc := 36) 0 rfl rfl dX16_make_36 ?_
  refine g_aload_n X (pc := 37) 1 rfl rfl dX16_make_37 ?_
  refine g_aload_n X (pc := 38) 0 rfl rfl dX16_make_38 ?_
  obtain ⟨v10, ev10, h⟩ := bd h
  refine g_getI X (pc := 39) fk_16_43 rfl rfl ev10 tb_1857 dX16_make_39 ?_
  obtain ⟨q11, eq11, h⟩ := bd h
  obtain ⟨M12, eM12, h⟩ := bd h
  refine g_callV X (pc := 42) (M' := M12) (ro := none) (c := 16) rfl (by decide) (as := [pR a1, pI v10]) (as' := [pI v10, pR a1]) (st := []) eq11 (ctX16_sayNumber _ _ _ _ _ _ fu q11 a1 v10 M9 _ eM12) tb_2439 tb_2436 tb_2438 ts_137 tb_8 ⟨rfl, hyX16_sayNumber⟩ rfl rfl ⟨by decide, by decide⟩ (Nat.le_of_ble_eq_true rfl) dX16_make_42 ?_
  refine g_aload_n X (pc := 45) 0 rfl rfl dX16_make_45 ?_
  refine g_aload_n X (pc := 46) 1 rfl rfl dX16_make_46 ?_
  refine g_bipush X (pc := 47) (v := 32) dX16_make_47 (by decide) ?_
  obtain ⟨q13, eq13, h⟩ := bd h
  obtain ⟨M14, eM14, h⟩ := bd h
  refine g_callV X (pc := 49) (M' := M14) (ro := none) (c := 16) rfl (by decide) (as := [pR a1, pI (32 : Int32)]) (as' := [pI (32 : Int32), pR a1]) (st := []) eq13 (ctX16_code _ _ _ _ _ _ fu q13 a1 (32 : Int32) M12 _ eM14) tb_2435 tb_2432 tb_2434 ts_136 tb_8 ⟨rfl, hyX16_code⟩ rfl rfl ⟨by decide, by decide⟩ (Nat.le_of_ble_eq_true rfl) dX16_make_49 ?_
  refine g_aload_n X (pc := 52) 0 rfl rfl dX16_make_52 ?_
  refine g_aload_n X (pc := 53) 1 rfl rfl dX16_make_53 ?_
  refine g_aload_n X (pc := 54) 0 rfl rfl dX16_make_54 ?_
  obtain ⟨v15, ev15, h⟩ := bd h
  refine g_getI X (pc := 55) fk_16_43 rfl rfl ev15 tb_1857 dX16_make_55 ?_
  obtain ⟨v17, M16, eM16, h⟩ := b2d h
  refine g_callS X (pc := 58) (M' := M16) (ro := some (pR v17)) (as := [pI v15]) (as' := [pI v15]) (st := [pR a1, pR (some a0)]) (ctX16_phrase _ _ _ _ _ _ fu  v15 M14 _ eM16) tb_2442 tb_2440 tb_2441 tb_8 hyX16_phrase rfl rfl ⟨by decide, by decide⟩ (Nat.le_of_ble_eq_true rfl) dX16_make_58 ?_
  obtain ⟨q18, eq18, h⟩ := bd h
  obtain ⟨M19, eM19, h⟩ := bd h
  refine g_callV X (pc := 61) (M' := M19) (ro := none) (c := 16) rfl (by decide) (as := [pR a1, pR v17]) (as' := [pR v17, pR a1]) (st := []) eq18 (ctX16_say _ _ _ _ _ _ fu q18 a1 v17 M16 _ eM19) tb_2431 tb_2428 tb_2430 ts_135 tb_8 ⟨rfl, hyX16_say⟩ rfl rfl ⟨by decide, by decide⟩ (Nat.le_of_ble_eq_true rfl) dX16_make_61 ?_
  refine g_aload_n X (pc := 64) 0 rfl rfl dX16_make_64 ?_
  refine g_aload_n X (pc := 65) 1 rfl rfl dX16_make_65 ?_
  obtain ⟨q20, eq20, h⟩ := bd h
  obtain ⟨M21, eM21, h⟩ := bd h
  refine g_callV X (pc := 66) (M' := M21) (ro := none) (c := 16) rfl (by decide) (as := [pR a1]) (as' := [pR a1]) (st := []) eq20 (ctX16_line _ _ _ _ _ _ fu q20 a1 M19 _ eM21) tb_2455 tb_2452 tb_2454 ts_138 tb_8 ⟨rfl, hyX16_line⟩ rfl rfl ⟨by decide, by decide⟩ (Nat.le_of_ble_eq_true rfl) dX16_make_66 ?_
  refine g_iload_n X (pc := 69) 2 rfl rfl dX16_make_69 ?_
  refine g_if_lt X (pc := 70) (tgt := 82) dX16_make_70 (by decide) (fun hc => ?_) (fun hc => ?_)
  · have h := (if_pos hc).symm.trans h
    refine g_iconst X (pc := 82) (v := 5) dX16_make_82 (by decide) ?_
    refine g_aload_n X (pc := 83) 0 rfl rfl dX16_make_83 ?_
    obtain ⟨v22, ev22, h⟩ := bd h
    refine g_getI X (pc := 84) fk_16_43 rfl rfl ev22 tb_1857 dX16_make_84 ?_
    obtain ⟨v24, M23, eM23, h⟩ := b2d h
    refine g_callS X (pc := 87) (M' := M23) (ro := some (pR v24)) (as := [pI v22]) (as' := [pI v22]) (st := [pI (5 : Int32)]) (ctX16_phrase _ _ _ _ _ _ fu  v22 M21 _ eM23) tb_2442 tb_2440 tb_2441 tb_8 hyX16_phrase rfl rfl ⟨by decide, by decide⟩ (Nat.le_of_ble_eq_true rfl) dX16_make_87 ?_
    obtain ⟨q25, eq25, h⟩ := bd h
    obtain ⟨v27, M26, eM26, h⟩ := b2d h
    refine g_callVS X (pc := 90) (M' := M26) (ro := some (pI v27)) (as := []) (as' := []) (st := [pI (5 : Int32)]) eq25 (ctJ0_length_8abf5 _ _ _ _ _ _ fu q25  M23 _ eM26) tb_1214 tb_2358 tb_1212 tb_1213 tb_21 ⟨rfl, hyJ0_length_8abf5⟩ rfl rfl ⟨by decide, by decide⟩ (Nat.le_of_ble_eq_true rfl) dX16_make_90 ?_
    refine g_iadd X (pc := 93) dX16_make_93 ?_
    exact wX16_make_L94 X hE hn fu   a0 a1 a2 a3 ((5 : Int32) + v27) M26 h
  · have h := (if_neg hc).symm.trans h
    refine g_aload_n X (pc := 73) 0 rfl rfl dX16_make_73 ?_
    obtain ⟨v28, ev28, h⟩ := bd h
    refine g_getR X (pc := 74) fk_16_15 rfl rfl ev28 tb_1829 dX16_make_74 ?_
    refine g_iload_n X (pc := 77) 2 rfl rfl dX16_make_77 ?_
    obtain ⟨v29, ev29, h⟩ := bd h
    refine g_iaload X (pc := 78) ev29 dX16_make_78 ?_
    refine g_goto X (pc := 79) (tgt := 94) dX16_make_79 (by decide) ?_
    exact wX16_make_L94 X hE hn fu   a0 a1 a2 a3 v29 M21 h
theorem hyX16_make : yX16_make.cls ≠ "java/lang/invoke/MethodHandle" ∧ yX16_make.cls ≠ "java/lang/invoke/VarHandle" ∧ (parseMethodDescriptor yX16_make.desc).map (fun d => d.parameters.length) = some 3 := ⟨by decide +kernel, by decide +kernel, by decide +kernel⟩
theorem ctX16_make (l : Launch) (E : Nat → Nat) (D : va_G) (dA : Nat → ClassId) (lo : Nat) (H0 : Heap) (fu : Nat) (a0 : Nat) (a1 : Option Nat) (a2 : Int32) (a3 : Int32) (M : Mm) (out : Mm) (h : fX16_make fu a0 a1 a2 a3 M = some out) : Ct l E D dA lo H0 yX16_make cX16_make 6 none 7 151 [pR (some a0), pR a1, pI a2, pI a3] M none out := by
  refine ct_of (by decide +kernel) (Nat.le_of_ble_eq_true rfl) ?_
  intro x hl he hd ha ho hh hn hin X hE
  exact wX16_make X hE hn fu a0 a1 a2 a3 M h
