/-! ===== walks of methods, printed by a program of ours ===== -/
/-! WebHostModel.requestLine(II)Z -/
def fX16_requestLine_L283 (fu : Nat)  (a0 : Nat) (a3 : Int32) (a4 : Int32) (s0 : Option Nat) (s1 : Int32) (M : Mm) : Option (Int32 × Mm) :=
    (pZ M 16 1084 s0 s1).bind fun M1 =>
    (pF M1 16 1080 (some a0) (a3 + (1 : Int32))).bind fun M2 =>
    (pF M2 16 1081 (some a0) a4).bind fun M3 =>
    rN .boolean (1 : Int32) M3
def fX16_requestLine_L282 (fu : Nat)  (a0 : Nat) (a3 : Int32) (a4 : Int32) (s0 : Option Nat) (M : Mm) : Option (Int32 × Mm) :=
    fX16_requestLine_L283 fu  a0 a3 a4 s0 (0 : Int32) M
def fX16_requestLine_L242 (fu : Nat)  (a0 : Nat) (a1 : Int32) (a3 : Int32) (a4 : Int32) (s0 : Option Nat) (s1 : Int32) (M : Mm) : Option (Int32 × Mm) :=
    (pZ M 16 1069 s0 s1).bind fun M1 =>
    (rc M1 16 (some a0)).bind fun q2 =>
    b2 (fX16_says fu q2 a1 a3 (some 3) M1) fun v4 M3 =>
    (pZ M3 16 1068 (some a0) v4).bind fun M5 =>
    (gI M5 16 1068 (some a0)).bind fun v6 =>
    if v6 = 0 then (
    (rc M5 16 (some a0)).bind fun q7 =>
    b2 (fX16_says fu q7 a1 a3 (some 2) M5) fun v9 M8 =>
    if v9 = 0 then (
    fX16_requestLine_L283 fu  a0 a3 a4 (some a0) (1 : Int32) M8)
    else (
    fX16_requestLine_L282 fu  a0 a3 a4 (some a0) M8))
    else (
    fX16_requestLine_L282 fu  a0 a3 a4 (some a0) M5)
def fX16_requestLine_L223 (fu : Nat)  (a0 : Nat) (a1 : Int32) (a2 : Int32) (a3 : Int32) (a4 : Int32)  (M : Mm) : Option (Int32 × Mm) :=
    (gR M 16 1065 (some a0)).bind fun v1 =>
    (gA M 100 v1 (a2 - (1 : Int32))).bind fun v2 =>
    if v2 = (48 : Int32) then (
    fX16_requestLine_L242 fu  a0 a1 a3 a4 (some a0) (1 : Int32) M)
    else (
    fX16_requestLine_L242 fu  a0 a1 a3 a4 (some a0) (0 : Int32) M)
def fX16_requestLine_L154 (fu : Nat)  : Nat → Nat → Int32 → Int32 → Int32 → Int32 → Int32 → Mm → Option (Int32 × Mm)
  | 0, _, _, _, _, _, _, _ => none
  | n + 1, a0, a1, a2, a3, a4, a6, M =>
    if a4 ≤ a6 then (
    (rc M 16 (some a0)).bind fun q1 =>
    b2 (fX16_says fu q1 (a4 + (1 : Int32)) a2 (some 43) M) fun v3 M2 =>
    if v3 = 0 then (
    (rc M2 16 (some a0)).bind fun q4 =>
    b2 (fX16_says fu q4 (a4 + (1 : Int32)) a2 (some 44) M2) fun v6 M5 =>
    if v6 = 0 then (
    rN .boolean (0 : Int32) M5)
    else (
    fX16_requestLine_L223 fu  a0 a1 a2 a3 a4 M5))
    else (
    fX16_requestLine_L223 fu  a0 a1 a2 a3 a4 M2))
    else (
    (rc M 16 (some a0)).bind fun q7 =>
    b2 (fX16_headAt fu q7 a6 M) fun v9 M8 =>
    if v9 < (33 : Int32) then (
    rN .boolean (0 : Int32) M8)
    else (
    (rc M8 16 (some a0)).bind fun q10 =>
    b2 (fX16_headAt fu q10 a6 M8) fun v12 M11 =>
    if v12 ≤ (126 : Int32) then (
    fX16_requestLine_L154 fu  n a0 a1 a2 a3 a4 (a6 + (1 : Int32)) M11)
    else (
    rN .boolean (0 : Int32) M11)))
def fX16_requestLine_L113 (fu : Nat)  : Nat → Nat → Int32 → Int32 → Int32 → Int32 → Int32 → Mm → Option (Int32 × Mm)
  | 0, _, _, _, _, _, _, _ => none
  | n + 1, a0, a1, a2, a3, a4, a6, M =>
    if a3 ≤ a6 then (
    fX16_requestLine_L154 fu  fu a0 a1 a2 a3 a4 (a3 + (1 : Int32)) M)
    else (
    (rc M 16 (some a0)).bind fun q1 =>
    b2 (fX16_headAt fu q1 a6 M) fun v3 M2 =>
    if v3 < (65 : Int32) then (
    rN .boolean (0 : Int32) M2)
    else (
    (rc M2 16 (some a0)).bind fun q4 =>
    b2 (fX16_headAt fu q4 a6 M2) fun v6 M5 =>
    if v6 ≤ (90 : Int32) then (
    fX16_requestLine_L113 fu  n a0 a1 a2 a3 a4 (a6 + (1 : Int32)) M5)
    else (
    rN .boolean (0 : Int32) M5)))
def fX16_requestLine_L51 (fu : Nat) (k11 : Nat → Int32 → Int32 → Int32 → Int32 → Int32 → Int32 → Mm → Option (Int32 × Mm)) (a0 : Nat) (a1 : Int32) (a2 : Int32) (a3 : Int32) (a4 : Int32) (a5 : Int32) (a6 : Int32)  (M : Mm) : Option (Int32 × Mm) :=
    k11 a0 a1 a2 a3 a4 a5 (a6 + (1 : Int32)) M
def fX16_requestLine_L41 (fu : Nat) (k11 : Nat → Int32 → Int32 → Int32 → Int32 → Int32 → Int32 → Mm → Option (Int32 × Mm)) (a0 : Nat) (a1 : Int32) (a2 : Int32) (a3 : Int32) (a4 : Int32) (a5 : Int32) (a6 : Int32)  (M : Mm) : Option (Int32 × Mm) :=
    if a5 = (2 : Int32) then (
    fX16_requestLine_L51 fu k11 a0 a1 a2 a3 a6 a5 a6 M)
    else (
    fX16_requestLine_L51 fu k11 a0 a1 a2 a3 a4 a5 a6 M)
def fX16_requestLine_L11 (fu : Nat)  : Nat → Nat → Int32 → Int32 → Int32 → Int32 → Int32 → Int32 → Mm → Option (Int32 × Mm)
  | 0, _, _, _, _, _, _, _, _ => none
  | n + 1, a0, a1, a2, a3, a4, a5, a6, M =>
    if a2 ≤ a6 then (
    if a5 = (2 : Int32) then (
    if (a3 - a1) < (1 : Int32) then (
    rN .boolean (0 : Int32) M)
    else (
    if (16 : Int32) < (a3 - a1) then (
    rN .boolean (0 : Int32) M)
    else (
    if a4 = (a3 + (1 : Int32)) then (
    rN .boolean (0 : Int32) M)
    else (
    (gR M 16 1065 (some a0)).bind fun v1 =>
    (gA M 100 v1 (a3 + (1 : Int32))).bind fun v2 =>
    if v2 = (47 : Int32) then (
    if (a2 - a4) = (9 : Int32) then (
    fX16_requestLine_L113 fu  fu a0 a1 a2 a3 a4 a1 M)
    else (
    rN .boolean (0 : Int32) M))
    else (
    rN .boolean (0 : Int32) M)))))
    else (
    rN .boolean (0 : Int32) M))
    else (
    (gR M 16 1065 (some a0)).bind fun v3 =>
    (gA M 100 v3 a6).bind fun v4 =>
    if v4 = (32 : Int32) then (
    if (a5 + (1 : Int32)) = (1 : Int32) then (
    fX16_requestLine_L41 fu (fun b0 b1 b2 b3 b4 b5 b6 M => fX16_requestLine_L11 fu  n b0 b1 b2 b3 b4 b5 b6 M) a0 a1 a2 a6 a4 (a5 + (1 : Int32)) a6 M)
    else (
    fX16_requestLine_L41 fu (fun b0 b1 b2 b3 b4 b5 b6 M => fX16_requestLine_L11 fu  n b0 b1 b2 b3 b4 b5 b6 M) a0 a1 a2 a3 a4 (a5 + (1 : Int32)) a6 M))
    else (
    fX16_requestLine_L51 fu (fun b0 b1 b2 b3 b4 b5 b6 M => fX16_requestLine_L11 fu  n b0 b1 b2 b3 b4 b5 b6 M) a0 a1 a2 a3 a4 a5 a6 M))
def fX16_requestLine (fu : Nat)  (a0 : Nat) (a1 : Int32) (a2 : Int32)  (M : Mm) : Option (Int32 × Mm) :=
    fX16_requestLine_L11 fu  fu a0 a1 a2 (-1 : Int32) (-1 : Int32) (0 : Int32) a1 M
theorem dX16_requestLine_0 : decode cX16_requestLine 0 = .ok (.iconst (-1), 1) := by decide +kernel
theorem dX16_requestLine_1 : decode cX16_requestLine 1 = .ok (.istore_n 3, 1) := by decide +kernel
theorem dX16_requestLine_2 : decode cX16_requestLine 2 = .ok (.iconst (-1), 1) := by decide +kernel
theorem dX16_requestLine_3 : decode cX16_requestLine 3 = .ok (.istore 4, 2) := by decide +kernel
theorem dX16_requestLine_5 : decode cX16_requestLine 5 = .ok (.iconst 0, 1) := by decide +kernel
theorem dX16_requestLine_6 : decode cX16_requestLine 6 = .ok (.istore 5, 2) := by decide +kernel
theorem dX16_requestLine_8 : decode cX16_requestLine 8 = .ok (.iload_n 1, 1) := by decide +kernel
theorem dX16_requestLine_9 : decode cX16_requestLine 9 = .ok (.istore 6, 2) := by decide +kernel
theorem dX16_requestLine_11 : decode cX16_requestLine 11 = .ok (.iload 6, 2) := by decide +kernel
theorem dX16_requestLine_13 : decode cX16_requestLine 13 = .ok (.iload_n 2, 1) := by decide +kernel
theorem dX16_requestLine_14 : decode cX16_requestLine 14 = .ok (.if_icmp .ge 43, 3) := by decide +kernel
theorem dX16_requestLine_17 : decode cX16_requestLine 17 = .ok (.aload_n 0, 1) := by decide +kernel
theorem dX16_requestLine_18 : decode cX16_requestLine 18 = .ok (.getfield 74, 3) := by decide +kernel
theorem dX16_requestLine_21 : decode cX16_requestLine 21 = .ok (.iload 6, 2) := by decide +kernel
theorem dX16_requestLine_23 : decode cX16_requestLine 23 = .ok (.baload, 1) := by decide +kernel
theorem dX16_requestLine_24 : decode cX16_requestLine 24 = .ok (.bipush 32, 2) := by decide +kernel
theorem dX16_requestLine_26 : decode cX16_requestLine 26 = .ok (.if_icmp .ne 25, 3) := by decide +kernel
theorem dX16_requestLine_29 : decode cX16_requestLine 29 = .ok (.iinc 5 1, 3) := by decide +kernel
theorem dX16_requestLine_32 : decode cX16_requestLine 32 = .ok (.iload 5, 2) := by decide +kernel
theorem dX16_requestLine_34 : decode cX16_requestLine 34 = .ok (.iconst 1, 1) := by decide +kernel
theorem dX16_requestLine_35 : decode cX16_requestLine 35 = .ok (.if_icmp .ne 6, 3) := by decide +kernel
theorem dX16_requestLine_38 : decode cX16_requestLine 38 = .ok (.iload 6, 2) := by decide +kernel
theorem dX16_requestLine_40 : decode cX16_requestLine 40 = .ok (.istore_n 3, 1) := by decide +kernel
theorem dX16_requestLine_41 : decode cX16_requestLine 41 = .ok (.iload 5, 2) := by decide +kernel
theorem dX16_requestLine_43 : decode cX16_requestLine 43 = .ok (.iconst 2, 1) := by decide +kernel
theorem dX16_requestLine_44 : decode cX16_requestLine 44 = .ok (.if_icmp .ne 7, 3) := by decide +kernel
theorem dX16_requestLine_47 : decode cX16_requestLine 47 = .ok (.iload 6, 2) := by decide +kernel
theorem dX16_requestLine_49 : decode cX16_requestLine 49 = .ok (.istore 4, 2) := by decide +kernel
theorem dX16_requestLine_51 : decode cX16_requestLine 51 = .ok (.iinc 6 1, 3) := by decide +kernel
theorem dX16_requestLine_54 : decode cX16_requestLine 54 = .ok (.goto (-43), 3) := by decide +kernel
theorem dX16_requestLine_57 : decode cX16_requestLine 57 = .ok (.iload 5, 2) := by decide +kernel
theorem dX16_requestLine_59 : decode cX16_requestLine 59 = .ok (.iconst 2, 1) := by decide +kernel
theorem dX16_requestLine_60 : decode cX16_requestLine 60 = .ok (.if_icmp .ne 48, 3) := by decide +kernel
theorem dX16_requestLine_63 : decode cX16_requestLine 63 = .ok (.iload_n 3, 1) := by decide +kernel
theorem dX16_requestLine_64 : decode cX16_requestLine 64 = .ok (.iload_n 1, 1) := by decide +kernel
theorem dX16_requestLine_65 : decode cX16_requestLine 65 = .ok (.isub, 1) := by decide +kernel
theorem dX16_requestLine_66 : decode cX16_requestLine 66 = .ok (.iconst 1, 1) := by decide +kernel
theorem dX16_requestLine_67 : decode cX16_requestLine 67 = .ok (.if_icmp .lt 41, 3) := by decide +kernel
theorem dX16_requestLine_70 : decode cX16_requestLine 70 = .ok (.iload_n 3, 1) := by decide +kernel
theorem dX16_requestLine_71 : decode cX16_requestLine 71 = .ok (.iload_n 1, 1) := by decide +kernel
theorem dX16_requestLine_72 : decode cX16_requestLine 72 = .ok (.isub, 1) := by decide +kernel
theorem dX16_requestLine_73 : decode cX16_requestLine 73 = .ok (.bipush 16, 2) := by decide +kernel
theorem dX16_requestLine_75 : decode cX16_requestLine 75 = .ok (.if_icmp .gt 33, 3) := by decide +kernel
theorem dX16_requestLine_78 : decode cX16_requestLine 78 = .ok (.iload 4, 2) := by decide +kernel
theorem dX16_requestLine_80 : decode cX16_requestLine 80 = .ok (.iload_n 3, 1) := by decide +kernel
theorem dX16_requestLine_81 : decode cX16_requestLine 81 = .ok (.iconst 1, 1) := by decide +kernel
theorem dX16_requestLine_82 : decode cX16_requestLine 82 = .ok (.iadd, 1) := by decide +kernel
theorem dX16_requestLine_83 : decode cX16_requestLine 83 = .ok (.if_icmp .eq 25, 3) := by decide +kernel
theorem dX16_requestLine_86 : decode cX16_requestLine 86 = .ok (.aload_n 0, 1) := by decide +kernel
theorem dX16_requestLine_87 : decode cX16_requestLine 87 = .ok (.getfield 74, 3) := by decide +kernel
theorem dX16_requestLine_90 : decode cX16_requestLine 90 = .ok (.iload_n 3, 1) := by decide +kernel
theorem dX16_requestLine_91 : decode cX16_requestLine 91 = .ok (.iconst 1, 1) := by decide +kernel
theorem dX16_requestLine_92 : decode cX16_requestLine 92 = .ok (.iadd, 1) := by decide +kernel
theorem dX16_requestLine_93 : decode cX16_requestLine 93 = .ok (.baload, 1) := by decide +kernel
theorem dX16_requestLine_94 : decode cX16_requestLine 94 = .ok (.bipush 47, 2) := by decide +kernel
theorem dX16_requestLine_96 : decode cX16_requestLine 96 = .ok (.if_icmp .ne 12, 3) := by decide +kernel
theorem dX16_requestLine_99 : decode cX16_requestLine 99 = .ok (.iload_n 2, 1) := by decide +kernel
theorem dX16_requestLine_100 : decode cX16_requestLine 100 = .ok (.iload 4, 2) := by decide +kernel
theorem dX16_requestLine_102 : decode cX16_requestLine 102 = .ok (.isub, 1) := by decide +kernel
theorem dX16_requestLine_103 : decode cX16_requestLine 103 = .ok (.bipush 9, 2) := by decide +kernel
theorem dX16_requestLine_105 : decode cX16_requestLine 105 = .ok (.if_icmp .eq 5, 3) := by decide +kernel
theorem dX16_requestLine_108 : decode cX16_requestLine 108 = .ok (.iconst 0, 1) := by decide +kernel
theorem dX16_requestLine_109 : decode cX16_requestLine 109 = .ok (.ireturn, 1) := by decide +kernel
theorem dX16_requestLine_110 : decode cX16_requestLine 110 = .ok (.iload_n 1, 1) := by decide +kernel
theorem dX16_requestLine_111 : decode cX16_requestLine 111 = .ok (.istore 6, 2) := by decide +kernel
theorem dX16_requestLine_113 : decode cX16_requestLine 113 = .ok (.iload 6, 2) := by decide +kernel
theorem dX16_requestLine_115 : decode cX16_requestLine 115 = .ok (.iload_n 3, 1) := by decide +kernel
theorem dX16_requestLine_116 : decode cX16_requestLine 116 = .ok (.if_icmp .ge 33, 3) := by decide +kernel
theorem dX16_requestLine_119 : decode cX16_requestLine 119 = .ok (.aload_n 0, 1) := by decide +kernel
theorem dX16_requestLine_120 : decode cX16_requestLine 120 = .ok (.iload 6, 2) := by decide +kernel
theorem dX16_requestLine_122 : decode cX16_requestLine 122 = .ok (.invokevirtual 693, 3) := by decide +kernel
theorem dX16_requestLine_125 : decode cX16_requestLine 125 = .ok (.bipush 65, 2) := by decide +kernel
theorem dX16_requestLine_127 : decode cX16_requestLine 127 = .ok (.if_icmp .lt 14, 3) := by decide +kernel
theorem dX16_requestLine_130 : decode cX16_requestLine 130 = .ok (.aload_n 0, 1) := by decide +kernel
theorem dX16_requestLine_131 : decode cX16_requestLine 131 = .ok (.iload 6, 2) := by decide +kernel
theorem dX16_requestLine_133 : decode cX16_requestLine 133 = .ok (.invokevirtual 693, 3) := by decide +kernel
theorem dX16_requestLine_136 : decode cX16_requestLine 136 = .ok (.bipush 90, 2) := by decide +kernel
theorem dX16_requestLine_138 : decode cX16_requestLine 138 = .ok (.if_icmp .le 5, 3) := by decide +kernel
theorem dX16_requestLine_141 : decode cX16_requestLine 141 = .ok (.iconst 0, 1) := by decide +kernel
theorem dX16_requestLine_142 : decode cX16_requestLine 142 = .ok (.ireturn, 1) := by decide +kernel
theorem dX16_requestLine_143 : decode cX16_requestLine 143 = .ok (.iinc 6 1, 3) := by decide +kernel
theorem dX16_requestLine_146 : decode cX16_requestLine 146 = .ok (.goto (-33), 3) := by decide +kernel
theorem dX16_requestLine_149 : decode cX16_requestLine 149 = .ok (.iload_n 3, 1) := by decide +kernel
theorem dX16_requestLine_150 : decode cX16_requestLine 150 = .ok (.iconst 1, 1) := by decide +kernel
theorem dX16_requestLine_151 : decode cX16_requestLine 151 = .ok (.iadd, 1) := by decide +kernel
theorem dX16_requestLine_152 : decode cX16_requestLine 152 = .ok (.istore 6, 2) := by decide +kernel
theorem dX16_requestLine_154 : decode cX16_requestLine 154 = .ok (.iload 6, 2) := by decide +kernel
theorem dX16_requestLine_156 : decode cX16_requestLine 156 = .ok (.iload 4, 2) := by decide +kernel
theorem dX16_requestLine_158 : decode cX16_requestLine 158 = .ok (.if_icmp .ge 33, 3) := by decide +kernel
theorem dX16_requestLine_161 : decode cX16_requestLine 161 = .ok (.aload_n 0, 1) := by decide +kernel
theorem dX16_requestLine_162 : decode cX16_requestLine 162 = .ok (.iload 6, 2) := by decide +kernel
theorem dX16_requestLine_164 : decode cX16_requestLine 164 = .ok (.invokevirtual 693, 3) := by decide +kernel
theorem dX16_requestLine_167 : decode cX16_requestLine 167 = .ok (.bipush 33, 2) := by decide +kernel
theorem dX16_requestLine_169 : decode cX16_requestLine 169 = .ok (.if_icmp .lt 14, 3) := by decide +kernel
theorem dX16_requestLine_172 : decode cX16_requestLine 172 = .ok (.aload_n 0, 1) := by decide +kernel
theorem dX16_requestLine_173 : decode cX16_requestLine 173 = .ok (.iload 6, 2) := by decide +kernel
theorem dX16_requestLine_175 : decode cX16_requestLine 175 = .ok (.invokevirtual 693, 3) := by decide +kernel
theorem dX16_requestLine_178 : decode cX16_requestLine 178 = .ok (.bipush 126, 2) := by decide +kernel
theorem dX16_requestLine_180 : decode cX16_requestLine 180 = .ok (.if_icmp .le 5, 3) := by decide +kernel
theorem dX16_requestLine_183 : decode cX16_requestLine 183 = .ok (.iconst 0, 1) := by decide +kernel
theorem dX16_requestLine_184 : decode cX16_requestLine 184 = .ok (.ireturn, 1) := by decide +kernel
theorem dX16_requestLine_185 : decode cX16_requestLine 185 = .ok (.iinc 6 1, 3) := by decide +kernel
theorem dX16_requestLine_188 : decode cX16_requestLine 188 = .ok (.goto (-34), 3) := by decide +kernel
theorem dX16_requestLine_191 : decode cX16_requestLine 191 = .ok (.aload_n 0, 1) := by decide +kernel
theorem dX16_requestLine_192 : decode cX16_requestLine 192 = .ok (.iload 4, 2) := by decide +kernel
theorem dX16_requestLine_194 : decode cX16_requestLine 194 = .ok (.iconst 1, 1) := by decide +kernel
theorem dX16_requestLine_195 : decode cX16_requestLine 195 = .ok (.iadd, 1) := by decide +kernel
theorem dX16_requestLine_196 : decode cX16_requestLine 196 = .ok (.iload_n 2, 1) := by decide +kernel
theorem dX16_requestLine_197 : decode cX16_requestLine 197 = .ok (.ldc_w 696, 3) := by decide +kernel
theorem dX16_requestLine_200 : decode cX16_requestLine 200 = .ok (.invokevirtual 698, 3) := by decide +kernel
theorem dX16_requestLine_203 : decode cX16_requestLine 203 = .ok (.ifCond .ne 20, 3) := by decide +kernel
theorem dX16_requestLine_206 : decode cX16_requestLine 206 = .ok (.aload_n 0, 1) := by decide +kernel
theorem dX16_requestLine_207 : decode cX16_requestLine 207 = .ok (.iload 4, 2) := by decide +kernel
theorem dX16_requestLine_209 : decode cX16_requestLine 209 = .ok (.iconst 1, 1) := by decide +kernel
theorem dX16_requestLine_210 : decode cX16_requestLine 210 = .ok (.iadd, 1) := by decide +kernel
theorem dX16_requestLine_211 : decode cX16_requestLine 211 = .ok (.iload_n 2, 1) := by decide +kernel
theorem dX16_requestLine_212 : decode cX16_requestLine 212 = .ok (.ldc_w 702, 3) := by decide +kernel
theorem dX16_requestLine_215 : decode cX16_requestLine 215 = .ok (.invokevirtual 698, 3) := by decide +kernel
theorem dX16_requestLine_218 : decode cX16_requestLine 218 = .ok (.ifCond .ne 5, 3) := by decide +kernel
theorem dX16_requestLine_221 : decode cX16_requestLine 221 = .ok (.iconst 0, 1) := by decide +kernel
theorem dX16_requestLine_222 : decode cX16_requestLine 222 = .ok (.ireturn, 1) := by decide +kernel
theorem dX16_requestLine_223 : decode cX16_requestLine 223 = .ok (.aload_n 0, 1) := by decide +kernel
theorem dX16_requestLine_224 : decode cX16_requestLine 224 = .ok (.aload_n 0, 1) := by decide +kernel
theorem dX16_requestLine_225 : decode cX16_requestLine 225 = .ok (.getfield 74, 3) := by decide +kernel
theorem dX16_requestLine_228 : decode cX16_requestLine 228 = .ok (.iload_n 2, 1) := by decide +kernel
theorem dX16_requestLine_229 : decode cX16_requestLine 229 = .ok (.iconst 1, 1) := by decide +kernel
theorem dX16_requestLine_230 : decode cX16_requestLine 230 = .ok (.isub, 1) := by decide +kernel
theorem dX16_requestLine_231 : decode cX16_requestLine 231 = .ok (.baload, 1) := by decide +kernel
theorem dX16_requestLine_232 : decode cX16_requestLine 232 = .ok (.bipush 48, 2) := by decide +kernel
theorem dX16_requestLine_234 : decode cX16_requestLine 234 = .ok (.if_icmp .ne 7, 3) := by decide +kernel
theorem dX16_requestLine_237 : decode cX16_requestLine 237 = .ok (.iconst 1, 1) := by decide +kernel
theorem dX16_requestLine_238 : decode cX16_requestLine 238 = .ok (.goto 4, 3) := by decide +kernel
theorem dX16_requestLine_241 : decode cX16_requestLine 241 = .ok (.iconst 0, 1) := by decide +kernel
theorem dX16_requestLine_242 : decode cX16_requestLine 242 = .ok (.putfield 645, 3) := by decide +kernel
theorem dX16_requestLine_245 : decode cX16_requestLine 245 = .ok (.aload_n 0, 1) := by decide +kernel
theorem dX16_requestLine_246 : decode cX16_requestLine 246 = .ok (.aload_n 0, 1) := by decide +kernel
theorem dX16_requestLine_247 : decode cX16_requestLine 247 = .ok (.iload_n 1, 1) := by decide +kernel
theorem dX16_requestLine_248 : decode cX16_requestLine 248 = .ok (.iload_n 3, 1) := by decide +kernel
theorem dX16_requestLine_249 : decode cX16_requestLine 249 = .ok (.ldc_w 704, 3) := by decide +kernel
theorem dX16_requestLine_252 : decode cX16_requestLine 252 = .ok (.invokevirtual 698, 3) := by decide +kernel
theorem dX16_requestLine_255 : decode cX16_requestLine 255 = .ok (.putfield 634, 3) := by decide +kernel
theorem dX16_requestLine_258 : decode cX16_requestLine 258 = .ok (.aload_n 0, 1) := by decide +kernel
theorem dX16_requestLine_259 : decode cX16_requestLine 259 = .ok (.aload_n 0, 1) := by decide +kernel
theorem dX16_requestLine_260 : decode cX16_requestLine 260 = .ok (.getfield 634, 3) := by decide +kernel
theorem dX16_requestLine_263 : decode cX16_requestLine 263 = .ok (.ifCond .ne 19, 3) := by decide +kernel
theorem dX16_requestLine_266 : decode cX16_requestLine 266 = .ok (.aload_n 0, 1) := by decide +kernel
theorem dX16_requestLine_267 : decode cX16_requestLine 267 = .ok (.iload_n 1, 1) := by decide +kernel
theorem dX16_requestLine_268 : decode cX16_requestLine 268 = .ok (.iload_n 3, 1) := by decide +kernel
theorem dX16_requestLine_269 : decode cX16_requestLine 269 = .ok (.ldc_w 706, 3) := by decide +kernel
theorem dX16_requestLine_272 : decode cX16_requestLine 272 = .ok (.invokevirtual 698, 3) := by decide +kernel
theorem dX16_requestLine_275 : decode cX16_requestLine 275 = .ok (.ifCond .ne 7, 3) := by decide +kernel
theorem dX16_requestLine_278 : decode cX16_requestLine 278 = .ok (.iconst 1, 1) := by decide +kernel
theorem dX16_requestLine_279 : decode cX16_requestLine 279 = .ok (.goto 4, 3) := by decide +kernel
theorem dX16_requestLine_282 : decode cX16_requestLine 282 = .ok (.iconst 0, 1) := by decide +kernel
theorem dX16_requestLine_283 : decode cX16_requestLine 283 = .ok (.putfield 708, 3) := by decide +kernel
theorem dX16_requestLine_286 : decode cX16_requestLine 286 = .ok (.aload_n 0, 1) := by decide +kernel
theorem dX16_requestLine_287 : decode cX16_requestLine 287 = .ok (.iload_n 3, 1) := by decide +kernel
theorem dX16_requestLine_288 : decode cX16_requestLine 288 = .ok (.iconst 1, 1) := by decide +kernel
theorem dX16_requestLine_289 : decode cX16_requestLine 289 = .ok (.iadd, 1) := by decide +kernel
theorem dX16_requestLine_290 : decode cX16_requestLine 290 = .ok (.putfield 711, 3) := by decide +kernel
theorem dX16_requestLine_293 : decode cX16_requestLine 293 = .ok (.aload_n 0, 1) := by decide +kernel
theorem dX16_requestLine_294 : decode cX16_requestLine 294 = .ok (.iload 4, 2) := by decide +kernel
theorem dX16_requestLine_296 : decode cX16_requestLine 296 = .ok (.putfield 714, 3) := by decide +kernel
theorem dX16_requestLine_299 : decode cX16_requestLine 299 = .ok (.iconst 1, 1) := by decide +kernel
theorem dX16_requestLine_300 : decode cX16_requestLine 300 = .ok (.ireturn, 1) := by decide +kernel
theorem wX16_requestLine_L283 {x : GX} {n0 sl0 : Nat} (X : Cx x cX16_requestLine RX16 (some .boolean) n0 sl0 6 130) {out : Int32 × Mm} (hE : Ends x n0 sl0 (some (pI out.1)) out.2) (hn : xn x = 7) (fu : Nat)   (a0 : Nat) (a3 : Int32) (a4 : Int32) (s0 : Option Nat) (s1 : Int32) (M : Mm) (h : fX16_requestLine_L283 fu  a0 a3 a4 s0 s1 M = some out) : Gw x M 283 [(0, pR (some a0)), (3, pI a3), (4, pI a4)] [pI s1, pR s0] := by
  unfold fX16_requestLine_L283 at h
  obtain ⟨M1, eM1, h⟩ := bd h
  refine g_putZ X (pc := 283) fk_16_60 rfl rfl rfl eM1 tb_1874 (Or.inl rfl) dX16_requestLine_283 ?_
  refine g_aload_n X (pc := 286) 0 rfl rfl dX16_requestLine_286 ?_
  refine g_iload_n X (pc := 287) 1 rfl rfl dX16_requestLine_287 ?_
  refine g_iconst X (pc := 288) (v := 1) dX16_requestLine_288 (by decide) ?_
  refine g_iadd X (pc := 289) dX16_requestLine_289 ?_
  obtain ⟨M2, eM2, h⟩ := bd h
  refine g_putI X (pc := 290) fk_16_56 rfl rfl rfl eM2 tb_1870 (Or.inl rfl) dX16_requestLine_290 ?_
  refine g_aload_n X (pc := 293) 0 rfl rfl dX16_requestLine_293 ?_
  refine g_iload X (pc := 294) 2 rfl dX16_requestLine_294 ?_
  obtain ⟨M3, eM3, h⟩ := bd h
  refine g_putI X (pc := 296) fk_16_57 rfl rfl rfl eM3 tb_1871 (Or.inl rfl) dX16_requestLine_296 ?_
  refine g_iconst X (pc := 299) (v := 1) dX16_requestLine_299 (by decide) ?_
  obtain ⟨hz, rfl⟩ := rN_some h
  exact g_nreturn X rfl hz hE dX16_requestLine_300
theorem wX16_requestLine_L282 {x : GX} {n0 sl0 : Nat} (X : Cx x cX16_requestLine RX16 (some .boolean) n0 sl0 6 130) {out : Int32 × Mm} (hE : Ends x n0 sl0 (some (pI out.1)) out.2) (hn : xn x = 7) (fu : Nat)   (a0 : Nat) (a3 : Int32) (a4 : Int32) (s0 : Option Nat) (M : Mm) (h : fX16_requestLine_L282 fu  a0 a3 a4 s0 M = some out) : Gw x M 282 [(0, pR (some a0)), (3, pI a3), (4, pI a4)] [pR s0] := by
  unfold fX16_requestLine_L282 at h
  refine g_iconst X (pc := 282) (v := 0) dX16_requestLine_282 (by decide) ?_
  exact wX16_requestLine_L283 X hE hn fu   a0 a3 a4 s0 (0 : Int32) M h
theorem wX16_requestLine_L242 {x : GX} {n0 sl0 : Nat} (X : Cx x cX16_requestLine RX16 (some .boolean) n0 sl0 6 130) {out : Int32 × Mm} (hE : Ends x n0 sl0 (some (pI out.1)) out.2) (hn : xn x = 7) (fu : Nat)   (a0 : Nat) (a1 : Int32) (a3 : Int32) (a4 : Int32) (s0 : Option Nat) (s1 : Int32) (M : Mm) (h : fX16_requestLine_L242 fu  a0 a1 a3 a4 s0 s1 M = some out) : Gw x M 242 [(0, pR (some a0)), (1, pI a1), (3, pI a3), (4, pI a4)] [pI s1, pR s0] := by
  unfold fX16_requestLine_L242 at h
  obtain ⟨M1, eM1, h⟩ := bd h
  refine g_putZ X (pc := 242) fk_16_45 rfl rfl rfl eM1 tb_1859 (Or.inl rfl) dX16_requestLine_242 ?_
  refine g_aload_n X (pc := 245) 0 rfl rfl dX16_requestLine_245 ?_
  refine g_aload_n X (pc := 246) 0 rfl rfl dX16_requestLine_246 ?_
  refine g_iload_n X (pc := 247) 1 rfl rfl dX16_requestLine_247 ?_
  refine g_iload_n X (pc := 248) 2 rfl rfl dX16_requestLine_248 ?_
  refine g_ldcwS X (pc := 249) (List.mem_of_getElem? (i := 45) rfl) dX16_requestLine_249 ?_
  obtain ⟨q2, eq2, h⟩ := bd h
  obtain ⟨v4, M3, eM3, h⟩ := b2d h
  refine g_callV X (pc := 252) (M' := M3) (ro := some (pI v4)) (c := 16) rfl (by decide) (as := [pI a1, pI a3, pR (some 3)]) (as' := [pR (some 3), pI a3, pI a1]) (st := [pR (some a0)]) eq2 (ctX16_says _ _ _ _ _ _ fu q2 a1 a3 (some 3) M1 _ eM3) tb_2357 tb_2354 tb_2356 ts_125 tb_8 ⟨rfl, hyX16_says⟩ rfl rfl ⟨by decide, by decide⟩ (Nat.le_of_ble_eq_true rfl) dX16_requestLine_252 ?_
  obtain ⟨M5, eM5, h⟩ := bd h
  refine g_putZ X (pc := 255) fk_16_44 rfl rfl rfl eM5 tb_1858 (Or.inl rfl) dX16_requestLine_255 ?_
  refine g_aload_n X (pc := 258) 0 rfl rfl dX16_requestLine_258 ?_
  refine g_aload_n X (pc := 259) 0 rfl rfl dX16_requestLine_259 ?_
  obtain ⟨v6, ev6, h⟩ := bd h
  refine g_getI X (pc := 260) fk_16_44 rfl rfl ev6 tb_1858 dX16_requestLine_260 ?_
  refine g_if_ne X (pc := 263) (tgt := 282) dX16_requestLine_263 (by decide) (fun hc => ?_) (fun hc => ?_)
  · have h := (if_neg hc).symm.trans h
    refine g_sub [0, 2, 3] [(0, pR (some a0)), (3, pI a3), (4, pI a4)] rfl ?_
    exact wX16_requestLine_L282 X hE hn fu   a0 a3 a4 (some a0) M5 h
  · have h := (if_pos hc).symm.trans h
    refine g_aload_n X (pc := 266) 0 rfl rfl dX16_requestLine_266 ?_
    refine g_iload_n X (pc := 267) 1 rfl rfl dX16_requestLine_267 ?_
    refine g_iload_n X (pc := 268) 2 rfl rfl dX16_requestLine_268 ?_
    refine g_ldcwS X (pc := 269) (List.mem_of_getElem? (i := 46) rfl) dX16_requestLine_269 ?_
    obtain ⟨q7, eq7, h⟩ := bd h
    obtain ⟨v9, M8, eM8, h⟩ := b2d h
    refine g_callV X (pc := 272) (M' := M8) (ro := some (pI v9)) (c := 16) rfl (by decide) (as := [pI a1, pI a3, pR (some 2)]) (as' := [pR (some 2), pI a3, pI a1]) (st := [pR (some a0)]) eq7 (ctX16_says _ _ _ _ _ _ fu q7 a1 a3 (some 2) M5 _ eM8) tb_2357 tb_2354 tb_2356 ts_125 tb_8 ⟨rfl, hyX16_says⟩ rfl rfl ⟨by decide, by decide⟩ (Nat.le_of_ble_eq_true rfl) dX16_requestLine_272 ?_
    refine g_if_ne X (pc := 275) (tgt := 282) dX16_requestLine_275 (by decide) (fun hc => ?_) (fun hc => ?_)
    · have h := (if_neg hc).symm.trans h
      refine g_sub [0, 2, 3] [(0, pR (some a0)), (3, pI a3), (4, pI a4)] rfl ?_
      exact wX16_requestLine_L282 X hE hn fu   a0 a3 a4 (some a0) M8 h
    · have h := (if_pos hc).symm.trans h
      refine g_iconst X (pc := 278) (v := 1) dX16_requestLine_278 (by decide) ?_
      refine g_goto X (pc := 279) (tgt := 283) dX16_requestLine_279 (by decide) ?_
      refine g_sub [0, 2, 3] [(0, pR (some a0)), (3, pI a3), (4, pI a4)] rfl ?_
      exact wX16_requestLine_L283 X hE hn fu   a0 a3 a4 (some a0) (1 : Int32) M8 h
theorem wX16_requestLine_L223 {x : GX} {n0 sl0 : Nat} (X : Cx x cX16_requestLine RX16 (some .boolean) n0 sl0 6 130) {out : Int32 × Mm} (hE : Ends x n0 sl0 (some (pI out.1)) out.2) (hn : xn x = 7) (fu : Nat)   (a0 : Nat) (a1 : Int32) (a2 : Int32) (a3 : Int32) (a4 : Int32)  (M : Mm) (h : fX16_requestLine_L223 fu  a0 a1 a2 a3 a4 M = some out) : Gw x M 223 [(0, pR (some a0)), (1, pI a1), (2, pI a2), (3, pI a3), (4, pI a4)] [] := by
  unfold fX16_requestLine_L223 at h
  refine g_aload_n X (pc := 223) 0 rfl rfl dX16_requestLine_223 ?_
  refine g_aload_n X (pc := 224) 0 rfl rfl dX16_requestLine_224 ?_
  obtain ⟨v1, ev1, h⟩ := bd h
  refine g_getR X (pc := 225) fk_16_41 rfl rfl ev1 tb_1855 dX16_requestLine_225 ?_
  refine g_iload_n X (pc := 228) 2 rfl rfl dX16_requestLine_228 ?_
  refine g_iconst X (pc := 229) (v := 1) dX16_requestLine_229 (by decide) ?_
  refine g_isub X (pc := 230) dX16_requestLine_230 ?_
  obtain ⟨v2, ev2, h⟩ := bd h
  refine g_baload X (pc := 231) ev2 dX16_requestLine_231 ?_
  refine g_bipush X (pc := 232) (v := 48) dX16_requestLine_232 (by decide) ?_
  refine g_icmp_ne X (pc := 234) (tgt := 241) dX16_requestLine_234 (by decide) (fun hc => ?_) (fun hc => ?_)
  · have h := (if_neg hc).symm.trans h
    refine g_iconst X (pc := 241) (v := 0) dX16_requestLine_241 (by decide) ?_
    refine g_sub [0, 1, 3, 4] [(0, pR (some a0)), (1, pI a1), (3, pI a3), (4, pI a4)] rfl ?_
    exact wX16_requestLine_L242 X hE hn fu   a0 a1 a3 a4 (some a0) (0 : Int32) M h
  · have h := (if_pos hc).symm.trans h
    refine g_iconst X (pc := 237) (v := 1) dX16_requestLine_237 (by decide) ?_
    refine g_goto X (pc := 238) (tgt := 242) dX16_requestLine_238 (by decide) ?_
    refine g_sub [0, 1, 3, 4] [(0, pR (some a0)), (1, pI a1), (3, pI a3), (4, pI a4)] rfl ?_
    exact wX16_requestLine_L242 X hE hn fu   a0 a1 a3 a4 (some a0) (1 : Int32) M h
theorem wX16_requestLine_L154 {x : GX} {n0 sl0 : Nat} (X : Cx x cX16_requestLine RX16 (some .boolean) n0 sl0 6 130) {out : Int32 × Mm} (hE : Ends x n0 sl0 (some (pI out.1)) out.2) (hn : xn x = 7) (fu : Nat)   : ∀ (n : Nat) (a0 : Nat) (a1 : Int32) (a2 : Int32) (a3 : Int32) (a4 : Int32) (a6 : Int32)  (M : Mm), fX16_requestLine_L154 fu  n a0 a1 a2 a3 a4 a6 M = some out → Gw x M 154 [(0, pR (some a0)), (1, pI a1), (2, pI a2), (3, pI a3), (4, pI a4), (6, pI a6)] [] := by
  intro n
  induction n with
  | zero =>
    intro a0 a1 a2 a3 a4 a6 M h
    have h : (none : Option (Int32 × Mm)) = some out := h
    cases h
  | succ n ih =>
    intro a0 a1 a2 a3 a4 a6 M h
    rw [fX16_requestLine_L154] at h
    refine g_iload X (pc := 154) 5 rfl dX16_requestLine_154 ?_
    refine g_iload X (pc := 156) 4 rfl dX16_requestLine_156 ?_
    refine g_icmp_ge X (pc := 158) (tgt := 191) dX16_requestLine_158 (by decide) (fun hc => ?_) (fun hc => ?_)
    · have h := (if_pos hc).symm.trans h
      refine g_aload_n X (pc := 191) 0 rfl rfl dX16_requestLine_191 ?_
      refine g_iload X (pc := 192) 4 rfl dX16_requestLine_192 ?_
      refine g_iconst X (pc := 194) (v := 1) dX16_requestLine_194 (by decide) ?_
      refine g_iadd X (pc := 195) dX16_requestLine_195 ?_
      refine g_iload_n X (pc := 196) 2 rfl rfl dX16_requestLine_196 ?_
      refine g_ldcwS X (pc := 197) (List.mem_of_getElem? (i := 43) rfl) dX16_requestLine_197 ?_
      obtain ⟨q1, eq1, h⟩ := bd h
      obtain ⟨v3, M2, eM2, h⟩ := b2d h
      refine g_callV X (pc := 200) (M' := M2) (ro := some (pI v3)) (c := 16) rfl (by decide) (as := [pI (a4 + (1 : Int32)), pI a2, pR (some 43)]) (as' := [pR (some 43), pI a2, pI (a4 + (1 : Int32))]) (st := []) eq1 (ctX16_says _ _ _ _ _ _ fu q1 (a4 + (1 : Int32)) a2 (some 43) M _ eM2) tb_2357 tb_2354 tb_2356 ts_125 tb_8 ⟨rfl, hyX16_says⟩ rfl rfl ⟨by decide, by decide⟩ (Nat.le_of_ble_eq_true rfl) dX16_requestLine_200 ?_
      refine g_if_ne X (pc := 203) (tgt := 223) dX16_requestLine_203 (by decide) (fun hc => ?_) (fun hc => ?_)
      · have h := (if_neg hc).symm.trans h
        refine g_sub [0, 1, 2, 3, 4] [(0, pR (some a0)), (1, pI a1), (2, pI a2), (3, pI a3), (4, pI a4)] rfl ?_
        exact wX16_requestLine_L223 X hE hn fu   a0 a1 a2 a3 a4 M2 h
      · have h := (if_pos hc).symm.trans h
        refine g_aload_n X (pc := 206) 0 rfl rfl dX16_requestLine_206 ?_
        refine g_iload X (pc := 207) 4 rfl dX16_requestLine_207 ?_
        refine g_iconst X (pc := 209) (v := 1) dX16_requestLine_209 (by decide) ?_
        refine g_iadd X (pc := 210) dX16_requestLine_210 ?_
        refine g_iload_n X (pc := 211) 2 rfl rfl dX16_requestLine_211 ?_
        refine g_ldcwS X (pc := 212) (List.mem_of_getElem? (i := 44) rfl) dX16_requestLine_212 ?_
        obtain ⟨q4, eq4, h⟩ := bd h
        obtain ⟨v6, M5, eM5, h⟩ := b2d h
        refine g_callV X (pc := 215) (M' := M5) (ro := some (pI v6)) (c := 16) rfl (by decide) (as := [pI (a4 + (1 : Int32)), pI a2, pR (some 44)]) (as' := [pR (some 44), pI a2, pI (a4 + (1 : Int32))]) (st := []) eq4 (ctX16_says _ _ _ _ _ _ fu q4 (a4 + (1 : Int32)) a2 (some 44) M2 _ eM5) tb_2357 tb_2354 tb_2356 ts_125 tb_8 ⟨rfl, hyX16_says⟩ rfl rfl ⟨by decide, by decide⟩ (Nat.le_of_ble_eq_true rfl) dX16_requestLine_215 ?_
        refine g_if_ne X (pc := 218) (tgt := 223) dX16_requestLine_218 (by decide) (fun hc => ?_) (fun hc => ?_)
        · have h := (if_neg hc).symm.trans h
          refine g_sub [0, 1, 2, 3, 4] [(0, pR (some a0)), (1, pI a1), (2, pI a2), (3, pI a3), (4, pI a4)] rfl ?_
          exact wX16_requestLine_L223 X hE hn fu   a0 a1 a2 a3 a4 M5 h
        · have h := (if_pos hc).symm.trans h
          refine g_iconst X (pc := 221) (v := 0) dX16_requestLine_221 (by decide) ?_
          obtain ⟨hz, rfl⟩ := rN_some h
          exact g_nreturn X rfl hz hE dX16_requestLine_222
    · have h := (if_neg hc).symm.trans h
      refine g_aload_n X (pc := 161) 0 rfl rfl dX16_requestLine_161 ?_
      refine g_iload X (pc := 162) 5 rfl dX16_requestLine_162 ?_
      obtain ⟨q7, eq7, h⟩ := bd h
      obtain ⟨v9, M8, eM8, h⟩ := b2d h
      refine g_callV X (pc := 164) (M' := M8) (ro := some (pI v9)) (c := 16) rfl (by decide) (as := [pI a6]) (as' := [pI a6]) (st := []) eq7 (ctX16_headAt _ _ _ _ _ _ fu q7 a6 M _ eM8) tb_2352 tb_2349 tb_2351 ts_124 tb_8 ⟨rfl, hyX16_headAt⟩ rfl rfl ⟨by decide, by decide⟩ (Nat.le_of_ble_eq_true rfl) dX16_requestLine_164 ?_
      refine g_bipush X (pc := 167) (v := 33) dX16_requestLine_167 (by decide) ?_
      refine g_icmp_lt X (pc := 169) (tgt := 183) dX16_requestLine_169 (by decide) (fun hc => ?_) (fun hc => ?_)
      · have h := (if_pos hc).symm.trans h
        refine g_iconst X (pc := 183) (v := 0) dX16_requestLine_183 (by decide) ?_
        obtain ⟨hz, rfl⟩ := rN_some h
        exact g_nreturn X rfl hz hE dX16_requestLine_184
      · have h := (if_neg hc).symm.trans h
        refine g_aload_n X (pc := 172) 0 rfl rfl dX16_requestLine_172 ?_
        refine g_iload X (pc := 173) 5 rfl dX16_requestLine_173 ?_
        obtain ⟨q10, eq10, h⟩ := bd h
        obtain ⟨v12, M11, eM11, h⟩ := b2d h
        refine g_callV X (pc := 175) (M' := M11) (ro := some (pI v12)) (c := 16) rfl (by decide) (as := [pI a6]) (as' := [pI a6]) (st := []) eq10 (ctX16_headAt _ _ _ _ _ _ fu q10 a6 M8 _ eM11) tb_2352 tb_2349 tb_2351 ts_124 tb_8 ⟨rfl, hyX16_headAt⟩ rfl rfl ⟨by decide, by decide⟩ (Nat.le_of_ble_eq_true rfl) dX16_requestLine_175 ?_
        refine g_bipush X (pc := 178) (v := 126) dX16_requestLine_178 (by decide) ?_
        refine g_icmp_le X (pc := 180) (tgt := 185) dX16_requestLine_180 (by decide) (fun hc => ?_) (fun hc => ?_)
        · have h := (if_pos hc).symm.trans h
          refine g_iinc X (pc := 185) 5 [(6, pI (a6 + (1 : Int32))), (0, pR (some a0)), (1, pI a1), (2, pI a2), (3, pI a3), (4, pI a4)] rfl (iinc_e (by decide)) (lt_n hn (by decide)) rfl dX16_requestLine_185 ?_
          refine g_goto X (pc := 188) (tgt := 154) dX16_requestLine_188 (by decide) ?_
          refine g_sub [1, 2, 3, 4, 5, 0] [(0, pR (some a0)), (1, pI a1), (2, pI a2), (3, pI a3), (4, pI a4), (6, pI (a6 + (1 : Int32)))] rfl ?_
          exact ih a0 a1 a2 a3 a4 (a6 + (1 : Int32)) M11 h
        · have h := (if_neg hc).symm.trans h
          refine g_iconst X (pc := 183) (v := 0) dX16_requestLine_183 (by decide) ?_
          obtain ⟨hz, rfl⟩ := rN_some h
          exact g_nreturn X rfl hz hE dX16_requestLine_184
theorem wX16_requestLine_L113 {x : GX} {n0 sl0 : Nat} (X : Cx x cX16_requestLine RX16 (some .boolean) n0 sl0 6 130) {out : Int32 × Mm} (hE : Ends x n0 sl0 (some (pI out.1)) out.2) (hn : xn x = 7) (fu : Nat)   : ∀ (n : Nat) (a0 : Nat) (a1 : Int32) (a2 : Int32) (a3 : Int32) (a4 : Int32) (a6 : Int32)  (M : Mm), fX16_requestLine_L113 fu  n a0 a1 a2 a3 a4 a6 M = some out → Gw x M 113 [(0, pR (some a0)), (1, pI a1), (2, pI a2), (3, pI a3), (4, pI a4), (6, pI a6)] [] := by
  intro n
  induction n with
  | zero =>
    intro a0 a1 a2 a3 a4 a6 M h
    have h : (none : Option (Int32 × Mm)) = some out := h
    cases h
  | succ n ih =>
    intro a0 a1 a2 a3 a4 a6 M h
    rw [fX16_requestLine_L113] at h
    refine g_iload X (pc := 113) 5 rfl dX16_requestLine_113 ?_
    refine g_iload_n X (pc := 115) 3 rfl rfl dX16_requestLine_115 ?_
    refine g_icmp_ge X (pc := 116) (tgt := 149) dX16_requestLine_116 (by decide) (fun hc => ?_) (fun hc => ?_)
    · have h := (if_pos hc).symm.trans h
      refine g_iload_n X (pc := 149) 3 rfl rfl dX16_requestLine_149 ?_
      refine g_iconst X (pc := 150) (v := 1) dX16_requestLine_150 (by decide) ?_
      refine g_iadd X (pc := 151) dX16_requestLine_151 ?_
      refine g_istore X (pc := 152) [(6, pI (a3 + (1 : Int32))), (0, pR (some a0)), (1, pI a1), (2, pI a2), (3, pI a3), (4, pI a4)] (lt_n hn (by decide)) rfl dX16_requestLine_152 ?_
      refine g_sub [1, 2, 3, 4, 5, 0] [(0, pR (some a0)), (1, pI a1), (2, pI a2), (3, pI a3), (4, pI a4), (6, pI (a3 + (1 : Int32)))] rfl ?_
      exact wX16_requestLine_L154 X hE hn fu   fu a0 a1 a2 a3 a4 (a3 + (1 : Int32)) M h
    · have h := (if_neg hc).symm.trans h
      refine g_aload_n X (pc := 119) 0 rfl rfl dX16_requestLine_119 ?_
      refine g_iload X (pc := 120) 5 rfl dX16_requestLine_120 ?_
      obtain ⟨q1, eq1, h⟩ := bd h
      obtain ⟨v3, M2, eM2, h⟩ := b2d h
      refine g_callV X (pc := 122) (M' := M2) (ro := some (pI v3)) (c := 16) rfl (by decide) (as := [pI a6]) (as' := [pI a6]) (st := []) eq1 (ctX16_headAt _ _ _ _ _ _ fu q1 a6 M _ eM2) tb_2352 tb_2349 tb_2351 ts_124 tb_8 ⟨rfl, hyX16_headAt⟩ rfl rfl ⟨by decide, by decide⟩ (Nat.le_of_ble_eq_true rfl) dX16_requestLine_122 ?_
      refine g_bipush X (pc := 125) (v := 65) dX16_requestLine_125 (by decide) ?_
      refine g_icmp_lt X (pc := 127) (tgt := 141) dX16_requestLine_127 (by decide) (fun hc => ?_) (fun hc => ?_)
      · have h := (if_pos hc).symm.trans h
        refine g_iconst X (pc := 141) (v := 0) dX16_requestLine_141 (by decide) ?_
        obtain ⟨hz, rfl⟩ := rN_some h
        exact g_nreturn X rfl hz hE dX16_requestLine_142
      · have h := (if_neg hc).symm.trans h
        refine g_aload_n X (pc := 130) 0 rfl rfl dX16_requestLine_130 ?_
        refine g_iload X (pc := 131) 5 rfl dX16_requestLine_131 ?_
        obtain ⟨q4, eq4, h⟩ := bd h
        obtain ⟨v6, M5, eM5, h⟩ := b2d h
        refine g_callV X (pc := 133) (M' := M5) (ro := some (pI v6)) (c := 16) rfl (by decide) (as := [pI a6]) (as' := [pI a6]) (st := []) eq4 (ctX16_headAt _ _ _ _ _ _ fu q4 a6 M2 _ eM5) tb_2352 tb_2349 tb_2351 ts_124 tb_8 ⟨rfl, hyX16_headAt⟩ rfl rfl ⟨by decide, by decide⟩ (Nat.le_of_ble_eq_true rfl) dX16_requestLine_133 ?_
        refine g_bipush X (pc := 136) (v := 90) dX16_requestLine_136 (by decide) ?_
        refine g_icmp_le X (pc := 138) (tgt := 143) dX16_requestLine_138 (by decide) (fun hc => ?_) (fun hc => ?_)
        · have h := (if_pos hc).symm.trans h
          refine g_iinc X (pc := 143) 5 [(6, pI (a6 + (1 : Int32))), (0, pR (some a0)), (1, pI a1), (2, pI a2), (3, pI a3), (4, pI a4)] rfl (iinc_e (by decide)) (lt_n hn (by decide)) rfl dX16_requestLine_143 ?_
          refine g_goto X (pc := 146) (tgt := 113) dX16_requestLine_146 (by decide) ?_
          refine g_sub [1, 2, 3, 4, 5, 0] [(0, pR (some a0)), (1, pI a1), (2, pI a2), (3, pI a3), (4, pI a4), (6, pI (a6 + (1 : Int32)))] rfl ?_
          exact ih a0 a1 a2 a3 a4 (a6 + (1 : Int32)) M5 h
        · have h := (if_neg hc).symm.trans h
          refine g_iconst X (pc := 141) (v := 0) dX16_requestLine_141 (by decide) ?_
          obtain ⟨hz, rfl⟩ := rN_some h
          exact g_nreturn X rfl hz hE dX16_requestLine_142
theorem wX16_requestLine_L51 {x : GX} {n0 sl0 : Nat} (X : Cx x cX16_requestLine RX16 (some .boolean) n0 sl0 6 130) {out : Int32 × Mm} (hE : Ends x n0 sl0 (some (pI out.1)) out.2) (hn : xn x = 7) (fu : Nat) (k11 : Nat → Int32 → Int32 → Int32 → Int32 → Int32 → Int32 → Mm → Option (Int32 × Mm)) (hk11 : ∀ (b0 : Nat) (b1 : Int32) (b2 : Int32) (b3 : Int32) (b4 : Int32) (b5 : Int32) (b6 : Int32)  (M : Mm), k11 b0 b1 b2 b3 b4 b5 b6 M = some out → Gw x M 11 [(0, pR (some b0)), (1, pI b1), (2, pI b2), (3, pI b3), (4, pI b4), (5, pI b5), (6, pI b6)] []) (a0 : Nat) (a1 : Int32) (a2 : Int32) (a3 : Int32) (a4 : Int32) (a5 : Int32) (a6 : Int32)  (M : Mm) (h : fX16_requestLine_L51 fu k11 a0 a1 a2 a3 a4 a5 a6 M = some out) : Gw x M 51 [(0, pR (some a0)), (1, pI a1), (2, pI a2), (3, pI a3), (4, pI a4), (5, pI a5), (6, pI a6)] [] := by
  unfold fX16_requestLine_L51 at h
  refine g_iinc X (pc := 51) 6 [(6, pI (a6 + (1 : Int32))), (0, pR (some a0)), (1, pI a1), (2, pI a2), (3, pI a3), (4, pI a4), (5, pI a5)] rfl (iinc_e (by decide)) (lt_n hn (by decide)) rfl dX16_requestLine_51 ?_
  refine g_goto X (pc := 54) (tgt := 11) dX16_requestLine_54 (by decide) ?_
  refine g_sub [1, 2, 3, 4, 5, 6, 0] [(0, pR (some a0)), (1, pI a1), (2, pI a2), (3, pI a3), (4, pI a4), (5, pI a5), (6, pI (a6 + (1 : Int32)))] rfl ?_
  exact hk11 a0 a1 a2 a3 a4 a5 (a6 + (1 : Int32)) M h
theorem wX16_requestLine_L41 {x : GX} {n0 sl0 : Nat} (X : Cx x cX16_requestLine RX16 (some .boolean) n0 sl0 6 130) {out : Int32 × Mm} (hE : Ends x n0 sl0 (some (pI out.1)) out.2) (hn : xn x = 7) (fu : Nat) (k11 : Nat → Int32 → Int32 → Int32 → Int32 → Int32 → Int32 → Mm → Option (Int32 × Mm)) (hk11 : ∀ (b0 : Nat) (b1 : Int32) (b2 : Int32) (b3 : Int32) (b4 : Int32) (b5 : Int32) (b6 : Int32)  (M : Mm), k11 b0 b1 b2 b3 b4 b5 b6 M = some out → Gw x M 11 [(0, pR (some b0)), (1, pI b1), (2, pI b2), (3, pI b3), (4, pI b4), (5, pI b5), (6, pI b6)] []) (a0 : Nat) (a1 : Int32) (a2 : Int32) (a3 : Int32) (a4 : Int32) (a5 : Int32) (a6 : Int32)  (M : Mm) (h : fX16_requestLine_L41 fu k11 a0 a1 a2 a3 a4 a5 a6 M = some out) : Gw x M 41 [(0, pR (some a0)), (1, pI a1), (2, pI a2), (3, pI a3), (4, pI a4), (5, pI a5), (6, pI a6)] [] := by
  unfold fX16_requestLine_L41 at h
  refine g_iload X (pc := 41) 5 rfl dX16_requestLine_41 ?_
  refine g_iconst X (pc := 43) (v := 2) dX16_requestLine_43 (by decide) ?_
  refine g_icmp_ne X (pc := 44) (tgt := 51) dX16_requestLine_44 (by decide) (fun hc => ?_) (fun hc => ?_)
  · have h := (if_neg hc).symm.trans h
    exact wX16_requestLine_L51 X hE hn fu k11 hk11 a0 a1 a2 a3 a4 a5 a6 M h
  · have h := (if_pos hc).symm.trans h
    refine g_iload X (pc := 47) 6 rfl dX16_requestLine_47 ?_
    refine g_istore X (pc := 49) [(4, pI a6), (0, pR (some a0)), (1, pI a1), (2, pI a2), (3, pI a3), (5, pI a5), (6, pI a6)] (lt_n hn (by decide)) rfl dX16_requestLine_49 ?_
    refine g_sub [1, 2, 3, 4, 0, 5, 6] [(0, pR (some a0)), (1, pI a1), (2, pI a2), (3, pI a3), (4, pI a6), (5, pI a5), (6, pI a6)] rfl ?_
    exact wX16_requestLine_L51 X hE hn fu k11 hk11 a0 a1 a2 a3 a6 a5 a6 M h
theorem wX16_requestLine_L11 {x : GX} {n0 sl0 : Nat} (X : Cx x cX16_requestLine RX16 (some .boolean) n0 sl0 6 130) {out : Int32 × Mm} (hE : Ends x n0 sl0 (some (pI out.1)) out.2) (hn : xn x = 7) (fu : Nat)   : ∀ (n : Nat) (a0 : Nat) (a1 : Int32) (a2 : Int32) (a3 : Int32) (a4 : Int32) (a5 : Int32) (a6 : Int32)  (M : Mm), fX16_requestLine_L11 fu  n a0 a1 a2 a3 a4 a5 a6 M = some out → Gw x M 11 [(0, pR (some a0)), (1, pI a1), (2, pI a2), (3, pI a3), (4, pI a4), (5, pI a5), (6, pI a6)] [] := by
  intro n
  induction n with
  | zero =>
    intro a0 a1 a2 a3 a4 a5 a6 M h
    have h : (none : Option (Int32 × Mm)) = some out := h
    cases h
  | succ n ih =>
    intro a0 a1 a2 a3 a4 a5 a6 M h
    rw [fX16_requestLine_L11] at h
    refine g_iload X (pc := 11) 6 rfl dX16_requestLine_11 ?_
    refine g_iload_n X (pc := 13) 2 rfl rfl dX16_requestLine_13 ?_
    refine g_icmp_ge X (pc := 14) (tgt := 57) dX16_requestLine_14 (by decide) (fun hc => ?_) (fun hc => ?_)
    · have h := (if_pos hc).symm.trans h
      refine g_iload X (pc := 57) 5 rfl dX16_requestLine_57 ?_
      refine g_iconst X (pc := 59) (v := 2) dX16_requestLine_59 (by decide) ?_
      refine g_icmp_ne X (pc := 60) (tgt := 108) dX16_requestLine_60 (by decide) (fun hc => ?_) (fun hc => ?_)
      · have h := (if_neg hc).symm.trans h
        refine g_iconst X (pc := 108) (v := 0) dX16_requestLine_108 (by decide) ?_
        obtain ⟨hz, rfl⟩ := rN_some h
        exact g_nreturn X rfl hz hE dX16_requestLine_109
      · have h := (if_pos hc).symm.trans h
        refine g_iload_n X (pc := 63) 3 rfl rfl dX16_requestLine_63 ?_
        refine g_iload_n X (pc := 64) 1 rfl rfl dX16_requestLine_64 ?_
        refine g_isub X (pc := 65) dX16_requestLine_65 ?_
        refine g_iconst X (pc := 66) (v := 1) dX16_requestLine_66 (by decide) ?_
        refine g_icmp_lt X (pc := 67) (tgt := 108) dX16_requestLine_67 (by decide) (fun hc => ?_) (fun hc => ?_)
        · have h := (if_pos hc).symm.trans h
          refine g_iconst X (pc := 108) (v := 0) dX16_requestLine_108 (by decide) ?_
          obtain ⟨hz, rfl⟩ := rN_some h
          exact g_nreturn X rfl hz hE dX16_requestLine_109
        · have h := (if_neg hc).symm.trans h
          refine g_iload_n X (pc := 70) 3 rfl rfl dX16_requestLine_70 ?_
          refine g_iload_n X (pc := 71) 1 rfl rfl dX16_requestLine_71 ?_
          refine g_isub X (pc := 72) dX16_requestLine_72 ?_
          refine g_bipush X (pc := 73) (v := 16) dX16_requestLine_73 (by decide) ?_
          refine g_icmp_gt X (pc := 75) (tgt := 108) dX16_requestLine_75 (by decide) (fun hc => ?_) (fun hc => ?_)
          · have h := (if_pos hc).symm.trans h
            refine g_iconst X (pc := 108) (v := 0) dX16_requestLine_108 (by decide) ?_
            obtain ⟨hz, rfl⟩ := rN_some h
            exact g_nreturn X rfl hz hE dX16_requestLine_109
          · have h := (if_neg hc).symm.trans h
            refine g_iload X (pc := 78) 4 rfl dX16_requestLine_78 ?_
            refine g_iload_n X (pc := 80) 3 rfl rfl dX16_requestLine_80 ?_
            refine g_iconst X (pc := 81) (v := 1) dX16_requestLine_81 (by decide) ?_
            refine g_iadd X (pc := 82) dX16_requestLine_82 ?_
            refine g_icmp_eq X (pc := 83) (tgt := 108) dX16_requestLine_83 (by decide) (fun hc => ?_) (fun hc => ?_)
            · have h := (if_pos hc).symm.trans h
              refine g_iconst X (pc := 108) (v := 0) dX16_requestLine_108 (by decide) ?_
              obtain ⟨hz, rfl⟩ := rN_some h
              exact g_nreturn X rfl hz hE dX16_requestLine_109
            · have h := (if_neg hc).symm.trans h
              refine g_aload_n X (pc := 86) 0 rfl rfl dX16_requestLine_86 ?_
              obtain ⟨v1, ev1, h⟩ := bd h
              refine g_getR X (pc := 87) fk_16_41 rfl rfl ev1 tb_1855 dX16_requestLine_87 ?_
              refine g_iload_n X (pc := 90) 3 rfl rfl dX16_requestLine_90 ?_
              refine g_iconst X (pc := 91) (v := 1) dX16_requestLine_91 (by decide) ?_
              refine g_iadd X (pc := 92) dX16_requestLine_92 ?_
              obtain ⟨v2, ev2, h⟩ := bd h
              refine g_baload X (pc := 93) ev2 dX16_requestLine_93 ?_
              refine g_bipush X (pc := 94) (v := 47) dX16_requestLine_94 (by decide) ?_
              refine g_icmp_ne X (pc := 96) (tgt := 108) dX16_requestLine_96 (by decide) (fun hc => ?_) (fun hc => ?_)
              · have h := (if_neg hc).symm.trans h
                refine g_iconst X (pc := 108) (v := 0) dX16_requestLine_108 (by decide) ?_
                obtain ⟨hz, rfl⟩ := rN_some h
                exact g_nreturn X rfl hz hE dX16_requestLine_109
              · have h := (if_pos hc).symm.trans h
                refine g_iload_n X (pc := 99) 2 rfl rfl dX16_requestLine_99 ?_
                refine g_iload X (pc := 100) 4 rfl dX16_requestLine_100 ?_
                refine g_isub X (pc := 102) dX16_requestLine_102 ?_
                refine g_bipush X (pc := 103) (v := 9) dX16_requestLine_103 (by decide) ?_
                refine g_icmp_eq X (pc := 105) (tgt := 110) dX16_requestLine_105 (by decide) (fun hc => ?_) (fun hc => ?_)
                · have h := (if_pos hc).symm.trans h
                  refine g_iload_n X (pc := 110) 1 rfl rfl dX16_requestLine_110 ?_
                  refine g_istore X (pc := 111) [(6, pI a1), (0, pR (some a0)), (1, pI a1), (2, pI a2), (3, pI a3), (4, pI a4), (5, pI a5)] (lt_n hn (by decide)) rfl dX16_requestLine_111 ?_
                  refine g_sub [1, 2, 3, 4, 5, 0] [(0, pR (some a0)), (1, pI a1), (2, pI a2), (3, pI a3), (4, pI a4), (6, pI a1)] rfl ?_
                  exact wX16_requestLine_L113 X hE hn fu   fu a0 a1 a2 a3 a4 a1 M h
                · have h := (if_neg hc).symm.trans h
                  refine g_iconst X (pc := 108) (v := 0) dX16_requestLine_108 (by decide) ?_
                  obtain ⟨hz, rfl⟩ := rN_some h
                  exact g_nreturn X rfl hz hE dX16_requestLine_109
    · have h := (if_neg hc).symm.trans h
      refine g_aload_n X (pc := 17) 0 rfl rfl dX16_requestLine_17 ?_
      obtain ⟨v3, ev3, h⟩ := bd h
      refine g_getR X (pc := 18) fk_16_41 rfl rfl ev3 tb_1855 dX16_requestLine_18 ?_
      refine g_iload X (pc := 21) 6 rfl dX16_requestLine_21 ?_
      obtain ⟨v4, ev4, h⟩ := bd h
      refine g_baload X (pc := 23) ev4 dX16_requestLine_23 ?_
      refine g_bipush X (pc := 24) (v := 32) dX16_requestLine_24 (by decide) ?_
      refine g_icmp_ne X (pc := 26) (tgt := 51) dX16_requestLine_26 (by decide) (fun hc => ?_) (fun hc => ?_)
      · have h := (if_neg hc).symm.trans h
        exact wX16_requestLine_L51 X hE hn fu (fun b0 b1 b2 b3 b4 b5 b6 M => fX16_requestLine_L11 fu  n b0 b1 b2 b3 b4 b5 b6 M) ih a0 a1 a2 a3 a4 a5 a6 M h
      · have h := (if_pos hc).symm.trans h
        refine g_iinc X (pc := 29) 5 [(5, pI (a5 + (1 : Int32))), (0, pR (some a0)), (1, pI a1), (2, pI a2), (3, pI a3), (4, pI a4), (6, pI a6)] rfl (iinc_e (by decide)) (lt_n hn (by decide)) rfl dX16_requestLine_29 ?_
        refine g_iload X (pc := 32) 0 rfl dX16_requestLine_32 ?_
        refine g_iconst X (pc := 34) (v := 1) dX16_requestLine_34 (by decide) ?_
        refine g_icmp_ne X (pc := 35) (tgt := 41) dX16_requestLine_35 (by decide) (fun hc => ?_) (fun hc => ?_)
        · have h := (if_neg hc).symm.trans h
          refine g_sub [1, 2, 3, 4, 5, 0, 6] [(0, pR (some a0)), (1, pI a1), (2, pI a2), (3, pI a3), (4, pI a4), (5, pI (a5 + (1 : Int32))), (6, pI a6)] rfl ?_
          exact wX16_requestLine_L41 X hE hn fu (fun b0 b1 b2 b3 b4 b5 b6 M => fX16_requestLine_L11 fu  n b0 b1 b2 b3 b4 b5 b6 M) ih a0 a1 a2 a3 a4 (a5 + (1 : Int32)) a6 M h
        · have h := (if_pos hc).symm.trans h
          refine g_iload X (pc := 38) 6 rfl dX16_requestLine_38 ?_
          refine g_istore_n X (pc := 40) [(3, pI a6), (5, pI (a5 + (1 : Int32))), (0, pR (some a0)), (1, pI a1), (2, pI a2), (4, pI a4), (6, pI a6)] rfl (lt_n hn (by decide)) rfl dX16_requestLine_40 ?_
          refine g_sub [2, 3, 4, 0, 5, 1, 6] [(0, pR (some a0)), (1, pI a1), (2, pI a2), (3, pI a6), (4, pI a4), (5, pI (a5 + (1 : Int32))), (6, pI a6)] rfl ?_
          exact wX16_requestLine_L41 X hE hn fu (fun b0 b1 b2 b3 b4 b5 b6 M => fX16_requestLine_L11 fu  n b0 b1 b2 b3 b4 b5 b6 M) ih a0 a1 a2 a6 a4 (a5 + (1 : Int32)) a6 M h
theorem wX16_requestLine {x : GX} {n0 sl0 : Nat} (X : Cx x cX16_requestLine RX16 (some .boolean) n0 sl0 6 130) {out : Int32 × Mm} (hE : Ends x n0 sl0 (some (pI out.1)) out.2) (hn : xn x = 7) (fu : Nat)   (a0 : Nat) (a1 : Int32) (a2 : Int32)  (M : Mm) (h : fX16_requestLine fu  a0 a1 a2 M = some out) : Gw x M 0 [(0, pR (some a0)), (1, pI a1), (2, pI a2)] [] := by
  unfold fX16_requestLine at h
  refine g_iconst X (pc := 0) (v := (-1)) dX16_requestLine_0 (by decide) ?_
  refine g_istore_n X (pc := 1) [(3, pI (-1 : Int32)), (0, pR (some a0)), (1, pI a1), (2, pI a2)] rfl (lt_n hn (by decide)) rfl dX16_requestLine_1 ?_
  refine g_iconst X (pc := 2) (v := (-1)) dX16_requestLine_2 (by decide) ?_
  refine g_istore X (pc := 3) [(4, pI (-1 : Int32)), (3, pI (-1 : Int32)), (0, pR (some a0)), (1, pI a1), (2, pI a2)] (lt_n hn (by decide)) rfl dX16_requestLine_3 ?_
  refine g_iconst X (pc := 5) (v := 0) dX16_requestLine_5 (by decide) ?_
  refine g_istore X (pc := 6) [(5, pI (0 : Int32)), (4, pI (-1 : Int32)), (3, pI (-1 : Int32)), (0, pR (some a0)), (1, pI a1), (2, pI a2)] (lt_n hn (by decide)) rfl dX16_requestLine_6 ?_
  refine g_iload_n X (pc := 8) 4 rfl rfl dX16_requestLine_8 ?_
  refine g_istore X (pc := 9) [(6, pI a1), (5, pI (0 : Int32)), (4, pI (-1 : Int32)), (3, pI (-1 : Int32)), (0, pR (some a0)), (1, pI a1), (2, pI a2)] (lt_n hn (by decide)) rfl dX16_requestLine_9 ?_
  refine g_sub [4, 5, 6, 3, 2, 1, 0] [(0, pR (some a0)), (1, pI a1), (2, pI a2), (3, pI (-1 : Int32)), (4, pI (-1 : Int32)), (5, pI (0 : Int32)), (6, pI a1)] rfl ?_
  exact wX16_requestLine_L11 X hE hn fu   fu a0 a1 a2 (-1 : Int32) (-1 : Int32) (0 : Int32) a1 M h
theorem hyX16_requestLine : yX16_requestLine.cls ≠ "java/lang/invoke/MethodHandle" ∧ yX16_requestLine.cls ≠ "java/lang/invoke/VarHandle" ∧ (parseMethodDescriptor yX16_requestLine.desc).map (fun d => d.parameters.length) = some 2 := ⟨by decide +kernel, by decide +kernel, by decide +kernel⟩
theorem ctX16_requestLine (l : Launch) (E : Nat → Nat) (D : va_G) (dA : Nat → ClassId) (lo : Nat) (H0 : Heap) (fu : Nat) (a0 : Nat) (a1 : Int32) (a2 : Int32) (M : Mm) (out : Int32 × Mm) (h : fX16_requestLine fu a0 a1 a2 M = some out) : Ct l E D dA lo H0 yX16_requestLine cX16_requestLine 7 (some .boolean) 6 130 [pR (some a0), pI a1, pI a2] M (some (pI out.1)) out.2 := by
  refine ct_of (by decide +kernel) (Nat.le_of_ble_eq_true rfl) ?_
  intro x hl he hd ha ho hh hn hin X hE
  exact wX16_requestLine X hE hn fu a0 a1 a2 M h
/-! WebHostModel.small(I)I -/
def fX16_small (fu : Nat)  (a0 : Int32)  (M : Mm) : Option (Int32 × Mm) :=
    if a0 < (65 : Int32) then (
    some (a0, M))
    else (
    if (90 : Int32) < a0 then (
    some (a0, M))
    else (
    some ((a0 + (32 : Int32)), M)))
theorem dX16_small_0 : decode cX16_small 0 = .ok (.iload_n 0, 1) := by decide +kernel
theorem dX16_small_1 : decode cX16_small 1 = .ok (.bipush 65, 2) := by decide +kernel
theorem dX16_small_3 : decode cX16_small 3 = .ok (.if_icmp .lt 16, 3) := by decide +kernel
theorem dX16_small_6 : decode cX16_small 6 = .ok (.iload_n 0, 1) := by decide +kernel
theorem dX16_small_7 : decode cX16_small 7 = .ok (.bipush 90, 2) := by decide +kernel
theorem dX16_small_9 : decode cX16_small 9 = .ok (.if_icmp .gt 10, 3) := by decide +kernel
theorem dX16_small_12 : decode cX16_small 12 = .ok (.iload_n 0, 1) := by decide +kernel
theorem dX16_small_13 : decode cX16_small 13 = .ok (.bipush 32, 2) := by decide +kernel
theorem dX16_small_15 : decode cX16_small 15 = .ok (.iadd, 1) := by decide +kernel
theorem dX16_small_16 : decode cX16_small 16 = .ok (.goto 4, 3) := by decide +kernel
theorem dX16_small_19 : decode cX16_small 19 = .ok (.iload_n 0, 1) := by decide +kernel
theorem dX16_small_20 : decode cX16_small 20 = .ok (.ireturn, 1) := by decide +kernel
theorem wX16_small {x : GX} {n0 sl0 : Nat} (X : Cx x cX16_small RX16 (some .int) n0 sl0 0 0) {out : Int32 × Mm} (hE : Ends x n0 sl0 (some (pI out.1)) out.2) (hn : xn x = 1) (fu : Nat)   (a0 : Int32)  (M : Mm) (h : fX16_small fu  a0 M = some out) : Gw x M 0 [(0, pI a0)] [] := by
  unfold fX16_small at h
  refine g_iload_n X (pc := 0) 0 rfl rfl dX16_small_0 ?_
  refine g_bipush X (pc := 1) (v := 65) dX16_small_1 (by decide) ?_
  refine g_icmp_lt X (pc := 3) (tgt := 19) dX16_small_3 (by decide) (fun hc => ?_) (fun hc => ?_)
  · have h := (if_pos hc).symm.trans h
    refine g_iload_n X (pc := 19) 0 rfl rfl dX16_small_19 ?_
    obtain rfl := Option.some.inj h
    exact g_ireturn X hE dX16_small_20
  · have h := (if_neg hc).symm.trans h
    refine g_iload_n X (pc := 6) 0 rfl rfl dX16_small_6 ?_
    refine g_bipush X (pc := 7) (v := 90) dX16_small_7 (by decide) ?_
    refine g_icmp_gt X (pc := 9) (tgt := 19) dX16_small_9 (by decide) (fun hc => ?_) (fun hc => ?_)
    · have h := (if_pos hc).symm.trans h
      refine g_iload_n X (pc := 19) 0 rfl rfl dX16_small_19 ?_
      obtain rfl := Option.some.inj h
      exact g_ireturn X hE dX16_small_20
    · have h := (if_neg hc).symm.trans h
      refine g_iload_n X (pc := 12) 0 rfl rfl dX16_small_12 ?_
      refine g_bipush X (pc := 13) (v := 32) dX16_small_13 (by decide) ?_
      refine g_iadd X (pc := 15) dX16_small_15 ?_
      refine g_goto X (pc := 16) (tgt := 20) dX16_small_16 (by decide) ?_
      obtain rfl := Option.some.inj h
      exact g_ireturn X hE dX16_small_20
theorem hyX16_small : yX16_small.cls ≠ "java/lang/invoke/MethodHandle" ∧ yX16_small.cls ≠ "java/lang/invoke/VarHandle" ∧ (parseMethodDescriptor yX16_small.desc).map (fun d => d.parameters.length) = some 1 := ⟨by decide +kernel, by decide +kernel, by decide +kernel⟩
theorem ctX16_small (l : Launch) (E : Nat → Nat) (D : va_G) (dA : Nat → ClassId) (lo : Nat) (H0 : Heap) (fu : Nat) (a0 : Int32) (M : Mm) (out : Int32 × Mm) (h : fX16_small fu a0 M = some out) : Ct l E D dA lo H0 yX16_small cX16_small 1 (some .int) 0 0 [pI a0] M (some (pI out.1)) out.2 := by
  refine ct_of (by decide +kernel) (Nat.le_of_ble_eq_true rfl) ?_
  intro x hl he hd ha ho hh hn hin X hE
  exact wX16_small X hE hn fu a0 M h
/-! WebHostModel.isDigit(I)Z -/
def fX16_isDigit (fu : Nat)  (a0 : Int32)  (M : Mm) : Option (Int32 × Mm) :=
    if a0 < (48 : Int32) then (
    rN .boolean (0 : Int32) M)
    else (
    if (57 : Int32) < a0 then (
    rN .boolean (0 : Int32) M)
    else (
    rN .boolean (1 : Int32) M))
theorem dX16_isDigit_0 : decode cX16_isDigit 0 = .ok (.iload_n 0, 1) := by decide +kernel
theorem dX16_isDigit_1 : decode cX16_isDigit 1 = .ok (.bipush 48, 2) := by decide +kernel
theorem dX16_isDigit_3 : decode cX16_isDigit 3 = .ok (.if_icmp .lt 13, 3) := by decide +kernel
theorem dX16_isDigit_6 : decode cX16_isDigit 6 = .ok (.iload_n 0, 1) := by decide +kernel
theorem dX16_isDigit_7 : decode cX16_isDigit 7 = .ok (.bipush 57, 2) := by decide +kernel
theorem dX16_isDigit_9 : decode cX16_isDigit 9 = .ok (.if_icmp .gt 7, 3) := by decide +kernel
theorem dX16_isDigit_12 : decode cX16_isDigit 12 = .ok (.iconst 1, 1) := by decide +kernel
theorem dX16_isDigit_13 : decode cX16_isDigit 13 = .ok (.goto 4, 3) := by decide +kernel
theorem dX16_isDigit_16 : decode cX16_isDigit 16 = .ok (.iconst 0, 1) := by decide +kernel
theorem dX16_isDigit_17 : decode cX16_isDigit 17 = .ok (.ireturn, 1) := by decide +kernel
theorem wX16_isDigit {x : GX} {n0 sl0 : Nat} (X : Cx x cX16_isDigit RX16 (some .boolean) n0 sl0 0 0) {out : Int32 × Mm} (hE : Ends x n0 sl0 (some (pI out.1)) out.2) (hn : xn x = 1) (fu : Nat)   (a0 : Int32)  (M : Mm) (h : fX16_isDigit fu  a0 M = some out) : Gw x M 0 [(0, pI a0)] [] := by
  unfold fX16_isDigit at h
  refine g_iload_n X (pc := 0) 0 rfl rfl dX16_isDigit_0 ?_
  refine g_bipush X (pc := 1) (v := 48) dX16_isDigit_1 (by decide) ?_
  refine g_icmp_lt X (pc := 3) (tgt := 16) dX16_isDigit_3 (by decide) (fun hc => ?_) (fun hc => ?_)
  · have h := (if_pos hc).symm.trans h
    refine g_iconst X (pc := 16) (v := 0) dX16_isDigit_16 (by decide) ?_
    obtain ⟨hz, rfl⟩ := rN_some h
    exact g_nreturn X rfl hz hE dX16_isDigit_17
  · have h := (if_neg hc).symm.trans h
    refine g_iload_n X (pc := 6) 0 rfl rfl dX16_isDigit_6 ?_
    refine g_bipush X (pc := 7) (v := 57) dX16_isDigit_7 (by decide) ?_
    refine g_icmp_gt X (pc := 9) (tgt := 16) dX16_isDigit_9 (by decide) (fun hc => ?_) (fun hc => ?_)
    · have h := (if_pos hc).symm.trans h
      refine g_iconst X (pc := 16) (v := 0) dX16_isDigit_16 (by decide) ?_
      obtain ⟨hz, rfl⟩ := rN_some h
      exact g_nreturn X rfl hz hE dX16_isDigit_17
    · have h := (if_neg hc).symm.trans h
      refine g_iconst X (pc := 12) (v := 1) dX16_isDigit_12 (by decide) ?_
      refine g_goto X (pc := 13) (tgt := 17) dX16_isDigit_13 (by decide) ?_
      obtain ⟨hz, rfl⟩ := rN_some h
      exact g_nreturn X rfl hz hE dX16_isDigit_17
theorem hyX16_isDigit : yX16_isDigit.cls ≠ "java/lang/invoke/MethodHandle" ∧ yX16_isDigit.cls ≠ "java/lang/invoke/VarHandle" ∧ (parseMethodDescriptor yX16_isDigit.desc).map (fun d => d.parameters.length) = some 1 := ⟨by decide +kernel, by decide +kernel, by decide +kernel⟩
theorem ctX16_isDigit (l : Launch) (E : Nat → Nat) (D : va_G) (dA : Nat → ClassId) (lo : Nat) (H0 : Heap) (fu : Nat) (a0 : Int32) (M : Mm) (out : Int32 × Mm) (h : fX16_isDigit fu a0 M = some out) : Ct l E D dA lo H0 yX16_isDigit cX16_isDigit 1 (some .boolean) 0 0 [pI a0] M (some (pI out.1)) out.2 := by
  refine ct_of (by decide +kernel) (Nat.le_of_ble_eq_true rfl) ?_
  intro x hl he hd ha ho hh hn hin X hE
  exact wX16_isDigit X hE hn fu a0 M h
/-! WebHostModel.isNameCode(I)Z -/
def fX16_isNameCode_L113 (fu : Nat)  (a0 : Int32) (a2 : Int32)  (M : Mm) : Option (Int32 × Mm) :=
    b2 (fX16_isDigit fu  a0 M) fun v2 M1 =>
    if v2 = 0 then (
    if a2 = 0 then (
    rN .boolean (0 : Int32) M1)
    else (
    rN .boolean (1 : Int32) M1))
    else (
    rN .boolean (1 : Int32) M1)
def fX16_isNameCode_L100 (fu : Nat)  (a0 : Int32) (a1 : Int32) (s0 : Int32) (M : Mm) : Option (Int32 × Mm) :=
    if a1 < (97 : Int32) then (
    fX16_isNameCode_L113 fu  a0 s0 M)
    else (
    if a1 ≤ (122 : Int32) then (
    rN .boolean (1 : Int32) M)
    else (
    fX16_isNameCode_L113 fu  a0 s0 M))
def fX16_isNameCode_L95 (fu : Nat)  (a0 : Int32) (a1 : Int32)  (M : Mm) : Option (Int32 × Mm) :=
    fX16_isNameCode_L100 fu  a0 a1 (1 : Int32) M
def fX16_isNameCode (fu : Nat)  (a0 : Int32)  (M : Mm) : Option (Int32 × Mm) :=
    b2 (fX16_small fu  a0 M) fun v2 M1 =>
    if a0 = (45 : Int32) then (
    fX16_isNameCode_L95 fu  a0 v2 M1)
    else (
    if a0 = (95 : Int32) then (
    fX16_isNameCode_L95 fu  a0 v2 M1)
    else (
    if a0 = (46 : Int32) then (
    fX16_isNameCode_L95 fu  a0 v2 M1)
    else (
    if a0 = (33 : Int32) then (
    fX16_isNameCode_L95 fu  a0 v2 M1)
    else (
    if a0 = (35 : Int32) then (
    fX16_isNameCode_L95 fu  a0 v2 M1)
    else (
    if a0 = (36 : Int32) then (
    fX16_isNameCode_L95 fu  a0 v2 M1)
    else (
    if a0 = (37 : Int32) then (
    fX16_isNameCode_L95 fu  a0 v2 M1)
    else (
    if a0 = (38 : Int32) then (
    fX16_isNameCode_L95 fu  a0 v2 M1)
    else (
    if a0 = (39 : Int32) then (
    fX16_isNameCode_L95 fu  a0 v2 M1)
    else (
    if a0 = (42 : Int32) then (
    fX16_isNameCode_L95 fu  a0 v2 M1)
    else (
    if a0 = (43 : Int32) then (
    fX16_isNameCode_L95 fu  a0 v2 M1)
    else (
    if a0 = (94 : Int32) then (
    fX16_isNameCode_L95 fu  a0 v2 M1)
    else (
    if a0 = (96 : Int32) then (
    fX16_isNameCode_L95 fu  a0 v2 M1)
    else (
    if a0 = (124 : Int32) then (
    fX16_isNameCode_L95 fu  a0 v2 M1)
    else (
    if a0 = (126 : Int32) then (
    fX16_isNameCode_L95 fu  a0 v2 M1)
    else (
    fX16_isNameCode_L100 fu  a0 v2 (0 : Int32) M1)))))))))))))))
theorem dX16_isNameCode_0 : decode cX16_isNameCode 0 = .ok (.iload_n 0, 1) := by decide +kernel
theorem dX16_isNameCode_1 : decode cX16_isNameCode 1 = .ok (.invokestatic 725, 3) := by decide +kernel
theorem dX16_isNameCode_4 : decode cX16_isNameCode 4 = .ok (.istore_n 1, 1) := by decide +kernel
theorem dX16_isNameCode_5 : decode cX16_isNameCode 5 = .ok (.iload_n 0, 1) := by decide +kernel
theorem dX16_isNameCode_6 : decode cX16_isNameCode 6 = .ok (.bipush 45, 2) := by decide +kernel
theorem dX16_isNameCode_8 : decode cX16_isNameCode 8 = .ok (.if_icmp .eq 87, 3) := by decide +kernel
theorem dX16_isNameCode_11 : decode cX16_isNameCode 11 = .ok (.iload_n 0, 1) := by decide +kernel
theorem dX16_isNameCode_12 : decode cX16_isNameCode 12 = .ok (.bipush 95, 2) := by decide +kernel
theorem dX16_isNameCode_14 : decode cX16_isNameCode 14 = .ok (.if_icmp .eq 81, 3) := by decide +kernel
theorem dX16_isNameCode_17 : decode cX16_isNameCode 17 = .ok (.iload_n 0, 1) := by decide +kernel
theorem dX16_isNameCode_18 : decode cX16_isNameCode 18 = .ok (.bipush 46, 2) := by decide +kernel
theorem dX16_isNameCode_20 : decode cX16_isNameCode 20 = .ok (.if_icmp .eq 75, 3) := by decide +kernel
theorem dX16_isNameCode_23 : decode cX16_isNameCode 23 = .ok (.iload_n 0, 1) := by decide +kernel
theorem dX16_isNameCode_24 : decode cX16_isNameCode 24 = .ok (.bipush 33, 2) := by decide +kernel
theorem dX16_isNameCode_26 : decode cX16_isNameCode 26 = .ok (.if_icmp .eq 69, 3) := by decide +kernel
theorem dX16_isNameCode_29 : decode cX16_isNameCode 29 = .ok (.iload_n 0, 1) := by decide +kernel
theorem dX16_isNameCode_30 : decode cX16_isNameCode 30 = .ok (.bipush 35, 2) := by decide +kernel
theorem dX16_isNameCode_32 : decode cX16_isNameCode 32 = .ok (.if_icmp .eq 63, 3) := by decide +kernel
theorem dX16_isNameCode_35 : decode cX16_isNameCode 35 = .ok (.iload_n 0, 1) := by decide +kernel
theorem dX16_isNameCode_36 : decode cX16_isNameCode 36 = .ok (.bipush 36, 2) := by decide +kernel
theorem dX16_isNameCode_38 : decode cX16_isNameCode 38 = .ok (.if_icmp .eq 57, 3) := by decide +kernel
theorem dX16_isNameCode_41 : decode cX16_isNameCode 41 = .ok (.iload_n 0, 1) := by decide +kernel
theorem dX16_isNameCode_42 : decode cX16_isNameCode 42 = .ok (.bipush 37, 2) := by decide +kernel
theorem dX16_isNameCode_44 : decode cX16_isNameCode 44 = .ok (.if_icmp .eq 51, 3) := by decide +kernel
theorem dX16_isNameCode_47 : decode cX16_isNameCode 47 = .ok (.iload_n 0, 1) := by decide +kernel
theorem dX16_isNameCode_48 : decode cX16_isNameCode 48 = .ok (.bipush 38, 2) := by decide +kernel
theorem dX16_isNameCode_50 : decode cX16_isNameCode 50 = .ok (.if_icmp .eq 45, 3) := by decide +kernel
theorem dX16_isNameCode_53 : decode cX16_isNameCode 53 = .ok (.iload_n 0, 1) := by decide +kernel
theorem dX16_isNameCode_54 : decode cX16_isNameCode 54 = .ok (.bipush 39, 2) := by decide +kernel
theorem dX16_isNameCode_56 : decode cX16_isNameCode 56 = .ok (.if_icmp .eq 39, 3) := by decide +kernel
theorem dX16_isNameCode_59 : decode cX16_isNameCode 59 = .ok (.iload_n 0, 1) := by decide +kernel
theorem dX16_isNameCode_60 : decode cX16_isNameCode 60 = .ok (.bipush 42, 2) := by decide +kernel
theorem dX16_isNameCode_62 : decode cX16_isNameCode 62 = .ok (.if_icmp .eq 33, 3) := by decide +kernel
theorem dX16_isNameCode_65 : decode cX16_isNameCode 65 = .ok (.iload_n 0, 1) := by decide +kernel
theorem dX16_isNameCode_66 : decode cX16_isNameCode 66 = .ok (.bipush 43, 2) := by decide +kernel
theorem dX16_isNameCode_68 : decode cX16_isNameCode 68 = .ok (.if_icmp .eq 27, 3) := by decide +kernel
theorem dX16_isNameCode_71 : decode cX16_isNameCode 71 = .ok (.iload_n 0, 1) := by decide +kernel
theorem dX16_isNameCode_72 : decode cX16_isNameCode 72 = .ok (.bipush 94, 2) := by decide +kernel
theorem dX16_isNameCode_74 : decode cX16_isNameCode 74 = .ok (.if_icmp .eq 21, 3) := by decide +kernel
theorem dX16_isNameCode_77 : decode cX16_isNameCode 77 = .ok (.iload_n 0, 1) := by decide +kernel
theorem dX16_isNameCode_78 : decode cX16_isNameCode 78 = .ok (.bipush 96, 2) := by decide +kernel
theorem dX16_isNameCode_80 : decode cX16_isNameCode 80 = .ok (.if_icmp .eq 15, 3) := by decide +kernel
theorem dX16_isNameCode_83 : decode cX16_isNameCode 83 = .ok (.iload_n 0, 1) := by decide +kernel
theorem dX16_isNameCode_84 : decode cX16_isNameCode 84 = .ok (.bipush 124, 2) := by decide +kernel
theorem dX16_isNameCode_86 : decode cX16_isNameCode 86 = .ok (.if_icmp .eq 9, 3) := by decide +kernel
theorem dX16_isNameCode_89 : decode cX16_isNameCode 89 = .ok (.iload_n 0, 1) := by decide +kernel
theorem dX16_isNameCode_90 : decode cX16_isNameCode 90 = .ok (.bipush 126, 2) := by decide +kernel
theorem dX16_isNameCode_92 : decode cX16_isNameCode 92 = .ok (.if_icmp .ne 7, 3) := by decide +kernel
theorem dX16_isNameCode_95 : decode cX16_isNameCode 95 = .ok (.iconst 1, 1) := by decide +kernel
theorem dX16_isNameCode_96 : decode cX16_isNameCode 96 = .ok (.goto 4, 3) := by decide +kernel
theorem dX16_isNameCode_99 : decode cX16_isNameCode 99 = .ok (.iconst 0, 1) := by decide +kernel
theorem dX16_isNameCode_100 : decode cX16_isNameCode 100 = .ok (.istore_n 2, 1) := by decide +kernel
theorem dX16_isNameCode_101 : decode cX16_isNameCode 101 = .ok (.iload_n 1, 1) := by decide +kernel
theorem dX16_isNameCode_102 : decode cX16_isNameCode 102 = .ok (.bipush 97, 2) := by decide +kernel
theorem dX16_isNameCode_104 : decode cX16_isNameCode 104 = .ok (.if_icmp .lt 9, 3) := by decide +kernel
theorem dX16_isNameCode_107 : decode cX16_isNameCode 107 = .ok (.iload_n 1, 1) := by decide +kernel
theorem dX16_isNameCode_108 : decode cX16_isNameCode 108 = .ok (.bipush 122, 2) := by decide +kernel
theorem dX16_isNameCode_110 : decode cX16_isNameCode 110 = .ok (.if_icmp .le 14, 3) := by decide +kernel
theorem dX16_isNameCode_113 : decode cX16_isNameCode 113 = .ok (.iload_n 0, 1) := by decide +kernel
theorem dX16_isNameCode_114 : decode cX16_isNameCode 114 = .ok (.invokestatic 728, 3) := by decide +kernel
theorem dX16_isNameCode_117 : decode cX16_isNameCode 117 = .ok (.ifCond .ne 7, 3) := by decide +kernel
theorem dX16_isNameCode_120 : decode cX16_isNameCode 120 = .ok (.iload_n 2, 1) := by decide +kernel
theorem dX16_isNameCode_121 : decode cX16_isNameCode 121 = .ok (.ifCond .eq 7, 3) := by decide +kernel
theorem dX16_isNameCode_124 : decode cX16_isNameCode 124 = .ok (.iconst 1, 1) := by decide +kernel
theorem dX16_isNameCode_125 : decode cX16_isNameCode 125 = .ok (.goto 4, 3) := by decide +kernel
theorem dX16_isNameCode_128 : decode cX16_isNameCode 128 = .ok (.iconst 0, 1) := by decide +kernel
theorem dX16_isNameCode_129 : decode cX16_isNameCode 129 = .ok (.ireturn, 1) := by decide +kernel
theorem wX16_isNameCode_L113 {x : GX} {n0 sl0 : Nat} (X : Cx x cX16_isNameCode RX16 (some .boolean) n0 sl0 1 20) {out : Int32 × Mm} (hE : Ends x n0 sl0 (some (pI out.1)) out.2) (hn : xn x = 3) (fu : Nat)   (a0 : Int32) (a2 : Int32)  (M : Mm) (h : fX16_isNameCode_L113 fu  a0 a2 M = some out) : Gw x M 113 [(0, pI a0), (2, pI a2)] [] := by
  unfold fX16_isNameCode_L113 at h
  refine g_iload_n X (pc := 113) 0 rfl rfl dX16_isNameCode_113 ?_
  obtain ⟨v2, M1, eM1, h⟩ := b2d h
  refine g_callS X (pc := 114) (M' := M1) (ro := some (pI v2)) (as := [pI a0]) (as' := [pI a0]) (st := []) (ctX16_isDigit _ _ _ _ _ _ fu  a0 M _ eM1) tb_2375 tb_2373 tb_2374 tb_8 hyX16_isDigit rfl rfl ⟨by decide, by decide⟩ (Nat.le_of_ble_eq_true rfl) dX16_isNameCode_114 ?_
  refine g_if_ne X (pc := 117) (tgt := 124) dX16_isNameCode_117 (by decide) (fun hc => ?_) (fun hc => ?_)
  · have h := (if_neg hc).symm.trans h
    refine g_iconst X (pc := 124) (v := 1) dX16_isNameCode_124 (by decide) ?_
    refine g_goto X (pc := 125) (tgt := 129) dX16_isNameCode_125 (by decide) ?_
    obtain ⟨hz, rfl⟩ := rN_some h
    exact g_nreturn X rfl hz hE dX16_isNameCode_129
  · have h := (if_pos hc).symm.trans h
    refine g_iload_n X (pc := 120) 1 rfl rfl dX16_isNameCode_120 ?_
    refine g_if_eq X (pc := 121) (tgt := 128) dX16_isNameCode_121 (by decide) (fun hc => ?_) (fun hc => ?_)
    · have h := (if_pos hc).symm.trans h
      refine g_iconst X (pc := 128) (v := 0) dX16_isNameCode_128 (by decide) ?_
      obtain ⟨hz, rfl⟩ := rN_some h
      exact g_nreturn X rfl hz hE dX16_isNameCode_129
    · have h := (if_neg hc).symm.trans h
      refine g_iconst X (pc := 124) (v := 1) dX16_isNameCode_124 (by decide) ?_
      refine g_goto X (pc := 125) (tgt := 129) dX16_isNameCode_125 (by decide) ?_
      obtain ⟨hz, rfl⟩ := rN_some h
      exact g_nreturn X rfl hz hE dX16_isNameCode_129
theorem wX16_isNameCode_L100 {x : GX} {n0 sl0 : Nat} (X : Cx x cX16_isNameCode RX16 (some .boolean) n0 sl0 1 20) {out : Int32 × Mm} (hE : Ends x n0 sl0 (some (pI out.1)) out.2) (hn : xn x = 3) (fu : Nat)   (a0 : Int32) (a1 : Int32) (s0 : Int32) (M : Mm) (h : fX16_isNameCode_L100 fu  a0 a1 s0 M = some out) : Gw x M 100 [(0, pI a0), (1, pI a1)] [pI s0] := by
  unfold fX16_isNameCode_L100 at h
  refine g_istore_n X (pc := 100) [(2, pI s0), (0, pI a0), (1, pI a1)] rfl (lt_n hn (by decide)) rfl dX16_isNameCode_100 ?_
  refine g_iload_n X (pc := 101) 2 rfl rfl dX16_isNameCode_101 ?_
  refine g_bipush X (pc := 102) (v := 97) dX16_isNameCode_102 (by decide) ?_
  refine g_icmp_lt X (pc := 104) (tgt := 113) dX16_isNameCode_104 (by decide) (fun hc => ?_) (fun hc => ?_)
  · have h := (if_pos hc).symm.trans h
    refine g_sub [1, 0] [(0, pI a0), (2, pI s0)] rfl ?_
    exact wX16_isNameCode_L113 X hE hn fu   a0 s0 M h
  · have h := (if_neg hc).symm.trans h
    refine g_iload_n X (pc := 107) 2 rfl rfl dX16_isNameCode_107 ?_
    refine g_bipush X (pc := 108) (v := 122) dX16_isNameCode_108 (by decide) ?_
    refine g_icmp_le X (pc := 110) (tgt := 124) dX16_isNameCode_110 (by decide) (fun hc => ?_) (fun hc => ?_)
    · have h := (if_pos hc).symm.trans h
      refine g_iconst X (pc := 124) (v := 1) dX16_isNameCode_124 (by decide) ?_
      refine g_goto X (pc := 125) (tgt := 129) dX16_isNameCode_125 (by decide) ?_
      obtain ⟨hz, rfl⟩ := rN_some h
      exact g_nreturn X rfl hz hE dX16_isNameCode_129
    · have h := (if_neg hc).symm.trans h
      refine g_sub [1, 0] [(0, pI a0), (2, pI s0)] rfl ?_
      exact wX16_isNameCode_L113 X hE hn fu   a0 s0 M h
theorem wX16_isNameCode_L95 {x : GX} {n0 sl0 : Nat} (X : Cx x cX16_isNameCode RX16 (some .boolean) n0 sl0 1 20) {out : Int32 × Mm} (hE : Ends x n0 sl0 (some (pI out.1)) out.2) (hn : xn x = 3) (fu : Nat)   (a0 : Int32) (a1 : Int32)  (M : Mm) (h : fX16_isNameCode_L95 fu  a0 a1 M = some out) : Gw x M 95 [(0, pI a0), (1, pI a1)] [] := by
  unfold fX16_isNameCode_L95 at h
  refine g_iconst X (pc := 95) (v := 1) dX16_isNameCode_95 (by decide) ?_
  refine g_goto X (pc := 96) (tgt := 100) dX16_isNameCode_96 (by decide) ?_
  exact wX16_isNameCode_L100 X hE hn fu   a0 a1 (1 : Int32) M h
theorem wX16_isNameCode {x : GX} {n0 sl0 : Nat} (X : Cx x cX16_isNameCode RX16 (some .boolean) n0 sl0 1 20) {out : Int32 × Mm} (hE : Ends x n0 sl0 (some (pI out.1)) out.2) (hn : xn x = 3) (fu : Nat)   (a0 : Int32)  (M : Mm) (h : fX16_isNameCode fu  a0 M = some out) : Gw x M 0 [(0, pI a0)] [] := by
  unfold fX16_isNameCode at h
  refine g_iload_n X (pc := 0) 0 rfl rfl dX16_isNameCode_0 ?_
  obtain ⟨v2, M1, eM1, h⟩ := b2d h
  refine g_callS X (pc := 1) (M' := M1) (ro := some (pI v2)) (as := [pI a0]) (as' := [pI a0]) (st := []) (ctX16_small _ _ _ _ _ _ fu  a0 M _ eM1) tb_2372 tb_2370 tb_2371 tb_8 hyX16_small rfl rfl ⟨by decide, by decide⟩ (Nat.le_of_ble_eq_true rfl) dX16_isNameCode_1 ?_
  refine g_istore_n X (pc := 4) [(1, pI v2), (0, pI a0)] rfl (lt_n hn (by decide)) rfl dX16_isNameCode_4 ?_
  refine g_iload_n X (pc := 5) 1 rfl rfl dX16_isNameCode_5 ?_
  refine g_bipush X (pc := 6) (v := 45) dX16_isNameCode_6 (by decide) ?_
  refine g_icmp_eq X (pc := 8) (tgt := 95) dX16_isNameCode_8 (by decide) (fun hc => ?_) (fun hc => ?_)
  · have h := (if_pos hc).symm.trans h
    refine g_sub [1, 0] [(0, pI a0), (1, pI v2)] rfl ?_
    exact wX16_isNameCode_L95 X hE hn fu   a0 v2 M1 h
  · have h := (if_neg hc).symm.trans h
    refine g_iload_n X (pc := 11) 1 rfl rfl dX16_isNameCode_11 ?_
    refine g_bipush X (pc := 12) (v := 95) dX16_isNameCode_12 (by decide) ?_
    refine g_icmp_eq X (pc := 14) (tgt := 95) dX16_isNameCode_14 (by decide) (fun hc => ?_) (fun hc => ?_)
    · have h := (if_pos hc).symm.trans h
      refine g_sub [1, 0] [(0, pI a0), (1, pI v2)] rfl ?_
      exact wX16_isNameCode_L95 X hE hn fu   a0 v2 M1 h
    · have h := (if_neg hc).symm.trans h
      refine g_iload_n X (pc := 17) 1 rfl rfl dX16_isNameCode_17 ?_
      refine g_bipush X (pc := 18) (v := 46) dX16_isNameCode_18 (by decide) ?_
      refine g_icmp_eq X (pc := 20) (tgt := 95) dX16_isNameCode_20 (by decide) (fun hc => ?_) (fun hc => ?_)
      · have h := (if_pos hc).symm.trans h
        refine g_sub [1, 0] [(0, pI a0), (1, pI v2)] rfl ?_
        exact wX16_isNameCode_L95 X hE hn fu   a0 v2 M1 h
      · have h := (if_neg hc).symm.trans h
        refine g_iload_n X (pc := 23) 1 rfl rfl dX16_isNameCode_23 ?_
        refine g_bipush X (pc := 24) (v := 33) dX16_isNameCode_24 (by decide) ?_
        refine g_icmp_eq X (pc := 26) (tgt := 95) dX16_isNameCode_26 (by decide) (fun hc => ?_) (fun hc => ?_)
        · have h := (if_pos hc).symm.trans h
          refine g_sub [1, 0] [(0, pI a0), (1, pI v2)] rfl ?_
          exact wX16_isNameCode_L95 X hE hn fu   a0 v2 M1 h
        · have h := (if_neg hc).symm.trans h
          refine g_iload_n X (pc := 29) 1 rfl rfl dX16_isNameCode_29 ?_
          refine g_bipush X (pc := 30) (v := 35) dX16_isNameCode_30 (by decide) ?_
          refine g_icmp_eq X (pc := 32) (tgt := 95) dX16_isNameCode_32 (by decide) (fun hc => ?_) (fun hc => ?_)
          · have h := (if_pos hc).symm.trans h
            refine g_sub [1, 0] [(0, pI a0), (1, pI v2)] rfl ?_
            exact wX16_isNameCode_L95 X hE hn fu   a0 v2 M1 h
          · have h := (if_neg hc).symm.trans h
            refine g_iload_n X (pc := 35) 1 rfl rfl dX16_isNameCode_35 ?_
            refine g_bipush X (pc := 36) (v := 36) dX16_isNameCode_36 (by decide) ?_
            refine g_icmp_eq X (pc := 38) (tgt := 95) dX16_isNameCode_38 (by decide) (fun hc => ?_) (fun hc => ?_)
            · have h := (if_pos hc).symm.trans h
              refine g_sub [1, 0] [(0, pI a0), (1, pI v2)] rfl ?_
              exact wX16_isNameCode_L95 X hE hn fu   a0 v2 M1 h
            · have h := (if_neg hc).symm.trans h
              refine g_iload_n X (pc := 41) 1 rfl rfl dX16_isNameCode_41 ?_
              refine g_bipush X (pc := 42) (v := 37) dX16_isNameCode_42 (by decide) ?_
              refine g_icmp_eq X (pc := 44) (tgt := 95) dX16_isNameCode_44 (by decide) (fun hc => ?_) (fun hc => ?_)
              · have h := (if_pos hc).symm.trans h
                refine g_sub [1, 0] [(0, pI a0), (1, pI v2)] rfl ?_
                exact wX16_isNameCode_L95 X hE hn fu   a0 v2 M1 h
              · have h := (if_neg hc).symm.trans h
                refine g_iload_n X (pc := 47) 1 rfl rfl dX16_isNameCode_47 ?_
                refine g_bipush X (pc := 48) (v := 38) dX16_isNameCode_48 (by decide) ?_
                refine g_icmp_eq X (pc := 50) (tgt := 95) dX16_isNameCode_50 (by decide) (fun hc => ?_) (fun hc => ?_)
                · have h := (if_pos hc).symm.trans h
                  refine g_sub [1, 0] [(0, pI a0), (1, pI v2)] rfl ?_
                  exact wX16_isNameCode_L95 X hE hn fu   a0 v2 M1 h
                · have h := (if_neg hc).symm.trans h
                  refine g_iload_n X (pc := 53) 1 rfl rfl dX16_isNameCode_53 ?_
                  refine g_bipush X (pc := 54) (v := 39) dX16_isNameCode_54 (by decide) ?_
                  refine g_icmp_eq X (pc := 56) (tgt := 95) dX16_isNameCode_56 (by decide) (fun hc => ?_) (fun hc => ?_)
                  · have h := (if_pos hc).symm.trans h
                    refine g_sub [1, 0] [(0, pI a0), (1, pI v2)] rfl ?_
                    exact wX16_isNameCode_L95 X hE hn fu   a0 v2 M1 h
                  · have h := (if_neg hc).symm.trans h
                    refine g_iload_n X (pc := 59) 1 rfl rfl dX16_isNameCode_59 ?_
                    refine g_bipush X (pc := 60) (v := 42) dX16_isNameCode_60 (by decide) ?_
                    refine g_icmp_eq X (pc := 62) (tgt := 95) dX16_isNameCode_62 (by decide) (fun hc => ?_) (fun hc => ?_)
                    · have h := (if_pos hc).symm.trans h
                      refine g_sub [1, 0] [(0, pI a0), (1, pI v2)] rfl ?_
                      exact wX16_isNameCode_L95 X hE hn fu   a0 v2 M1 h
                    · have h := (if_neg hc).symm.trans h
                      refine g_iload_n X (pc := 65) 1 rfl rfl dX16_isNameCode_65 ?_
                      refine g_bipush X (pc := 66) (v := 43) dX16_isNameCode_66 (by decide) ?_
                      refine g_icmp_eq X (pc := 68) (tgt := 95) dX16_isNameCode_68 (by decide) (fun hc => ?_) (fun hc => ?_)
                      · have h := (if_pos hc).symm.trans h
                        refine g_sub [1, 0] [(0, pI a0), (1, pI v2)] rfl ?_
                        exact wX16_isNameCode_L95 X hE hn fu   a0 v2 M1 h
                      · have h := (if_neg hc).symm.trans h
                        refine g_iload_n X (pc := 71) 1 rfl rfl dX16_isNameCode_71 ?_
                        refine g_bipush X (pc := 72) (v := 94) dX16_isNameCode_72 (by decide) ?_
                        refine g_icmp_eq X (pc := 74) (tgt := 95) dX16_isNameCode_74 (by decide) (fun hc => ?_) (fun hc => ?_)
                        · have h := (if_pos hc).symm.trans h
                          refine g_sub [1, 0] [(0, pI a0), (1, pI v2)] rfl ?_
                          exact wX16_isNameCode_L95 X hE hn fu   a0 v2 M1 h
                        · have h := (if_neg hc).symm.trans h
                          refine g_iload_n X (pc := 77) 1 rfl rfl dX16_isNameCode_77 ?_
                          refine g_bipush X (pc := 78) (v := 96) dX16_isNameCode_78 (by decide) ?_
                          refine g_icmp_eq X (pc := 80) (tgt := 95) dX16_isNameCode_80 (by decide) (fun hc => ?_) (fun hc => ?_)
                          · have h := (if_pos hc).symm.trans h
                            refine g_sub [1, 0] [(0, pI a0), (1, pI v2)] rfl ?_
                            exact wX16_isNameCode_L95 X hE hn fu   a0 v2 M1 h
                          · have h := (if_neg hc).symm.trans h
                            refine g_iload_n X (pc := 83) 1 rfl rfl dX16_isNameCode_83 ?_
                            refine g_bipush X (pc := 84) (v := 124) dX16_isNameCode_84 (by decide) ?_
                            refine g_icmp_eq X (pc := 86) (tgt := 95) dX16_isNameCode_86 (by decide) (fun hc => ?_) (fun hc => ?_)
                            · have h := (if_pos hc).symm.trans h
                              refine g_sub [1, 0] [(0, pI a0), (1, pI v2)] rfl ?_
                              exact wX16_isNameCode_L95 X hE hn fu   a0 v2 M1 h
                            · have h := (if_neg hc).symm.trans h
                              refine g_iload_n X (pc := 89) 1 rfl rfl dX16_isNameCode_89 ?_
                              refine g_bipush X (pc := 90) (v := 126) dX16_isNameCode_90 (by decide) ?_
                              refine g_icmp_ne X (pc := 92) (tgt := 99) dX16_isNameCode_92 (by decide) (fun hc => ?_) (fun hc => ?_)
                              · have h := (if_neg hc).symm.trans h
                                refine g_iconst X (pc := 99) (v := 0) dX16_isNameCode_99 (by decide) ?_
                                refine g_sub [1, 0] [(0, pI a0), (1, pI v2)] rfl ?_
                                exact wX16_isNameCode_L100 X hE hn fu   a0 v2 (0 : Int32) M1 h
                              · have h := (if_pos hc).symm.trans h
                                refine g_sub [1, 0] [(0, pI a0), (1, pI v2)] rfl ?_
                                exact wX16_isNameCode_L95 X hE hn fu   a0 v2 M1 h
theorem hyX16_isNameCode : yX16_isNameCode.cls ≠ "java/lang/invoke/MethodHandle" ∧ yX16_isNameCode.cls ≠ "java/lang/invoke/VarHandle" ∧ (parseMethodDescriptor yX16_isNameCode.desc).map (fun d => d.parameters.length) = some 1 := ⟨by decide +kernel, by decide +kernel, by decide +kernel⟩
theorem ctX16_isNameCode (l : Launch) (E : Nat → Nat) (D : va_G) (dA : Nat → ClassId) (lo : Nat) (H0 : Heap) (fu : Nat) (a0 : Int32) (M : Mm) (out : Int32 × Mm) (h : fX16_isNameCode fu a0 M = some out) : Ct l E D dA lo H0 yX16_isNameCode cX16_isNameCode 3 (some .boolean) 1 20 [pI a0] M (some (pI out.1)) out.2 := by
  refine ct_of (by decide +kernel) (Nat.le_of_ble_eq_true rfl) ?_
  intro x hl he hd ha ho hh hn hin X hE
  exact wX16_isNameCode X hE hn fu a0 M h
/-! WebHostModel.isBlank(I)Z -/
def fX16_isBlank (fu : Nat)  (a0 : Int32)  (M : Mm) : Option (Int32 × Mm) :=
    if a0 = (32 : Int32) then (
    rN .boolean (1 : Int32) M)
    else (
    if a0 = (9 : Int32) then (
    rN .boolean (1 : Int32) M)
    else (
    rN .boolean (0 : Int32) M))
theorem dX16_isBlank_0 : decode cX16_isBlank 0 = .ok (.iload_n 0, 1) := by decide +kernel
theorem dX16_isBlank_1 : decode cX16_isBlank 1 = .ok (.bipush 32, 2) := by decide +kernel
theorem dX16_isBlank_3 : decode cX16_isBlank 3 = .ok (.if_icmp .eq 9, 3) := by decide +kernel
theorem dX16_isBlank_6 : decode cX16_isBlank 6 = .ok (.iload_n 0, 1) := by decide +kernel
theorem dX16_isBlank_7 : decode cX16_isBlank 7 = .ok (.bipush 9, 2) := by decide +kernel
theorem dX16_isBlank_9 : decode cX16_isBlank 9 = .ok (.if_icmp .ne 7, 3) := by decide +kernel
theorem dX16_isBlank_12 : decode cX16_isBlank 12 = .ok (.iconst 1, 1) := by decide +kernel
theorem dX16_isBlank_13 : decode cX16_isBlank 13 = .ok (.goto 4, 3) := by decide +kernel
theorem dX16_isBlank_16 : decode cX16_isBlank 16 = .ok (.iconst 0, 1) := by decide +kernel
theorem dX16_isBlank_17 : decode cX16_isBlank 17 = .ok (.ireturn, 1) := by decide +kernel
theorem wX16_isBlank {x : GX} {n0 sl0 : Nat} (X : Cx x cX16_isBlank RX16 (some .boolean) n0 sl0 0 0) {out : Int32 × Mm} (hE : Ends x n0 sl0 (some (pI out.1)) out.2) (hn : xn x = 1) (fu : Nat)   (a0 : Int32)  (M : Mm) (h : fX16_isBlank fu  a0 M = some out) : Gw x M 0 [(0, pI a0)] [] := by
  unfold fX16_isBlank at h
  refine g_iload_n X (pc := 0) 0 rfl rfl dX16_isBlank_0 ?_
  refine g_bipush X (pc := 1) (v := 32) dX16_isBlank_1 (by decide) ?_
  refine g_icmp_eq X (pc := 3) (tgt := 12) dX16_isBlank_3 (by decide) (fun hc => ?_) (fun hc => ?_)
  · have h := (if_pos hc).symm.trans h
    refine g_iconst X (pc := 12) (v := 1) dX16_isBlank_12 (by decide) ?_
    refine g_goto X (pc := 13) (tgt := 17) dX16_isBlank_13 (by decide) ?_
    obtain ⟨hz, rfl⟩ := rN_some h
    exact g_nreturn X rfl hz hE dX16_isBlank_17
  · have h := (if_neg hc).symm.trans h
    refine g_iload_n X (pc := 6) 0 rfl rfl dX16_isBlank_6 ?_
    refine g_bipush X (pc := 7) (v := 9) dX16_isBlank_7 (by decide) ?_
    refine g_icmp_ne X (pc := 9) (tgt := 16) dX16_isBlank_9 (by decide) (fun hc => ?_) (fun hc => ?_)
    · have h := (if_neg hc).symm.trans h
      refine g_iconst X (pc := 16) (v := 0) dX16_isBlank_16 (by decide) ?_
      obtain ⟨hz, rfl⟩ := rN_some h
      exact g_nreturn X rfl hz hE dX16_isBlank_17
    · have h := (if_pos hc).symm.trans h
      refine g_iconst X (pc := 12) (v := 1) dX16_isBlank_12 (by decide) ?_
      refine g_goto X (pc := 13) (tgt := 17) dX16_isBlank_13 (by decide) ?_
      obtain ⟨hz, rfl⟩ := rN_some h
      exact g_nreturn X rfl hz hE dX16_isBlank_17
theorem hyX16_isBlank : yX16_isBlank.cls ≠ "java/lang/invoke/MethodHandle" ∧ yX16_isBlank.cls ≠ "java/lang/invoke/VarHandle" ∧ (parseMethodDescriptor yX16_isBlank.desc).map (fun d => d.parameters.length) = some 1 := ⟨by decide +kernel, by decide +kernel, by decide +kernel⟩
theorem ctX16_isBlank (l : Launch) (E : Nat → Nat) (D : va_G) (dA : Nat → ClassId) (lo : Nat) (H0 : Heap) (fu : Nat) (a0 : Int32) (M : Mm) (out : Int32 × Mm) (h : fX16_isBlank fu a0 M = some out) : Ct l E D dA lo H0 yX16_isBlank cX16_isBlank 1 (some .boolean) 0 0 [pI a0] M (some (pI out.1)) out.2 := by
  refine ct_of (by decide +kernel) (Nat.le_of_ble_eq_true rfl) ?_
  intro x hl he hd ha ho hh hn hin X hE
  exact wX16_isBlank X hE hn fu a0 M h
/-! WebHostModel.saysSmall(IILjava/lang/String;)Z -/
def fX16_saysSmall_L15 (fu : Nat)  : Nat → Nat → Int32 → Int32 → Option Nat → Int32 → Mm → Option (Int32 × Mm)
  | 0, _, _, _, _, _, _ => none
  | n + 1, a0, a1, a2, a3, a4, M =>
    if a2 ≤ a4 then (
    rN .boolean (1 : Int32) M)
    else (
    (rc M 16 (some a0)).bind fun q1 =>
    b2 (fX16_headAt fu q1 a4 M) fun v3 M2 =>
    b2 (fX16_small fu  v3 M2) fun v5 M4 =>
    (rcS a3).bind fun q6 =>
    b2 (fJ0_charAt_5068e fu q6 (a4 - a1) M4) fun v8 M7 =>
    if v5 = v8 then (
    fX16_saysSmall_L15 fu  n a0 a1 a2 a3 (a4 + (1 : Int32)) M7)
    else (
    rN .boolean (0 : Int32) M7))
def fX16_saysSmall (fu : Nat)  (a0 : Nat) (a1 : Int32) (a2 : Int32) (a3 : Option Nat)  (M : Mm) : Option (Int32 × Mm) :=
    (rcS a3).bind fun q1 =>
    b2 (fJ0_length_8abf5 fu q1  M) fun v3 M2 =>
    if (a2 - a1) = v3 then (
    fX16_saysSmall_L15 fu  fu a0 a1 a2 a3 a1 M2)
    else (
    rN .boolean (0 : Int32) M2)
theorem dX16_saysSmall_0 : decode cX16_saysSmall 0 = .ok (.iload_n 2, 1) := by decide +kernel
theorem dX16_saysSmall_1 : decode cX16_saysSmall 1 = .ok (.iload_n 1, 1) := by decide +kernel
theorem dX16_saysSmall_2 : decode cX16_saysSmall 2 = .ok (.isub, 1) := by decide +kernel
theorem dX16_saysSmall_3 : decode cX16_saysSmall 3 = .ok (.aload_n 3, 1) := by decide +kernel
theorem dX16_saysSmall_4 : decode cX16_saysSmall 4 = .ok (.invokevirtual 717, 3) := by decide +kernel
theorem dX16_saysSmall_7 : decode cX16_saysSmall 7 = .ok (.if_icmp .eq 5, 3) := by decide +kernel
theorem dX16_saysSmall_10 : decode cX16_saysSmall 10 = .ok (.iconst 0, 1) := by decide +kernel
theorem dX16_saysSmall_11 : decode cX16_saysSmall 11 = .ok (.ireturn, 1) := by decide +kernel
theorem dX16_saysSmall_12 : decode cX16_saysSmall 12 = .ok (.iload_n 1, 1) := by decide +kernel
theorem dX16_saysSmall_13 : decode cX16_saysSmall 13 = .ok (.istore 4, 2) := by decide +kernel
theorem dX16_saysSmall_15 : decode cX16_saysSmall 15 = .ok (.iload 4, 2) := by decide +kernel
theorem dX16_saysSmall_17 : decode cX16_saysSmall 17 = .ok (.iload_n 2, 1) := by decide +kernel
theorem dX16_saysSmall_18 : decode cX16_saysSmall 18 = .ok (.if_icmp .ge 31, 3) := by decide +kernel
theorem dX16_saysSmall_21 : decode cX16_saysSmall 21 = .ok (.aload_n 0, 1) := by decide +kernel
theorem dX16_saysSmall_22 : decode cX16_saysSmall 22 = .ok (.iload 4, 2) := by decide +kernel
theorem dX16_saysSmall_24 : decode cX16_saysSmall 24 = .ok (.invokevirtual 693, 3) := by decide +kernel
theorem dX16_saysSmall_27 : decode cX16_saysSmall 27 = .ok (.invokestatic 725, 3) := by decide +kernel
theorem dX16_saysSmall_30 : decode cX16_saysSmall 30 = .ok (.aload_n 3, 1) := by decide +kernel
theorem dX16_saysSmall_31 : decode cX16_saysSmall 31 = .ok (.iload 4, 2) := by decide +kernel
theorem dX16_saysSmall_33 : decode cX16_saysSmall 33 = .ok (.iload_n 1, 1) := by decide +kernel
theorem dX16_saysSmall_34 : decode cX16_saysSmall 34 = .ok (.isub, 1) := by decide +kernel
theorem dX16_saysSmall_35 : decode cX16_saysSmall 35 = .ok (.invokevirtual 721, 3) := by decide +kernel
theorem dX16_saysSmall_38 : decode cX16_saysSmall 38 = .ok (.if_icmp .eq 5, 3) := by decide +kernel
theorem dX16_saysSmall_41 : decode cX16_saysSmall 41 = .ok (.iconst 0, 1) := by decide +kernel
theorem dX16_saysSmall_42 : decode cX16_saysSmall 42 = .ok (.ireturn, 1) := by decide +kernel
theorem dX16_saysSmall_43 : decode cX16_saysSmall 43 = .ok (.iinc 4 1, 3) := by decide +kernel
theorem dX16_saysSmall_46 : decode cX16_saysSmall 46 = .ok (.goto (-31), 3) := by decide +kernel
theorem dX16_saysSmall_49 : decode cX16_saysSmall 49 = .ok (.iconst 1, 1) := by decide +kernel
theorem dX16_saysSmall_50 : decode cX16_saysSmall 50 = .ok (.ireturn, 1) := by decide +kernel
theorem wX16_saysSmall_L15 {x : GX} {n0 sl0 : Nat} (X : Cx x cX16_saysSmall RX16 (some .boolean) n0 sl0 5 106) {out : Int32 × Mm} (hE : Ends x n0 sl0 (some (pI out.1)) out.2) (hn : xn x = 5) (fu : Nat)   : ∀ (n : Nat) (a0 : Nat) (a1 : Int32) (a2 : Int32) (a3 : Option Nat) (a4 : Int32)  (M : Mm), fX16_saysSmall_L15 fu  n a0 a1 a2 a3 a4 M = some out → Gw x M 15 [(0, pR (some a0)), (1, pI a1), (2, pI a2), (3, pR a3), (4, pI a4)] [] := by
  intro n
  induction n with
  | zero =>
    intro a0 a1 a2 a3 a4 M h
    have h : (none : Option (Int32 × Mm)) = some out := h
    cases h
  | succ n ih =>
    intro a0 a1 a2 a3 a4 M h
    rw [fX16_saysSmall_L15] at h
    refine g_iload X (pc := 15) 4 rfl dX16_saysSmall_15 ?_
    refine g_iload_n X (pc := 17) 2 rfl rfl dX16_saysSmall_17 ?_
    refine g_icmp_ge X (pc := 18) (tgt := 49) dX16_saysSmall_18 (by decide) (fun hc => ?_) (fun hc => ?_)
    · have h := (if_pos hc).symm.trans h
      refine g_iconst X (pc := 49) (v := 1) dX16_saysSmall_49 (by decide) ?_
      obtain ⟨hz, rfl⟩ := rN_some h
      exact g_nreturn X rfl hz hE dX16_saysSmall_50
    · have h := (if_neg hc).symm.trans h
      refine g_aload_n X (pc := 21) 0 rfl rfl dX16_saysSmall_21 ?_
      refine g_iload X (pc := 22) 4 rfl dX16_saysSmall_22 ?_
      obtain ⟨q1, eq1, h⟩ := bd h
      obtain ⟨v3, M2, eM2, h⟩ := b2d h
      refine g_callV X (pc := 24) (M' := M2) (ro := some (pI v3)) (c := 16) rfl (by decide) (as := [pI a4]) (as' := [pI a4]) (st := []) eq1 (ctX16_headAt _ _ _ _ _ _ fu q1 a4 M _ eM2) tb_2352 tb_2349 tb_2351 ts_124 tb_8 ⟨rfl, hyX16_headAt⟩ rfl rfl ⟨by decide, by decide⟩ (Nat.le_of_ble_eq_true rfl) dX16_saysSmall_24 ?_
      obtain ⟨v5, M4, eM4, h⟩ := b2d h
      refine g_callS X (pc := 27) (M' := M4) (ro := some (pI v5)) (as := [pI v3]) (as' := [pI v3]) (st := []) (ctX16_small _ _ _ _ _ _ fu  v3 M2 _ eM4) tb_2372 tb_2370 tb_2371 tb_8 hyX16_small rfl rfl ⟨by decide, by decide⟩ (Nat.le_of_ble_eq_true rfl) dX16_saysSmall_27 ?_
      refine g_aload_n X (pc := 30) 3 rfl rfl dX16_saysSmall_30 ?_
      refine g_iload X (pc := 31) 4 rfl dX16_saysSmall_31 ?_
      refine g_iload_n X (pc := 33) 1 rfl rfl dX16_saysSmall_33 ?_
      refine g_isub X (pc := 34) dX16_saysSmall_34 ?_
      obtain ⟨q6, eq6, h⟩ := bd h
      obtain ⟨v8, M7, eM7, h⟩ := b2d h
      refine g_callVS X (pc := 35) (M' := M7) (ro := some (pI v8)) (as := [pI (a4 - a1)]) (as' := [pI (a4 - a1)]) (st := [pI v5]) eq6 (ctJ0_charAt_5068e _ _ _ _ _ _ fu q6 (a4 - a1) M4 _ eM7) tb_1224 tb_2359 tb_1222 tb_1223 tb_21 ⟨rfl, hyJ0_charAt_5068e⟩ rfl rfl ⟨by decide, by decide⟩ (Nat.le_of_ble_eq_true rfl) dX16_saysSmall_35 ?_
      refine g_icmp_eq X (pc := 38) (tgt := 43) dX16_saysSmall_38 (by decide) (fun hc => ?_) (fun hc => ?_)
      · have h := (if_pos hc).symm.trans h
        refine g_iinc X (pc := 43) 4 [(4, pI (a4 + (1 : Int32))), (0, pR (some a0)), (1, pI a1), (2, pI a2), (3, pR a3)] rfl (iinc_e (by decide)) (lt_n hn (by decide)) rfl dX16_saysSmall_43 ?_
        refine g_goto X (pc := 46) (tgt := 15) dX16_saysSmall_46 (by decide) ?_
        refine g_sub [1, 2, 3, 4, 0] [(0, pR (some a0)), (1, pI a1), (2, pI a2), (3, pR a3), (4, pI (a4 + (1 : Int32)))] rfl ?_
        exact ih a0 a1 a2 a3 (a4 + (1 : Int32)) M7 h
      · have h := (if_neg hc).symm.trans h
        refine g_iconst X (pc := 41) (v := 0) dX16_saysSmall_41 (by decide) ?_
        obtain ⟨hz, rfl⟩ := rN_some h
        exact g_nreturn X rfl hz hE dX16_saysSmall_42
theorem wX16_saysSmall {x : GX} {n0 sl0 : Nat} (X : Cx x cX16_saysSmall RX16 (some .boolean) n0 sl0 5 106) {out : Int32 × Mm} (hE : Ends x n0 sl0 (some (pI out.1)) out.2) (hn : xn x = 5) (fu : Nat)   (a0 : Nat) (a1 : Int32) (a2 : Int32) (a3 : Option Nat)  (M : Mm) (h : fX16_saysSmall fu  a0 a1 a2 a3 M = some out) : Gw x M 0 [(0, pR (some a0)), (1, pI a1), (2, pI a2), (3, pR a3)] [] := by
  unfold fX16_saysSmall at h
  refine g_iload_n X (pc := 0) 2 rfl rfl dX16_saysSmall_0 ?_
  refine g_iload_n X (pc := 1) 1 rfl rfl dX16_saysSmall_1 ?_
  refine g_isub X (pc := 2) dX16_saysSmall_2 ?_
  refine g_aload_n X (pc := 3) 3 rfl rfl dX16_saysSmall_3 ?_
  obtain ⟨q1, eq1, h⟩ := bd h
  obtain ⟨v3, M2, eM2, h⟩ := b2d h
  refine g_callVS X (pc := 4) (M' := M2) (ro := some (pI v3)) (as := []) (as' := []) (st := [pI (a2 - a1)]) eq1 (ctJ0_length_8abf5 _ _ _ _ _ _ fu q1  M _ eM2) tb_1214 tb_2358 tb_1212 tb_1213 tb_21 ⟨rfl, hyJ0_length_8abf5⟩ rfl rfl ⟨by decide, by decide⟩ (Nat.le_of_ble_eq_true rfl) dX16_saysSmall_4 ?_
  refine g_icmp_eq X (pc := 7) (tgt := 12) dX16_saysSmall_7 (by decide) (fun hc => ?_) (fun hc => ?_)
  · have h := (if_pos hc).symm.trans h
    refine g_iload_n X (pc := 12) 1 rfl rfl dX16_saysSmall_12 ?_
    refine g_istore X (pc := 13) [(4, pI a1), (0, pR (some a0)), (1, pI a1), (2, pI a2), (3, pR a3)] (lt_n hn (by decide)) rfl dX16_saysSmall_13 ?_
    refine g_sub [1, 2, 3, 4, 0] [(0, pR (some a0)), (1, pI a1), (2, pI a2), (3, pR a3), (4, pI a1)] rfl ?_
    exact wX16_saysSmall_L15 X hE hn fu   fu a0 a1 a2 a3 a1 M2 h
  · have h := (if_neg hc).symm.trans h
    refine g_iconst X (pc := 10) (v := 0) dX16_saysSmall_10 (by decide) ?_
    obtain ⟨hz, rfl⟩ := rN_some h
    exact g_nreturn X rfl hz hE dX16_saysSmall_11
theorem hyX16_saysSmall : yX16_saysSmall.cls ≠ "java/lang/invoke/MethodHandle" ∧ yX16_saysSmall.cls ≠ "java/lang/invoke/VarHandle" ∧ (parseMethodDescriptor yX16_saysSmall.desc).map (fun d => d.parameters.length) = some 3 := ⟨by decide +kernel, by decide +kernel, by decide +kernel⟩
theorem ctX16_saysSmall (l : Launch) (E : Nat → Nat) (D : va_G) (dA : Nat → ClassId) (lo : Nat) (H0 : Heap) (fu : Nat) (a0 : Nat) (a1 : Int32) (a2 : Int32) (a3 : Option Nat) (M : Mm) (out : Int32 × Mm) (h : fX16_saysSmall fu a0 a1 a2 a3 M = some out) : Ct l E D dA lo H0 yX16_saysSmall cX16_saysSmall 5 (some .boolean) 5 106 [pR (some a0), pI a1, pI a2, pR a3] M (some (pI out.1)) out.2 := by
  refine ct_of (by decide +kernel) (Nat.le_of_ble_eq_true rfl) ?_
  intro x hl he hd ha ho hh hn hin X hE
  exact wX16_saysSmall X hE hn fu a0 a1 a2 a3 M h
/-! WebHostModel.contentLength(II)V -/
def fX16_contentLength_L80 (fu : Nat)  (a0 : Nat) (a3 : Int32) (a4 : Int32)  (M : Mm) : Option (Mm) :=
    if a4 = 0 then (
    (pZ M 16 1076 (some a0) (1 : Int32)).bind fun M3 =>
    some M3)
    else (
    if a3 ≤ (65536 : Int32) then (
    (pF M 16 1075 (some a0) a3).bind fun M1 =>
    some M1)
    else (
    (pZ M 16 1077 (some a0) (1 : Int32)).bind fun M2 =>
    some M2))
def fX16_contentLength_L37 (fu : Nat)  : Nat → Nat → Int32 → Int32 → Int32 → Int32 → Mm → Option (Mm)
  | 0, _, _, _, _, _, _ => none
  | n + 1, a0, a2, a3, a4, a5, M =>
    if a2 ≤ a5 then (
    fX16_contentLength_L80 fu  a0 a3 a4 M)
    else (
    if a4 = 0 then (
    fX16_contentLength_L80 fu  a0 a3 a4 M)
    else (
    (rc M 16 (some a0)).bind fun q1 =>
    b2 (fX16_headAt fu q1 a5 M) fun v3 M2 =>
    b2 (fX16_isDigit fu  v3 M2) fun v5 M4 =>
    (rc M4 16 (some a0)).bind fun q6 =>
    b2 (fX16_headAt fu q6 a5 M4) fun v8 M7 =>
    (some ((((10 : Int32) * a3) + v8) - (48 : Int32))).bind fun v9 =>
    fX16_contentLength_L37 fu  n a0 a2 v9 v5 (a5 + (1 : Int32)) M7))
def fX16_contentLength_L32 (fu : Nat)  (a0 : Nat) (a1 : Int32) (a2 : Int32) (a3 : Int32) (s0 : Int32) (M : Mm) : Option (Mm) :=
    fX16_contentLength_L37 fu  fu a0 a2 a3 s0 a1 M
def fX16_contentLength_L31 (fu : Nat)  (a0 : Nat) (a1 : Int32) (a2 : Int32) (a3 : Int32)  (M : Mm) : Option (Mm) :=
    fX16_contentLength_L32 fu  a0 a1 a2 a3 (0 : Int32) M
def fX16_contentLength (fu : Nat)  (a0 : Nat) (a1 : Int32) (a2 : Int32)  (M : Mm) : Option (Mm) :=
    (gI M 16 1073 (some a0)).bind fun v1 =>
    (pF M 16 1073 (some a0) (v1 + (1 : Int32))).bind fun M2 =>
    if (a2 - a1) < (1 : Int32) then (
    fX16_contentLength_L31 fu  a0 a1 a2 (0 : Int32) M2)
    else (
    if (9 : Int32) < (a2 - a1) then (
    fX16_contentLength_L31 fu  a0 a1 a2 (0 : Int32) M2)
    else (
    fX16_contentLength_L32 fu  a0 a1 a2 (0 : Int32) (1 : Int32) M2))
theorem dX16_contentLength_0 : decode cX16_contentLength 0 = .ok (.aload_n 0, 1) := by decide +kernel
theorem dX16_contentLength_1 : decode cX16_contentLength 1 = .ok (.dup, 1) := by decide +kernel
theorem dX16_contentLength_2 : decode cX16_contentLength 2 = .ok (.getfield 657, 3) := by decide +kernel
theorem dX16_contentLength_5 : decode cX16_contentLength 5 = .ok (.iconst 1, 1) := by decide +kernel
theorem dX16_contentLength_6 : decode cX16_contentLength 6 = .ok (.iadd, 1) := by decide +kernel
theorem dX16_contentLength_7 : decode cX16_contentLength 7 = .ok (.putfield 657, 3) := by decide +kernel
theorem dX16_contentLength_10 : decode cX16_contentLength 10 = .ok (.iconst 0, 1) := by decide +kernel
theorem dX16_contentLength_11 : decode cX16_contentLength 11 = .ok (.istore_n 3, 1) := by decide +kernel
theorem dX16_contentLength_12 : decode cX16_contentLength 12 = .ok (.iload_n 2, 1) := by decide +kernel
theorem dX16_contentLength_13 : decode cX16_contentLength 13 = .ok (.iload_n 1, 1) := by decide +kernel
theorem dX16_contentLength_14 : decode cX16_contentLength 14 = .ok (.isub, 1) := by decide +kernel
theorem dX16_contentLength_15 : decode cX16_contentLength 15 = .ok (.iconst 1, 1) := by decide +kernel
theorem dX16_contentLength_16 : decode cX16_contentLength 16 = .ok (.if_icmp .lt 15, 3) := by decide +kernel
theorem dX16_contentLength_19 : decode cX16_contentLength 19 = .ok (.iload_n 2, 1) := by decide +kernel
theorem dX16_contentLength_20 : decode cX16_contentLength 20 = .ok (.iload_n 1, 1) := by decide +kernel
theorem dX16_contentLength_21 : decode cX16_contentLength 21 = .ok (.isub, 1) := by decide +kernel
theorem dX16_contentLength_22 : decode cX16_contentLength 22 = .ok (.bipush 9, 2) := by decide +kernel
theorem dX16_contentLength_24 : decode cX16_contentLength 24 = .ok (.if_icmp .gt 7, 3) := by decide +kernel
theorem dX16_contentLength_27 : decode cX16_contentLength 27 = .ok (.iconst 1, 1) := by decide +kernel
theorem dX16_contentLength_28 : decode cX16_contentLength 28 = .ok (.goto 4, 3) := by decide +kernel
theorem dX16_contentLength_31 : decode cX16_contentLength 31 = .ok (.iconst 0, 1) := by decide +kernel
theorem dX16_contentLength_32 : decode cX16_contentLength 32 = .ok (.istore 4, 2) := by decide +kernel
theorem dX16_contentLength_34 : decode cX16_contentLength 34 = .ok (.iload_n 1, 1) := by decide +kernel
theorem dX16_contentLength_35 : decode cX16_contentLength 35 = .ok (.istore 5, 2) := by decide +kernel
theorem dX16_contentLength_37 : decode cX16_contentLength 37 = .ok (.iload 5, 2) := by decide +kernel
theorem dX16_contentLength_39 : decode cX16_contentLength 39 = .ok (.iload_n 2, 1) := by decide +kernel
theorem dX16_contentLength_40 : decode cX16_contentLength 40 = .ok (.if_icmp .ge 40, 3) := by decide +kernel
theorem dX16_contentLength_43 : decode cX16_contentLength 43 = .ok (.iload 4, 2) := by decide +kernel
theorem dX16_contentLength_45 : decode cX16_contentLength 45 = .ok (.ifCond .eq 35, 3) := by decide +kernel
theorem dX16_contentLength_48 : decode cX16_contentLength 48 = .ok (.aload_n 0, 1) := by decide +kernel
theorem dX16_contentLength_49 : decode cX16_contentLength 49 = .ok (.iload 5, 2) := by decide +kernel
theorem dX16_contentLength_51 : decode cX16_contentLength 51 = .ok (.invokevirtual 693, 3) := by decide +kernel
theorem dX16_contentLength_54 : decode cX16_contentLength 54 = .ok (.invokestatic 728, 3) := by decide +kernel
theorem dX16_contentLength_57 : decode cX16_contentLength 57 = .ok (.istore 4, 2) := by decide +kernel
theorem dX16_contentLength_59 : decode cX16_contentLength 59 = .ok (.bipush 10, 2) := by decide +kernel
theorem dX16_contentLength_61 : decode cX16_contentLength 61 = .ok (.iload_n 3, 1) := by decide +kernel
theorem dX16_contentLength_62 : decode cX16_contentLength 62 = .ok (.imul, 1) := by decide +kernel
theorem dX16_contentLength_63 : decode cX16_contentLength 63 = .ok (.aload_n 0, 1) := by decide +kernel
theorem dX16_contentLength_64 : decode cX16_contentLength 64 = .ok (.iload 5, 2) := by decide +kernel
theorem dX16_contentLength_66 : decode cX16_contentLength 66 = .ok (.invokevirtual 693, 3) := by decide +kernel
theorem dX16_contentLength_69 : decode cX16_contentLength 69 = .ok (.iadd, 1) := by decide +kernel
theorem dX16_contentLength_70 : decode cX16_contentLength 70 = .ok (.bipush 48, 2) := by decide +kernel
theorem dX16_contentLength_72 : decode cX16_contentLength 72 = .ok (.isub, 1) := by decide +kernel
theorem dX16_contentLength_73 : decode cX16_contentLength 73 = .ok (.istore_n 3, 1) := by decide +kernel
theorem dX16_contentLength_74 : decode cX16_contentLength 74 = .ok (.iinc 5 1, 3) := by decide +kernel
theorem dX16_contentLength_77 : decode cX16_contentLength 77 = .ok (.goto (-40), 3) := by decide +kernel
theorem dX16_contentLength_80 : decode cX16_contentLength 80 = .ok (.iload 4, 2) := by decide +kernel
theorem dX16_contentLength_82 : decode cX16_contentLength 82 = .ok (.ifCond .ne 11, 3) := by decide +kernel
theorem dX16_contentLength_85 : decode cX16_contentLength 85 = .ok (.aload_n 0, 1) := by decide +kernel
theorem dX16_contentLength_86 : decode cX16_contentLength 86 = .ok (.iconst 1, 1) := by decide +kernel
theorem dX16_contentLength_87 : decode cX16_contentLength 87 = .ok (.putfield 666, 3) := by decide +kernel
theorem dX16_contentLength_90 : decode cX16_contentLength 90 = .ok (.goto 23, 3) := by decide +kernel
theorem dX16_contentLength_93 : decode cX16_contentLength 93 = .ok (.iload_n 3, 1) := by decide +kernel
theorem dX16_contentLength_94 : decode cX16_contentLength 94 = .ok (.ldc_w 762, 3) := by decide +kernel
theorem dX16_contentLength_97 : decode cX16_contentLength 97 = .ok (.if_icmp .le 11, 3) := by decide +kernel
theorem dX16_contentLength_100 : decode cX16_contentLength 100 = .ok (.aload_n 0, 1) := by decide +kernel
theorem dX16_contentLength_101 : decode cX16_contentLength 101 = .ok (.iconst 1, 1) := by decide +kernel
theorem dX16_contentLength_102 : decode cX16_contentLength 102 = .ok (.putfield 669, 3) := by decide +kernel
theorem dX16_contentLength_105 : decode cX16_contentLength 105 = .ok (.goto 8, 3) := by decide +kernel
theorem dX16_contentLength_108 : decode cX16_contentLength 108 = .ok (.aload_n 0, 1) := by decide +kernel
theorem dX16_contentLength_109 : decode cX16_contentLength 109 = .ok (.iload_n 3, 1) := by decide +kernel
theorem dX16_contentLength_110 : decode cX16_contentLength 110 = .ok (.putfield 663, 3) := by decide +kernel
theorem dX16_contentLength_113 : decode cX16_contentLength 113 = .ok (.return_, 1) := by decide +kernel
theorem wX16_contentLength_L80 {x : GX} {n0 sl0 : Nat} (X : Cx x cX16_contentLength RX16 none n0 sl0 1 21) {out : Mm} (hE : Ends x n0 sl0 none out) (hn : xn x = 6) (fu : Nat)   (a0 : Nat) (a3 : Int32) (a4 : Int32)  (M : Mm) (h : fX16_contentLength_L80 fu  a0 a3 a4 M = some out) : Gw x M 80 [(0, pR (some a0)), (3, pI a3), (4, pI a4)] [] := by
  unfold fX16_contentLength_L80 at h
  refine g_iload X (pc := 80) 2 rfl dX16_contentLength_80 ?_
  refine g_if_ne X (pc := 82) (tgt := 93) dX16_contentLength_82 (by decide) (fun hc => ?_) (fun hc => ?_)
  · have h := (if_neg hc).symm.trans h
    refine g_iload_n X (pc := 93) 1 rfl rfl dX16_contentLength_93 ?_
    refine g_ldcw X (pc := 94) tb_2390 dX16_contentLength_94 ?_
    refine g_icmp_le X (pc := 97) (tgt := 108) dX16_contentLength_97 (by decide) (fun hc => ?_) (fun hc => ?_)
    · have h := (if_pos hc).symm.trans h
      refine g_aload_n X (pc := 108) 0 rfl rfl dX16_contentLength_108 ?_
      refine g_iload_n X (pc := 109) 1 rfl rfl dX16_contentLength_109 ?_
      obtain ⟨M1, eM1, h⟩ := bd h
      refine g_putI X (pc := 110) fk_16_51 rfl rfl rfl eM1 tb_1865 (Or.inl rfl) dX16_contentLength_110 ?_
      obtain rfl := Option.some.inj h
      exact g_return X hE dX16_contentLength_113
    · have h := (if_neg hc).symm.trans h
      refine g_aload_n X (pc := 100) 0 rfl rfl dX16_contentLength_100 ?_
      refine g_iconst X (pc := 101) (v := 1) dX16_contentLength_101 (by decide) ?_
      obtain ⟨M2, eM2, h⟩ := bd h
      refine g_putZ X (pc := 102) fk_16_53 rfl rfl rfl eM2 tb_1867 (Or.inl rfl) dX16_contentLength_102 ?_
      refine g_goto X (pc := 105) (tgt := 113) dX16_contentLength_105 (by decide) ?_
      obtain rfl := Option.some.inj h
      exact g_return X hE dX16_contentLength_113
  · have h := (if_pos hc).symm.trans h
    refine g_aload_n X (pc := 85) 0 rfl rfl dX16_contentLength_85 ?_
    refine g_iconst X (pc := 86) (v := 1) dX16_contentLength_86 (by decide) ?_
    obtain ⟨M3, eM3, h⟩ := bd h
    refine g_putZ X (pc := 87) fk_16_52 rfl rfl rfl eM3 tb_1866 (Or.inl rfl) dX16_contentLength_87 ?_
    refine g_goto X (pc := 90) (tgt := 113) dX16_contentLength_90 (by decide) ?_
    obtain rfl := Option.some.inj h
    exact g_return X hE dX16_contentLength_113
theorem wX16_contentLength_L37 {x : GX} {n0 sl0 : Nat} (X : Cx x cX16_contentLength RX16 none n0 sl0 1 21) {out : Mm} (hE : Ends x n0 sl0 none out) (hn : xn x = 6) (fu : Nat)   : ∀ (n : Nat) (a0 : Nat) (a2 : Int32) (a3 : Int32) (a4 : Int32) (a5 : Int32)  (M : Mm), fX16_contentLength_L37 fu  n a0 a2 a3 a4 a5 M = some out → Gw x M 37 [(0, pR (some a0)), (2, pI a2), (3, pI a3), (4, pI a4), (5, pI a5)] [] := by
  intro n
  induction n with
  | zero =>
    intro a0 a2 a3 a4 a5 M h
    have h : (none : Option (Mm)) = some out := h
    cases h
  | succ n ih =>
    intro a0 a2 a3 a4 a5 M h
    rw [fX16_contentLength_L37] at h
    refine g_iload X (pc := 37) 4 rfl dX16_contentLength_37 ?_
    refine g_iload_n X (pc := 39) 1 rfl rfl dX16_contentLength_39 ?_
    refine g_icmp_ge X (pc := 40) (tgt := 80) dX16_contentLength_40 (by decide) (fun hc => ?_) (fun hc => ?_)
    · have h := (if_pos hc).symm.trans h
      refine g_sub [0, 2, 3] [(0, pR (some a0)), (3, pI a3), (4, pI a4)] rfl ?_
      exact wX16_contentLength_L80 X hE hn fu   a0 a3 a4 M h
    · have h := (if_neg hc).symm.trans h
      refine g_iload X (pc := 43) 3 rfl dX16_contentLength_43 ?_
      refine g_if_eq X (pc := 45) (tgt := 80) dX16_contentLength_45 (by decide) (fun hc => ?_) (fun hc => ?_)
      · have h := (if_pos hc).symm.trans h
        refine g_sub [0, 2, 3] [(0, pR (some a0)), (3, pI a3), (4, pI a4)] rfl ?_
        exact wX16_contentLength_L80 X hE hn fu   a0 a3 a4 M h
      · have h := (if_neg hc).symm.trans h
        refine g_aload_n X (pc := 48) 0 rfl rfl dX16_contentLength_48 ?_
        refine g_iload X (pc := 49) 4 rfl dX16_contentLength_49 ?_
        obtain ⟨q1, eq1, h⟩ := bd h
        obtain ⟨v3, M2, eM2, h⟩ := b2d h
        refine g_callV X (pc := 51) (M' := M2) (ro := some (pI v3)) (c := 16) rfl (by decide) (as := [pI a5]) (as' := [pI a5]) (st := []) eq1 (ctX16_headAt _ _ _ _ _ _ fu q1 a5 M _ eM2) tb_2352 tb_2349 tb_2351 ts_124 tb_8 ⟨rfl, hyX16_headAt⟩ rfl rfl ⟨by decide, by decide⟩ (Nat.le_of_ble_eq_true rfl) dX16_contentLength_51 ?_
        obtain ⟨v5, M4, eM4, h⟩ := b2d h
        refine g_callS X (pc := 54) (M' := M4) (ro := some (pI v5)) (as := [pI v3]) (as' := [pI v3]) (st := []) (ctX16_isDigit _ _ _ _ _ _ fu  v3 M2 _ eM4) tb_2375 tb_2373 tb_2374 tb_8 hyX16_isDigit rfl rfl ⟨by decide, by decide⟩ (Nat.le_of_ble_eq_true rfl) dX16_contentLength_54 ?_
        refine g_istore X (pc := 57) [(4, pI v5), (0, pR (some a0)), (2, pI a2), (3, pI a3), (5, pI a5)] (lt_n hn (by decide)) rfl dX16_contentLength_57 ?_
        refine g_bipush X (pc := 59) (v := 10) dX16_contentLength_59 (by decide) ?_
        refine g_iload_n X (pc := 61) 3 rfl rfl dX16_contentLength_61 ?_
        refine g_imul X (pc := 62) dX16_contentLength_62 ?_
        refine g_aload_n X (pc := 63) 1 rfl rfl dX16_contentLength_63 ?_
        refine g_iload X (pc := 64) 4 rfl dX16_contentLength_64 ?_
        obtain ⟨q6, eq6, h⟩ := bd h
        obtain ⟨v8, M7, eM7, h⟩ := b2d h
        refine g_callV X (pc := 66) (M' := M7) (ro := some (pI v8)) (c := 16) rfl (by decide) (as := [pI a5]) (as' := [pI a5]) (st := [pI ((10 : Int32) * a3)]) eq6 (ctX16_headAt _ _ _ _ _ _ fu q6 a5 M4 _ eM7) tb_2352 tb_2349 tb_2351 ts_124 tb_8 ⟨rfl, hyX16_headAt⟩ rfl rfl ⟨by decide, by decide⟩ (Nat.le_of_ble_eq_true rfl) dX16_contentLength_66 ?_
        refine g_iadd X (pc := 69) dX16_contentLength_69 ?_
        refine g_bipush X (pc := 70) (v := 48) dX16_contentLength_70 (by decide) ?_
        refine g_isub X (pc := 72) dX16_contentLength_72 ?_
        obtain ⟨v9, ev9, h⟩ := bd h
        refine g_nmI ev9 ?_
        refine g_istore_n X (pc := 73) [(3, pI v9), (4, pI v5), (0, pR (some a0)), (2, pI a2), (5, pI a5)] rfl (lt_n hn (by decide)) rfl dX16_contentLength_73 ?_
        refine g_iinc X (pc := 74) 4 [(5, pI (a5 + (1 : Int32))), (3, pI v9), (4, pI v5), (0, pR (some a0)), (2, pI a2)] rfl (iinc_e (by decide)) (lt_n hn (by decide)) rfl dX16_contentLength_74 ?_
        refine g_goto X (pc := 77) (tgt := 37) dX16_contentLength_77 (by decide) ?_
        refine g_sub [3, 4, 1, 2, 0] [(0, pR (some a0)), (2, pI a2), (3, pI v9), (4, pI v5), (5, pI (a5 + (1 : Int32)))] rfl ?_
        exact ih a0 a2 v9 v5 (a5 + (1 : Int32)) M7 h
theorem wX16_contentLength_L32 {x : GX} {n0 sl0 : Nat} (X : Cx x cX16_contentLength RX16 none n0 sl0 1 21) {out : Mm} (hE : Ends x n0 sl0 none out) (hn : xn x = 6) (fu : Nat)   (a0 : Nat) (a1 : Int32) (a2 : Int32) (a3 : Int32) (s0 : Int32) (M : Mm) (h : fX16_contentLength_L32 fu  a0 a1 a2 a3 s0 M = some out) : Gw x M 32 [(0, pR (some a0)), (1, pI a1), (2, pI a2), (3, pI a3)] [pI s0] := by
  unfold fX16_contentLength_L32 at h
  refine g_istore X (pc := 32) [(4, pI s0), (0, pR (some a0)), (1, pI a1), (2, pI a2), (3, pI a3)] (lt_n hn (by decide)) rfl dX16_contentLength_32 ?_
  refine g_iload_n X (pc := 34) 2 rfl rfl dX16_contentLength_34 ?_
  refine g_istore X (pc := 35) [(5, pI a1), (4, pI s0), (0, pR (some a0)), (1, pI a1), (2, pI a2), (3, pI a3)] (lt_n hn (by decide)) rfl dX16_contentLength_35 ?_
  refine g_sub [2, 4, 5, 1, 0] [(0, pR (some a0)), (2, pI a2), (3, pI a3), (4, pI s0), (5, pI a1)] rfl ?_
  exact wX16_contentLength_L37 X hE hn fu   fu a0 a2 a3 s0 a1 M h
theorem wX16_contentLength_L31 {x : GX} {n0 sl0 : Nat} (X : Cx x cX16_contentLength RX16 none n0 sl0 1 21) {out : Mm} (hE : Ends x n0 sl0 none out) (hn : xn x = 6) (fu : Nat)   (a0 : Nat) (a1 : Int32) (a2 : Int32) (a3 : Int32)  (M : Mm) (h : fX16_contentLength_L31 fu  a0 a1 a2 a3 M = some out) : Gw x M 31 [(0, pR (some a0)), (1, pI a1), (2, pI a2), (3, pI a3)] [] := by
  unfold fX16_contentLength_L31 at h
  refine g_iconst X (pc := 31) (v := 0) dX16_contentLength_31 (by decide) ?_
  exact wX16_contentLength_L32 X hE hn fu   a0 a1 a2 a3 (0 : Int32) M h
theorem wX16_contentLength {x : GX} {n0 sl0 : Nat} (X : Cx x cX16_contentLength RX16 none n0 sl0 1 21) {out : Mm} (hE : Ends x n0 sl0 none out) (hn : xn x = 6) (fu : Nat)   (a0 : Nat) (a1 : Int32) (a2 : Int32)  (M : Mm) (h : fX16_contentLength fu  a0 a1 a2 M = some out) : Gw x M 0 [(0, pR (some a0)), (1, pI a1), (2, pI a2)] [] := by
  unfold fX16_contentLength at h
  refine g_aload_n X (pc := 0) 0 rfl rfl dX16_contentLength_0 ?_
  refine g_dup X (pc := 1) rfl dX16_contentLength_1 ?_
  obtain ⟨v1, ev1, h⟩ := bd h
  refine g_getI X (pc := 2) fk_16_49 rfl rfl ev1 tb_1863 dX16_contentLength_2 ?_
  refine g_iconst X (pc := 5) (v := 1) dX16_contentLength_5 (by decide) ?_
  refine g_iadd X (pc := 6) dX16_contentLength_6 ?_
  obtain ⟨M2, eM2, h⟩ := bd h
  refine g_putI X (pc := 7) fk_16_49 rfl rfl rfl eM2 tb_1863 (Or.inl rfl) dX16_contentLength_7 ?_
  refine g_iconst X (pc := 10) (v := 0) dX16_contentLength_10 (by decide) ?_
  refine g_istore_n X (pc := 11) [(3, pI (0 : Int32)), (0, pR (some a0)), (1, pI a1), (2, pI a2)] rfl (lt_n hn (by decide)) rfl dX16_contentLength_11 ?_
  refine g_iload_n X (pc := 12) 3 rfl rfl dX16_contentLength_12 ?_
  refine g_iload_n X (pc := 13) 2 rfl rfl dX16_contentLength_13 ?_
  refine g_isub X (pc := 14) dX16_contentLength_14 ?_
  refine g_iconst X (pc := 15) (v := 1) dX16_contentLength_15 (by decide) ?_
  refine g_icmp_lt X (pc := 16) (tgt := 31) dX16_contentLength_16 (by decide) (fun hc => ?_) (fun hc => ?_)
  · have h := (if_pos hc).symm.trans h
    refine g_sub [1, 2, 3, 0] [(0, pR (some a0)), (1, pI a1), (2, pI a2), (3, pI (0 : Int32))] rfl ?_
    exact wX16_contentLength_L31 X hE hn fu   a0 a1 a2 (0 : Int32) M2 h
  · have h := (if_neg hc).symm.trans h
    refine g_iload_n X (pc := 19) 3 rfl rfl dX16_contentLength_19 ?_
    refine g_iload_n X (pc := 20) 2 rfl rfl dX16_contentLength_20 ?_
    refine g_isub X (pc := 21) dX16_contentLength_21 ?_
    refine g_bipush X (pc := 22) (v := 9) dX16_contentLength_22 (by decide) ?_
    refine g_icmp_gt X (pc := 24) (tgt := 31) dX16_contentLength_24 (by decide) (fun hc => ?_) (fun hc => ?_)
    · have h := (if_pos hc).symm.trans h
      refine g_sub [1, 2, 3, 0] [(0, pR (some a0)), (1, pI a1), (2, pI a2), (3, pI (0 : Int32))] rfl ?_
      exact wX16_contentLength_L31 X hE hn fu   a0 a1 a2 (0 : Int32) M2 h
    · have h := (if_neg hc).symm.trans h
      refine g_iconst X (pc := 27) (v := 1) dX16_contentLength_27 (by decide) ?_
      refine g_goto X (pc := 28) (tgt := 32) dX16_contentLength_28 (by decide) ?_
      refine g_sub [1, 2, 3, 0] [(0, pR (some a0)), (1, pI a1), (2, pI a2), (3, pI (0 : Int32))] rfl ?_
      exact wX16_contentLength_L32 X hE hn fu   a0 a1 a2 (0 : Int32) (1 : Int32) M2 h
theorem hyX16_contentLength : yX16_contentLength.cls ≠ "java/lang/invoke/MethodHandle" ∧ yX16_contentLength.cls ≠ "java/lang/invoke/VarHandle" ∧ (parseMethodDescriptor yX16_contentLength.desc).map (fun d => d.parameters.length) = some 2 := ⟨by decide +kernel, by decide +kernel, by decide +kernel⟩
theorem ctX16_contentLength (l : Launch) (E : Nat → Nat) (D : va_G) (dA : Nat → ClassId) (lo : Nat) (H0 : Heap) (fu : Nat) (a0 : Nat) (a1 : Int32) (a2 : Int32) (M : Mm) (out : Mm) (h : fX16_contentLength fu a0 a1 a2 M = some out) : Ct l E D dA lo H0 yX16_contentLength cX16_contentLength 6 none 1 21 [pR (some a0), pI a1, pI a2] M none out := by
  refine ct_of (by decide +kernel) (Nat.le_of_ble_eq_true rfl) ?_
  intro x hl he hd ha ho hh hn hin X hE
  exact wX16_contentLength X hE hn fu a0 a1 a2 M h
/-! WebHostModel.words(II)V -/
def fX16_words_L81 (fu : Nat) (k5 : Nat → Int32 → Int32 → Int32 → Mm → Option (Mm)) (a0 : Nat) (a2 : Int32) (a3 : Int32) (a4 : Int32)  (M : Mm) : Option (Mm) :=
    k5 a0 a2 a3 (a4 + (1 : Int32)) M
def fX16_words_L76 (fu : Nat) (k5 : Nat → Int32 → Int32 → Int32 → Mm → Option (Mm)) (a0 : Nat) (a2 : Int32) (a4 : Int32)  (M : Mm) : Option (Mm) :=
    fX16_words_L81 fu k5 a0 a2 (a4 + (1 : Int32)) a4 M
def fX16_words_L58 (fu : Nat) (k5 : Nat → Int32 → Int32 → Int32 → Mm → Option (Mm)) (a0 : Nat) (a2 : Int32) (a3 : Int32) (a4 : Int32)  (M : Mm) : Option (Mm) :=
    (rc M 16 (some a0)).bind fun q1 =>
    b2 (fX16_saysSmall fu q1 a3 a4 (some 11) M) fun v3 M2 =>
    if v3 = 0 then (
    fX16_words_L76 fu k5 a0 a2 a4 M2)
    else (
    (pZ M2 16 1071 (some a0) (1 : Int32)).bind fun M4 =>
    fX16_words_L76 fu k5 a0 a2 a4 M4)
def fX16_words_L40 (fu : Nat) (k5 : Nat → Int32 → Int32 → Int32 → Mm → Option (Mm)) (a0 : Nat) (a2 : Int32) (a3 : Int32) (a4 : Int32)  (M : Mm) : Option (Mm) :=
    (rc M 16 (some a0)).bind fun q1 =>
    b2 (fX16_saysSmall fu q1 a3 a4 (some 10) M) fun v3 M2 =>
    if v3 = 0 then (
    fX16_words_L58 fu k5 a0 a2 a3 a4 M2)
    else (
    (pZ M2 16 1070 (some a0) (1 : Int32)).bind fun M4 =>
    fX16_words_L58 fu k5 a0 a2 a3 a4 M4)
def fX16_words_L5 (fu : Nat)  : Nat → Nat → Int32 → Int32 → Int32 → Mm → Option (Mm)
  | 0, _, _, _, _, _ => none
  | n + 1, a0, a2, a3, a4, M =>
    if a2 < a4 then (
    some M)
    else (
    if a4 = a2 then (
    fX16_words_L40 fu (fun b0 b2 b3 b4 M => fX16_words_L5 fu  n b0 b2 b3 b4 M) a0 a2 a3 a4 M)
    else (
    (rc M 16 (some a0)).bind fun q1 =>
    b2 (fX16_headAt fu q1 a4 M) fun v3 M2 =>
    if v3 = (44 : Int32) then (
    fX16_words_L40 fu (fun b0 b2 b3 b4 M => fX16_words_L5 fu  n b0 b2 b3 b4 M) a0 a2 a3 a4 M2)
    else (
    (rc M2 16 (some a0)).bind fun q4 =>
    b2 (fX16_headAt fu q4 a4 M2) fun v6 M5 =>
    b2 (fX16_isBlank fu  v6 M5) fun v8 M7 =>
    if v8 = 0 then (
    fX16_words_L81 fu (fun b0 b2 b3 b4 M => fX16_words_L5 fu  n b0 b2 b3 b4 M) a0 a2 a3 a4 M7)
    else (
    fX16_words_L40 fu (fun b0 b2 b3 b4 M => fX16_words_L5 fu  n b0 b2 b3 b4 M) a0 a2 a3 a4 M7))))
def fX16_words (fu : Nat)  (a0 : Nat) (a1 : Int32) (a2 : Int32)  (M : Mm) : Option (Mm) :=
    fX16_words_L5 fu  fu a0 a2 a1 a1 M
theorem dX16_words_0 : decode cX16_words 0 = .ok (.iload_n 1, 1) := by decide +kernel
theorem dX16_words_1 : decode cX16_words 1 = .ok (.istore_n 3, 1) := by decide +kernel
theorem dX16_words_2 : decode cX16_words 2 = .ok (.iload_n 1, 1) := by decide +kernel
theorem dX16_words_3 : decode cX16_words 3 = .ok (.istore 4, 2) := by decide +kernel
theorem dX16_words_5 : decode cX16_words 5 = .ok (.iload 4, 2) := by decide +kernel
theorem dX16_words_7 : decode cX16_words 7 = .ok (.iload_n 2, 1) := by decide +kernel
theorem dX16_words_8 : decode cX16_words 8 = .ok (.if_icmp .gt 79, 3) := by decide +kernel
theorem dX16_words_11 : decode cX16_words 11 = .ok (.iload 4, 2) := by decide +kernel
theorem dX16_words_13 : decode cX16_words 13 = .ok (.iload_n 2, 1) := by decide +kernel
theorem dX16_words_14 : decode cX16_words 14 = .ok (.if_icmp .eq 26, 3) := by decide +kernel
theorem dX16_words_17 : decode cX16_words 17 = .ok (.aload_n 0, 1) := by decide +kernel
theorem dX16_words_18 : decode cX16_words 18 = .ok (.iload 4, 2) := by decide +kernel
theorem dX16_words_20 : decode cX16_words 20 = .ok (.invokevirtual 693, 3) := by decide +kernel
theorem dX16_words_23 : decode cX16_words 23 = .ok (.bipush 44, 2) := by decide +kernel
theorem dX16_words_25 : decode cX16_words 25 = .ok (.if_icmp .eq 15, 3) := by decide +kernel
theorem dX16_words_28 : decode cX16_words 28 = .ok (.aload_n 0, 1) := by decide +kernel
theorem dX16_words_29 : decode cX16_words 29 = .ok (.iload 4, 2) := by decide +kernel
theorem dX16_words_31 : decode cX16_words 31 = .ok (.invokevirtual 693, 3) := by decide +kernel
theorem dX16_words_34 : decode cX16_words 34 = .ok (.invokestatic 734, 3) := by decide +kernel
theorem dX16_words_37 : decode cX16_words 37 = .ok (.ifCond .eq 44, 3) := by decide +kernel
theorem dX16_words_40 : decode cX16_words 40 = .ok (.aload_n 0, 1) := by decide +kernel
theorem dX16_words_41 : decode cX16_words 41 = .ok (.iload_n 3, 1) := by decide +kernel
theorem dX16_words_42 : decode cX16_words 42 = .ok (.iload 4, 2) := by decide +kernel
theorem dX16_words_44 : decode cX16_words 44 = .ok (.ldc_w 763, 3) := by decide +kernel
theorem dX16_words_47 : decode cX16_words 47 = .ok (.invokevirtual 739, 3) := by decide +kernel
theorem dX16_words_50 : decode cX16_words 50 = .ok (.ifCond .eq 8, 3) := by decide +kernel
theorem dX16_words_53 : decode cX16_words 53 = .ok (.aload_n 0, 1) := by decide +kernel
theorem dX16_words_54 : decode cX16_words 54 = .ok (.iconst 1, 1) := by decide +kernel
theorem dX16_words_55 : decode cX16_words 55 = .ok (.putfield 648, 3) := by decide +kernel
theorem dX16_words_58 : decode cX16_words 58 = .ok (.aload_n 0, 1) := by decide +kernel
theorem dX16_words_59 : decode cX16_words 59 = .ok (.iload_n 3, 1) := by decide +kernel
theorem dX16_words_60 : decode cX16_words 60 = .ok (.iload 4, 2) := by decide +kernel
theorem dX16_words_62 : decode cX16_words 62 = .ok (.ldc_w 764, 3) := by decide +kernel
theorem dX16_words_65 : decode cX16_words 65 = .ok (.invokevirtual 739, 3) := by decide +kernel
theorem dX16_words_68 : decode cX16_words 68 = .ok (.ifCond .eq 8, 3) := by decide +kernel
theorem dX16_words_71 : decode cX16_words 71 = .ok (.aload_n 0, 1) := by decide +kernel
theorem dX16_words_72 : decode cX16_words 72 = .ok (.iconst 1, 1) := by decide +kernel
theorem dX16_words_73 : decode cX16_words 73 = .ok (.putfield 651, 3) := by decide +kernel
theorem dX16_words_76 : decode cX16_words 76 = .ok (.iload 4, 2) := by decide +kernel
theorem dX16_words_78 : decode cX16_words 78 = .ok (.iconst 1, 1) := by decide +kernel
theorem dX16_words_79 : decode cX16_words 79 = .ok (.iadd, 1) := by decide +kernel
theorem dX16_words_80 : decode cX16_words 80 = .ok (.istore_n 3, 1) := by decide +kernel
theorem dX16_words_81 : decode cX16_words 81 = .ok (.iinc 4 1, 3) := by decide +kernel
theorem dX16_words_84 : decode cX16_words 84 = .ok (.goto (-79), 3) := by decide +kernel
theorem dX16_words_87 : decode cX16_words 87 = .ok (.return_, 1) := by decide +kernel
theorem wX16_words_L81 {x : GX} {n0 sl0 : Nat} (X : Cx x cX16_words RX16 none n0 sl0 6 130) {out : Mm} (hE : Ends x n0 sl0 none out) (hn : xn x = 5) (fu : Nat) (k5 : Nat → Int32 → Int32 → Int32 → Mm → Option (Mm)) (hk5 : ∀ (b0 : Nat) (b2 : Int32) (b3 : Int32) (b4 : Int32)  (M : Mm), k5 b0 b2 b3 b4 M = some out → Gw x M 5 [(0, pR (some b0)), (2, pI b2), (3, pI b3), (4, pI b4)] []) (a0 : Nat) (a2 : Int32) (a3 : Int32) (a4 : Int32)  (M : Mm) (h : fX16_words_L81 fu k5 a0 a2 a3 a4 M = some out) : Gw x M 81 [(0, pR (some a0)), (2, pI a2), (3, pI a3), (4, pI a4)] [] := by
  unfold fX16_words_L81 at h
  refine g_iinc X (pc := 81) 3 [(4, pI (a4 + (1 : Int32))), (0, pR (some a0)), (2, pI a2), (3, pI a3)] rfl (iinc_e (by decide)) (lt_n hn (by decide)) rfl dX16_words_81 ?_
  refine g_goto X (pc := 84) (tgt := 5) dX16_words_84 (by decide) ?_
  refine g_sub [1, 2, 3, 0] [(0, pR (some a0)), (2, pI a2), (3, pI a3), (4, pI (a4 + (1 : Int32)))] rfl ?_
  exact hk5 a0 a2 a3 (a4 + (1 : Int32)) M h
theorem wX16_words_L76 {x : GX} {n0 sl0 : Nat} (X : Cx x cX16_words RX16 none n0 sl0 6 130) {out : Mm} (hE : Ends x n0 sl0 none out) (hn : xn x = 5) (fu : Nat) (k5 : Nat → Int32 → Int32 → Int32 → Mm → Option (Mm)) (hk5 : ∀ (b0 : Nat) (b2 : Int32) (b3 : Int32) (b4 : Int32)  (M : Mm), k5 b0 b2 b3 b4 M = some out → Gw x M 5 [(0, pR (some b0)), (2, pI b2), (3, pI b3), (4, pI b4)] []) (a0 : Nat) (a2 : Int32) (a4 : Int32)  (M : Mm) (h : fX16_words_L76 fu k5 a0 a2 a4 M = some out) : Gw x M 76 [(0, pR (some a0)), (2, pI a2), (4, pI a4)] [] := by
  unfold fX16_words_L76 at h
  refine g_iload X (pc := 76) 2 rfl dX16_words_76 ?_
  refine g_iconst X (pc := 78) (v := 1) dX16_words_78 (by decide) ?_
  refine g_iadd X (pc := 79) dX16_words_79 ?_
  refine g_istore_n X (pc := 80) [(3, pI (a4 + (1 : Int32))), (0, pR (some a0)), (2, pI a2), (4, pI a4)] rfl (lt_n hn (by decide)) rfl dX16_words_80 ?_
  refine g_sub [1, 2, 0, 3] [(0, pR (some a0)), (2, pI a2), (3, pI (a4 + (1 : Int32))), (4, pI a4)] rfl ?_
  exact wX16_words_L81 X hE hn fu k5 hk5 a0 a2 (a4 + (1 : Int32)) a4 M h
theorem wX16_words_L58 {x : GX} {n0 sl0 : Nat} (X : Cx x cX16_words RX16 none n0 sl0 6 130) {out : Mm} (hE : Ends x n0 sl0 none out) (hn : xn x = 5) (fu : Nat) (k5 : Nat → Int32 → Int32 → Int32 → Mm → Option (Mm)) (hk5 : ∀ (b0 : Nat) (b2 : Int32) (b3 : Int32) (b4 : Int32)  (M : Mm), k5 b0 b2 b3 b4 M = some out → Gw x M 5 [(0, pR (some b0)), (2, pI b2), (3, pI b3), (4, pI b4)] []) (a0 : Nat) (a2 : Int32) (a3 : Int32) (a4 : Int32)  (M : Mm) (h : fX16_words_L58 fu k5 a0 a2 a3 a4 M = some out) : Gw x M 58 [(0, pR (some a0)), (2, pI a2), (3, pI a3), (4, pI a4)] [] := by
  unfold fX16_words_L58 at h
  refine g_aload_n X (pc := 58) 0 rfl rfl dX16_words_58 ?_
  refine g_iload_n X (pc := 59) 2 rfl rfl dX16_words_59 ?_
  refine g_iload X (pc := 60) 3 rfl dX16_words_60 ?_
  refine g_ldcwS X (pc := 62) (List.mem_of_getElem? (i := 52) rfl) dX16_words_62 ?_
  obtain ⟨q1, eq1, h⟩ := bd h
  obtain ⟨v3, M2, eM2, h⟩ := b2d h
  refine g_callV X (pc := 65) (M' := M2) (ro := some (pI v3)) (c := 16) rfl (by decide) (as := [pI a3, pI a4, pR (some 11)]) (as' := [pR (some 11), pI a4, pI a3]) (st := []) eq1 (ctX16_saysSmall _ _ _ _ _ _ fu q1 a3 a4 (some 11) M _ eM2) tb_2383 tb_2380 tb_2382 ts_127 tb_8 ⟨rfl, hyX16_saysSmall⟩ rfl rfl ⟨by decide, by decide⟩ (Nat.le_of_ble_eq_true rfl) dX16_words_65 ?_
  refine g_if_eq X (pc := 68) (tgt := 76) dX16_words_68 (by decide) (fun hc => ?_) (fun hc => ?_)
  · have h := (if_pos hc).symm.trans h
    refine g_sub [0, 1, 3] [(0, pR (some a0)), (2, pI a2), (4, pI a4)] rfl ?_
    exact wX16_words_L76 X hE hn fu k5 hk5 a0 a2 a4 M2 h
  · have h := (if_neg hc).symm.trans h
    refine g_aload_n X (pc := 71) 0 rfl rfl dX16_words_71 ?_
    refine g_iconst X (pc := 72) (v := 1) dX16_words_72 (by decide) ?_
    obtain ⟨M4, eM4, h⟩ := bd h
    refine g_putZ X (pc := 73) fk_16_47 rfl rfl rfl eM4 tb_1861 (Or.inl rfl) dX16_words_73 ?_
    refine g_sub [0, 1, 3] [(0, pR (some a0)), (2, pI a2), (4, pI a4)] rfl ?_
    exact wX16_words_L76 X hE hn fu k5 hk5 a0 a2 a4 M4 h
theorem wX16_words_L40 {x : GX} {n0 sl0 : Nat} (X : Cx x cX16_words RX16 none n0 sl0 6 130) {out : Mm} (hE : Ends x n0 sl0 none out) (hn : xn x = 5) (fu : Nat) (k5 : Nat → Int32 → Int32 → Int32 → Mm → Option (Mm)) (hk5 : ∀ (b0 : Nat) (b2 : Int32) (b3 : Int32) (b4 : Int32)  (M : Mm), k5 b0 b2 b3 b4 M = some out → Gw x M 5 [(0, pR (some b0)), (2, pI b2), (3, pI b3), (4, pI b4)] []) (a0 : Nat) (a2 : Int32) (a3 : Int32) (a4 : Int32)  (M : Mm) (h : fX16_words_L40 fu k5 a0 a2 a3 a4 M = some out) : Gw x M 40 [(0, pR (some a0)), (2, pI a2), (3, pI a3), (4, pI a4)] [] := by
  unfold fX16_words_L40 at h
  refine g_aload_n X (pc := 40) 0 rfl rfl dX16_words_40 ?_
  refine g_iload_n X (pc := 41) 2 rfl rfl dX16_words_41 ?_
  refine g_iload X (pc := 42) 3 rfl dX16_words_42 ?_
  refine g_ldcwS X (pc := 44) (List.mem_of_getElem? (i := 51) rfl) dX16_words_44 ?_
  obtain ⟨q1, eq1, h⟩ := bd h
  obtain ⟨v3, M2, eM2, h⟩ := b2d h
  refine g_callV X (pc := 47) (M' := M2) (ro := some (pI v3)) (c := 16) rfl (by decide) (as := [pI a3, pI a4, pR (some 10)]) (as' := [pR (some 10), pI a4, pI a3]) (st := []) eq1 (ctX16_saysSmall _ _ _ _ _ _ fu q1 a3 a4 (some 10) M _ eM2) tb_2383 tb_2380 tb_2382 ts_127 tb_8 ⟨rfl, hyX16_saysSmall⟩ rfl rfl ⟨by decide, by decide⟩ (Nat.le_of_ble_eq_true rfl) dX16_words_47 ?_
  refine g_if_eq X (pc := 50) (tgt := 58) dX16_words_50 (by decide) (fun hc => ?_) (fun hc => ?_)
  · have h := (if_pos hc).symm.trans h
    exact wX16_words_L58 X hE hn fu k5 hk5 a0 a2 a3 a4 M2 h
  · have h := (if_neg hc).symm.trans h
    refine g_aload_n X (pc := 53) 0 rfl rfl dX16_words_53 ?_
    refine g_iconst X (pc := 54) (v := 1) dX16_words_54 (by decide) ?_
    obtain ⟨M4, eM4, h⟩ := bd h
    refine g_putZ X (pc := 55) fk_16_46 rfl rfl rfl eM4 tb_1860 (Or.inl rfl) dX16_words_55 ?_
    exact wX16_words_L58 X hE hn fu k5 hk5 a0 a2 a3 a4 M4 h
theorem wX16_words_L5 {x : GX} {n0 sl0 : Nat} (X : Cx x cX16_words RX16 none n0 sl0 6 130) {out : Mm} (hE : Ends x n0 sl0 none out) (hn : xn x = 5) (fu : Nat)   : ∀ (n : Nat) (a0 : Nat) (a2 : Int32) (a3 : Int32) (a4 : Int32)  (M : Mm), fX16_words_L5 fu  n a0 a2 a3 a4 M = some out → Gw x M 5 [(0, pR (some a0)), (2, pI a2), (3, pI a3), (4, pI a4)] [] := by
  intro n
  induction n with
  | zero =>
    intro a0 a2 a3 a4 M h
    have h : (none : Option (Mm)) = some out := h
    cases h
  | succ n ih =>
    intro a0 a2 a3 a4 M h
    rw [fX16_words_L5] at h
    refine g_iload X (pc := 5) 3 rfl dX16_words_5 ?_
    refine g_iload_n X (pc := 7) 1 rfl rfl dX16_words_7 ?_
    refine g_icmp_gt X (pc := 8) (tgt := 87) dX16_words_8 (by decide) (fun hc => ?_) (fun hc => ?_)
    · have h := (if_pos hc).symm.trans h
      obtain rfl := Option.some.inj h
      exact g_return X hE dX16_words_87
    · have h := (if_neg hc).symm.trans h
      refine g_iload X (pc := 11) 3 rfl dX16_words_11 ?_
      refine g_iload_n X (pc := 13) 1 rfl rfl dX16_words_13 ?_
      refine g_icmp_eq X (pc := 14) (tgt := 40) dX16_words_14 (by decide) (fun hc => ?_) (fun hc => ?_)
      · have h := (if_pos hc).symm.trans h
        exact wX16_words_L40 X hE hn fu (fun b0 b2 b3 b4 M => fX16_words_L5 fu  n b0 b2 b3 b4 M) ih a0 a2 a3 a4 M h
      · have h := (if_neg hc).symm.trans h
        refine g_aload_n X (pc := 17) 0 rfl rfl dX16_words_17 ?_
        refine g_iload X (pc := 18) 3 rfl dX16_words_18 ?_
        obtain ⟨q1, eq1, h⟩ := bd h
        obtain ⟨v3, M2, eM2, h⟩ := b2d h
        refine g_callV X (pc := 20) (M' := M2) (ro := some (pI v3)) (c := 16) rfl (by decide) (as := [pI a4]) (as' := [pI a4]) (st := []) eq1 (ctX16_headAt _ _ _ _ _ _ fu q1 a4 M _ eM2) tb_2352 tb_2349 tb_2351 ts_124 tb_8 ⟨rfl, hyX16_headAt⟩ rfl rfl ⟨by decide, by decide⟩ (Nat.le_of_ble_eq_true rfl) dX16_words_20 ?_
        refine g_bipush X (pc := 23) (v := 44) dX16_words_23 (by decide) ?_
        refine g_icmp_eq X (pc := 25) (tgt := 40) dX16_words_25 (by decide) (fun hc => ?_) (fun hc => ?_)
        · have h := (if_pos hc).symm.trans h
          exact wX16_words_L40 X hE hn fu (fun b0 b2 b3 b4 M => fX16_words_L5 fu  n b0 b2 b3 b4 M) ih a0 a2 a3 a4 M2 h
        · have h := (if_neg hc).symm.trans h
          refine g_aload_n X (pc := 28) 0 rfl rfl dX16_words_28 ?_
          refine g_iload X (pc := 29) 3 rfl dX16_words_29 ?_
          obtain ⟨q4, eq4, h⟩ := bd h
          obtain ⟨v6, M5, eM5, h⟩ := b2d h
          refine g_callV X (pc := 31) (M' := M5) (ro := some (pI v6)) (c := 16) rfl (by decide) (as := [pI a4]) (as' := [pI a4]) (st := []) eq4 (ctX16_headAt _ _ _ _ _ _ fu q4 a4 M2 _ eM5) tb_2352 tb_2349 tb_2351 ts_124 tb_8 ⟨rfl, hyX16_headAt⟩ rfl rfl ⟨by decide, by decide⟩ (Nat.le_of_ble_eq_true rfl) dX16_words_31 ?_
          obtain ⟨v8, M7, eM7, h⟩ := b2d h
          refine g_callS X (pc := 34) (M' := M7) (ro := some (pI v8)) (as := [pI v6]) (as' := [pI v6]) (st := []) (ctX16_isBlank _ _ _ _ _ _ fu  v6 M5 _ eM7) tb_2378 tb_2376 tb_2377 tb_8 hyX16_isBlank rfl rfl ⟨by decide, by decide⟩ (Nat.le_of_ble_eq_true rfl) dX16_words_34 ?_
          refine g_if_eq X (pc := 37) (tgt := 81) dX16_words_37 (by decide) (fun hc => ?_) (fun hc => ?_)
          · have h := (if_pos hc).symm.trans h
            exact wX16_words_L81 X hE hn fu (fun b0 b2 b3 b4 M => fX16_words_L5 fu  n b0 b2 b3 b4 M) ih a0 a2 a3 a4 M7 h
          · have h := (if_neg hc).symm.trans h
            exact wX16_words_L40 X hE hn fu (fun b0 b2 b3 b4 M => fX16_words_L5 fu  n b0 b2 b3 b4 M) ih a0 a2 a3 a4 M7 h
theorem wX16_words {x : GX} {n0 sl0 : Nat} (X : Cx x cX16_words RX16 none n0 sl0 6 130) {out : Mm} (hE : Ends x n0 sl0 none out) (hn : xn x = 5) (fu : Nat)   (a0 : Nat) (a1 : Int32) (a2 : Int32)  (M : Mm) (h : fX16_words fu  a0 a1 a2 M = some out) : Gw x M 0 [(0, pR (some a0)), (1, pI a1), (2, pI a2)] [] := by
  unfold fX16_words at h
  refine g_iload_n X (pc := 0) 1 rfl rfl dX16_words_0 ?_
  refine g_istore_n X (pc := 1) [(3, pI a1), (0, pR (some a0)), (1, pI a1), (2, pI a2)] rfl (lt_n hn (by decide)) rfl dX16_words_1 ?_
  refine g_iload_n X (pc := 2) 2 rfl rfl dX16_words_2 ?_
  refine g_istore X (pc := 3) [(4, pI a1), (3, pI a1), (0, pR (some a0)), (1, pI a1), (2, pI a2)] (lt_n hn (by decide)) rfl dX16_words_3 ?_
  refine g_sub [2, 4, 1, 0] [(0, pR (some a0)), (2, pI a2), (3, pI a1), (4, pI a1)] rfl ?_
  exact wX16_words_L5 X hE hn fu   fu a0 a2 a1 a1 M h
theorem hyX16_words : yX16_words.cls ≠ "java/lang/invoke/MethodHandle" ∧ yX16_words.cls ≠ "java/lang/invoke/VarHandle" ∧ (parseMethodDescriptor yX16_words.desc).map (fun d => d.parameters.length) = some 2 := ⟨by decide +kernel, by decide +kernel, by decide +kernel⟩
theorem ctX16_words (l : Launch) (E : Nat → Nat) (D : va_G) (dA : Nat → ClassId) (lo : Nat) (H0 : Heap) (fu : Nat) (a0 : Nat) (a1 : Int32) (a2 : Int32) (M : Mm) (out : Mm) (h : fX16_words fu a0 a1 a2 M = some out) : Ct l E D dA lo H0 yX16_words cX16_words 5 none 6 130 [pR (some a0), pI a1, pI a2] M none out := by
  refine ct_of (by decide +kernel) (Nat.le_of_ble_eq_true rfl) ?_
  intro x hl he hd ha ho hh hn hin X hE
  exact wX16_words X hE hn fu a0 a1 a2 M h
