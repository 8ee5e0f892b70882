/-! ===== walks of methods, printed by a program of ours ===== -/
/-! WebHostModel.field(II)Z -/
def fX16_field_L234 (fu : Nat)  (a0 : Nat) (a1 : Int32) (a3 : Int32) (a4 : Int32) (a5 : Int32)  (M : Mm) : Option (Int32 × Mm) :=
    (rc M 16 (some a0)).bind fun q1 =>
    b2 (fX16_saysSmall fu q1 a1 a3 (some 8) M) fun v3 M2 =>
    if v3 = 0 then (
    rN .boolean (1 : Int32) M2)
    else (
    (gI M2 16 1074 (some a0)).bind fun v4 =>
    (pF M2 16 1074 (some a0) (v4 + (1 : Int32))).bind fun M5 =>
    (pF M5 16 1085 (some a0) a4).bind fun M6 =>
    (pF M6 16 1086 (some a0) a5).bind fun M7 =>
    rN .boolean (1 : Int32) M7)
def fX16_field_L214 (fu : Nat)  (a0 : Nat) (a1 : Int32) (a3 : Int32) (a4 : Int32) (a5 : Int32)  (M : Mm) : Option (Int32 × Mm) :=
    (rc M 16 (some a0)).bind fun q1 =>
    b2 (fX16_saysSmall fu q1 a1 a3 (some 9) M) fun v3 M2 =>
    if v3 = 0 then (
    fX16_field_L234 fu  a0 a1 a3 a4 a5 M2)
    else (
    (rc M2 16 (some a0)).bind fun q4 =>
    (fX16_words fu q4 a4 a5 M2).bind fun M5 =>
    fX16_field_L234 fu  a0 a1 a3 a4 a5 M5)
def fX16_field_L194 (fu : Nat)  (a0 : Nat) (a1 : Int32) (a3 : Int32) (a4 : Int32) (a5 : Int32)  (M : Mm) : Option (Int32 × Mm) :=
    (rc M 16 (some a0)).bind fun q1 =>
    b2 (fX16_saysSmall fu q1 a1 a3 (some 7) M) fun v3 M2 =>
    if v3 = 0 then (
    fX16_field_L214 fu  a0 a1 a3 a4 a5 M2)
    else (
    (rc M2 16 (some a0)).bind fun q4 =>
    (fX16_contentLength fu q4 a4 a5 M2).bind fun M5 =>
    fX16_field_L214 fu  a0 a1 a3 a4 a5 M5)
def fX16_field_L177 (fu : Nat)  (a0 : Nat) (a1 : Int32) (a3 : Int32) (a4 : Int32) (a5 : Int32)  (M : Mm) : Option (Int32 × Mm) :=
    (rc M 16 (some a0)).bind fun q1 =>
    b2 (fX16_saysSmall fu q1 a1 a3 (some 6) M) fun v3 M2 =>
    if v3 = 0 then (
    fX16_field_L194 fu  a0 a1 a3 a4 a5 M2)
    else (
    (pZ M2 16 1078 (some a0) (1 : Int32)).bind fun M4 =>
    fX16_field_L194 fu  a0 a1 a3 a4 a5 M4)
def fX16_field_L155 (fu : Nat)  (a0 : Nat) (a1 : Int32) (a3 : Int32) (a4 : Int32) (a5 : Int32)  (M : Mm) : Option (Int32 × Mm) :=
    (rc M 16 (some a0)).bind fun q1 =>
    b2 (fX16_saysSmall fu q1 a1 a3 (some 5) M) fun v3 M2 =>
    if v3 = 0 then (
    fX16_field_L177 fu  a0 a1 a3 a4 a5 M2)
    else (
    (gI M2 16 1072 (some a0)).bind fun v4 =>
    (pF M2 16 1072 (some a0) (v4 + (1 : Int32))).bind fun M5 =>
    fX16_field_L177 fu  a0 a1 a3 a4 a5 M5)
def fX16_field_L128 (fu : Nat)  : Nat → Nat → Int32 → Int32 → Int32 → Int32 → Mm → Option (Int32 × Mm)
  | 0, _, _, _, _, _, _ => none
  | n + 1, a0, a1, a3, a4, a5, M =>
    if a5 ≤ a4 then (
    fX16_field_L155 fu  a0 a1 a3 a4 a5 M)
    else (
    (rc M 16 (some a0)).bind fun q1 =>
    b2 (fX16_headAt fu q1 (a5 - (1 : Int32)) M) fun v3 M2 =>
    b2 (fX16_isBlank fu  v3 M2) fun v5 M4 =>
    if v5 = 0 then (
    fX16_field_L155 fu  a0 a1 a3 a4 a5 M4)
    else (
    fX16_field_L128 fu  n a0 a1 a3 a4 (a5 + (-1 : Int32)) M4))
def fX16_field_L103 (fu : Nat)  : Nat → Nat → Int32 → Int32 → Int32 → Int32 → Mm → Option (Int32 × Mm)
  | 0, _, _, _, _, _, _ => none
  | n + 1, a0, a1, a3, a4, a5, M =>
    if a5 ≤ a4 then (
    fX16_field_L128 fu  fu a0 a1 a3 a4 a5 M)
    else (
    (rc M 16 (some a0)).bind fun q1 =>
    b2 (fX16_headAt fu q1 a4 M) fun v3 M2 =>
    b2 (fX16_isBlank fu  v3 M2) fun v5 M4 =>
    if v5 = 0 then (
    fX16_field_L128 fu  fu a0 a1 a3 a4 a5 M4)
    else (
    fX16_field_L103 fu  n a0 a1 a3 (a4 + (1 : Int32)) a5 M4))
def fX16_field_L97 (fu : Nat) (k59 : Nat → Int32 → Int32 → Int32 → Int32 → Int32 → Mm → Option (Int32 × Mm)) (a0 : Nat) (a1 : Int32) (a3 : Int32) (a4 : Int32) (a5 : Int32) (a6 : Int32)  (M : Mm) : Option (Int32 × Mm) :=
    k59 a0 a1 a3 a4 a5 (a6 + (1 : Int32)) M
def fX16_field_L59 (fu : Nat)  : Nat → Nat → Int32 → Int32 → Int32 → Int32 → Int32 → Mm → Option (Int32 × Mm)
  | 0, _, _, _, _, _, _, _ => none
  | n + 1, a0, a1, a3, a4, a5, a6, M =>
    if a5 ≤ a6 then (
    fX16_field_L103 fu  fu a0 a1 a3 a4 a5 M)
    else (
    (rc M 16 (some a0)).bind fun q1 =>
    b2 (fX16_headAt fu q1 a6 M) fun v3 M2 =>
    if v3 = (9 : Int32) then (
    fX16_field_L97 fu (fun b0 b1 b3 b4 b5 b6 M => fX16_field_L59 fu  n b0 b1 b3 b4 b5 b6 M) a0 a1 a3 a4 a5 a6 M2)
    else (
    if v3 < (32 : Int32) then (
    rN .boolean (0 : Int32) M2)
    else (
    if v3 = (127 : Int32) then (
    rN .boolean (0 : Int32) M2)
    else (
    fX16_field_L97 fu (fun b0 b1 b3 b4 b5 b6 M => fX16_field_L59 fu  n b0 b1 b3 b4 b5 b6 M) a0 a1 a3 a4 a5 a6 M2))))
def fX16_field_L24 (fu : Nat)  (a0 : Nat) (a1 : Int32) (a2 : Int32) (a3 : Int32)  (M : Mm) : Option (Int32 × Mm) :=
    if a3 = a1 then (
    rN .boolean (0 : Int32) M)
    else (
    if a3 = a2 then (
    rN .boolean (0 : Int32) M)
    else (
    (gR M 16 1065 (some a0)).bind fun v1 =>
    (gA M 100 v1 a3).bind fun v2 =>
    if v2 = (58 : Int32) then (
    fX16_field_L59 fu  fu a0 a1 a3 (a3 + (1 : Int32)) a2 (a3 + (1 : Int32)) M)
    else (
    rN .boolean (0 : Int32) M)))
def fX16_field_L2 (fu : Nat)  : Nat → Nat → Int32 → Int32 → Int32 → Mm → Option (Int32 × Mm)
  | 0, _, _, _, _, _ => none
  | n + 1, a0, a1, a2, a3, M =>
    if a2 ≤ a3 then (
    fX16_field_L24 fu  a0 a1 a2 a3 M)
    else (
    (rc M 16 (some a0)).bind fun q1 =>
    b2 (fX16_headAt fu q1 a3 M) fun v3 M2 =>
    b2 (fX16_isNameCode fu  v3 M2) fun v5 M4 =>
    if v5 = 0 then (
    fX16_field_L24 fu  a0 a1 a2 a3 M4)
    else (
    fX16_field_L2 fu  n a0 a1 a2 (a3 + (1 : Int32)) M4))
def fX16_field (fu : Nat)  (a0 : Nat) (a1 : Int32) (a2 : Int32)  (M : Mm) : Option (Int32 × Mm) :=
    fX16_field_L2 fu  fu a0 a1 a2 a1 M
theorem dX16_field_0 : decode cX16_field 0 = .ok (.iload_n 1, 1) := by decide +kernel
theorem dX16_field_1 : decode cX16_field 1 = .ok (.istore_n 3, 1) := by decide +kernel
theorem dX16_field_2 : decode cX16_field 2 = .ok (.iload_n 3, 1) := by decide +kernel
theorem dX16_field_3 : decode cX16_field 3 = .ok (.iload_n 2, 1) := by decide +kernel
theorem dX16_field_4 : decode cX16_field 4 = .ok (.if_icmp .ge 20, 3) := by decide +kernel
theorem dX16_field_7 : decode cX16_field 7 = .ok (.aload_n 0, 1) := by decide +kernel
theorem dX16_field_8 : decode cX16_field 8 = .ok (.iload_n 3, 1) := by decide +kernel
theorem dX16_field_9 : decode cX16_field 9 = .ok (.invokevirtual 693, 3) := by decide +kernel
theorem dX16_field_12 : decode cX16_field 12 = .ok (.invokestatic 731, 3) := by decide +kernel
theorem dX16_field_15 : decode cX16_field 15 = .ok (.ifCond .eq 9, 3) := by decide +kernel
theorem dX16_field_18 : decode cX16_field 18 = .ok (.iinc 3 1, 3) := by decide +kernel
theorem dX16_field_21 : decode cX16_field 21 = .ok (.goto (-19), 3) := by decide +kernel
theorem dX16_field_24 : decode cX16_field 24 = .ok (.iload_n 3, 1) := by decide +kernel
theorem dX16_field_25 : decode cX16_field 25 = .ok (.iload_n 1, 1) := by decide +kernel
theorem dX16_field_26 : decode cX16_field 26 = .ok (.if_icmp .eq 19, 3) := by decide +kernel
theorem dX16_field_29 : decode cX16_field 29 = .ok (.iload_n 3, 1) := by decide +kernel
theorem dX16_field_30 : decode cX16_field 30 = .ok (.iload_n 2, 1) := by decide +kernel
theorem dX16_field_31 : decode cX16_field 31 = .ok (.if_icmp .eq 14, 3) := by decide +kernel
theorem dX16_field_34 : decode cX16_field 34 = .ok (.aload_n 0, 1) := by decide +kernel
theorem dX16_field_35 : decode cX16_field 35 = .ok (.getfield 74, 3) := by decide +kernel
theorem dX16_field_38 : decode cX16_field 38 = .ok (.iload_n 3, 1) := by decide +kernel
theorem dX16_field_39 : decode cX16_field 39 = .ok (.baload, 1) := by decide +kernel
theorem dX16_field_40 : decode cX16_field 40 = .ok (.bipush 58, 2) := by decide +kernel
theorem dX16_field_42 : decode cX16_field 42 = .ok (.if_icmp .eq 5, 3) := by decide +kernel
theorem dX16_field_45 : decode cX16_field 45 = .ok (.iconst 0, 1) := by decide +kernel
theorem dX16_field_46 : decode cX16_field 46 = .ok (.ireturn, 1) := by decide +kernel
theorem dX16_field_47 : decode cX16_field 47 = .ok (.iload_n 3, 1) := by decide +kernel
theorem dX16_field_48 : decode cX16_field 48 = .ok (.iconst 1, 1) := by decide +kernel
theorem dX16_field_49 : decode cX16_field 49 = .ok (.iadd, 1) := by decide +kernel
theorem dX16_field_50 : decode cX16_field 50 = .ok (.istore 4, 2) := by decide +kernel
theorem dX16_field_52 : decode cX16_field 52 = .ok (.iload_n 2, 1) := by decide +kernel
theorem dX16_field_53 : decode cX16_field 53 = .ok (.istore 5, 2) := by decide +kernel
theorem dX16_field_55 : decode cX16_field 55 = .ok (.iload 4, 2) := by decide +kernel
theorem dX16_field_57 : decode cX16_field 57 = .ok (.istore 6, 2) := by decide +kernel
theorem dX16_field_59 : decode cX16_field 59 = .ok (.iload 6, 2) := by decide +kernel
theorem dX16_field_61 : decode cX16_field 61 = .ok (.iload 5, 2) := by decide +kernel
theorem dX16_field_63 : decode cX16_field 63 = .ok (.if_icmp .ge 40, 3) := by decide +kernel
theorem dX16_field_66 : decode cX16_field 66 = .ok (.aload_n 0, 1) := by decide +kernel
theorem dX16_field_67 : decode cX16_field 67 = .ok (.iload 6, 2) := by decide +kernel
theorem dX16_field_69 : decode cX16_field 69 = .ok (.invokevirtual 693, 3) := by decide +kernel
theorem dX16_field_72 : decode cX16_field 72 = .ok (.istore 7, 2) := by decide +kernel
theorem dX16_field_74 : decode cX16_field 74 = .ok (.iload 7, 2) := by decide +kernel
theorem dX16_field_76 : decode cX16_field 76 = .ok (.bipush 9, 2) := by decide +kernel
theorem dX16_field_78 : decode cX16_field 78 = .ok (.if_icmp .eq 19, 3) := by decide +kernel
theorem dX16_field_81 : decode cX16_field 81 = .ok (.iload 7, 2) := by decide +kernel
theorem dX16_field_83 : decode cX16_field 83 = .ok (.bipush 32, 2) := by decide +kernel
theorem dX16_field_85 : decode cX16_field 85 = .ok (.if_icmp .lt 10, 3) := by decide +kernel
theorem dX16_field_88 : decode cX16_field 88 = .ok (.iload 7, 2) := by decide +kernel
theorem dX16_field_90 : decode cX16_field 90 = .ok (.bipush 127, 2) := by decide +kernel
theorem dX16_field_92 : decode cX16_field 92 = .ok (.if_icmp .ne 5, 3) := by decide +kernel
theorem dX16_field_95 : decode cX16_field 95 = .ok (.iconst 0, 1) := by decide +kernel
theorem dX16_field_96 : decode cX16_field 96 = .ok (.ireturn, 1) := by decide +kernel
theorem dX16_field_97 : decode cX16_field 97 = .ok (.iinc 6 1, 3) := by decide +kernel
theorem dX16_field_100 : decode cX16_field 100 = .ok (.goto (-41), 3) := by decide +kernel
theorem dX16_field_103 : decode cX16_field 103 = .ok (.iload 4, 2) := by decide +kernel
theorem dX16_field_105 : decode cX16_field 105 = .ok (.iload 5, 2) := by decide +kernel
theorem dX16_field_107 : decode cX16_field 107 = .ok (.if_icmp .ge 21, 3) := by decide +kernel
theorem dX16_field_110 : decode cX16_field 110 = .ok (.aload_n 0, 1) := by decide +kernel
theorem dX16_field_111 : decode cX16_field 111 = .ok (.iload 4, 2) := by decide +kernel
theorem dX16_field_113 : decode cX16_field 113 = .ok (.invokevirtual 693, 3) := by decide +kernel
theorem dX16_field_116 : decode cX16_field 116 = .ok (.invokestatic 734, 3) := by decide +kernel
theorem dX16_field_119 : decode cX16_field 119 = .ok (.ifCond .eq 9, 3) := by decide +kernel
theorem dX16_field_122 : decode cX16_field 122 = .ok (.iinc 4 1, 3) := by decide +kernel
theorem dX16_field_125 : decode cX16_field 125 = .ok (.goto (-22), 3) := by decide +kernel
theorem dX16_field_128 : decode cX16_field 128 = .ok (.iload 5, 2) := by decide +kernel
theorem dX16_field_130 : decode cX16_field 130 = .ok (.iload 4, 2) := by decide +kernel
theorem dX16_field_132 : decode cX16_field 132 = .ok (.if_icmp .le 23, 3) := by decide +kernel
theorem dX16_field_135 : decode cX16_field 135 = .ok (.aload_n 0, 1) := by decide +kernel
theorem dX16_field_136 : decode cX16_field 136 = .ok (.iload 5, 2) := by decide +kernel
theorem dX16_field_138 : decode cX16_field 138 = .ok (.iconst 1, 1) := by decide +kernel
theorem dX16_field_139 : decode cX16_field 139 = .ok (.isub, 1) := by decide +kernel
theorem dX16_field_140 : decode cX16_field 140 = .ok (.invokevirtual 693, 3) := by decide +kernel
theorem dX16_field_143 : decode cX16_field 143 = .ok (.invokestatic 734, 3) := by decide +kernel
theorem dX16_field_146 : decode cX16_field 146 = .ok (.ifCond .eq 9, 3) := by decide +kernel
theorem dX16_field_149 : decode cX16_field 149 = .ok (.iinc 5 (-1), 3) := by decide +kernel
theorem dX16_field_152 : decode cX16_field 152 = .ok (.goto (-24), 3) := by decide +kernel
theorem dX16_field_155 : decode cX16_field 155 = .ok (.aload_n 0, 1) := by decide +kernel
theorem dX16_field_156 : decode cX16_field 156 = .ok (.iload_n 1, 1) := by decide +kernel
theorem dX16_field_157 : decode cX16_field 157 = .ok (.iload_n 3, 1) := by decide +kernel
theorem dX16_field_158 : decode cX16_field 158 = .ok (.ldc_w 737, 3) := by decide +kernel
theorem dX16_field_161 : decode cX16_field 161 = .ok (.invokevirtual 739, 3) := by decide +kernel
theorem dX16_field_164 : decode cX16_field 164 = .ok (.ifCond .eq 13, 3) := by decide +kernel
theorem dX16_field_167 : decode cX16_field 167 = .ok (.aload_n 0, 1) := by decide +kernel
theorem dX16_field_168 : decode cX16_field 168 = .ok (.dup, 1) := by decide +kernel
theorem dX16_field_169 : decode cX16_field 169 = .ok (.getfield 654, 3) := by decide +kernel
theorem dX16_field_172 : decode cX16_field 172 = .ok (.iconst 1, 1) := by decide +kernel
theorem dX16_field_173 : decode cX16_field 173 = .ok (.iadd, 1) := by decide +kernel
theorem dX16_field_174 : decode cX16_field 174 = .ok (.putfield 654, 3) := by decide +kernel
theorem dX16_field_177 : decode cX16_field 177 = .ok (.aload_n 0, 1) := by decide +kernel
theorem dX16_field_178 : decode cX16_field 178 = .ok (.iload_n 1, 1) := by decide +kernel
theorem dX16_field_179 : decode cX16_field 179 = .ok (.iload_n 3, 1) := by decide +kernel
theorem dX16_field_180 : decode cX16_field 180 = .ok (.ldc_w 742, 3) := by decide +kernel
theorem dX16_field_183 : decode cX16_field 183 = .ok (.invokevirtual 739, 3) := by decide +kernel
theorem dX16_field_186 : decode cX16_field 186 = .ok (.ifCond .eq 8, 3) := by decide +kernel
theorem dX16_field_189 : decode cX16_field 189 = .ok (.aload_n 0, 1) := by decide +kernel
theorem dX16_field_190 : decode cX16_field 190 = .ok (.iconst 1, 1) := by decide +kernel
theorem dX16_field_191 : decode cX16_field 191 = .ok (.putfield 672, 3) := by decide +kernel
theorem dX16_field_194 : decode cX16_field 194 = .ok (.aload_n 0, 1) := by decide +kernel
theorem dX16_field_195 : decode cX16_field 195 = .ok (.iload_n 1, 1) := by decide +kernel
theorem dX16_field_196 : decode cX16_field 196 = .ok (.iload_n 3, 1) := by decide +kernel
theorem dX16_field_197 : decode cX16_field 197 = .ok (.ldc_w 744, 3) := by decide +kernel
theorem dX16_field_200 : decode cX16_field 200 = .ok (.invokevirtual 739, 3) := by decide +kernel
theorem dX16_field_203 : decode cX16_field 203 = .ok (.ifCond .eq 11, 3) := by decide +kernel
theorem dX16_field_206 : decode cX16_field 206 = .ok (.aload_n 0, 1) := by decide +kernel
theorem dX16_field_207 : decode cX16_field 207 = .ok (.iload 4, 2) := by decide +kernel
theorem dX16_field_209 : decode cX16_field 209 = .ok (.iload 5, 2) := by decide +kernel
theorem dX16_field_211 : decode cX16_field 211 = .ok (.invokevirtual 746, 3) := by decide +kernel
theorem dX16_field_214 : decode cX16_field 214 = .ok (.aload_n 0, 1) := by decide +kernel
theorem dX16_field_215 : decode cX16_field 215 = .ok (.iload_n 1, 1) := by decide +kernel
theorem dX16_field_216 : decode cX16_field 216 = .ok (.iload_n 3, 1) := by decide +kernel
theorem dX16_field_217 : decode cX16_field 217 = .ok (.ldc_w 749, 3) := by decide +kernel
theorem dX16_field_220 : decode cX16_field 220 = .ok (.invokevirtual 739, 3) := by decide +kernel
theorem dX16_field_223 : decode cX16_field 223 = .ok (.ifCond .eq 11, 3) := by decide +kernel
theorem dX16_field_226 : decode cX16_field 226 = .ok (.aload_n 0, 1) := by decide +kernel
theorem dX16_field_227 : decode cX16_field 227 = .ok (.iload 4, 2) := by decide +kernel
theorem dX16_field_229 : decode cX16_field 229 = .ok (.iload 5, 2) := by decide +kernel
theorem dX16_field_231 : decode cX16_field 231 = .ok (.invokevirtual 751, 3) := by decide +kernel
theorem dX16_field_234 : decode cX16_field 234 = .ok (.aload_n 0, 1) := by decide +kernel
theorem dX16_field_235 : decode cX16_field 235 = .ok (.iload_n 1, 1) := by decide +kernel
theorem dX16_field_236 : decode cX16_field 236 = .ok (.iload_n 3, 1) := by decide +kernel
theorem dX16_field_237 : decode cX16_field 237 = .ok (.ldc_w 754, 3) := by decide +kernel
theorem dX16_field_240 : decode cX16_field 240 = .ok (.invokevirtual 739, 3) := by decide +kernel
theorem dX16_field_243 : decode cX16_field 243 = .ok (.ifCond .eq 25, 3) := by decide +kernel
theorem dX16_field_246 : decode cX16_field 246 = .ok (.aload_n 0, 1) := by decide +kernel
theorem dX16_field_247 : decode cX16_field 247 = .ok (.dup, 1) := by decide +kernel
theorem dX16_field_248 : decode cX16_field 248 = .ok (.getfield 660, 3) := by decide +kernel
theorem dX16_field_251 : decode cX16_field 251 = .ok (.iconst 1, 1) := by decide +kernel
theorem dX16_field_252 : decode cX16_field 252 = .ok (.iadd, 1) := by decide +kernel
theorem dX16_field_253 : decode cX16_field 253 = .ok (.putfield 660, 3) := by decide +kernel
theorem dX16_field_256 : decode cX16_field 256 = .ok (.aload_n 0, 1) := by decide +kernel
theorem dX16_field_257 : decode cX16_field 257 = .ok (.iload 4, 2) := by decide +kernel
theorem dX16_field_259 : decode cX16_field 259 = .ok (.putfield 756, 3) := by decide +kernel
theorem dX16_field_262 : decode cX16_field 262 = .ok (.aload_n 0, 1) := by decide +kernel
theorem dX16_field_263 : decode cX16_field 263 = .ok (.iload 5, 2) := by decide +kernel
theorem dX16_field_265 : decode cX16_field 265 = .ok (.putfield 759, 3) := by decide +kernel
theorem dX16_field_268 : decode cX16_field 268 = .ok (.iconst 1, 1) := by decide +kernel
theorem dX16_field_269 : decode cX16_field 269 = .ok (.ireturn, 1) := by decide +kernel
theorem wX16_field_L234 {x : GX} {n0 sl0 : Nat} (X : Cx x cX16_field RX16 (some .boolean) n0 sl0 7 154) {out : Int32 × Mm} (hE : Ends x n0 sl0 (some (pI out.1)) out.2) (hn : xn x = 8) (fu : Nat)   (a0 : Nat) (a1 : Int32) (a3 : Int32) (a4 : Int32) (a5 : Int32)  (M : Mm) (h : fX16_field_L234 fu  a0 a1 a3 a4 a5 M = some out) : Gw x M 234 [(0, pR (some a0)), (1, pI a1), (3, pI a3), (4, pI a4), (5, pI a5)] [] := by
  unfold fX16_field_L234 at h
  refine g_aload_n X (pc := 234) 0 rfl rfl dX16_field_234 ?_
  refine g_iload_n X (pc := 235) 1 rfl rfl dX16_field_235 ?_
  refine g_iload_n X (pc := 236) 2 rfl rfl dX16_field_236 ?_
  refine g_ldcwS X (pc := 237) (List.mem_of_getElem? (i := 53) rfl) dX16_field_237 ?_
  obtain ⟨q1, eq1, h⟩ := bd h
  obtain ⟨v3, M2, eM2, h⟩ := b2d h
  refine g_callV X (pc := 240) (M' := M2) (ro := some (pI v3)) (c := 16) rfl (by decide) (as := [pI a1, pI a3, pR (some 8)]) (as' := [pR (some 8), pI a3, pI a1]) (st := []) eq1 (ctX16_saysSmall _ _ _ _ _ _ fu q1 a1 a3 (some 8) M _ eM2) tb_2383 tb_2380 tb_2382 ts_127 tb_8 ⟨rfl, hyX16_saysSmall⟩ rfl rfl ⟨by decide, by decide⟩ (Nat.le_of_ble_eq_true rfl) dX16_field_240 ?_
  refine g_if_eq X (pc := 243) (tgt := 268) dX16_field_243 (by decide) (fun hc => ?_) (fun hc => ?_)
  · have h := (if_pos hc).symm.trans h
    refine g_iconst X (pc := 268) (v := 1) dX16_field_268 (by decide) ?_
    obtain ⟨hz, rfl⟩ := rN_some h
    exact g_nreturn X rfl hz hE dX16_field_269
  · have h := (if_neg hc).symm.trans h
    refine g_aload_n X (pc := 246) 0 rfl rfl dX16_field_246 ?_
    refine g_dup X (pc := 247) rfl dX16_field_247 ?_
    obtain ⟨v4, ev4, h⟩ := bd h
    refine g_getI X (pc := 248) fk_16_50 rfl rfl ev4 tb_1864 dX16_field_248 ?_
    refine g_iconst X (pc := 251) (v := 1) dX16_field_251 (by decide) ?_
    refine g_iadd X (pc := 252) dX16_field_252 ?_
    obtain ⟨M5, eM5, h⟩ := bd h
    refine g_putI X (pc := 253) fk_16_50 rfl rfl rfl eM5 tb_1864 (Or.inl rfl) dX16_field_253 ?_
    refine g_aload_n X (pc := 256) 0 rfl rfl dX16_field_256 ?_
    refine g_iload X (pc := 257) 3 rfl dX16_field_257 ?_
    obtain ⟨M6, eM6, h⟩ := bd h
    refine g_putI X (pc := 259) fk_16_61 rfl rfl rfl eM6 tb_1875 (Or.inl rfl) dX16_field_259 ?_
    refine g_aload_n X (pc := 262) 0 rfl rfl dX16_field_262 ?_
    refine g_iload X (pc := 263) 4 rfl dX16_field_263 ?_
    obtain ⟨M7, eM7, h⟩ := bd h
    refine g_putI X (pc := 265) fk_16_62 rfl rfl rfl eM7 tb_1876 (Or.inl rfl) dX16_field_265 ?_
    refine g_iconst X (pc := 268) (v := 1) dX16_field_268 (by decide) ?_
    obtain ⟨hz, rfl⟩ := rN_some h
    exact g_nreturn X rfl hz hE dX16_field_269
theorem wX16_field_L214 {x : GX} {n0 sl0 : Nat} (X : Cx x cX16_field RX16 (some .boolean) n0 sl0 7 154) {out : Int32 × Mm} (hE : Ends x n0 sl0 (some (pI out.1)) out.2) (hn : xn x = 8) (fu : Nat)   (a0 : Nat) (a1 : Int32) (a3 : Int32) (a4 : Int32) (a5 : Int32)  (M : Mm) (h : fX16_field_L214 fu  a0 a1 a3 a4 a5 M = some out) : Gw x M 214 [(0, pR (some a0)), (1, pI a1), (3, pI a3), (4, pI a4), (5, pI a5)] [] := by
  unfold fX16_field_L214 at h
  refine g_aload_n X (pc := 214) 0 rfl rfl dX16_field_214 ?_
  refine g_iload_n X (pc := 215) 1 rfl rfl dX16_field_215 ?_
  refine g_iload_n X (pc := 216) 2 rfl rfl dX16_field_216 ?_
  refine g_ldcwS X (pc := 217) (List.mem_of_getElem? (i := 50) rfl) dX16_field_217 ?_
  obtain ⟨q1, eq1, h⟩ := bd h
  obtain ⟨v3, M2, eM2, h⟩ := b2d h
  refine g_callV X (pc := 220) (M' := M2) (ro := some (pI v3)) (c := 16) rfl (by decide) (as := [pI a1, pI a3, pR (some 9)]) (as' := [pR (some 9), pI a3, pI a1]) (st := []) eq1 (ctX16_saysSmall _ _ _ _ _ _ fu q1 a1 a3 (some 9) M _ eM2) tb_2383 tb_2380 tb_2382 ts_127 tb_8 ⟨rfl, hyX16_saysSmall⟩ rfl rfl ⟨by decide, by decide⟩ (Nat.le_of_ble_eq_true rfl) dX16_field_220 ?_
  refine g_if_eq X (pc := 223) (tgt := 234) dX16_field_223 (by decide) (fun hc => ?_) (fun hc => ?_)
  · have h := (if_pos hc).symm.trans h
    exact wX16_field_L234 X hE hn fu   a0 a1 a3 a4 a5 M2 h
  · have h := (if_neg hc).symm.trans h
    refine g_aload_n X (pc := 226) 0 rfl rfl dX16_field_226 ?_
    refine g_iload X (pc := 227) 3 rfl dX16_field_227 ?_
    refine g_iload X (pc := 229) 4 rfl dX16_field_229 ?_
    obtain ⟨q4, eq4, h⟩ := bd h
    obtain ⟨M5, eM5, h⟩ := bd h
    refine g_callV X (pc := 231) (M' := M5) (ro := none) (c := 16) rfl (by decide) (as := [pI a4, pI a5]) (as' := [pI a5, pI a4]) (st := []) eq4 (ctX16_words _ _ _ _ _ _ fu q4 a4 a5 M2 _ eM5) tb_2395 tb_2392 tb_2394 ts_129 tb_8 ⟨rfl, hyX16_words⟩ rfl rfl ⟨by decide, by decide⟩ (Nat.le_of_ble_eq_true rfl) dX16_field_231 ?_
    exact wX16_field_L234 X hE hn fu   a0 a1 a3 a4 a5 M5 h
theorem wX16_field_L194 {x : GX} {n0 sl0 : Nat} (X : Cx x cX16_field RX16 (some .boolean) n0 sl0 7 154) {out : Int32 × Mm} (hE : Ends x n0 sl0 (some (pI out.1)) out.2) (hn : xn x = 8) (fu : Nat)   (a0 : Nat) (a1 : Int32) (a3 : Int32) (a4 : Int32) (a5 : Int32)  (M : Mm) (h : fX16_field_L194 fu  a0 a1 a3 a4 a5 M = some out) : Gw x M 194 [(0, pR (some a0)), (1, pI a1), (3, pI a3), (4, pI a4), (5, pI a5)] [] := by
  unfold fX16_field_L194 at h
  refine g_aload_n X (pc := 194) 0 rfl rfl dX16_field_194 ?_
  refine g_iload_n X (pc := 195) 1 rfl rfl dX16_field_195 ?_
  refine g_iload_n X (pc := 196) 2 rfl rfl dX16_field_196 ?_
  refine g_ldcwS X (pc := 197) (List.mem_of_getElem? (i := 49) rfl) dX16_field_197 ?_
  obtain ⟨q1, eq1, h⟩ := bd h
  obtain ⟨v3, M2, eM2, h⟩ := b2d h
  refine g_callV X (pc := 200) (M' := M2) (ro := some (pI v3)) (c := 16) rfl (by decide) (as := [pI a1, pI a3, pR (some 7)]) (as' := [pR (some 7), pI a3, pI a1]) (st := []) eq1 (ctX16_saysSmall _ _ _ _ _ _ fu q1 a1 a3 (some 7) M _ eM2) tb_2383 tb_2380 tb_2382 ts_127 tb_8 ⟨rfl, hyX16_saysSmall⟩ rfl rfl ⟨by decide, by decide⟩ (Nat.le_of_ble_eq_true rfl) dX16_field_200 ?_
  refine g_if_eq X (pc := 203) (tgt := 214) dX16_field_203 (by decide) (fun hc => ?_) (fun hc => ?_)
  · have h := (if_pos hc).symm.trans h
    exact wX16_field_L214 X hE hn fu   a0 a1 a3 a4 a5 M2 h
  · have h := (if_neg hc).symm.trans h
    refine g_aload_n X (pc := 206) 0 rfl rfl dX16_field_206 ?_
    refine g_iload X (pc := 207) 3 rfl dX16_field_207 ?_
    refine g_iload X (pc := 209) 4 rfl dX16_field_209 ?_
    obtain ⟨q4, eq4, h⟩ := bd h
    obtain ⟨M5, eM5, h⟩ := bd h
    refine g_callV X (pc := 211) (M' := M5) (ro := none) (c := 16) rfl (by decide) (as := [pI a4, pI a5]) (as' := [pI a5, pI a4]) (st := []) eq4 (ctX16_contentLength _ _ _ _ _ _ fu q4 a4 a5 M2 _ eM5) tb_2389 tb_2386 tb_2388 ts_128 tb_8 ⟨rfl, hyX16_contentLength⟩ rfl rfl ⟨by decide, by decide⟩ (Nat.le_of_ble_eq_true rfl) dX16_field_211 ?_
    exact wX16_field_L214 X hE hn fu   a0 a1 a3 a4 a5 M5 h
theorem wX16_field_L177 {x : GX} {n0 sl0 : Nat} (X : Cx x cX16_field RX16 (some .boolean) n0 sl0 7 154) {out : Int32 × Mm} (hE : Ends x n0 sl0 (some (pI out.1)) out.2) (hn : xn x = 8) (fu : Nat)   (a0 : Nat) (a1 : Int32) (a3 : Int32) (a4 : Int32) (a5 : Int32)  (M : Mm) (h : fX16_field_L177 fu  a0 a1 a3 a4 a5 M = some out) : Gw x M 177 [(0, pR (some a0)), (1, pI a1), (3, pI a3), (4, pI a4), (5, pI a5)] [] := by
  unfold fX16_field_L177 at h
  refine g_aload_n X (pc := 177) 0 rfl rfl dX16_field_177 ?_
  refine g_iload_n X (pc := 178) 1 rfl rfl dX16_field_178 ?_
  refine g_iload_n X (pc := 179) 2 rfl rfl dX16_field_179 ?_
  refine g_ldcwS X (pc := 180) (List.mem_of_getElem? (i := 48) rfl) dX16_field_180 ?_
  obtain ⟨q1, eq1, h⟩ := bd h
  obtain ⟨v3, M2, eM2, h⟩ := b2d h
  refine g_callV X (pc := 183) (M' := M2) (ro := some (pI v3)) (c := 16) rfl (by decide) (as := [pI a1, pI a3, pR (some 6)]) (as' := [pR (some 6), pI a3, pI a1]) (st := []) eq1 (ctX16_saysSmall _ _ _ _ _ _ fu q1 a1 a3 (some 6) M _ eM2) tb_2383 tb_2380 tb_2382 ts_127 tb_8 ⟨rfl, hyX16_saysSmall⟩ rfl rfl ⟨by decide, by decide⟩ (Nat.le_of_ble_eq_true rfl) dX16_field_183 ?_
  refine g_if_eq X (pc := 186) (tgt := 194) dX16_field_186 (by decide) (fun hc => ?_) (fun hc => ?_)
  · have h := (if_pos hc).symm.trans h
    exact wX16_field_L194 X hE hn fu   a0 a1 a3 a4 a5 M2 h
  · have h := (if_neg hc).symm.trans h
    refine g_aload_n X (pc := 189) 0 rfl rfl dX16_field_189 ?_
    refine g_iconst X (pc := 190) (v := 1) dX16_field_190 (by decide) ?_
    obtain ⟨M4, eM4, h⟩ := bd h
    refine g_putZ X (pc := 191) fk_16_54 rfl rfl rfl eM4 tb_1868 (Or.inl rfl) dX16_field_191 ?_
    exact wX16_field_L194 X hE hn fu   a0 a1 a3 a4 a5 M4 h
theorem wX16_field_L155 {x : GX} {n0 sl0 : Nat} (X : Cx x cX16_field RX16 (some .boolean) n0 sl0 7 154) {out : Int32 × Mm} (hE : Ends x n0 sl0 (some (pI out.1)) out.2) (hn : xn x = 8) (fu : Nat)   (a0 : Nat) (a1 : Int32) (a3 : Int32) (a4 : Int32) (a5 : Int32)  (M : Mm) (h : fX16_field_L155 fu  a0 a1 a3 a4 a5 M = some out) : Gw x M 155 [(0, pR (some a0)), (1, pI a1), (3, pI a3), (4, pI a4), (5, pI a5)] [] := by
  unfold fX16_field_L155 at h
  refine g_aload_n X (pc := 155) 0 rfl rfl dX16_field_155 ?_
  refine g_iload_n X (pc := 156) 1 rfl rfl dX16_field_156 ?_
  refine g_iload_n X (pc := 157) 2 rfl rfl dX16_field_157 ?_
  refine g_ldcwS X (pc := 158) (List.mem_of_getElem? (i := 47) rfl) dX16_field_158 ?_
  obtain ⟨q1, eq1, h⟩ := bd h
  obtain ⟨v3, M2, eM2, h⟩ := b2d h
  refine g_callV X (pc := 161) (M' := M2) (ro := some (pI v3)) (c := 16) rfl (by decide) (as := [pI a1, pI a3, pR (some 5)]) (as' := [pR (some 5), pI a3, pI a1]) (st := []) eq1 (ctX16_saysSmall _ _ _ _ _ _ fu q1 a1 a3 (some 5) M _ eM2) tb_2383 tb_2380 tb_2382 ts_127 tb_8 ⟨rfl, hyX16_saysSmall⟩ rfl rfl ⟨by decide, by decide⟩ (Nat.le_of_ble_eq_true rfl) dX16_field_161 ?_
  refine g_if_eq X (pc := 164) (tgt := 177) dX16_field_164 (by decide) (fun hc => ?_) (fun hc => ?_)
  · have h := (if_pos hc).symm.trans h
    exact wX16_field_L177 X hE hn fu   a0 a1 a3 a4 a5 M2 h
  · have h := (if_neg hc).symm.trans h
    refine g_aload_n X (pc := 167) 0 rfl rfl dX16_field_167 ?_
    refine g_dup X (pc := 168) rfl dX16_field_168 ?_
    obtain ⟨v4, ev4, h⟩ := bd h
    refine g_getI X (pc := 169) fk_16_48 rfl rfl ev4 tb_1862 dX16_field_169 ?_
    refine g_iconst X (pc := 172) (v := 1) dX16_field_172 (by decide) ?_
    refine g_iadd X (pc := 173) dX16_field_173 ?_
    obtain ⟨M5, eM5, h⟩ := bd h
    refine g_putI X (pc := 174) fk_16_48 rfl rfl rfl eM5 tb_1862 (Or.inl rfl) dX16_field_174 ?_
    exact wX16_field_L177 X hE hn fu   a0 a1 a3 a4 a5 M5 h
theorem wX16_field_L128 {x : GX} {n0 sl0 : Nat} (X : Cx x cX16_field RX16 (some .boolean) n0 sl0 7 154) {out : Int32 × Mm} (hE : Ends x n0 sl0 (some (pI out.1)) out.2) (hn : xn x = 8) (fu : Nat)   : ∀ (n : Nat) (a0 : Nat) (a1 : Int32) (a3 : Int32) (a4 : Int32) (a5 : Int32)  (M : Mm), fX16_field_L128 fu  n a0 a1 a3 a4 a5 M = some out → Gw x M 128 [(0, pR (some a0)), (1, pI a1), (3, pI a3), (4, pI a4), (5, pI a5)] [] := by
  intro n
  induction n with
  | zero =>
    intro a0 a1 a3 a4 a5 M h
    have h : (none : Option (Int32 × Mm)) = some out := h
    cases h
  | succ n ih =>
    intro a0 a1 a3 a4 a5 M h
    rw [fX16_field_L128] at h
    refine g_iload X (pc := 128) 4 rfl dX16_field_128 ?_
    refine g_iload X (pc := 130) 3 rfl dX16_field_130 ?_
    refine g_icmp_le X (pc := 132) (tgt := 155) dX16_field_132 (by decide) (fun hc => ?_) (fun hc => ?_)
    · have h := (if_pos hc).symm.trans h
      exact wX16_field_L155 X hE hn fu   a0 a1 a3 a4 a5 M h
    · have h := (if_neg hc).symm.trans h
      refine g_aload_n X (pc := 135) 0 rfl rfl dX16_field_135 ?_
      refine g_iload X (pc := 136) 4 rfl dX16_field_136 ?_
      refine g_iconst X (pc := 138) (v := 1) dX16_field_138 (by decide) ?_
      refine g_isub X (pc := 139) dX16_field_139 ?_
      obtain ⟨q1, eq1, h⟩ := bd h
      obtain ⟨v3, M2, eM2, h⟩ := b2d h
      refine g_callV X (pc := 140) (M' := M2) (ro := some (pI v3)) (c := 16) rfl (by decide) (as := [pI (a5 - (1 : Int32))]) (as' := [pI (a5 - (1 : Int32))]) (st := []) eq1 (ctX16_headAt _ _ _ _ _ _ fu q1 (a5 - (1 : Int32)) M _ eM2) tb_2352 tb_2349 tb_2351 ts_124 tb_8 ⟨rfl, hyX16_headAt⟩ rfl rfl ⟨by decide, by decide⟩ (Nat.le_of_ble_eq_true rfl) dX16_field_140 ?_
      obtain ⟨v5, M4, eM4, h⟩ := b2d h
      refine g_callS X (pc := 143) (M' := M4) (ro := some (pI v5)) (as := [pI v3]) (as' := [pI v3]) (st := []) (ctX16_isBlank _ _ _ _ _ _ fu  v3 M2 _ eM4) tb_2378 tb_2376 tb_2377 tb_8 hyX16_isBlank rfl rfl ⟨by decide, by decide⟩ (Nat.le_of_ble_eq_true rfl) dX16_field_143 ?_
      refine g_if_eq X (pc := 146) (tgt := 155) dX16_field_146 (by decide) (fun hc => ?_) (fun hc => ?_)
      · have h := (if_pos hc).symm.trans h
        exact wX16_field_L155 X hE hn fu   a0 a1 a3 a4 a5 M4 h
      · have h := (if_neg hc).symm.trans h
        refine g_iinc X (pc := 149) 4 [(5, pI (a5 + (-1 : Int32))), (0, pR (some a0)), (1, pI a1), (3, pI a3), (4, pI a4)] rfl (iinc_e (by decide)) (lt_n hn (by decide)) rfl dX16_field_149 ?_
        refine g_goto X (pc := 152) (tgt := 128) dX16_field_152 (by decide) ?_
        refine g_sub [1, 2, 3, 4, 0] [(0, pR (some a0)), (1, pI a1), (3, pI a3), (4, pI a4), (5, pI (a5 + (-1 : Int32)))] rfl ?_
        exact ih a0 a1 a3 a4 (a5 + (-1 : Int32)) M4 h
theorem wX16_field_L103 {x : GX} {n0 sl0 : Nat} (X : Cx x cX16_field RX16 (some .boolean) n0 sl0 7 154) {out : Int32 × Mm} (hE : Ends x n0 sl0 (some (pI out.1)) out.2) (hn : xn x = 8) (fu : Nat)   : ∀ (n : Nat) (a0 : Nat) (a1 : Int32) (a3 : Int32) (a4 : Int32) (a5 : Int32)  (M : Mm), fX16_field_L103 fu  n a0 a1 a3 a4 a5 M = some out → Gw x M 103 [(0, pR (some a0)), (1, pI a1), (3, pI a3), (4, pI a4), (5, pI a5)] [] := by
  intro n
  induction n with
  | zero =>
    intro a0 a1 a3 a4 a5 M h
    have h : (none : Option (Int32 × Mm)) = some out := h
    cases h
  | succ n ih =>
    intro a0 a1 a3 a4 a5 M h
    rw [fX16_field_L103] at h
    refine g_iload X (pc := 103) 3 rfl dX16_field_103 ?_
    refine g_iload X (pc := 105) 4 rfl dX16_field_105 ?_
    refine g_icmp_ge X (pc := 107) (tgt := 128) dX16_field_107 (by decide) (fun hc => ?_) (fun hc => ?_)
    · have h := (if_pos hc).symm.trans h
      exact wX16_field_L128 X hE hn fu   fu a0 a1 a3 a4 a5 M h
    · have h := (if_neg hc).symm.trans h
      refine g_aload_n X (pc := 110) 0 rfl rfl dX16_field_110 ?_
      refine g_iload X (pc := 111) 3 rfl dX16_field_111 ?_
      obtain ⟨q1, eq1, h⟩ := bd h
      obtain ⟨v3, M2, eM2, h⟩ := b2d h
      refine g_callV X (pc := 113) (M' := M2) (ro := some (pI v3)) (c := 16) rfl (by decide) (as := [pI a4]) (as' := [pI a4]) (st := []) eq1 (ctX16_headAt _ _ _ _ _ _ fu q1 a4 M _ eM2) tb_2352 tb_2349 tb_2351 ts_124 tb_8 ⟨rfl, hyX16_headAt⟩ rfl rfl ⟨by decide, by decide⟩ (Nat.le_of_ble_eq_true rfl) dX16_field_113 ?_
      obtain ⟨v5, M4, eM4, h⟩ := b2d h
      refine g_callS X (pc := 116) (M' := M4) (ro := some (pI v5)) (as := [pI v3]) (as' := [pI v3]) (st := []) (ctX16_isBlank _ _ _ _ _ _ fu  v3 M2 _ eM4) tb_2378 tb_2376 tb_2377 tb_8 hyX16_isBlank rfl rfl ⟨by decide, by decide⟩ (Nat.le_of_ble_eq_true rfl) dX16_field_116 ?_
      refine g_if_eq X (pc := 119) (tgt := 128) dX16_field_119 (by decide) (fun hc => ?_) (fun hc => ?_)
      · have h := (if_pos hc).symm.trans h
        exact wX16_field_L128 X hE hn fu   fu a0 a1 a3 a4 a5 M4 h
      · have h := (if_neg hc).symm.trans h
        refine g_iinc X (pc := 122) 3 [(4, pI (a4 + (1 : Int32))), (0, pR (some a0)), (1, pI a1), (3, pI a3), (5, pI a5)] rfl (iinc_e (by decide)) (lt_n hn (by decide)) rfl dX16_field_122 ?_
        refine g_goto X (pc := 125) (tgt := 103) dX16_field_125 (by decide) ?_
        refine g_sub [1, 2, 3, 0, 4] [(0, pR (some a0)), (1, pI a1), (3, pI a3), (4, pI (a4 + (1 : Int32))), (5, pI a5)] rfl ?_
        exact ih a0 a1 a3 (a4 + (1 : Int32)) a5 M4 h
theorem wX16_field_L97 {x : GX} {n0 sl0 : Nat} (X : Cx x cX16_field RX16 (some .boolean) n0 sl0 7 154) {out : Int32 × Mm} (hE : Ends x n0 sl0 (some (pI out.1)) out.2) (hn : xn x = 8) (fu : Nat) (k59 : Nat → Int32 → Int32 → Int32 → Int32 → Int32 → Mm → Option (Int32 × Mm)) (hk59 : ∀ (b0 : Nat) (b1 : Int32) (b3 : Int32) (b4 : Int32) (b5 : Int32) (b6 : Int32)  (M : Mm), k59 b0 b1 b3 b4 b5 b6 M = some out → Gw x M 59 [(0, pR (some b0)), (1, pI b1), (3, pI b3), (4, pI b4), (5, pI b5), (6, pI b6)] []) (a0 : Nat) (a1 : Int32) (a3 : Int32) (a4 : Int32) (a5 : Int32) (a6 : Int32)  (M : Mm) (h : fX16_field_L97 fu k59 a0 a1 a3 a4 a5 a6 M = some out) : Gw x M 97 [(0, pR (some a0)), (1, pI a1), (3, pI a3), (4, pI a4), (5, pI a5), (6, pI a6)] [] := by
  unfold fX16_field_L97 at h
  refine g_iinc X (pc := 97) 5 [(6, pI (a6 + (1 : Int32))), (0, pR (some a0)), (1, pI a1), (3, pI a3), (4, pI a4), (5, pI a5)] rfl (iinc_e (by decide)) (lt_n hn (by decide)) rfl dX16_field_97 ?_
  refine g_goto X (pc := 100) (tgt := 59) dX16_field_100 (by decide) ?_
  refine g_sub [1, 2, 3, 4, 5, 0] [(0, pR (some a0)), (1, pI a1), (3, pI a3), (4, pI a4), (5, pI a5), (6, pI (a6 + (1 : Int32)))] rfl ?_
  exact hk59 a0 a1 a3 a4 a5 (a6 + (1 : Int32)) M h
theorem wX16_field_L59 {x : GX} {n0 sl0 : Nat} (X : Cx x cX16_field RX16 (some .boolean) n0 sl0 7 154) {out : Int32 × Mm} (hE : Ends x n0 sl0 (some (pI out.1)) out.2) (hn : xn x = 8) (fu : Nat)   : ∀ (n : Nat) (a0 : Nat) (a1 : Int32) (a3 : Int32) (a4 : Int32) (a5 : Int32) (a6 : Int32)  (M : Mm), fX16_field_L59 fu  n a0 a1 a3 a4 a5 a6 M = some out → Gw x M 59 [(0, pR (some a0)), (1, pI a1), (3, pI a3), (4, pI a4), (5, pI a5), (6, pI a6)] [] := by
  intro n
  induction n with
  | zero =>
    intro a0 a1 a3 a4 a5 a6 M h
    have h : (none : Option (Int32 × Mm)) = some out := h
    cases h
  | succ n ih =>
    intro a0 a1 a3 a4 a5 a6 M h
    rw [fX16_field_L59] at h
    refine g_iload X (pc := 59) 5 rfl dX16_field_59 ?_
    refine g_iload X (pc := 61) 4 rfl dX16_field_61 ?_
    refine g_icmp_ge X (pc := 63) (tgt := 103) dX16_field_63 (by decide) (fun hc => ?_) (fun hc => ?_)
    · have h := (if_pos hc).symm.trans h
      refine g_sub [0, 1, 2, 3, 4] [(0, pR (some a0)), (1, pI a1), (3, pI a3), (4, pI a4), (5, pI a5)] rfl ?_
      exact wX16_field_L103 X hE hn fu   fu a0 a1 a3 a4 a5 M h
    · have h := (if_neg hc).symm.trans h
      refine g_aload_n X (pc := 66) 0 rfl rfl dX16_field_66 ?_
      refine g_iload X (pc := 67) 5 rfl dX16_field_67 ?_
      obtain ⟨q1, eq1, h⟩ := bd h
      obtain ⟨v3, M2, eM2, h⟩ := b2d h
      refine g_callV X (pc := 69) (M' := M2) (ro := some (pI v3)) (c := 16) rfl (by decide) (as := [pI a6]) (as' := [pI a6]) (st := []) eq1 (ctX16_headAt _ _ _ _ _ _ fu q1 a6 M _ eM2) tb_2352 tb_2349 tb_2351 ts_124 tb_8 ⟨rfl, hyX16_headAt⟩ rfl rfl ⟨by decide, by decide⟩ (Nat.le_of_ble_eq_true rfl) dX16_field_69 ?_
      refine g_istore X (pc := 72) [(7, pI v3), (0, pR (some a0)), (1, pI a1), (3, pI a3), (4, pI a4), (5, pI a5), (6, pI a6)] (lt_n hn (by decide)) rfl dX16_field_72 ?_
      refine g_iload X (pc := 74) 0 rfl dX16_field_74 ?_
      refine g_bipush X (pc := 76) (v := 9) dX16_field_76 (by decide) ?_
      refine g_icmp_eq X (pc := 78) (tgt := 97) dX16_field_78 (by decide) (fun hc => ?_) (fun hc => ?_)
      · have h := (if_pos hc).symm.trans h
        refine g_sub [1, 2, 3, 4, 5, 6] [(0, pR (some a0)), (1, pI a1), (3, pI a3), (4, pI a4), (5, pI a5), (6, pI a6)] rfl ?_
        exact wX16_field_L97 X hE hn fu (fun b0 b1 b3 b4 b5 b6 M => fX16_field_L59 fu  n b0 b1 b3 b4 b5 b6 M) ih a0 a1 a3 a4 a5 a6 M2 h
      · have h := (if_neg hc).symm.trans h
        refine g_iload X (pc := 81) 0 rfl dX16_field_81 ?_
        refine g_bipush X (pc := 83) (v := 32) dX16_field_83 (by decide) ?_
        refine g_icmp_lt X (pc := 85) (tgt := 95) dX16_field_85 (by decide) (fun hc => ?_) (fun hc => ?_)
        · have h := (if_pos hc).symm.trans h
          refine g_iconst X (pc := 95) (v := 0) dX16_field_95 (by decide) ?_
          obtain ⟨hz, rfl⟩ := rN_some h
          exact g_nreturn X rfl hz hE dX16_field_96
        · have h := (if_neg hc).symm.trans h
          refine g_iload X (pc := 88) 0 rfl dX16_field_88 ?_
          refine g_bipush X (pc := 90) (v := 127) dX16_field_90 (by decide) ?_
          refine g_icmp_ne X (pc := 92) (tgt := 97) dX16_field_92 (by decide) (fun hc => ?_) (fun hc => ?_)
          · have h := (if_neg hc).symm.trans h
            refine g_sub [1, 2, 3, 4, 5, 6] [(0, pR (some a0)), (1, pI a1), (3, pI a3), (4, pI a4), (5, pI a5), (6, pI a6)] rfl ?_
            exact wX16_field_L97 X hE hn fu (fun b0 b1 b3 b4 b5 b6 M => fX16_field_L59 fu  n b0 b1 b3 b4 b5 b6 M) ih a0 a1 a3 a4 a5 a6 M2 h
          · have h := (if_pos hc).symm.trans h
            refine g_iconst X (pc := 95) (v := 0) dX16_field_95 (by decide) ?_
            obtain ⟨hz, rfl⟩ := rN_some h
            exact g_nreturn X rfl hz hE dX16_field_96
theorem wX16_field_L24 {x : GX} {n0 sl0 : Nat} (X : Cx x cX16_field RX16 (some .boolean) n0 sl0 7 154) {out : Int32 × Mm} (hE : Ends x n0 sl0 (some (pI out.1)) out.2) (hn : xn x = 8) (fu : Nat)   (a0 : Nat) (a1 : Int32) (a2 : Int32) (a3 : Int32)  (M : Mm) (h : fX16_field_L24 fu  a0 a1 a2 a3 M = some out) : Gw x M 24 [(0, pR (some a0)), (1, pI a1), (2, pI a2), (3, pI a3)] [] := by
  unfold fX16_field_L24 at h
  refine g_iload_n X (pc := 24) 3 rfl rfl dX16_field_24 ?_
  refine g_iload_n X (pc := 25) 1 rfl rfl dX16_field_25 ?_
  refine g_icmp_eq X (pc := 26) (tgt := 45) dX16_field_26 (by decide) (fun hc => ?_) (fun hc => ?_)
  · have h := (if_pos hc).symm.trans h
    refine g_iconst X (pc := 45) (v := 0) dX16_field_45 (by decide) ?_
    obtain ⟨hz, rfl⟩ := rN_some h
    exact g_nreturn X rfl hz hE dX16_field_46
  · have h := (if_neg hc).symm.trans h
    refine g_iload_n X (pc := 29) 3 rfl rfl dX16_field_29 ?_
    refine g_iload_n X (pc := 30) 2 rfl rfl dX16_field_30 ?_
    refine g_icmp_eq X (pc := 31) (tgt := 45) dX16_field_31 (by decide) (fun hc => ?_) (fun hc => ?_)
    · have h := (if_pos hc).symm.trans h
      refine g_iconst X (pc := 45) (v := 0) dX16_field_45 (by decide) ?_
      obtain ⟨hz, rfl⟩ := rN_some h
      exact g_nreturn X rfl hz hE dX16_field_46
    · have h := (if_neg hc).symm.trans h
      refine g_aload_n X (pc := 34) 0 rfl rfl dX16_field_34 ?_
      obtain ⟨v1, ev1, h⟩ := bd h
      refine g_getR X (pc := 35) fk_16_41 rfl rfl ev1 tb_1855 dX16_field_35 ?_
      refine g_iload_n X (pc := 38) 3 rfl rfl dX16_field_38 ?_
      obtain ⟨v2, ev2, h⟩ := bd h
      refine g_baload X (pc := 39) ev2 dX16_field_39 ?_
      refine g_bipush X (pc := 40) (v := 58) dX16_field_40 (by decide) ?_
      refine g_icmp_eq X (pc := 42) (tgt := 47) dX16_field_42 (by decide) (fun hc => ?_) (fun hc => ?_)
      · have h := (if_pos hc).symm.trans h
        refine g_iload_n X (pc := 47) 3 rfl rfl dX16_field_47 ?_
        refine g_iconst X (pc := 48) (v := 1) dX16_field_48 (by decide) ?_
        refine g_iadd X (pc := 49) dX16_field_49 ?_
        refine g_istore X (pc := 50) [(4, pI (a3 + (1 : Int32))), (0, pR (some a0)), (1, pI a1), (2, pI a2), (3, pI a3)] (lt_n hn (by decide)) rfl dX16_field_50 ?_
        refine g_iload_n X (pc := 52) 3 rfl rfl dX16_field_52 ?_
        refine g_istore X (pc := 53) [(5, pI a2), (4, pI (a3 + (1 : Int32))), (0, pR (some a0)), (1, pI a1), (2, pI a2), (3, pI a3)] (lt_n hn (by decide)) rfl dX16_field_53 ?_
        refine g_iload X (pc := 55) 1 rfl dX16_field_55 ?_
        refine g_istore X (pc := 57) [(6, pI (a3 + (1 : Int32))), (5, pI a2), (4, pI (a3 + (1 : Int32))), (0, pR (some a0)), (1, pI a1), (2, pI a2), (3, pI a3)] (lt_n hn (by decide)) rfl dX16_field_57 ?_
        refine g_sub [3, 4, 6, 2, 1, 0] [(0, pR (some a0)), (1, pI a1), (3, pI a3), (4, pI (a3 + (1 : Int32))), (5, pI a2), (6, pI (a3 + (1 : Int32)))] rfl ?_
        exact wX16_field_L59 X hE hn fu   fu a0 a1 a3 (a3 + (1 : Int32)) a2 (a3 + (1 : Int32)) M h
      · have h := (if_neg hc).symm.trans h
        refine g_iconst X (pc := 45) (v := 0) dX16_field_45 (by decide) ?_
        obtain ⟨hz, rfl⟩ := rN_some h
        exact g_nreturn X rfl hz hE dX16_field_46
theorem wX16_field_L2 {x : GX} {n0 sl0 : Nat} (X : Cx x cX16_field RX16 (some .boolean) n0 sl0 7 154) {out : Int32 × Mm} (hE : Ends x n0 sl0 (some (pI out.1)) out.2) (hn : xn x = 8) (fu : Nat)   : ∀ (n : Nat) (a0 : Nat) (a1 : Int32) (a2 : Int32) (a3 : Int32)  (M : Mm), fX16_field_L2 fu  n a0 a1 a2 a3 M = some out → Gw x M 2 [(0, pR (some a0)), (1, pI a1), (2, pI a2), (3, pI a3)] [] := by
  intro n
  induction n with
  | zero =>
    intro a0 a1 a2 a3 M h
    have h : (none : Option (Int32 × Mm)) = some out := h
    cases h
  | succ n ih =>
    intro a0 a1 a2 a3 M h
    rw [fX16_field_L2] at h
    refine g_iload_n X (pc := 2) 3 rfl rfl dX16_field_2 ?_
    refine g_iload_n X (pc := 3) 2 rfl rfl dX16_field_3 ?_
    refine g_icmp_ge X (pc := 4) (tgt := 24) dX16_field_4 (by decide) (fun hc => ?_) (fun hc => ?_)
    · have h := (if_pos hc).symm.trans h
      exact wX16_field_L24 X hE hn fu   a0 a1 a2 a3 M h
    · have h := (if_neg hc).symm.trans h
      refine g_aload_n X (pc := 7) 0 rfl rfl dX16_field_7 ?_
      refine g_iload_n X (pc := 8) 3 rfl rfl dX16_field_8 ?_
      obtain ⟨q1, eq1, h⟩ := bd h
      obtain ⟨v3, M2, eM2, h⟩ := b2d h
      refine g_callV X (pc := 9) (M' := M2) (ro := some (pI v3)) (c := 16) rfl (by decide) (as := [pI a3]) (as' := [pI a3]) (st := []) eq1 (ctX16_headAt _ _ _ _ _ _ fu q1 a3 M _ eM2) tb_2352 tb_2349 tb_2351 ts_124 tb_8 ⟨rfl, hyX16_headAt⟩ rfl rfl ⟨by decide, by decide⟩ (Nat.le_of_ble_eq_true rfl) dX16_field_9 ?_
      obtain ⟨v5, M4, eM4, h⟩ := b2d h
      refine g_callS X (pc := 12) (M' := M4) (ro := some (pI v5)) (as := [pI v3]) (as' := [pI v3]) (st := []) (ctX16_isNameCode _ _ _ _ _ _ fu  v3 M2 _ eM4) tb_2369 tb_2367 tb_2368 tb_8 hyX16_isNameCode rfl rfl ⟨by decide, by decide⟩ (Nat.le_of_ble_eq_true rfl) dX16_field_12 ?_
      refine g_if_eq X (pc := 15) (tgt := 24) dX16_field_15 (by decide) (fun hc => ?_) (fun hc => ?_)
      · have h := (if_pos hc).symm.trans h
        exact wX16_field_L24 X hE hn fu   a0 a1 a2 a3 M4 h
      · have h := (if_neg hc).symm.trans h
        refine g_iinc X (pc := 18) 3 [(3, pI (a3 + (1 : Int32))), (0, pR (some a0)), (1, pI a1), (2, pI a2)] rfl (iinc_e (by decide)) (lt_n hn (by decide)) rfl dX16_field_18 ?_
        refine g_goto X (pc := 21) (tgt := 2) dX16_field_21 (by decide) ?_
        refine g_sub [1, 2, 3, 0] [(0, pR (some a0)), (1, pI a1), (2, pI a2), (3, pI (a3 + (1 : Int32)))] rfl ?_
        exact ih a0 a1 a2 (a3 + (1 : Int32)) M4 h
theorem wX16_field {x : GX} {n0 sl0 : Nat} (X : Cx x cX16_field RX16 (some .boolean) n0 sl0 7 154) {out : Int32 × Mm} (hE : Ends x n0 sl0 (some (pI out.1)) out.2) (hn : xn x = 8) (fu : Nat)   (a0 : Nat) (a1 : Int32) (a2 : Int32)  (M : Mm) (h : fX16_field fu  a0 a1 a2 M = some out) : Gw x M 0 [(0, pR (some a0)), (1, pI a1), (2, pI a2)] [] := by
  unfold fX16_field at h
  refine g_iload_n X (pc := 0) 1 rfl rfl dX16_field_0 ?_
  refine g_istore_n X (pc := 1) [(3, pI a1), (0, pR (some a0)), (1, pI a1), (2, pI a2)] rfl (lt_n hn (by decide)) rfl dX16_field_1 ?_
  refine g_sub [1, 2, 3, 0] [(0, pR (some a0)), (1, pI a1), (2, pI a2), (3, pI a1)] rfl ?_
  exact wX16_field_L2 X hE hn fu   fu a0 a1 a2 a1 M h
theorem hyX16_field : yX16_field.cls ≠ "java/lang/invoke/MethodHandle" ∧ yX16_field.cls ≠ "java/lang/invoke/VarHandle" ∧ (parseMethodDescriptor yX16_field.desc).map (fun d => d.parameters.length) = some 2 := ⟨by decide +kernel, by decide +kernel, by decide +kernel⟩
theorem ctX16_field (l : Launch) (E : Nat → Nat) (D : va_G) (dA : Nat → ClassId) (lo : Nat) (H0 : Heap) (fu : Nat) (a0 : Nat) (a1 : Int32) (a2 : Int32) (M : Mm) (out : Int32 × Mm) (h : fX16_field fu a0 a1 a2 M = some out) : Ct l E D dA lo H0 yX16_field cX16_field 8 (some .boolean) 7 154 [pR (some a0), pI a1, pI a2] M (some (pI out.1)) out.2 := by
  refine ct_of (by decide +kernel) (Nat.le_of_ble_eq_true rfl) ?_
  intro x hl he hd ha ho hh hn hin X hE
  exact wX16_field X hE hn fu a0 a1 a2 M h
/-! WebHostModel.hexadecimal(I)I -/
def fX16_hexadecimal (fu : Nat)  (a0 : Int32)  (M : Mm) : Option (Int32 × Mm) :=
    b2 (fX16_isDigit fu  a0 M) fun v2 M1 =>
    if v2 = 0 then (
    b2 (fX16_small fu  a0 M1) fun v4 M3 =>
    if v4 < (97 : Int32) then (
    some ((-1 : Int32), M3))
    else (
    b2 (fX16_small fu  a0 M3) fun v6 M5 =>
    if (102 : Int32) < v6 then (
    some ((-1 : Int32), M5))
    else (
    b2 (fX16_small fu  a0 M5) fun v8 M7 =>
    some (((v8 - (97 : Int32)) + (10 : Int32)), M7))))
    else (
    some ((a0 - (48 : Int32)), M1))
theorem dX16_hexadecimal_0 : decode cX16_hexadecimal 0 = .ok (.iload_n 0, 1) := by decide +kernel
theorem dX16_hexadecimal_1 : decode cX16_hexadecimal 1 = .ok (.invokestatic 728, 3) := by decide +kernel
theorem dX16_hexadecimal_4 : decode cX16_hexadecimal 4 = .ok (.ifCond .eq 10, 3) := by decide +kernel
theorem dX16_hexadecimal_7 : decode cX16_hexadecimal 7 = .ok (.iload_n 0, 1) := by decide +kernel
theorem dX16_hexadecimal_8 : decode cX16_hexadecimal 8 = .ok (.bipush 48, 2) := by decide +kernel
theorem dX16_hexadecimal_10 : decode cX16_hexadecimal 10 = .ok (.isub, 1) := by decide +kernel
theorem dX16_hexadecimal_11 : decode cX16_hexadecimal 11 = .ok (.goto 35, 3) := by decide +kernel
theorem dX16_hexadecimal_14 : decode cX16_hexadecimal 14 = .ok (.iload_n 0, 1) := by decide +kernel
theorem dX16_hexadecimal_15 : decode cX16_hexadecimal 15 = .ok (.invokestatic 725, 3) := by decide +kernel
theorem dX16_hexadecimal_18 : decode cX16_hexadecimal 18 = .ok (.bipush 97, 2) := by decide +kernel
theorem dX16_hexadecimal_20 : decode cX16_hexadecimal 20 = .ok (.if_icmp .lt 25, 3) := by decide +kernel
theorem dX16_hexadecimal_23 : decode cX16_hexadecimal 23 = .ok (.iload_n 0, 1) := by decide +kernel
theorem dX16_hexadecimal_24 : decode cX16_hexadecimal 24 = .ok (.invokestatic 725, 3) := by decide +kernel
theorem dX16_hexadecimal_27 : decode cX16_hexadecimal 27 = .ok (.bipush 102, 2) := by decide +kernel
theorem dX16_hexadecimal_29 : decode cX16_hexadecimal 29 = .ok (.if_icmp .gt 16, 3) := by decide +kernel
theorem dX16_hexadecimal_32 : decode cX16_hexadecimal 32 = .ok (.iload_n 0, 1) := by decide +kernel
theorem dX16_hexadecimal_33 : decode cX16_hexadecimal 33 = .ok (.invokestatic 725, 3) := by decide +kernel
theorem dX16_hexadecimal_36 : decode cX16_hexadecimal 36 = .ok (.bipush 97, 2) := by decide +kernel
theorem dX16_hexadecimal_38 : decode cX16_hexadecimal 38 = .ok (.isub, 1) := by decide +kernel
theorem dX16_hexadecimal_39 : decode cX16_hexadecimal 39 = .ok (.bipush 10, 2) := by decide +kernel
theorem dX16_hexadecimal_41 : decode cX16_hexadecimal 41 = .ok (.iadd, 1) := by decide +kernel
theorem dX16_hexadecimal_42 : decode cX16_hexadecimal 42 = .ok (.goto 4, 3) := by decide +kernel
theorem dX16_hexadecimal_45 : decode cX16_hexadecimal 45 = .ok (.iconst (-1), 1) := by decide +kernel
theorem dX16_hexadecimal_46 : decode cX16_hexadecimal 46 = .ok (.ireturn, 1) := by decide +kernel
theorem wX16_hexadecimal {x : GX} {n0 sl0 : Nat} (X : Cx x cX16_hexadecimal RX16 (some .int) n0 sl0 1 20) {out : Int32 × Mm} (hE : Ends x n0 sl0 (some (pI out.1)) out.2) (hn : xn x = 1) (fu : Nat)   (a0 : Int32)  (M : Mm) (h : fX16_hexadecimal fu  a0 M = some out) : Gw x M 0 [(0, pI a0)] [] := by
  unfold fX16_hexadecimal at h
  refine g_iload_n X (pc := 0) 0 rfl rfl dX16_hexadecimal_0 ?_
  obtain ⟨v2, M1, eM1, h⟩ := b2d h
  refine g_callS X (pc := 1) (M' := M1) (ro := some (pI v2)) (as := [pI a0]) (as' := [pI a0]) (st := []) (ctX16_isDigit _ _ _ _ _ _ fu  a0 M _ eM1) tb_2375 tb_2373 tb_2374 tb_8 hyX16_isDigit rfl rfl ⟨by decide, by decide⟩ (Nat.le_of_ble_eq_true rfl) dX16_hexadecimal_1 ?_
  refine g_if_eq X (pc := 4) (tgt := 14) dX16_hexadecimal_4 (by decide) (fun hc => ?_) (fun hc => ?_)
  · have h := (if_pos hc).symm.trans h
    refine g_iload_n X (pc := 14) 0 rfl rfl dX16_hexadecimal_14 ?_
    obtain ⟨v4, M3, eM3, h⟩ := b2d h
    refine g_callS X (pc := 15) (M' := M3) (ro := some (pI v4)) (as := [pI a0]) (as' := [pI a0]) (st := []) (ctX16_small _ _ _ _ _ _ fu  a0 M1 _ eM3) tb_2372 tb_2370 tb_2371 tb_8 hyX16_small rfl rfl ⟨by decide, by decide⟩ (Nat.le_of_ble_eq_true rfl) dX16_hexadecimal_15 ?_
    refine g_bipush X (pc := 18) (v := 97) dX16_hexadecimal_18 (by decide) ?_
    refine g_icmp_lt X (pc := 20) (tgt := 45) dX16_hexadecimal_20 (by decide) (fun hc => ?_) (fun hc => ?_)
    · have h := (if_pos hc).symm.trans h
      refine g_iconst X (pc := 45) (v := (-1)) dX16_hexadecimal_45 (by decide) ?_
      obtain rfl := Option.some.inj h
      exact g_ireturn X hE dX16_hexadecimal_46
    · have h := (if_neg hc).symm.trans h
      refine g_iload_n X (pc := 23) 0 rfl rfl dX16_hexadecimal_23 ?_
      obtain ⟨v6, M5, eM5, h⟩ := b2d h
      refine g_callS X (pc := 24) (M' := M5) (ro := some (pI v6)) (as := [pI a0]) (as' := [pI a0]) (st := []) (ctX16_small _ _ _ _ _ _ fu  a0 M3 _ eM5) tb_2372 tb_2370 tb_2371 tb_8 hyX16_small rfl rfl ⟨by decide, by decide⟩ (Nat.le_of_ble_eq_true rfl) dX16_hexadecimal_24 ?_
      refine g_bipush X (pc := 27) (v := 102) dX16_hexadecimal_27 (by decide) ?_
      refine g_icmp_gt X (pc := 29) (tgt := 45) dX16_hexadecimal_29 (by decide) (fun hc => ?_) (fun hc => ?_)
      · have h := (if_pos hc).symm.trans h
        refine g_iconst X (pc := 45) (v := (-1)) dX16_hexadecimal_45 (by decide) ?_
        obtain rfl := Option.some.inj h
        exact g_ireturn X hE dX16_hexadecimal_46
      · have h := (if_neg hc).symm.trans h
        refine g_iload_n X (pc := 32) 0 rfl rfl dX16_hexadecimal_32 ?_
        obtain ⟨v8, M7, eM7, h⟩ := b2d h
        refine g_callS X (pc := 33) (M' := M7) (ro := some (pI v8)) (as := [pI a0]) (as' := [pI a0]) (st := []) (ctX16_small _ _ _ _ _ _ fu  a0 M5 _ eM7) tb_2372 tb_2370 tb_2371 tb_8 hyX16_small rfl rfl ⟨by decide, by decide⟩ (Nat.le_of_ble_eq_true rfl) dX16_hexadecimal_33 ?_
        refine g_bipush X (pc := 36) (v := 97) dX16_hexadecimal_36 (by decide) ?_
        refine g_isub X (pc := 38) dX16_hexadecimal_38 ?_
        refine g_bipush X (pc := 39) (v := 10) dX16_hexadecimal_39 (by decide) ?_
        refine g_iadd X (pc := 41) dX16_hexadecimal_41 ?_
        refine g_goto X (pc := 42) (tgt := 46) dX16_hexadecimal_42 (by decide) ?_
        obtain rfl := Option.some.inj h
        exact g_ireturn X hE dX16_hexadecimal_46
  · have h := (if_neg hc).symm.trans h
    refine g_iload_n X (pc := 7) 0 rfl rfl dX16_hexadecimal_7 ?_
    refine g_bipush X (pc := 8) (v := 48) dX16_hexadecimal_8 (by decide) ?_
    refine g_isub X (pc := 10) dX16_hexadecimal_10 ?_
    refine g_goto X (pc := 11) (tgt := 46) dX16_hexadecimal_11 (by decide) ?_
    obtain rfl := Option.some.inj h
    exact g_ireturn X hE dX16_hexadecimal_46
theorem hyX16_hexadecimal : yX16_hexadecimal.cls ≠ "java/lang/invoke/MethodHandle" ∧ yX16_hexadecimal.cls ≠ "java/lang/invoke/VarHandle" ∧ (parseMethodDescriptor yX16_hexadecimal.desc).map (fun d => d.parameters.length) = some 1 := ⟨by decide +kernel, by decide +kernel, by decide +kernel⟩
theorem ctX16_hexadecimal (l : Launch) (E : Nat → Nat) (D : va_G) (dA : Nat → ClassId) (lo : Nat) (H0 : Heap) (fu : Nat) (a0 : Int32) (M : Mm) (out : Int32 × Mm) (h : fX16_hexadecimal fu a0 M = some out) : Ct l E D dA lo H0 yX16_hexadecimal cX16_hexadecimal 1 (some .int) 1 20 [pI a0] M (some (pI out.1)) out.2 := by
  refine ct_of (by decide +kernel) (Nat.le_of_ble_eq_true rfl) ?_
  intro x hl he hd ha ho hh hn hin X hE
  exact wX16_hexadecimal X hE hn fu a0 M h
/-! WebHostModel.unfolded()Z -/
def fX16_unfolded_L174 (fu : Nat)  : Nat → Nat → Option Nat → Int32 → Mm → Option (Int32 × Mm)
  | 0, _, _, _, _ => none
  | n + 1, a0, a2, a3, M =>
    (rcS a2).bind fun q1 =>
    b2 (fJ0_length_8abf5 fu q1  M) fun v3 M2 =>
    if v3 ≤ a3 then (
    (gI M2 16 1083 (some a0)).bind fun v4 =>
    (rcS a2).bind fun q5 =>
    b2 (fJ0_length_8abf5 fu q5  M2) fun v7 M6 =>
    (pF M6 16 1083 (some a0) (v4 + v7)).bind fun M8 =>
    rN .boolean (1 : Int32) M8)
    else (
    (gR M2 16 1082 (some a0)).bind fun v9 =>
    (gI M2 16 1083 (some a0)).bind fun v10 =>
    (rcS a2).bind fun q11 =>
    b2 (fJ0_charAt_5068e fu q11 a3 M2) fun v13 M12 =>
    (pA M12 100 v9 (v10 + a3) (Int8.toInt32 (Int32.toInt8 (Int8.toInt32 (Int32.toInt8 v13))))).bind fun M14 =>
    fX16_unfolded_L174 fu  n a0 a2 (a3 + (1 : Int32)) M14)
def fX16_unfolded_L152 (fu : Nat)  (a0 : Nat)  (M : Mm) : Option (Int32 × Mm) :=
    (gR M 16 1082 (some a0)).bind fun v1 =>
    (gI M 16 1083 (some a0)).bind fun v2 =>
    (gA M 100 v1 (v2 - (1 : Int32))).bind fun v3 =>
    if v3 = (47 : Int32) then (
    fX16_unfolded_L174 fu  fu a0 (some 12) (0 : Int32) M)
    else (
    rN .boolean (1 : Int32) M)
def fX16_unfolded_L128 (fu : Nat) (k10 : Nat → Int32 → Mm → Option (Int32 × Mm)) (a0 : Nat) (a1 : Int32) (a2 : Int32)  (M : Mm) : Option (Int32 × Mm) :=
    (gR M 16 1082 (some a0)).bind fun v1 =>
    (gI M 16 1083 (some a0)).bind fun v2 =>
    (pA M 100 v1 v2 (Int8.toInt32 (Int32.toInt8 (Int8.toInt32 (Int32.toInt8 a2))))).bind fun M3 =>
    (gI M3 16 1083 (some a0)).bind fun v4 =>
    (pF M3 16 1083 (some a0) (v4 + (1 : Int32))).bind fun M5 =>
    k10 a0 a1 M5
def fX16_unfolded_L89 (fu : Nat) (k10 : Nat → Int32 → Mm → Option (Int32 × Mm)) (a0 : Nat) (a1 : Int32) (a3 : Int32) (s0 : Int32) (M : Mm) : Option (Int32 × Mm) :=
    if a3 < 0 then (
    rN .boolean (0 : Int32) M)
    else (
    if 0 ≤ s0 then (
    if (((16 : Int32) * a3) + s0) < (33 : Int32) then (
    rN .boolean (0 : Int32) M)
    else (
    if (((16 : Int32) * a3) + s0) ≤ (126 : Int32) then (
    fX16_unfolded_L128 fu k10 a0 (a1 + (2 : Int32)) (((16 : Int32) * a3) + s0) M)
    else (
    rN .boolean (0 : Int32) M)))
    else (
    rN .boolean (0 : Int32) M))
def fX16_unfolded_L64 (fu : Nat) (k10 : Nat → Int32 → Mm → Option (Int32 × Mm)) (a0 : Nat) (a1 : Int32) (s0 : Int32) (M : Mm) : Option (Int32 × Mm) :=
    (gI M 16 1081 (some a0)).bind fun v1 =>
    if v1 ≤ (a1 + (1 : Int32)) then (
    fX16_unfolded_L89 fu k10 a0 a1 s0 (-1 : Int32) M)
    else (
    (rc M 16 (some a0)).bind fun q2 =>
    b2 (fX16_headAt fu q2 (a1 + (1 : Int32)) M) fun v4 M3 =>
    b2 (fX16_hexadecimal fu  v4 M3) fun v6 M5 =>
    fX16_unfolded_L89 fu k10 a0 a1 s0 v6 M5)
def fX16_unfolded_L10 (fu : Nat)  : Nat → Nat → Int32 → Mm → Option (Int32 × Mm)
  | 0, _, _, _ => none
  | n + 1, a0, a1, M =>
    (gI M 16 1081 (some a0)).bind fun v1 =>
    if v1 ≤ a1 then (
    fX16_unfolded_L152 fu  a0 M)
    else (
    (gR M 16 1065 (some a0)).bind fun v2 =>
    (gA M 100 v2 a1).bind fun v3 =>
    if v3 = (63 : Int32) then (
    fX16_unfolded_L152 fu  a0 M)
    else (
    (rc M 16 (some a0)).bind fun q4 =>
    b2 (fX16_headAt fu q4 a1 M) fun v6 M5 =>
    if v6 = (37 : Int32) then (
    (gI M5 16 1081 (some a0)).bind fun v7 =>
    if v7 ≤ (a1 + (1 : Int32)) then (
    fX16_unfolded_L64 fu (fun b0 b1 M => fX16_unfolded_L10 fu  n b0 b1 M) a0 (a1 + (1 : Int32)) (-1 : Int32) M5)
    else (
    (rc M5 16 (some a0)).bind fun q8 =>
    b2 (fX16_headAt fu q8 (a1 + (1 : Int32)) M5) fun v10 M9 =>
    b2 (fX16_hexadecimal fu  v10 M9) fun v12 M11 =>
    fX16_unfolded_L64 fu (fun b0 b1 M => fX16_unfolded_L10 fu  n b0 b1 M) a0 (a1 + (1 : Int32)) v12 M11))
    else (
    fX16_unfolded_L128 fu (fun b0 b1 M => fX16_unfolded_L10 fu  n b0 b1 M) a0 (a1 + (1 : Int32)) v6 M5)))
def fX16_unfolded (fu : Nat)  (a0 : Nat)  (M : Mm) : Option (Int32 × Mm) :=
    (pF M 16 1083 (some a0) (0 : Int32)).bind fun M1 =>
    (gI M1 16 1080 (some a0)).bind fun v2 =>
    fX16_unfolded_L10 fu  fu a0 v2 M1
theorem dX16_unfolded_0 : decode cX16_unfolded 0 = .ok (.aload_n 0, 1) := by decide +kernel
theorem dX16_unfolded_1 : decode cX16_unfolded 1 = .ok (.iconst 0, 1) := by decide +kernel
theorem dX16_unfolded_2 : decode cX16_unfolded 2 = .ok (.putfield 776, 3) := by decide +kernel
theorem dX16_unfolded_5 : decode cX16_unfolded 5 = .ok (.aload_n 0, 1) := by decide +kernel
theorem dX16_unfolded_6 : decode cX16_unfolded 6 = .ok (.getfield 711, 3) := by decide +kernel
theorem dX16_unfolded_9 : decode cX16_unfolded 9 = .ok (.istore_n 1, 1) := by decide +kernel
theorem dX16_unfolded_10 : decode cX16_unfolded 10 = .ok (.iload_n 1, 1) := by decide +kernel
theorem dX16_unfolded_11 : decode cX16_unfolded 11 = .ok (.aload_n 0, 1) := by decide +kernel
theorem dX16_unfolded_12 : decode cX16_unfolded 12 = .ok (.getfield 714, 3) := by decide +kernel
theorem dX16_unfolded_15 : decode cX16_unfolded 15 = .ok (.if_icmp .ge 137, 3) := by decide +kernel
theorem dX16_unfolded_18 : decode cX16_unfolded 18 = .ok (.aload_n 0, 1) := by decide +kernel
theorem dX16_unfolded_19 : decode cX16_unfolded 19 = .ok (.getfield 74, 3) := by decide +kernel
theorem dX16_unfolded_22 : decode cX16_unfolded 22 = .ok (.iload_n 1, 1) := by decide +kernel
theorem dX16_unfolded_23 : decode cX16_unfolded 23 = .ok (.baload, 1) := by decide +kernel
theorem dX16_unfolded_24 : decode cX16_unfolded 24 = .ok (.bipush 63, 2) := by decide +kernel
theorem dX16_unfolded_26 : decode cX16_unfolded 26 = .ok (.if_icmp .eq 126, 3) := by decide +kernel
theorem dX16_unfolded_29 : decode cX16_unfolded 29 = .ok (.aload_n 0, 1) := by decide +kernel
theorem dX16_unfolded_30 : decode cX16_unfolded 30 = .ok (.iload_n 1, 1) := by decide +kernel
theorem dX16_unfolded_31 : decode cX16_unfolded 31 = .ok (.invokevirtual 693, 3) := by decide +kernel
theorem dX16_unfolded_34 : decode cX16_unfolded 34 = .ok (.istore_n 2, 1) := by decide +kernel
theorem dX16_unfolded_35 : decode cX16_unfolded 35 = .ok (.iinc 1 1, 3) := by decide +kernel
theorem dX16_unfolded_38 : decode cX16_unfolded 38 = .ok (.iload_n 2, 1) := by decide +kernel
theorem dX16_unfolded_39 : decode cX16_unfolded 39 = .ok (.bipush 37, 2) := by decide +kernel
theorem dX16_unfolded_41 : decode cX16_unfolded 41 = .ok (.if_icmp .ne 87, 3) := by decide +kernel
theorem dX16_unfolded_44 : decode cX16_unfolded 44 = .ok (.iload_n 1, 1) := by decide +kernel
theorem dX16_unfolded_45 : decode cX16_unfolded 45 = .ok (.aload_n 0, 1) := by decide +kernel
theorem dX16_unfolded_46 : decode cX16_unfolded 46 = .ok (.getfield 714, 3) := by decide +kernel
theorem dX16_unfolded_49 : decode cX16_unfolded 49 = .ok (.if_icmp .ge 14, 3) := by decide +kernel
theorem dX16_unfolded_52 : decode cX16_unfolded 52 = .ok (.aload_n 0, 1) := by decide +kernel
theorem dX16_unfolded_53 : decode cX16_unfolded 53 = .ok (.iload_n 1, 1) := by decide +kernel
theorem dX16_unfolded_54 : decode cX16_unfolded 54 = .ok (.invokevirtual 693, 3) := by decide +kernel
theorem dX16_unfolded_57 : decode cX16_unfolded 57 = .ok (.invokestatic 779, 3) := by decide +kernel
theorem dX16_unfolded_60 : decode cX16_unfolded 60 = .ok (.goto 4, 3) := by decide +kernel
theorem dX16_unfolded_63 : decode cX16_unfolded 63 = .ok (.iconst (-1), 1) := by decide +kernel
theorem dX16_unfolded_64 : decode cX16_unfolded 64 = .ok (.istore_n 3, 1) := by decide +kernel
theorem dX16_unfolded_65 : decode cX16_unfolded 65 = .ok (.iload_n 1, 1) := by decide +kernel
theorem dX16_unfolded_66 : decode cX16_unfolded 66 = .ok (.iconst 1, 1) := by decide +kernel
theorem dX16_unfolded_67 : decode cX16_unfolded 67 = .ok (.iadd, 1) := by decide +kernel
theorem dX16_unfolded_68 : decode cX16_unfolded 68 = .ok (.aload_n 0, 1) := by decide +kernel
theorem dX16_unfolded_69 : decode cX16_unfolded 69 = .ok (.getfield 714, 3) := by decide +kernel
theorem dX16_unfolded_72 : decode cX16_unfolded 72 = .ok (.if_icmp .ge 16, 3) := by decide +kernel
theorem dX16_unfolded_75 : decode cX16_unfolded 75 = .ok (.aload_n 0, 1) := by decide +kernel
theorem dX16_unfolded_76 : decode cX16_unfolded 76 = .ok (.iload_n 1, 1) := by decide +kernel
theorem dX16_unfolded_77 : decode cX16_unfolded 77 = .ok (.iconst 1, 1) := by decide +kernel
theorem dX16_unfolded_78 : decode cX16_unfolded 78 = .ok (.iadd, 1) := by decide +kernel
theorem dX16_unfolded_79 : decode cX16_unfolded 79 = .ok (.invokevirtual 693, 3) := by decide +kernel
theorem dX16_unfolded_82 : decode cX16_unfolded 82 = .ok (.invokestatic 779, 3) := by decide +kernel
theorem dX16_unfolded_85 : decode cX16_unfolded 85 = .ok (.goto 4, 3) := by decide +kernel
theorem dX16_unfolded_88 : decode cX16_unfolded 88 = .ok (.iconst (-1), 1) := by decide +kernel
theorem dX16_unfolded_89 : decode cX16_unfolded 89 = .ok (.istore 4, 2) := by decide +kernel
theorem dX16_unfolded_91 : decode cX16_unfolded 91 = .ok (.iload_n 3, 1) := by decide +kernel
theorem dX16_unfolded_92 : decode cX16_unfolded 92 = .ok (.ifCond .lt 8, 3) := by decide +kernel
theorem dX16_unfolded_95 : decode cX16_unfolded 95 = .ok (.iload 4, 2) := by decide +kernel
theorem dX16_unfolded_97 : decode cX16_unfolded 97 = .ok (.ifCond .ge 5, 3) := by decide +kernel
theorem dX16_unfolded_100 : decode cX16_unfolded 100 = .ok (.iconst 0, 1) := by decide +kernel
theorem dX16_unfolded_101 : decode cX16_unfolded 101 = .ok (.ireturn, 1) := by decide +kernel
theorem dX16_unfolded_102 : decode cX16_unfolded 102 = .ok (.bipush 16, 2) := by decide +kernel
theorem dX16_unfolded_104 : decode cX16_unfolded 104 = .ok (.iload_n 3, 1) := by decide +kernel
theorem dX16_unfolded_105 : decode cX16_unfolded 105 = .ok (.imul, 1) := by decide +kernel
theorem dX16_unfolded_106 : decode cX16_unfolded 106 = .ok (.iload 4, 2) := by decide +kernel
theorem dX16_unfolded_108 : decode cX16_unfolded 108 = .ok (.iadd, 1) := by decide +kernel
theorem dX16_unfolded_109 : decode cX16_unfolded 109 = .ok (.istore_n 2, 1) := by decide +kernel
theorem dX16_unfolded_110 : decode cX16_unfolded 110 = .ok (.iload_n 2, 1) := by decide +kernel
theorem dX16_unfolded_111 : decode cX16_unfolded 111 = .ok (.bipush 33, 2) := by decide +kernel
theorem dX16_unfolded_113 : decode cX16_unfolded 113 = .ok (.if_icmp .lt 9, 3) := by decide +kernel
theorem dX16_unfolded_116 : decode cX16_unfolded 116 = .ok (.iload_n 2, 1) := by decide +kernel
theorem dX16_unfolded_117 : decode cX16_unfolded 117 = .ok (.bipush 126, 2) := by decide +kernel
theorem dX16_unfolded_119 : decode cX16_unfolded 119 = .ok (.if_icmp .le 5, 3) := by decide +kernel
theorem dX16_unfolded_122 : decode cX16_unfolded 122 = .ok (.iconst 0, 1) := by decide +kernel
theorem dX16_unfolded_123 : decode cX16_unfolded 123 = .ok (.ireturn, 1) := by decide +kernel
theorem dX16_unfolded_124 : decode cX16_unfolded 124 = .ok (.iload_n 1, 1) := by decide +kernel
theorem dX16_unfolded_125 : decode cX16_unfolded 125 = .ok (.iconst 2, 1) := by decide +kernel
theorem dX16_unfolded_126 : decode cX16_unfolded 126 = .ok (.iadd, 1) := by decide +kernel
theorem dX16_unfolded_127 : decode cX16_unfolded 127 = .ok (.istore_n 1, 1) := by decide +kernel
theorem dX16_unfolded_128 : decode cX16_unfolded 128 = .ok (.aload_n 0, 1) := by decide +kernel
theorem dX16_unfolded_129 : decode cX16_unfolded 129 = .ok (.getfield 77, 3) := by decide +kernel
theorem dX16_unfolded_132 : decode cX16_unfolded 132 = .ok (.aload_n 0, 1) := by decide +kernel
theorem dX16_unfolded_133 : decode cX16_unfolded 133 = .ok (.getfield 776, 3) := by decide +kernel
theorem dX16_unfolded_136 : decode cX16_unfolded 136 = .ok (.iload_n 2, 1) := by decide +kernel
theorem dX16_unfolded_137 : decode cX16_unfolded 137 = .ok (.i2b, 1) := by decide +kernel
theorem dX16_unfolded_138 : decode cX16_unfolded 138 = .ok (.bastore, 1) := by decide +kernel
theorem dX16_unfolded_139 : decode cX16_unfolded 139 = .ok (.aload_n 0, 1) := by decide +kernel
theorem dX16_unfolded_140 : decode cX16_unfolded 140 = .ok (.dup, 1) := by decide +kernel
theorem dX16_unfolded_141 : decode cX16_unfolded 141 = .ok (.getfield 776, 3) := by decide +kernel
theorem dX16_unfolded_144 : decode cX16_unfolded 144 = .ok (.iconst 1, 1) := by decide +kernel
theorem dX16_unfolded_145 : decode cX16_unfolded 145 = .ok (.iadd, 1) := by decide +kernel
theorem dX16_unfolded_146 : decode cX16_unfolded 146 = .ok (.putfield 776, 3) := by decide +kernel
theorem dX16_unfolded_149 : decode cX16_unfolded 149 = .ok (.goto (-139), 3) := by decide +kernel
theorem dX16_unfolded_152 : decode cX16_unfolded 152 = .ok (.aload_n 0, 1) := by decide +kernel
theorem dX16_unfolded_153 : decode cX16_unfolded 153 = .ok (.getfield 77, 3) := by decide +kernel
theorem dX16_unfolded_156 : decode cX16_unfolded 156 = .ok (.aload_n 0, 1) := by decide +kernel
theorem dX16_unfolded_157 : decode cX16_unfolded 157 = .ok (.getfield 776, 3) := by decide +kernel
theorem dX16_unfolded_160 : decode cX16_unfolded 160 = .ok (.iconst 1, 1) := by decide +kernel
theorem dX16_unfolded_161 : decode cX16_unfolded 161 = .ok (.isub, 1) := by decide +kernel
theorem dX16_unfolded_162 : decode cX16_unfolded 162 = .ok (.baload, 1) := by decide +kernel
theorem dX16_unfolded_163 : decode cX16_unfolded 163 = .ok (.bipush 47, 2) := by decide +kernel
theorem dX16_unfolded_165 : decode cX16_unfolded 165 = .ok (.if_icmp .ne 53, 3) := by decide +kernel
theorem dX16_unfolded_168 : decode cX16_unfolded 168 = .ok (.ldc_w 782, 3) := by decide +kernel
theorem dX16_unfolded_171 : decode cX16_unfolded 171 = .ok (.astore_n 2, 1) := by decide +kernel
theorem dX16_unfolded_172 : decode cX16_unfolded 172 = .ok (.iconst 0, 1) := by decide +kernel
theorem dX16_unfolded_173 : decode cX16_unfolded 173 = .ok (.istore_n 3, 1) := by decide +kernel
theorem dX16_unfolded_174 : decode cX16_unfolded 174 = .ok (.iload_n 3, 1) := by decide +kernel
theorem dX16_unfolded_175 : decode cX16_unfolded 175 = .ok (.aload_n 2, 1) := by decide +kernel
theorem dX16_unfolded_176 : decode cX16_unfolded 176 = .ok (.invokevirtual 717, 3) := by decide +kernel
theorem dX16_unfolded_179 : decode cX16_unfolded 179 = .ok (.if_icmp .ge 26, 3) := by decide +kernel
theorem dX16_unfolded_182 : decode cX16_unfolded 182 = .ok (.aload_n 0, 1) := by decide +kernel
theorem dX16_unfolded_183 : decode cX16_unfolded 183 = .ok (.getfield 77, 3) := by decide +kernel
theorem dX16_unfolded_186 : decode cX16_unfolded 186 = .ok (.aload_n 0, 1) := by decide +kernel
theorem dX16_unfolded_187 : decode cX16_unfolded 187 = .ok (.getfield 776, 3) := by decide +kernel
theorem dX16_unfolded_190 : decode cX16_unfolded 190 = .ok (.iload_n 3, 1) := by decide +kernel
theorem dX16_unfolded_191 : decode cX16_unfolded 191 = .ok (.iadd, 1) := by decide +kernel
theorem dX16_unfolded_192 : decode cX16_unfolded 192 = .ok (.aload_n 2, 1) := by decide +kernel
theorem dX16_unfolded_193 : decode cX16_unfolded 193 = .ok (.iload_n 3, 1) := by decide +kernel
theorem dX16_unfolded_194 : decode cX16_unfolded 194 = .ok (.invokevirtual 721, 3) := by decide +kernel
theorem dX16_unfolded_197 : decode cX16_unfolded 197 = .ok (.i2b, 1) := by decide +kernel
theorem dX16_unfolded_198 : decode cX16_unfolded 198 = .ok (.bastore, 1) := by decide +kernel
theorem dX16_unfolded_199 : decode cX16_unfolded 199 = .ok (.iinc 3 1, 3) := by decide +kernel
theorem dX16_unfolded_202 : decode cX16_unfolded 202 = .ok (.goto (-28), 3) := by decide +kernel
theorem dX16_unfolded_205 : decode cX16_unfolded 205 = .ok (.aload_n 0, 1) := by decide +kernel
theorem dX16_unfolded_206 : decode cX16_unfolded 206 = .ok (.aload_n 0, 1) := by decide +kernel
theorem dX16_unfolded_207 : decode cX16_unfolded 207 = .ok (.getfield 776, 3) := by decide +kernel
theorem dX16_unfolded_210 : decode cX16_unfolded 210 = .ok (.aload_n 2, 1) := by decide +kernel
theorem dX16_unfolded_211 : decode cX16_unfolded 211 = .ok (.invokevirtual 717, 3) := by decide +kernel
theorem dX16_unfolded_214 : decode cX16_unfolded 214 = .ok (.iadd, 1) := by decide +kernel
theorem dX16_unfolded_215 : decode cX16_unfolded 215 = .ok (.putfield 776, 3) := by decide +kernel
theorem dX16_unfolded_218 : decode cX16_unfolded 218 = .ok (.iconst 1, 1) := by decide +kernel
theorem dX16_unfolded_219 : decode cX16_unfolded 219 = .ok (.ireturn, 1) := by decide +kernel
theorem wX16_unfolded_L174 {x : GX} {n0 sl0 : Nat} (X : Cx x cX16_unfolded RX16 (some .boolean) n0 sl0 5 106) {out : Int32 × Mm} (hE : Ends x n0 sl0 (some (pI out.1)) out.2) (hn : xn x = 5) (fu : Nat)   : ∀ (n : Nat) (a0 : Nat) (a2 : Option Nat) (a3 : Int32)  (M : Mm), fX16_unfolded_L174 fu  n a0 a2 a3 M = some out → Gw x M 174 [(0, pR (some a0)), (2, pR a2), (3, pI a3)] [] := by
  intro n
  induction n with
  | zero =>
    intro a0 a2 a3 M h
    have h : (none : Option (Int32 × Mm)) = some out := h
    cases h
  | succ n ih =>
    intro a0 a2 a3 M h
    rw [fX16_unfolded_L174] at h
    refine g_iload_n X (pc := 174) 2 rfl rfl dX16_unfolded_174 ?_
    refine g_aload_n X (pc := 175) 1 rfl rfl dX16_unfolded_175 ?_
    obtain ⟨q1, eq1, h⟩ := bd h
    obtain ⟨v3, M2, eM2, h⟩ := b2d h
    refine g_callVS X (pc := 176) (M' := M2) (ro := some (pI v3)) (as := []) (as' := []) (st := [pI a3]) eq1 (ctJ0_length_8abf5 _ _ _ _ _ _ fu q1  M _ eM2) tb_1214 tb_2358 tb_1212 tb_1213 tb_21 ⟨rfl, hyJ0_length_8abf5⟩ rfl rfl ⟨by decide, by decide⟩ (Nat.le_of_ble_eq_true rfl) dX16_unfolded_176 ?_
    refine g_icmp_ge X (pc := 179) (tgt := 205) dX16_unfolded_179 (by decide) (fun hc => ?_) (fun hc => ?_)
    · have h := (if_pos hc).symm.trans h
      refine g_aload_n X (pc := 205) 0 rfl rfl dX16_unfolded_205 ?_
      refine g_aload_n X (pc := 206) 0 rfl rfl dX16_unfolded_206 ?_
      obtain ⟨v4, ev4, h⟩ := bd h
      refine g_getI X (pc := 207) fk_16_59 rfl rfl ev4 tb_1873 dX16_unfolded_207 ?_
      refine g_aload_n X (pc := 210) 1 rfl rfl dX16_unfolded_210 ?_
      obtain ⟨q5, eq5, h⟩ := bd h
      obtain ⟨v7, M6, eM6, h⟩ := b2d h
      refine g_callVS X (pc := 211) (M' := M6) (ro := some (pI v7)) (as := []) (as' := []) (st := [pI v4, pR (some a0)]) eq5 (ctJ0_length_8abf5 _ _ _ _ _ _ fu q5  M2 _ eM6) tb_1214 tb_2358 tb_1212 tb_1213 tb_21 ⟨rfl, hyJ0_length_8abf5⟩ rfl rfl ⟨by decide, by decide⟩ (Nat.le_of_ble_eq_true rfl) dX16_unfolded_211 ?_
      refine g_iadd X (pc := 214) dX16_unfolded_214 ?_
      obtain ⟨M8, eM8, h⟩ := bd h
      refine g_putI X (pc := 215) fk_16_59 rfl rfl rfl eM8 tb_1873 (Or.inl rfl) dX16_unfolded_215 ?_
      refine g_iconst X (pc := 218) (v := 1) dX16_unfolded_218 (by decide) ?_
      obtain ⟨hz, rfl⟩ := rN_some h
      exact g_nreturn X rfl hz hE dX16_unfolded_219
    · have h := (if_neg hc).symm.trans h
      refine g_aload_n X (pc := 182) 0 rfl rfl dX16_unfolded_182 ?_
      obtain ⟨v9, ev9, h⟩ := bd h
      refine g_getR X (pc := 183) fk_16_58 rfl rfl ev9 tb_1872 dX16_unfolded_183 ?_
      refine g_aload_n X (pc := 186) 0 rfl rfl dX16_unfolded_186 ?_
      obtain ⟨v10, ev10, h⟩ := bd h
      refine g_getI X (pc := 187) fk_16_59 rfl rfl ev10 tb_1873 dX16_unfolded_187 ?_
      refine g_iload_n X (pc := 190) 2 rfl rfl dX16_unfolded_190 ?_
      refine g_iadd X (pc := 191) dX16_unfolded_191 ?_
      refine g_aload_n X (pc := 192) 1 rfl rfl dX16_unfolded_192 ?_
      refine g_iload_n X (pc := 193) 2 rfl rfl dX16_unfolded_193 ?_
      obtain ⟨q11, eq11, h⟩ := bd h
      obtain ⟨v13, M12, eM12, h⟩ := b2d h
      refine g_callVS X (pc := 194) (M' := M12) (ro := some (pI v13)) (as := [pI a3]) (as' := [pI a3]) (st := [pI (v10 + a3), pR v9]) eq11 (ctJ0_charAt_5068e _ _ _ _ _ _ fu q11 a3 M2 _ eM12) tb_1224 tb_2359 tb_1222 tb_1223 tb_21 ⟨rfl, hyJ0_charAt_5068e⟩ rfl rfl ⟨by decide, by decide⟩ (Nat.le_of_ble_eq_true rfl) dX16_unfolded_194 ?_
      refine g_i2b X (pc := 197) dX16_unfolded_197 ?_
      obtain ⟨M14, eM14, h⟩ := bd h
      refine g_bastore X (pc := 198) eM14 dX16_unfolded_198 ?_
      refine g_iinc X (pc := 199) 2 [(3, pI (a3 + (1 : Int32))), (0, pR (some a0)), (2, pR a2)] rfl (iinc_e (by decide)) (lt_n hn (by decide)) rfl dX16_unfolded_199 ?_
      refine g_goto X (pc := 202) (tgt := 174) dX16_unfolded_202 (by decide) ?_
      refine g_sub [1, 2, 0] [(0, pR (some a0)), (2, pR a2), (3, pI (a3 + (1 : Int32)))] rfl ?_
      exact ih a0 a2 (a3 + (1 : Int32)) M14 h
theorem wX16_unfolded_L152 {x : GX} {n0 sl0 : Nat} (X : Cx x cX16_unfolded RX16 (some .boolean) n0 sl0 5 106) {out : Int32 × Mm} (hE : Ends x n0 sl0 (some (pI out.1)) out.2) (hn : xn x = 5) (fu : Nat)   (a0 : Nat)  (M : Mm) (h : fX16_unfolded_L152 fu  a0 M = some out) : Gw x M 152 [(0, pR (some a0))] [] := by
  unfold fX16_unfolded_L152 at h
  refine g_aload_n X (pc := 152) 0 rfl rfl dX16_unfolded_152 ?_
  obtain ⟨v1, ev1, h⟩ := bd h
  refine g_getR X (pc := 153) fk_16_58 rfl rfl ev1 tb_1872 dX16_unfolded_153 ?_
  refine g_aload_n X (pc := 156) 0 rfl rfl dX16_unfolded_156 ?_
  obtain ⟨v2, ev2, h⟩ := bd h
  refine g_getI X (pc := 157) fk_16_59 rfl rfl ev2 tb_1873 dX16_unfolded_157 ?_
  refine g_iconst X (pc := 160) (v := 1) dX16_unfolded_160 (by decide) ?_
  refine g_isub X (pc := 161) dX16_unfolded_161 ?_
  obtain ⟨v3, ev3, h⟩ := bd h
  refine g_baload X (pc := 162) ev3 dX16_unfolded_162 ?_
  refine g_bipush X (pc := 163) (v := 47) dX16_unfolded_163 (by decide) ?_
  refine g_icmp_ne X (pc := 165) (tgt := 218) dX16_unfolded_165 (by decide) (fun hc => ?_) (fun hc => ?_)
  · have h := (if_neg hc).symm.trans h
    refine g_iconst X (pc := 218) (v := 1) dX16_unfolded_218 (by decide) ?_
    obtain ⟨hz, rfl⟩ := rN_some h
    exact g_nreturn X rfl hz hE dX16_unfolded_219
  · have h := (if_pos hc).symm.trans h
    refine g_ldcwS X (pc := 168) (List.mem_of_getElem? (i := 54) rfl) dX16_unfolded_168 ?_
    refine g_astore_n X (pc := 171) [(2, pR (some 12)), (0, pR (some a0))] rfl (lt_n hn (by decide)) rfl dX16_unfolded_171 ?_
    refine g_iconst X (pc := 172) (v := 0) dX16_unfolded_172 (by decide) ?_
    refine g_istore_n X (pc := 173) [(3, pI (0 : Int32)), (2, pR (some 12)), (0, pR (some a0))] rfl (lt_n hn (by decide)) rfl dX16_unfolded_173 ?_
    refine g_sub [2, 1, 0] [(0, pR (some a0)), (2, pR (some 12)), (3, pI (0 : Int32))] rfl ?_
    exact wX16_unfolded_L174 X hE hn fu   fu a0 (some 12) (0 : Int32) M h
theorem wX16_unfolded_L128 {x : GX} {n0 sl0 : Nat} (X : Cx x cX16_unfolded RX16 (some .boolean) n0 sl0 5 106) {out : Int32 × Mm} (hE : Ends x n0 sl0 (some (pI out.1)) out.2) (hn : xn x = 5) (fu : Nat) (k10 : Nat → Int32 → Mm → Option (Int32 × Mm)) (hk10 : ∀ (b0 : Nat) (b1 : Int32)  (M : Mm), k10 b0 b1 M = some out → Gw x M 10 [(0, pR (some b0)), (1, pI b1)] []) (a0 : Nat) (a1 : Int32) (a2 : Int32)  (M : Mm) (h : fX16_unfolded_L128 fu k10 a0 a1 a2 M = some out) : Gw x M 128 [(0, pR (some a0)), (1, pI a1), (2, pI a2)] [] := by
  unfold fX16_unfolded_L128 at h
  refine g_aload_n X (pc := 128) 0 rfl rfl dX16_unfolded_128 ?_
  obtain ⟨v1, ev1, h⟩ := bd h
  refine g_getR X (pc := 129) fk_16_58 rfl rfl ev1 tb_1872 dX16_unfolded_129 ?_
  refine g_aload_n X (pc := 132) 0 rfl rfl dX16_unfolded_132 ?_
  obtain ⟨v2, ev2, h⟩ := bd h
  refine g_getI X (pc := 133) fk_16_59 rfl rfl ev2 tb_1873 dX16_unfolded_133 ?_
  refine g_iload_n X (pc := 136) 2 rfl rfl dX16_unfolded_136 ?_
  refine g_i2b X (pc := 137) dX16_unfolded_137 ?_
  obtain ⟨M3, eM3, h⟩ := bd h
  refine g_bastore X (pc := 138) eM3 dX16_unfolded_138 ?_
  refine g_aload_n X (pc := 139) 0 rfl rfl dX16_unfolded_139 ?_
  refine g_dup X (pc := 140) rfl dX16_unfolded_140 ?_
  obtain ⟨v4, ev4, h⟩ := bd h
  refine g_getI X (pc := 141) fk_16_59 rfl rfl ev4 tb_1873 dX16_unfolded_141 ?_
  refine g_iconst X (pc := 144) (v := 1) dX16_unfolded_144 (by decide) ?_
  refine g_iadd X (pc := 145) dX16_unfolded_145 ?_
  obtain ⟨M5, eM5, h⟩ := bd h
  refine g_putI X (pc := 146) fk_16_59 rfl rfl rfl eM5 tb_1873 (Or.inl rfl) dX16_unfolded_146 ?_
  refine g_goto X (pc := 149) (tgt := 10) dX16_unfolded_149 (by decide) ?_
  refine g_sub [0, 1] [(0, pR (some a0)), (1, pI a1)] rfl ?_
  exact hk10 a0 a1 M5 h
theorem wX16_unfolded_L89 {x : GX} {n0 sl0 : Nat} (X : Cx x cX16_unfolded RX16 (some .boolean) n0 sl0 5 106) {out : Int32 × Mm} (hE : Ends x n0 sl0 (some (pI out.1)) out.2) (hn : xn x = 5) (fu : Nat) (k10 : Nat → Int32 → Mm → Option (Int32 × Mm)) (hk10 : ∀ (b0 : Nat) (b1 : Int32)  (M : Mm), k10 b0 b1 M = some out → Gw x M 10 [(0, pR (some b0)), (1, pI b1)] []) (a0 : Nat) (a1 : Int32) (a3 : Int32) (s0 : Int32) (M : Mm) (h : fX16_unfolded_L89 fu k10 a0 a1 a3 s0 M = some out) : Gw x M 89 [(0, pR (some a0)), (1, pI a1), (3, pI a3)] [pI s0] := by
  unfold fX16_unfolded_L89 at h
  refine g_istore X (pc := 89) [(4, pI s0), (0, pR (some a0)), (1, pI a1), (3, pI a3)] (lt_n hn (by decide)) rfl dX16_unfolded_89 ?_
  refine g_iload_n X (pc := 91) 3 rfl rfl dX16_unfolded_91 ?_
  refine g_if_lt X (pc := 92) (tgt := 100) dX16_unfolded_92 (by decide) (fun hc => ?_) (fun hc => ?_)
  · have h := (if_pos hc).symm.trans h
    refine g_iconst X (pc := 100) (v := 0) dX16_unfolded_100 (by decide) ?_
    obtain ⟨hz, rfl⟩ := rN_some h
    exact g_nreturn X rfl hz hE dX16_unfolded_101
  · have h := (if_neg hc).symm.trans h
    refine g_iload X (pc := 95) 0 rfl dX16_unfolded_95 ?_
    refine g_if_ge X (pc := 97) (tgt := 102) dX16_unfolded_97 (by decide) (fun hc => ?_) (fun hc => ?_)
    · have h := (if_pos hc).symm.trans h
      refine g_bipush X (pc := 102) (v := 16) dX16_unfolded_102 (by decide) ?_
      refine g_iload_n X (pc := 104) 3 rfl rfl dX16_unfolded_104 ?_
      refine g_imul X (pc := 105) dX16_unfolded_105 ?_
      refine g_iload X (pc := 106) 0 rfl dX16_unfolded_106 ?_
      refine g_iadd X (pc := 108) dX16_unfolded_108 ?_
      refine g_istore_n X (pc := 109) [(2, pI (((16 : Int32) * a3) + s0)), (4, pI s0), (0, pR (some a0)), (1, pI a1), (3, pI a3)] rfl (lt_n hn (by decide)) rfl dX16_unfolded_109 ?_
      refine g_iload_n X (pc := 110) 0 rfl rfl dX16_unfolded_110 ?_
      refine g_bipush X (pc := 111) (v := 33) dX16_unfolded_111 (by decide) ?_
      refine g_icmp_lt X (pc := 113) (tgt := 122) dX16_unfolded_113 (by decide) (fun hc => ?_) (fun hc => ?_)
      · have h := (if_pos hc).symm.trans h
        refine g_iconst X (pc := 122) (v := 0) dX16_unfolded_122 (by decide) ?_
        obtain ⟨hz, rfl⟩ := rN_some h
        exact g_nreturn X rfl hz hE dX16_unfolded_123
      · have h := (if_neg hc).symm.trans h
        refine g_iload_n X (pc := 116) 0 rfl rfl dX16_unfolded_116 ?_
        refine g_bipush X (pc := 117) (v := 126) dX16_unfolded_117 (by decide) ?_
        refine g_icmp_le X (pc := 119) (tgt := 124) dX16_unfolded_119 (by decide) (fun hc => ?_) (fun hc => ?_)
        · have h := (if_pos hc).symm.trans h
          refine g_iload_n X (pc := 124) 3 rfl rfl dX16_unfolded_124 ?_
          refine g_iconst X (pc := 125) (v := 2) dX16_unfolded_125 (by decide) ?_
          refine g_iadd X (pc := 126) dX16_unfolded_126 ?_
          refine g_istore_n X (pc := 127) [(1, pI (a1 + (2 : Int32))), (2, pI (((16 : Int32) * a3) + s0)), (4, pI s0), (0, pR (some a0)), (3, pI a3)] rfl (lt_n hn (by decide)) rfl dX16_unfolded_127 ?_
          refine g_sub [3, 0, 1] [(0, pR (some a0)), (1, pI (a1 + (2 : Int32))), (2, pI (((16 : Int32) * a3) + s0))] rfl ?_
          exact wX16_unfolded_L128 X hE hn fu k10 hk10 a0 (a1 + (2 : Int32)) (((16 : Int32) * a3) + s0) M h
        · have h := (if_neg hc).symm.trans h
          refine g_iconst X (pc := 122) (v := 0) dX16_unfolded_122 (by decide) ?_
          obtain ⟨hz, rfl⟩ := rN_some h
          exact g_nreturn X rfl hz hE dX16_unfolded_123
    · have h := (if_neg hc).symm.trans h
      refine g_iconst X (pc := 100) (v := 0) dX16_unfolded_100 (by decide) ?_
      obtain ⟨hz, rfl⟩ := rN_some h
      exact g_nreturn X rfl hz hE dX16_unfolded_101
theorem wX16_unfolded_L64 {x : GX} {n0 sl0 : Nat} (X : Cx x cX16_unfolded RX16 (some .boolean) n0 sl0 5 106) {out : Int32 × Mm} (hE : Ends x n0 sl0 (some (pI out.1)) out.2) (hn : xn x = 5) (fu : Nat) (k10 : Nat → Int32 → Mm → Option (Int32 × Mm)) (hk10 : ∀ (b0 : Nat) (b1 : Int32)  (M : Mm), k10 b0 b1 M = some out → Gw x M 10 [(0, pR (some b0)), (1, pI b1)] []) (a0 : Nat) (a1 : Int32) (s0 : Int32) (M : Mm) (h : fX16_unfolded_L64 fu k10 a0 a1 s0 M = some out) : Gw x M 64 [(0, pR (some a0)), (1, pI a1)] [pI s0] := by
  unfold fX16_unfolded_L64 at h
  refine g_istore_n X (pc := 64) [(3, pI s0), (0, pR (some a0)), (1, pI a1)] rfl (lt_n hn (by decide)) rfl dX16_unfolded_64 ?_
  refine g_iload_n X (pc := 65) 2 rfl rfl dX16_unfolded_65 ?_
  refine g_iconst X (pc := 66) (v := 1) dX16_unfolded_66 (by decide) ?_
  refine g_iadd X (pc := 67) dX16_unfolded_67 ?_
  refine g_aload_n X (pc := 68) 1 rfl rfl dX16_unfolded_68 ?_
  obtain ⟨v1, ev1, h⟩ := bd h
  refine g_getI X (pc := 69) fk_16_57 rfl rfl ev1 tb_1871 dX16_unfolded_69 ?_
  refine g_icmp_ge X (pc := 72) (tgt := 88) dX16_unfolded_72 (by decide) (fun hc => ?_) (fun hc => ?_)
  · have h := (if_pos hc).symm.trans h
    refine g_iconst X (pc := 88) (v := (-1)) dX16_unfolded_88 (by decide) ?_
    refine g_sub [1, 2, 0] [(0, pR (some a0)), (1, pI a1), (3, pI s0)] rfl ?_
    exact wX16_unfolded_L89 X hE hn fu k10 hk10 a0 a1 s0 (-1 : Int32) M h
  · have h := (if_neg hc).symm.trans h
    refine g_aload_n X (pc := 75) 1 rfl rfl dX16_unfolded_75 ?_
    refine g_iload_n X (pc := 76) 2 rfl rfl dX16_unfolded_76 ?_
    refine g_iconst X (pc := 77) (v := 1) dX16_unfolded_77 (by decide) ?_
    refine g_iadd X (pc := 78) dX16_unfolded_78 ?_
    obtain ⟨q2, eq2, h⟩ := bd h
    obtain ⟨v4, M3, eM3, h⟩ := b2d h
    refine g_callV X (pc := 79) (M' := M3) (ro := some (pI v4)) (c := 16) rfl (by decide) (as := [pI (a1 + (1 : Int32))]) (as' := [pI (a1 + (1 : Int32))]) (st := []) eq2 (ctX16_headAt _ _ _ _ _ _ fu q2 (a1 + (1 : Int32)) M _ eM3) tb_2352 tb_2349 tb_2351 ts_124 tb_8 ⟨rfl, hyX16_headAt⟩ rfl rfl ⟨by decide, by decide⟩ (Nat.le_of_ble_eq_true rfl) dX16_unfolded_79 ?_
    obtain ⟨v6, M5, eM5, h⟩ := b2d h
    refine g_callS X (pc := 82) (M' := M5) (ro := some (pI v6)) (as := [pI v4]) (as' := [pI v4]) (st := []) (ctX16_hexadecimal _ _ _ _ _ _ fu  v4 M3 _ eM5) tb_2409 tb_2407 tb_2408 tb_8 hyX16_hexadecimal rfl rfl ⟨by decide, by decide⟩ (Nat.le_of_ble_eq_true rfl) dX16_unfolded_82 ?_
    refine g_goto X (pc := 85) (tgt := 89) dX16_unfolded_85 (by decide) ?_
    refine g_sub [1, 2, 0] [(0, pR (some a0)), (1, pI a1), (3, pI s0)] rfl ?_
    exact wX16_unfolded_L89 X hE hn fu k10 hk10 a0 a1 s0 v6 M5 h
theorem wX16_unfolded_L10 {x : GX} {n0 sl0 : Nat} (X : Cx x cX16_unfolded RX16 (some .boolean) n0 sl0 5 106) {out : Int32 × Mm} (hE : Ends x n0 sl0 (some (pI out.1)) out.2) (hn : xn x = 5) (fu : Nat)   : ∀ (n : Nat) (a0 : Nat) (a1 : Int32)  (M : Mm), fX16_unfolded_L10 fu  n a0 a1 M = some out → Gw x M 10 [(0, pR (some a0)), (1, pI a1)] [] := by
  intro n
  induction n with
  | zero =>
    intro a0 a1 M h
    have h : (none : Option (Int32 × Mm)) = some out := h
    cases h
  | succ n ih =>
    intro a0 a1 M h
    rw [fX16_unfolded_L10] at h
    refine g_iload_n X (pc := 10) 1 rfl rfl dX16_unfolded_10 ?_
    refine g_aload_n X (pc := 11) 0 rfl rfl dX16_unfolded_11 ?_
    obtain ⟨v1, ev1, h⟩ := bd h
    refine g_getI X (pc := 12) fk_16_57 rfl rfl ev1 tb_1871 dX16_unfolded_12 ?_
    refine g_icmp_ge X (pc := 15) (tgt := 152) dX16_unfolded_15 (by decide) (fun hc => ?_) (fun hc => ?_)
    · have h := (if_pos hc).symm.trans h
      refine g_sub [0] [(0, pR (some a0))] rfl ?_
      exact wX16_unfolded_L152 X hE hn fu   a0 M h
    · have h := (if_neg hc).symm.trans h
      refine g_aload_n X (pc := 18) 0 rfl rfl dX16_unfolded_18 ?_
      obtain ⟨v2, ev2, h⟩ := bd h
      refine g_getR X (pc := 19) fk_16_41 rfl rfl ev2 tb_1855 dX16_unfolded_19 ?_
      refine g_iload_n X (pc := 22) 1 rfl rfl dX16_unfolded_22 ?_
      obtain ⟨v3, ev3, h⟩ := bd h
      refine g_baload X (pc := 23) ev3 dX16_unfolded_23 ?_
      refine g_bipush X (pc := 24) (v := 63) dX16_unfolded_24 (by decide) ?_
      refine g_icmp_eq X (pc := 26) (tgt := 152) dX16_unfolded_26 (by decide) (fun hc => ?_) (fun hc => ?_)
      · have h := (if_pos hc).symm.trans h
        refine g_sub [0] [(0, pR (some a0))] rfl ?_
        exact wX16_unfolded_L152 X hE hn fu   a0 M h
      · have h := (if_neg hc).symm.trans h
        refine g_aload_n X (pc := 29) 0 rfl rfl dX16_unfolded_29 ?_
        refine g_iload_n X (pc := 30) 1 rfl rfl dX16_unfolded_30 ?_
        obtain ⟨q4, eq4, h⟩ := bd h
        obtain ⟨v6, M5, eM5, h⟩ := b2d h
        refine g_callV X (pc := 31) (M' := M5) (ro := some (pI v6)) (c := 16) rfl (by decide) (as := [pI a1]) (as' := [pI a1]) (st := []) eq4 (ctX16_headAt _ _ _ _ _ _ fu q4 a1 M _ eM5) tb_2352 tb_2349 tb_2351 ts_124 tb_8 ⟨rfl, hyX16_headAt⟩ rfl rfl ⟨by decide, by decide⟩ (Nat.le_of_ble_eq_true rfl) dX16_unfolded_31 ?_
        refine g_istore_n X (pc := 34) [(2, pI v6), (0, pR (some a0)), (1, pI a1)] rfl (lt_n hn (by decide)) rfl dX16_unfolded_34 ?_
        refine g_iinc X (pc := 35) 2 [(1, pI (a1 + (1 : Int32))), (2, pI v6), (0, pR (some a0))] rfl (iinc_e (by decide)) (lt_n hn (by decide)) rfl dX16_unfolded_35 ?_
        refine g_iload_n X (pc := 38) 1 rfl rfl dX16_unfolded_38 ?_
        refine g_bipush X (pc := 39) (v := 37) dX16_unfolded_39 (by decide) ?_
        refine g_icmp_ne X (pc := 41) (tgt := 128) dX16_unfolded_41 (by decide) (fun hc => ?_) (fun hc => ?_)
        · have h := (if_neg hc).symm.trans h
          refine g_sub [2, 0, 1] [(0, pR (some a0)), (1, pI (a1 + (1 : Int32))), (2, pI v6)] rfl ?_
          exact wX16_unfolded_L128 X hE hn fu (fun b0 b1 M => fX16_unfolded_L10 fu  n b0 b1 M) ih a0 (a1 + (1 : Int32)) v6 M5 h
        · have h := (if_pos hc).symm.trans h
          refine g_iload_n X (pc := 44) 0 rfl rfl dX16_unfolded_44 ?_
          refine g_aload_n X (pc := 45) 2 rfl rfl dX16_unfolded_45 ?_
          obtain ⟨v7, ev7, h⟩ := bd h
          refine g_getI X (pc := 46) fk_16_57 rfl rfl ev7 tb_1871 dX16_unfolded_46 ?_
          refine g_icmp_ge X (pc := 49) (tgt := 63) dX16_unfolded_49 (by decide) (fun hc => ?_) (fun hc => ?_)
          · have h := (if_pos hc).symm.trans h
            refine g_iconst X (pc := 63) (v := (-1)) dX16_unfolded_63 (by decide) ?_
            refine g_sub [2, 0] [(0, pR (some a0)), (1, pI (a1 + (1 : Int32)))] rfl ?_
            exact wX16_unfolded_L64 X hE hn fu (fun b0 b1 M => fX16_unfolded_L10 fu  n b0 b1 M) ih a0 (a1 + (1 : Int32)) (-1 : Int32) M5 h
          · have h := (if_neg hc).symm.trans h
            refine g_aload_n X (pc := 52) 2 rfl rfl dX16_unfolded_52 ?_
            refine g_iload_n X (pc := 53) 0 rfl rfl dX16_unfolded_53 ?_
            obtain ⟨q8, eq8, h⟩ := bd h
            obtain ⟨v10, M9, eM9, h⟩ := b2d h
            refine g_callV X (pc := 54) (M' := M9) (ro := some (pI v10)) (c := 16) rfl (by decide) (as := [pI (a1 + (1 : Int32))]) (as' := [pI (a1 + (1 : Int32))]) (st := []) eq8 (ctX16_headAt _ _ _ _ _ _ fu q8 (a1 + (1 : Int32)) M5 _ eM9) tb_2352 tb_2349 tb_2351 ts_124 tb_8 ⟨rfl, hyX16_headAt⟩ rfl rfl ⟨by decide, by decide⟩ (Nat.le_of_ble_eq_true rfl) dX16_unfolded_54 ?_
            obtain ⟨v12, M11, eM11, h⟩ := b2d h
            refine g_callS X (pc := 57) (M' := M11) (ro := some (pI v12)) (as := [pI v10]) (as' := [pI v10]) (st := []) (ctX16_hexadecimal _ _ _ _ _ _ fu  v10 M9 _ eM11) tb_2409 tb_2407 tb_2408 tb_8 hyX16_hexadecimal rfl rfl ⟨by decide, by decide⟩ (Nat.le_of_ble_eq_true rfl) dX16_unfolded_57 ?_
            refine g_goto X (pc := 60) (tgt := 64) dX16_unfolded_60 (by decide) ?_
            refine g_sub [2, 0] [(0, pR (some a0)), (1, pI (a1 + (1 : Int32)))] rfl ?_
            exact wX16_unfolded_L64 X hE hn fu (fun b0 b1 M => fX16_unfolded_L10 fu  n b0 b1 M) ih a0 (a1 + (1 : Int32)) v12 M11 h
theorem wX16_unfolded {x : GX} {n0 sl0 : Nat} (X : Cx x cX16_unfolded RX16 (some .boolean) n0 sl0 5 106) {out : Int32 × Mm} (hE : Ends x n0 sl0 (some (pI out.1)) out.2) (hn : xn x = 5) (fu : Nat)   (a0 : Nat)  (M : Mm) (h : fX16_unfolded fu  a0 M = some out) : Gw x M 0 [(0, pR (some a0))] [] := by
  unfold fX16_unfolded at h
  refine g_aload_n X (pc := 0) 0 rfl rfl dX16_unfolded_0 ?_
  refine g_iconst X (pc := 1) (v := 0) dX16_unfolded_1 (by decide) ?_
  obtain ⟨M1, eM1, h⟩ := bd h
  refine g_putI X (pc := 2) fk_16_59 rfl rfl rfl eM1 tb_1873 (Or.inl rfl) dX16_unfolded_2 ?_
  refine g_aload_n X (pc := 5) 0 rfl rfl dX16_unfolded_5 ?_
  obtain ⟨v2, ev2, h⟩ := bd h
  refine g_getI X (pc := 6) fk_16_56 rfl rfl ev2 tb_1870 dX16_unfolded_6 ?_
  refine g_istore_n X (pc := 9) [(1, pI v2), (0, pR (some a0))] rfl (lt_n hn (by decide)) rfl dX16_unfolded_9 ?_
  refine g_sub [1, 0] [(0, pR (some a0)), (1, pI v2)] rfl ?_
  exact wX16_unfolded_L10 X hE hn fu   fu a0 v2 M1 h
theorem hyX16_unfolded : yX16_unfolded.cls ≠ "java/lang/invoke/MethodHandle" ∧ yX16_unfolded.cls ≠ "java/lang/invoke/VarHandle" ∧ (parseMethodDescriptor yX16_unfolded.desc).map (fun d => d.parameters.length) = some 0 := ⟨by decide +kernel, by decide +kernel, by decide +kernel⟩
theorem ctX16_unfolded (l : Launch) (E : Nat → Nat) (D : va_G) (dA : Nat → ClassId) (lo : Nat) (H0 : Heap) (fu : Nat) (a0 : Nat) (M : Mm) (out : Int32 × Mm) (h : fX16_unfolded fu a0 M = some out) : Ct l E D dA lo H0 yX16_unfolded cX16_unfolded 5 (some .boolean) 5 106 [pR (some a0)] M (some (pI out.1)) out.2 := by
  refine ct_of (by decide +kernel) (Nat.le_of_ble_eq_true rfl) ?_
  intro x hl he hd ha ho hh hn hin X hE
  exact wX16_unfolded X hE hn fu a0 M h
/-! WebHostModel.found()I -/
def fX16_found_L70 (fu : Nat) (k2 : Nat → Int32 → Mm → Option (Int32 × Mm)) (k23 : Nat → Int32 → Int32 → Int32 → Mm → Option (Int32 × Mm)) (a0 : Nat) (a1 : Int32) (a3 : Int32) (s0 : Int32) (M : Mm) : Option (Int32 × Mm) :=
    k23 a0 a1 s0 (a3 + (1 : Int32)) M
def fX16_found_L69 (fu : Nat) (k2 : Nat → Int32 → Mm → Option (Int32 × Mm)) (k23 : Nat → Int32 → Int32 → Int32 → Mm → Option (Int32 × Mm)) (a0 : Nat) (a1 : Int32) (a3 : Int32)  (M : Mm) : Option (Int32 × Mm) :=
    fX16_found_L70 fu k2 k23 a0 a1 a3 (0 : Int32) M
def fX16_found_L62 (fu : Nat) (k2 : Nat → Int32 → Mm → Option (Int32 × Mm)) (k23 : Nat → Int32 → Int32 → Int32 → Mm → Option (Int32 × Mm)) (a0 : Nat) (a1 : Int32) (a3 : Int32) (s0 : Int32) (s1 : Int32) (M : Mm) : Option (Int32 × Mm) :=
    if s0 = s1 then (
    fX16_found_L70 fu k2 k23 a0 a1 a3 (1 : Int32) M)
    else (
    fX16_found_L69 fu k2 k23 a0 a1 a3 M)
def fX16_found_L23 (fu : Nat) (k2 : Nat → Int32 → Mm → Option (Int32 × Mm)) : Nat → Nat → Int32 → Int32 → Int32 → Mm → Option (Int32 × Mm)
  | 0, _, _, _, _, _ => none
  | n + 1, a0, a1, a2, a3, M =>
    if (48 : Int32) ≤ a3 then (
    if a2 = 0 then (
    k2 a0 (a1 + (1 : Int32)) M)
    else (
    some (a1, M)))
    else (
    if a2 = 0 then (
    fX16_found_L69 fu k2 (fun b0 b1 b2 b3 M => fX16_found_L23 fu k2 n b0 b1 b2 b3 M) a0 a1 a3 M)
    else (
    (gR M 16 1037 (some a0)).bind fun v1 =>
    (gA M 100 v1 (((48 : Int32) * a1) + a3)).bind fun v2 =>
    (gI M 16 1083 (some a0)).bind fun v3 =>
    if v3 ≤ a3 then (
    fX16_found_L62 fu k2 (fun b0 b1 b2 b3 M => fX16_found_L23 fu k2 n b0 b1 b2 b3 M) a0 a1 a3 v2 (0 : Int32) M)
    else (
    (gR M 16 1082 (some a0)).bind fun v4 =>
    (gA M 100 v4 a3).bind fun v5 =>
    fX16_found_L62 fu k2 (fun b0 b1 b2 b3 M => fX16_found_L23 fu k2 n b0 b1 b2 b3 M) a0 a1 a3 v2 v5 M)))
def fX16_found_L2 (fu : Nat)  : Nat → Nat → Int32 → Mm → Option (Int32 × Mm)
  | 0, _, _, _ => none
  | n + 1, a0, a1, M =>
    (gI M 16 1035 (some a0)).bind fun v1 =>
    if v1 ≤ a1 then (
    some ((-1 : Int32), M))
    else (
    (gI M 16 1083 (some a0)).bind fun v2 =>
    if (48 : Int32) ≤ v2 then (
    some ((-1 : Int32), M))
    else (
    fX16_found_L23 fu (fun b0 b1 M => fX16_found_L2 fu  n b0 b1 M) fu a0 a1 (1 : Int32) (0 : Int32) M))
def fX16_found (fu : Nat)  (a0 : Nat)  (M : Mm) : Option (Int32 × Mm) :=
    fX16_found_L2 fu  fu a0 (0 : Int32) M
theorem dX16_found_0 : decode cX16_found 0 = .ok (.iconst 0, 1) := by decide +kernel
theorem dX16_found_1 : decode cX16_found 1 = .ok (.istore_n 1, 1) := by decide +kernel
theorem dX16_found_2 : decode cX16_found 2 = .ok (.iload_n 1, 1) := by decide +kernel
theorem dX16_found_3 : decode cX16_found 3 = .ok (.aload_n 0, 1) := by decide +kernel
theorem dX16_found_4 : decode cX16_found 4 = .ok (.getfield 131, 3) := by decide +kernel
theorem dX16_found_7 : decode cX16_found 7 = .ok (.if_icmp .ge 82, 3) := by decide +kernel
theorem dX16_found_10 : decode cX16_found 10 = .ok (.aload_n 0, 1) := by decide +kernel
theorem dX16_found_11 : decode cX16_found 11 = .ok (.getfield 776, 3) := by decide +kernel
theorem dX16_found_14 : decode cX16_found 14 = .ok (.bipush 48, 2) := by decide +kernel
theorem dX16_found_16 : decode cX16_found 16 = .ok (.if_icmp .ge 73, 3) := by decide +kernel
theorem dX16_found_19 : decode cX16_found 19 = .ok (.iconst 1, 1) := by decide +kernel
theorem dX16_found_20 : decode cX16_found 20 = .ok (.istore_n 2, 1) := by decide +kernel
theorem dX16_found_21 : decode cX16_found 21 = .ok (.iconst 0, 1) := by decide +kernel
theorem dX16_found_22 : decode cX16_found 22 = .ok (.istore_n 3, 1) := by decide +kernel
theorem dX16_found_23 : decode cX16_found 23 = .ok (.iload_n 3, 1) := by decide +kernel
theorem dX16_found_24 : decode cX16_found 24 = .ok (.bipush 48, 2) := by decide +kernel
theorem dX16_found_26 : decode cX16_found 26 = .ok (.if_icmp .ge 51, 3) := by decide +kernel
theorem dX16_found_29 : decode cX16_found 29 = .ok (.iload_n 2, 1) := by decide +kernel
theorem dX16_found_30 : decode cX16_found 30 = .ok (.ifCond .eq 39, 3) := by decide +kernel
theorem dX16_found_33 : decode cX16_found 33 = .ok (.aload_n 0, 1) := by decide +kernel
theorem dX16_found_34 : decode cX16_found 34 = .ok (.getfield 18, 3) := by decide +kernel
theorem dX16_found_37 : decode cX16_found 37 = .ok (.bipush 48, 2) := by decide +kernel
theorem dX16_found_39 : decode cX16_found 39 = .ok (.iload_n 1, 1) := by decide +kernel
theorem dX16_found_40 : decode cX16_found 40 = .ok (.imul, 1) := by decide +kernel
theorem dX16_found_41 : decode cX16_found 41 = .ok (.iload_n 3, 1) := by decide +kernel
theorem dX16_found_42 : decode cX16_found 42 = .ok (.iadd, 1) := by decide +kernel
theorem dX16_found_43 : decode cX16_found 43 = .ok (.baload, 1) := by decide +kernel
theorem dX16_found_44 : decode cX16_found 44 = .ok (.iload_n 3, 1) := by decide +kernel
theorem dX16_found_45 : decode cX16_found 45 = .ok (.aload_n 0, 1) := by decide +kernel
theorem dX16_found_46 : decode cX16_found 46 = .ok (.getfield 776, 3) := by decide +kernel
theorem dX16_found_49 : decode cX16_found 49 = .ok (.if_icmp .ge 12, 3) := by decide +kernel
theorem dX16_found_52 : decode cX16_found 52 = .ok (.aload_n 0, 1) := by decide +kernel
theorem dX16_found_53 : decode cX16_found 53 = .ok (.getfield 77, 3) := by decide +kernel
theorem dX16_found_56 : decode cX16_found 56 = .ok (.iload_n 3, 1) := by decide +kernel
theorem dX16_found_57 : decode cX16_found 57 = .ok (.baload, 1) := by decide +kernel
theorem dX16_found_58 : decode cX16_found 58 = .ok (.goto 4, 3) := by decide +kernel
theorem dX16_found_61 : decode cX16_found 61 = .ok (.iconst 0, 1) := by decide +kernel
theorem dX16_found_62 : decode cX16_found 62 = .ok (.if_icmp .ne 7, 3) := by decide +kernel
theorem dX16_found_65 : decode cX16_found 65 = .ok (.iconst 1, 1) := by decide +kernel
theorem dX16_found_66 : decode cX16_found 66 = .ok (.goto 4, 3) := by decide +kernel
theorem dX16_found_69 : decode cX16_found 69 = .ok (.iconst 0, 1) := by decide +kernel
theorem dX16_found_70 : decode cX16_found 70 = .ok (.istore_n 2, 1) := by decide +kernel
theorem dX16_found_71 : decode cX16_found 71 = .ok (.iinc 3 1, 3) := by decide +kernel
theorem dX16_found_74 : decode cX16_found 74 = .ok (.goto (-51), 3) := by decide +kernel
theorem dX16_found_77 : decode cX16_found 77 = .ok (.iload_n 2, 1) := by decide +kernel
theorem dX16_found_78 : decode cX16_found 78 = .ok (.ifCond .eq 5, 3) := by decide +kernel
theorem dX16_found_81 : decode cX16_found 81 = .ok (.iload_n 1, 1) := by decide +kernel
theorem dX16_found_82 : decode cX16_found 82 = .ok (.ireturn, 1) := by decide +kernel
theorem dX16_found_83 : decode cX16_found 83 = .ok (.iinc 1 1, 3) := by decide +kernel
theorem dX16_found_86 : decode cX16_found 86 = .ok (.goto (-84), 3) := by decide +kernel
theorem dX16_found_89 : decode cX16_found 89 = .ok (.iconst (-1), 1) := by decide +kernel
theorem dX16_found_90 : decode cX16_found 90 = .ok (.ireturn, 1) := by decide +kernel
theorem wX16_found_L70 {x : GX} {n0 sl0 : Nat} (X : Cx x cX16_found RX16 (some .int) n0 sl0 0 0) {out : Int32 × Mm} (hE : Ends x n0 sl0 (some (pI out.1)) out.2) (hn : xn x = 4) (fu : Nat) (k2 : Nat → Int32 → Mm → Option (Int32 × Mm)) (k23 : Nat → Int32 → Int32 → Int32 → Mm → Option (Int32 × Mm)) (hk2 : ∀ (b0 : Nat) (b1 : Int32)  (M : Mm), k2 b0 b1 M = some out → Gw x M 2 [(0, pR (some b0)), (1, pI b1)] []) (hk23 : ∀ (b0 : Nat) (b1 : Int32) (b2 : Int32) (b3 : Int32)  (M : Mm), k23 b0 b1 b2 b3 M = some out → Gw x M 23 [(0, pR (some b0)), (1, pI b1), (2, pI b2), (3, pI b3)] []) (a0 : Nat) (a1 : Int32) (a3 : Int32) (s0 : Int32) (M : Mm) (h : fX16_found_L70 fu k2 k23 a0 a1 a3 s0 M = some out) : Gw x M 70 [(0, pR (some a0)), (1, pI a1), (3, pI a3)] [pI s0] := by
  unfold fX16_found_L70 at h
  refine g_istore_n X (pc := 70) [(2, pI s0), (0, pR (some a0)), (1, pI a1), (3, pI a3)] rfl (lt_n hn (by decide)) rfl dX16_found_70 ?_
  refine g_iinc X (pc := 71) 3 [(3, pI (a3 + (1 : Int32))), (2, pI s0), (0, pR (some a0)), (1, pI a1)] rfl (iinc_e (by decide)) (lt_n hn (by decide)) rfl dX16_found_71 ?_
  refine g_goto X (pc := 74) (tgt := 23) dX16_found_74 (by decide) ?_
  refine g_sub [2, 3, 1, 0] [(0, pR (some a0)), (1, pI a1), (2, pI s0), (3, pI (a3 + (1 : Int32)))] rfl ?_
  exact hk23 a0 a1 s0 (a3 + (1 : Int32)) M h
theorem wX16_found_L69 {x : GX} {n0 sl0 : Nat} (X : Cx x cX16_found RX16 (some .int) n0 sl0 0 0) {out : Int32 × Mm} (hE : Ends x n0 sl0 (some (pI out.1)) out.2) (hn : xn x = 4) (fu : Nat) (k2 : Nat → Int32 → Mm → Option (Int32 × Mm)) (k23 : Nat → Int32 → Int32 → Int32 → Mm → Option (Int32 × Mm)) (hk2 : ∀ (b0 : Nat) (b1 : Int32)  (M : Mm), k2 b0 b1 M = some out → Gw x M 2 [(0, pR (some b0)), (1, pI b1)] []) (hk23 : ∀ (b0 : Nat) (b1 : Int32) (b2 : Int32) (b3 : Int32)  (M : Mm), k23 b0 b1 b2 b3 M = some out → Gw x M 23 [(0, pR (some b0)), (1, pI b1), (2, pI b2), (3, pI b3)] []) (a0 : Nat) (a1 : Int32) (a3 : Int32)  (M : Mm) (h : fX16_found_L69 fu k2 k23 a0 a1 a3 M = some out) : Gw x M 69 [(0, pR (some a0)), (1, pI a1), (3, pI a3)] [] := by
  unfold fX16_found_L69 at h
  refine g_iconst X (pc := 69) (v := 0) dX16_found_69 (by decide) ?_
  exact wX16_found_L70 X hE hn fu k2 k23 hk2 hk23 a0 a1 a3 (0 : Int32) M h
theorem wX16_found_L62 {x : GX} {n0 sl0 : Nat} (X : Cx x cX16_found RX16 (some .int) n0 sl0 0 0) {out : Int32 × Mm} (hE : Ends x n0 sl0 (some (pI out.1)) out.2) (hn : xn x = 4) (fu : Nat) (k2 : Nat → Int32 → Mm → Option (Int32 × Mm)) (k23 : Nat → Int32 → Int32 → Int32 → Mm → Option (Int32 × Mm)) (hk2 : ∀ (b0 : Nat) (b1 : Int32)  (M : Mm), k2 b0 b1 M = some out → Gw x M 2 [(0, pR (some b0)), (1, pI b1)] []) (hk23 : ∀ (b0 : Nat) (b1 : Int32) (b2 : Int32) (b3 : Int32)  (M : Mm), k23 b0 b1 b2 b3 M = some out → Gw x M 23 [(0, pR (some b0)), (1, pI b1), (2, pI b2), (3, pI b3)] []) (a0 : Nat) (a1 : Int32) (a3 : Int32) (s0 : Int32) (s1 : Int32) (M : Mm) (h : fX16_found_L62 fu k2 k23 a0 a1 a3 s0 s1 M = some out) : Gw x M 62 [(0, pR (some a0)), (1, pI a1), (3, pI a3)] [pI s1, pI s0] := by
  unfold fX16_found_L62 at h
  refine g_icmp_ne X (pc := 62) (tgt := 69) dX16_found_62 (by decide) (fun hc => ?_) (fun hc => ?_)
  · have h := (if_neg hc).symm.trans h
    exact wX16_found_L69 X hE hn fu k2 k23 hk2 hk23 a0 a1 a3 M h
  · have h := (if_pos hc).symm.trans h
    refine g_iconst X (pc := 65) (v := 1) dX16_found_65 (by decide) ?_
    refine g_goto X (pc := 66) (tgt := 70) dX16_found_66 (by decide) ?_
    exact wX16_found_L70 X hE hn fu k2 k23 hk2 hk23 a0 a1 a3 (1 : Int32) M h
theorem wX16_found_L23 {x : GX} {n0 sl0 : Nat} (X : Cx x cX16_found RX16 (some .int) n0 sl0 0 0) {out : Int32 × Mm} (hE : Ends x n0 sl0 (some (pI out.1)) out.2) (hn : xn x = 4) (fu : Nat) (k2 : Nat → Int32 → Mm → Option (Int32 × Mm)) (hk2 : ∀ (b0 : Nat) (b1 : Int32)  (M : Mm), k2 b0 b1 M = some out → Gw x M 2 [(0, pR (some b0)), (1, pI b1)] []) : ∀ (n : Nat) (a0 : Nat) (a1 : Int32) (a2 : Int32) (a3 : Int32)  (M : Mm), fX16_found_L23 fu k2 n a0 a1 a2 a3 M = some out → Gw x M 23 [(0, pR (some a0)), (1, pI a1), (2, pI a2), (3, pI a3)] [] := by
  intro n
  induction n with
  | zero =>
    intro a0 a1 a2 a3 M h
    have h : (none : Option (Int32 × Mm)) = some out := h
    cases h
  | succ n ih =>
    intro a0 a1 a2 a3 M h
    rw [fX16_found_L23] at h
    refine g_iload_n X (pc := 23) 3 rfl rfl dX16_found_23 ?_
    refine g_bipush X (pc := 24) (v := 48) dX16_found_24 (by decide) ?_
    refine g_icmp_ge X (pc := 26) (tgt := 77) dX16_found_26 (by decide) (fun hc => ?_) (fun hc => ?_)
    · have h := (if_pos hc).symm.trans h
      refine g_iload_n X (pc := 77) 2 rfl rfl dX16_found_77 ?_
      refine g_if_eq X (pc := 78) (tgt := 83) dX16_found_78 (by decide) (fun hc => ?_) (fun hc => ?_)
      · have h := (if_pos hc).symm.trans h
        refine g_iinc X (pc := 83) 1 [(1, pI (a1 + (1 : Int32))), (0, pR (some a0)), (2, pI a2), (3, pI a3)] rfl (iinc_e (by decide)) (lt_n hn (by decide)) rfl dX16_found_83 ?_
        refine g_goto X (pc := 86) (tgt := 2) dX16_found_86 (by decide) ?_
        refine g_sub [1, 0] [(0, pR (some a0)), (1, pI (a1 + (1 : Int32)))] rfl ?_
        exact hk2 a0 (a1 + (1 : Int32)) M h
      · have h := (if_neg hc).symm.trans h
        refine g_iload_n X (pc := 81) 1 rfl rfl dX16_found_81 ?_
        obtain rfl := Option.some.inj h
        exact g_ireturn X hE dX16_found_82
    · have h := (if_neg hc).symm.trans h
      refine g_iload_n X (pc := 29) 2 rfl rfl dX16_found_29 ?_
      refine g_if_eq X (pc := 30) (tgt := 69) dX16_found_30 (by decide) (fun hc => ?_) (fun hc => ?_)
      · have h := (if_pos hc).symm.trans h
        refine g_sub [0, 1, 3] [(0, pR (some a0)), (1, pI a1), (3, pI a3)] rfl ?_
        exact wX16_found_L69 X hE hn fu k2 (fun b0 b1 b2 b3 M => fX16_found_L23 fu k2 n b0 b1 b2 b3 M) hk2 ih a0 a1 a3 M h
      · have h := (if_neg hc).symm.trans h
        refine g_aload_n X (pc := 33) 0 rfl rfl dX16_found_33 ?_
        obtain ⟨v1, ev1, h⟩ := bd h
        refine g_getR X (pc := 34) fk_16_13 rfl rfl ev1 tb_1827 dX16_found_34 ?_
        refine g_bipush X (pc := 37) (v := 48) dX16_found_37 (by decide) ?_
        refine g_iload_n X (pc := 39) 1 rfl rfl dX16_found_39 ?_
        refine g_imul X (pc := 40) dX16_found_40 ?_
        refine g_iload_n X (pc := 41) 3 rfl rfl dX16_found_41 ?_
        refine g_iadd X (pc := 42) dX16_found_42 ?_
        obtain ⟨v2, ev2, h⟩ := bd h
        refine g_baload X (pc := 43) ev2 dX16_found_43 ?_
        refine g_iload_n X (pc := 44) 3 rfl rfl dX16_found_44 ?_
        refine g_aload_n X (pc := 45) 0 rfl rfl dX16_found_45 ?_
        obtain ⟨v3, ev3, h⟩ := bd h
        refine g_getI X (pc := 46) fk_16_59 rfl rfl ev3 tb_1873 dX16_found_46 ?_
        refine g_icmp_ge X (pc := 49) (tgt := 61) dX16_found_49 (by decide) (fun hc => ?_) (fun hc => ?_)
        · have h := (if_pos hc).symm.trans h
          refine g_iconst X (pc := 61) (v := 0) dX16_found_61 (by decide) ?_
          refine g_sub [0, 1, 3] [(0, pR (some a0)), (1, pI a1), (3, pI a3)] rfl ?_
          exact wX16_found_L62 X hE hn fu k2 (fun b0 b1 b2 b3 M => fX16_found_L23 fu k2 n b0 b1 b2 b3 M) hk2 ih a0 a1 a3 v2 (0 : Int32) M h
        · have h := (if_neg hc).symm.trans h
          refine g_aload_n X (pc := 52) 0 rfl rfl dX16_found_52 ?_
          obtain ⟨v4, ev4, h⟩ := bd h
          refine g_getR X (pc := 53) fk_16_58 rfl rfl ev4 tb_1872 dX16_found_53 ?_
          refine g_iload_n X (pc := 56) 3 rfl rfl dX16_found_56 ?_
          obtain ⟨v5, ev5, h⟩ := bd h
          refine g_baload X (pc := 57) ev5 dX16_found_57 ?_
          refine g_goto X (pc := 58) (tgt := 62) dX16_found_58 (by decide) ?_
          refine g_sub [0, 1, 3] [(0, pR (some a0)), (1, pI a1), (3, pI a3)] rfl ?_
          exact wX16_found_L62 X hE hn fu k2 (fun b0 b1 b2 b3 M => fX16_found_L23 fu k2 n b0 b1 b2 b3 M) hk2 ih a0 a1 a3 v2 v5 M h
theorem wX16_found_L2 {x : GX} {n0 sl0 : Nat} (X : Cx x cX16_found RX16 (some .int) n0 sl0 0 0) {out : Int32 × Mm} (hE : Ends x n0 sl0 (some (pI out.1)) out.2) (hn : xn x = 4) (fu : Nat)   : ∀ (n : Nat) (a0 : Nat) (a1 : Int32)  (M : Mm), fX16_found_L2 fu  n a0 a1 M = some out → Gw x M 2 [(0, pR (some a0)), (1, pI a1)] [] := by
  intro n
  induction n with
  | zero =>
    intro a0 a1 M h
    have h : (none : Option (Int32 × Mm)) = some out := h
    cases h
  | succ n ih =>
    intro a0 a1 M h
    rw [fX16_found_L2] at h
    refine g_iload_n X (pc := 2) 1 rfl rfl dX16_found_2 ?_
    refine g_aload_n X (pc := 3) 0 rfl rfl dX16_found_3 ?_
    obtain ⟨v1, ev1, h⟩ := bd h
    refine g_getI X (pc := 4) fk_16_11 rfl rfl ev1 tb_1825 dX16_found_4 ?_
    refine g_icmp_ge X (pc := 7) (tgt := 89) dX16_found_7 (by decide) (fun hc => ?_) (fun hc => ?_)
    · have h := (if_pos hc).symm.trans h
      refine g_iconst X (pc := 89) (v := (-1)) dX16_found_89 (by decide) ?_
      obtain rfl := Option.some.inj h
      exact g_ireturn X hE dX16_found_90
    · have h := (if_neg hc).symm.trans h
      refine g_aload_n X (pc := 10) 0 rfl rfl dX16_found_10 ?_
      obtain ⟨v2, ev2, h⟩ := bd h
      refine g_getI X (pc := 11) fk_16_59 rfl rfl ev2 tb_1873 dX16_found_11 ?_
      refine g_bipush X (pc := 14) (v := 48) dX16_found_14 (by decide) ?_
      refine g_icmp_ge X (pc := 16) (tgt := 89) dX16_found_16 (by decide) (fun hc => ?_) (fun hc => ?_)
      · have h := (if_pos hc).symm.trans h
        refine g_iconst X (pc := 89) (v := (-1)) dX16_found_89 (by decide) ?_
        obtain rfl := Option.some.inj h
        exact g_ireturn X hE dX16_found_90
      · have h := (if_neg hc).symm.trans h
        refine g_iconst X (pc := 19) (v := 1) dX16_found_19 (by decide) ?_
        refine g_istore_n X (pc := 20) [(2, pI (1 : Int32)), (0, pR (some a0)), (1, pI a1)] rfl (lt_n hn (by decide)) rfl dX16_found_20 ?_
        refine g_iconst X (pc := 21) (v := 0) dX16_found_21 (by decide) ?_
        refine g_istore_n X (pc := 22) [(3, pI (0 : Int32)), (2, pI (1 : Int32)), (0, pR (some a0)), (1, pI a1)] rfl (lt_n hn (by decide)) rfl dX16_found_22 ?_
        refine g_sub [2, 3, 1, 0] [(0, pR (some a0)), (1, pI a1), (2, pI (1 : Int32)), (3, pI (0 : Int32))] rfl ?_
        exact wX16_found_L23 X hE hn fu (fun b0 b1 M => fX16_found_L2 fu  n b0 b1 M) ih fu a0 a1 (1 : Int32) (0 : Int32) M h
theorem wX16_found {x : GX} {n0 sl0 : Nat} (X : Cx x cX16_found RX16 (some .int) n0 sl0 0 0) {out : Int32 × Mm} (hE : Ends x n0 sl0 (some (pI out.1)) out.2) (hn : xn x = 4) (fu : Nat)   (a0 : Nat)  (M : Mm) (h : fX16_found fu  a0 M = some out) : Gw x M 0 [(0, pR (some a0))] [] := by
  unfold fX16_found at h
  refine g_iconst X (pc := 0) (v := 0) dX16_found_0 (by decide) ?_
  refine g_istore_n X (pc := 1) [(1, pI (0 : Int32)), (0, pR (some a0))] rfl (lt_n hn (by decide)) rfl dX16_found_1 ?_
  refine g_sub [1, 0] [(0, pR (some a0)), (1, pI (0 : Int32))] rfl ?_
  exact wX16_found_L2 X hE hn fu   fu a0 (0 : Int32) M h
theorem hyX16_found : yX16_found.cls ≠ "java/lang/invoke/MethodHandle" ∧ yX16_found.cls ≠ "java/lang/invoke/VarHandle" ∧ (parseMethodDescriptor yX16_found.desc).map (fun d => d.parameters.length) = some 0 := ⟨by decide +kernel, by decide +kernel, by decide +kernel⟩
theorem ctX16_found (l : Launch) (E : Nat → Nat) (D : va_G) (dA : Nat → ClassId) (lo : Nat) (H0 : Heap) (fu : Nat) (a0 : Nat) (M : Mm) (out : Int32 × Mm) (h : fX16_found fu a0 M = some out) : Ct l E D dA lo H0 yX16_found cX16_found 4 (some .int) 0 0 [pR (some a0)] M (some (pI out.1)) out.2 := by
  refine ct_of (by decide +kernel) (Nat.le_of_ble_eq_true rfl) ?_
  intro x hl he hd ha ho hh hn hin X hE
  exact wX16_found X hE hn fu a0 M h
/-! WebHostModel.hexDigit(II)I -/
def fX16_hexDigit (fu : Nat)  (a0 : Int32) (a1 : Int32)  (M : Mm) : Option (Int32 × Mm) :=
    (some ((a0 >>> (((28 : Int32) - ((4 : Int32) * a1)) &&& 31)) &&& (15 : Int32))).bind fun v1 =>
    if (10 : Int32) ≤ v1 then (
    some ((((97 : Int32) + v1) - (10 : Int32)), M))
    else (
    some (((48 : Int32) + v1), M))
theorem dX16_hexDigit_0 : decode cX16_hexDigit 0 = .ok (.iload_n 0, 1) := by decide +kernel
theorem dX16_hexDigit_1 : decode cX16_hexDigit 1 = .ok (.bipush 28, 2) := by decide +kernel
theorem dX16_hexDigit_3 : decode cX16_hexDigit 3 = .ok (.iconst 4, 1) := by decide +kernel
theorem dX16_hexDigit_4 : decode cX16_hexDigit 4 = .ok (.iload_n 1, 1) := by decide +kernel
theorem dX16_hexDigit_5 : decode cX16_hexDigit 5 = .ok (.imul, 1) := by decide +kernel
theorem dX16_hexDigit_6 : decode cX16_hexDigit 6 = .ok (.isub, 1) := by decide +kernel
theorem dX16_hexDigit_7 : decode cX16_hexDigit 7 = .ok (.ishr, 1) := by decide +kernel
theorem dX16_hexDigit_8 : decode cX16_hexDigit 8 = .ok (.bipush 15, 2) := by decide +kernel
theorem dX16_hexDigit_10 : decode cX16_hexDigit 10 = .ok (.iand, 1) := by decide +kernel
theorem dX16_hexDigit_11 : decode cX16_hexDigit 11 = .ok (.istore_n 2, 1) := by decide +kernel
theorem dX16_hexDigit_12 : decode cX16_hexDigit 12 = .ok (.iload_n 2, 1) := by decide +kernel
theorem dX16_hexDigit_13 : decode cX16_hexDigit 13 = .ok (.bipush 10, 2) := by decide +kernel
theorem dX16_hexDigit_15 : decode cX16_hexDigit 15 = .ok (.if_icmp .ge 10, 3) := by decide +kernel
theorem dX16_hexDigit_18 : decode cX16_hexDigit 18 = .ok (.bipush 48, 2) := by decide +kernel
theorem dX16_hexDigit_20 : decode cX16_hexDigit 20 = .ok (.iload_n 2, 1) := by decide +kernel
theorem dX16_hexDigit_21 : decode cX16_hexDigit 21 = .ok (.iadd, 1) := by decide +kernel
theorem dX16_hexDigit_22 : decode cX16_hexDigit 22 = .ok (.goto 10, 3) := by decide +kernel
theorem dX16_hexDigit_25 : decode cX16_hexDigit 25 = .ok (.bipush 97, 2) := by decide +kernel
theorem dX16_hexDigit_27 : decode cX16_hexDigit 27 = .ok (.iload_n 2, 1) := by decide +kernel
theorem dX16_hexDigit_28 : decode cX16_hexDigit 28 = .ok (.iadd, 1) := by decide +kernel
theorem dX16_hexDigit_29 : decode cX16_hexDigit 29 = .ok (.bipush 10, 2) := by decide +kernel
theorem dX16_hexDigit_31 : decode cX16_hexDigit 31 = .ok (.isub, 1) := by decide +kernel
theorem dX16_hexDigit_32 : decode cX16_hexDigit 32 = .ok (.ireturn, 1) := by decide +kernel
theorem wX16_hexDigit {x : GX} {n0 sl0 : Nat} (X : Cx x cX16_hexDigit RX16 (some .int) n0 sl0 0 0) {out : Int32 × Mm} (hE : Ends x n0 sl0 (some (pI out.1)) out.2) (hn : xn x = 3) (fu : Nat)   (a0 : Int32) (a1 : Int32)  (M : Mm) (h : fX16_hexDigit fu  a0 a1 M = some out) : Gw x M 0 [(0, pI a0), (1, pI a1)] [] := by
  unfold fX16_hexDigit at h
  refine g_iload_n X (pc := 0) 0 rfl rfl dX16_hexDigit_0 ?_
  refine g_bipush X (pc := 1) (v := 28) dX16_hexDigit_1 (by decide) ?_
  refine g_iconst X (pc := 3) (v := 4) dX16_hexDigit_3 (by decide) ?_
  refine g_iload_n X (pc := 4) 1 rfl rfl dX16_hexDigit_4 ?_
  refine g_imul X (pc := 5) dX16_hexDigit_5 ?_
  refine g_isub X (pc := 6) dX16_hexDigit_6 ?_
  refine g_ishr X (pc := 7) dX16_hexDigit_7 ?_
  refine g_bipush X (pc := 8) (v := 15) dX16_hexDigit_8 (by decide) ?_
  refine g_iand X (pc := 10) dX16_hexDigit_10 ?_
  obtain ⟨v1, ev1, h⟩ := bd h
  refine g_nmI ev1 ?_
  refine g_istore_n X (pc := 11) [(2, pI v1), (0, pI a0), (1, pI a1)] rfl (lt_n hn (by decide)) rfl dX16_hexDigit_11 ?_
  refine g_iload_n X (pc := 12) 0 rfl rfl dX16_hexDigit_12 ?_
  refine g_bipush X (pc := 13) (v := 10) dX16_hexDigit_13 (by decide) ?_
  refine g_icmp_ge X (pc := 15) (tgt := 25) dX16_hexDigit_15 (by decide) (fun hc => ?_) (fun hc => ?_)
  · have h := (if_pos hc).symm.trans h
    refine g_bipush X (pc := 25) (v := 97) dX16_hexDigit_25 (by decide) ?_
    refine g_iload_n X (pc := 27) 0 rfl rfl dX16_hexDigit_27 ?_
    refine g_iadd X (pc := 28) dX16_hexDigit_28 ?_
    refine g_bipush X (pc := 29) (v := 10) dX16_hexDigit_29 (by decide) ?_
    refine g_isub X (pc := 31) dX16_hexDigit_31 ?_
    obtain rfl := Option.some.inj h
    exact g_ireturn X hE dX16_hexDigit_32
  · have h := (if_neg hc).symm.trans h
    refine g_bipush X (pc := 18) (v := 48) dX16_hexDigit_18 (by decide) ?_
    refine g_iload_n X (pc := 20) 0 rfl rfl dX16_hexDigit_20 ?_
    refine g_iadd X (pc := 21) dX16_hexDigit_21 ?_
    refine g_goto X (pc := 22) (tgt := 32) dX16_hexDigit_22 (by decide) ?_
    obtain rfl := Option.some.inj h
    exact g_ireturn X hE dX16_hexDigit_32
theorem hyX16_hexDigit : yX16_hexDigit.cls ≠ "java/lang/invoke/MethodHandle" ∧ yX16_hexDigit.cls ≠ "java/lang/invoke/VarHandle" ∧ (parseMethodDescriptor yX16_hexDigit.desc).map (fun d => d.parameters.length) = some 2 := ⟨by decide +kernel, by decide +kernel, by decide +kernel⟩
theorem ctX16_hexDigit (l : Launch) (E : Nat → Nat) (D : va_G) (dA : Nat → ClassId) (lo : Nat) (H0 : Heap) (fu : Nat) (a0 : Int32) (a1 : Int32) (M : Mm) (out : Int32 × Mm) (h : fX16_hexDigit fu a0 a1 M = some out) : Ct l E D dA lo H0 yX16_hexDigit cX16_hexDigit 3 (some .int) 0 0 [pI a0, pI a1] M (some (pI out.1)) out.2 := by
  refine ct_of (by decide +kernel) (Nat.le_of_ble_eq_true rfl) ?_
  intro x hl he hd ha ho hh hn hin X hE
  exact wX16_hexDigit X hE hn fu a0 a1 M h
/-! WebHostModel.fits(I)Z -/
def fX16_fits_L68 (fu : Nat)  : Nat → Nat → Int32 → Int32 → Mm → Option (Int32 × Mm)
  | 0, _, _, _, _ => none
  | n + 1, a0, a1, a2, M =>
    if (8 : Int32) ≤ a2 then (
    rN .boolean (1 : Int32) M)
    else (
    (gI M 16 1085 (some a0)).bind fun v1 =>
    (rc M 16 (some a0)).bind fun q2 =>
    b2 (fX16_headAt fu q2 ((v1 + (1 : Int32)) + a2) M) fun v4 M3 =>
    (gR M3 16 1040 (some a0)).bind fun v5 =>
    (gA M3 101 v5 a1).bind fun v6 =>
    b2 (fX16_hexDigit fu  v6 a2 M3) fun v8 M7 =>
    if v4 = v8 then (
    fX16_fits_L68 fu  n a0 a1 (a2 + (1 : Int32)) M7)
    else (
    rN .boolean (0 : Int32) M7))
def fX16_fits (fu : Nat)  (a0 : Nat) (a1 : Int32)  (M : Mm) : Option (Int32 × Mm) :=
    (gI M 16 1085 (some a0)).bind fun v1 =>
    (gI M 16 1086 (some a0)).bind fun v2 =>
    (rc M 16 (some a0)).bind fun q3 =>
    b2 (fX16_says fu q3 v1 v2 (some 13) M) fun v5 M4 =>
    if v5 = 0 then (
    (gI M4 16 1086 (some a0)).bind fun v6 =>
    (gI M4 16 1085 (some a0)).bind fun v7 =>
    if (v6 - v7) = (10 : Int32) then (
    (gR M4 16 1065 (some a0)).bind fun v8 =>
    (gI M4 16 1085 (some a0)).bind fun v9 =>
    (gA M4 100 v8 v9).bind fun v10 =>
    if v10 = (34 : Int32) then (
    (gR M4 16 1065 (some a0)).bind fun v11 =>
    (gI M4 16 1086 (some a0)).bind fun v12 =>
    (gA M4 100 v11 (v12 - (1 : Int32))).bind fun v13 =>
    if v13 = (34 : Int32) then (
    fX16_fits_L68 fu  fu a0 a1 (0 : Int32) M4)
    else (
    rN .boolean (0 : Int32) M4))
    else (
    rN .boolean (0 : Int32) M4))
    else (
    rN .boolean (0 : Int32) M4))
    else (
    rN .boolean (1 : Int32) M4)
theorem dX16_fits_0 : decode cX16_fits 0 = .ok (.aload_n 0, 1) := by decide +kernel
theorem dX16_fits_1 : decode cX16_fits 1 = .ok (.aload_n 0, 1) := by decide +kernel
theorem dX16_fits_2 : decode cX16_fits 2 = .ok (.getfield 756, 3) := by decide +kernel
theorem dX16_fits_5 : decode cX16_fits 5 = .ok (.aload_n 0, 1) := by decide +kernel
theorem dX16_fits_6 : decode cX16_fits 6 = .ok (.getfield 759, 3) := by decide +kernel
theorem dX16_fits_9 : decode cX16_fits 9 = .ok (.ldc_w 784, 3) := by decide +kernel
theorem dX16_fits_12 : decode cX16_fits 12 = .ok (.invokevirtual 698, 3) := by decide +kernel
theorem dX16_fits_15 : decode cX16_fits 15 = .ok (.ifCond .eq 5, 3) := by decide +kernel
theorem dX16_fits_18 : decode cX16_fits 18 = .ok (.iconst 1, 1) := by decide +kernel
theorem dX16_fits_19 : decode cX16_fits 19 = .ok (.ireturn, 1) := by decide +kernel
theorem dX16_fits_20 : decode cX16_fits 20 = .ok (.aload_n 0, 1) := by decide +kernel
theorem dX16_fits_21 : decode cX16_fits 21 = .ok (.getfield 759, 3) := by decide +kernel
theorem dX16_fits_24 : decode cX16_fits 24 = .ok (.aload_n 0, 1) := by decide +kernel
theorem dX16_fits_25 : decode cX16_fits 25 = .ok (.getfield 756, 3) := by decide +kernel
theorem dX16_fits_28 : decode cX16_fits 28 = .ok (.isub, 1) := by decide +kernel
theorem dX16_fits_29 : decode cX16_fits 29 = .ok (.bipush 10, 2) := by decide +kernel
theorem dX16_fits_31 : decode cX16_fits 31 = .ok (.if_icmp .ne 33, 3) := by decide +kernel
theorem dX16_fits_34 : decode cX16_fits 34 = .ok (.aload_n 0, 1) := by decide +kernel
theorem dX16_fits_35 : decode cX16_fits 35 = .ok (.getfield 74, 3) := by decide +kernel
theorem dX16_fits_38 : decode cX16_fits 38 = .ok (.aload_n 0, 1) := by decide +kernel
theorem dX16_fits_39 : decode cX16_fits 39 = .ok (.getfield 756, 3) := by decide +kernel
theorem dX16_fits_42 : decode cX16_fits 42 = .ok (.baload, 1) := by decide +kernel
theorem dX16_fits_43 : decode cX16_fits 43 = .ok (.bipush 34, 2) := by decide +kernel
theorem dX16_fits_45 : decode cX16_fits 45 = .ok (.if_icmp .ne 19, 3) := by decide +kernel
theorem dX16_fits_48 : decode cX16_fits 48 = .ok (.aload_n 0, 1) := by decide +kernel
theorem dX16_fits_49 : decode cX16_fits 49 = .ok (.getfield 74, 3) := by decide +kernel
theorem dX16_fits_52 : decode cX16_fits 52 = .ok (.aload_n 0, 1) := by decide +kernel
theorem dX16_fits_53 : decode cX16_fits 53 = .ok (.getfield 759, 3) := by decide +kernel
theorem dX16_fits_56 : decode cX16_fits 56 = .ok (.iconst 1, 1) := by decide +kernel
theorem dX16_fits_57 : decode cX16_fits 57 = .ok (.isub, 1) := by decide +kernel
theorem dX16_fits_58 : decode cX16_fits 58 = .ok (.baload, 1) := by decide +kernel
theorem dX16_fits_59 : decode cX16_fits 59 = .ok (.bipush 34, 2) := by decide +kernel
theorem dX16_fits_61 : decode cX16_fits 61 = .ok (.if_icmp .eq 5, 3) := by decide +kernel
theorem dX16_fits_64 : decode cX16_fits 64 = .ok (.iconst 0, 1) := by decide +kernel
theorem dX16_fits_65 : decode cX16_fits 65 = .ok (.ireturn, 1) := by decide +kernel
theorem dX16_fits_66 : decode cX16_fits 66 = .ok (.iconst 0, 1) := by decide +kernel
theorem dX16_fits_67 : decode cX16_fits 67 = .ok (.istore_n 2, 1) := by decide +kernel
theorem dX16_fits_68 : decode cX16_fits 68 = .ok (.iload_n 2, 1) := by decide +kernel
theorem dX16_fits_69 : decode cX16_fits 69 = .ok (.bipush 8, 2) := by decide +kernel
theorem dX16_fits_71 : decode cX16_fits 71 = .ok (.if_icmp .ge 36, 3) := by decide +kernel
theorem dX16_fits_74 : decode cX16_fits 74 = .ok (.aload_n 0, 1) := by decide +kernel
theorem dX16_fits_75 : decode cX16_fits 75 = .ok (.aload_n 0, 1) := by decide +kernel
theorem dX16_fits_76 : decode cX16_fits 76 = .ok (.getfield 756, 3) := by decide +kernel
theorem dX16_fits_79 : decode cX16_fits 79 = .ok (.iconst 1, 1) := by decide +kernel
theorem dX16_fits_80 : decode cX16_fits 80 = .ok (.iadd, 1) := by decide +kernel
theorem dX16_fits_81 : decode cX16_fits 81 = .ok (.iload_n 2, 1) := by decide +kernel
theorem dX16_fits_82 : decode cX16_fits 82 = .ok (.iadd, 1) := by decide +kernel
theorem dX16_fits_83 : decode cX16_fits 83 = .ok (.invokevirtual 693, 3) := by decide +kernel
theorem dX16_fits_86 : decode cX16_fits 86 = .ok (.aload_n 0, 1) := by decide +kernel
theorem dX16_fits_87 : decode cX16_fits 87 = .ok (.getfield 28, 3) := by decide +kernel
theorem dX16_fits_90 : decode cX16_fits 90 = .ok (.iload_n 1, 1) := by decide +kernel
theorem dX16_fits_91 : decode cX16_fits 91 = .ok (.iaload, 1) := by decide +kernel
theorem dX16_fits_92 : decode cX16_fits 92 = .ok (.iload_n 2, 1) := by decide +kernel
theorem dX16_fits_93 : decode cX16_fits 93 = .ok (.invokestatic 786, 3) := by decide +kernel
theorem dX16_fits_96 : decode cX16_fits 96 = .ok (.if_icmp .eq 5, 3) := by decide +kernel
theorem dX16_fits_99 : decode cX16_fits 99 = .ok (.iconst 0, 1) := by decide +kernel
theorem dX16_fits_100 : decode cX16_fits 100 = .ok (.ireturn, 1) := by decide +kernel
theorem dX16_fits_101 : decode cX16_fits 101 = .ok (.iinc 2 1, 3) := by decide +kernel
theorem dX16_fits_104 : decode cX16_fits 104 = .ok (.goto (-36), 3) := by decide +kernel
theorem dX16_fits_107 : decode cX16_fits 107 = .ok (.iconst 1, 1) := by decide +kernel
theorem dX16_fits_108 : decode cX16_fits 108 = .ok (.ireturn, 1) := by decide +kernel
theorem wX16_fits_L68 {x : GX} {n0 sl0 : Nat} (X : Cx x cX16_fits RX16 (some .boolean) n0 sl0 6 130) {out : Int32 × Mm} (hE : Ends x n0 sl0 (some (pI out.1)) out.2) (hn : xn x = 3) (fu : Nat)   : ∀ (n : Nat) (a0 : Nat) (a1 : Int32) (a2 : Int32)  (M : Mm), fX16_fits_L68 fu  n a0 a1 a2 M = some out → Gw x M 68 [(0, pR (some a0)), (1, pI a1), (2, pI a2)] [] := by
  intro n
  induction n with
  | zero =>
    intro a0 a1 a2 M h
    have h : (none : Option (Int32 × Mm)) = some out := h
    cases h
  | succ n ih =>
    intro a0 a1 a2 M h
    rw [fX16_fits_L68] at h
    refine g_iload_n X (pc := 68) 2 rfl rfl dX16_fits_68 ?_
    refine g_bipush X (pc := 69) (v := 8) dX16_fits_69 (by decide) ?_
    refine g_icmp_ge X (pc := 71) (tgt := 107) dX16_fits_71 (by decide) (fun hc => ?_) (fun hc => ?_)
    · have h := (if_pos hc).symm.trans h
      refine g_iconst X (pc := 107) (v := 1) dX16_fits_107 (by decide) ?_
      obtain ⟨hz, rfl⟩ := rN_some h
      exact g_nreturn X rfl hz hE dX16_fits_108
    · have h := (if_neg hc).symm.trans h
      refine g_aload_n X (pc := 74) 0 rfl rfl dX16_fits_74 ?_
      refine g_aload_n X (pc := 75) 0 rfl rfl dX16_fits_75 ?_
      obtain ⟨v1, ev1, h⟩ := bd h
      refine g_getI X (pc := 76) fk_16_61 rfl rfl ev1 tb_1875 dX16_fits_76 ?_
      refine g_iconst X (pc := 79) (v := 1) dX16_fits_79 (by decide) ?_
      refine g_iadd X (pc := 80) dX16_fits_80 ?_
      refine g_iload_n X (pc := 81) 2 rfl rfl dX16_fits_81 ?_
      refine g_iadd X (pc := 82) dX16_fits_82 ?_
      obtain ⟨q2, eq2, h⟩ := bd h
      obtain ⟨v4, M3, eM3, h⟩ := b2d h
      refine g_callV X (pc := 83) (M' := M3) (ro := some (pI v4)) (c := 16) rfl (by decide) (as := [pI ((v1 + (1 : Int32)) + a2)]) (as' := [pI ((v1 + (1 : Int32)) + a2)]) (st := []) eq2 (ctX16_headAt _ _ _ _ _ _ fu q2 ((v1 + (1 : Int32)) + a2) M _ eM3) tb_2352 tb_2349 tb_2351 ts_124 tb_8 ⟨rfl, hyX16_headAt⟩ rfl rfl ⟨by decide, by decide⟩ (Nat.le_of_ble_eq_true rfl) dX16_fits_83 ?_
      refine g_aload_n X (pc := 86) 0 rfl rfl dX16_fits_86 ?_
      obtain ⟨v5, ev5, h⟩ := bd h
      refine g_getR X (pc := 87) fk_16_16 rfl rfl ev5 tb_1830 dX16_fits_87 ?_
      refine g_iload_n X (pc := 90) 1 rfl rfl dX16_fits_90 ?_
      obtain ⟨v6, ev6, h⟩ := bd h
      refine g_iaload X (pc := 91) ev6 dX16_fits_91 ?_
      refine g_iload_n X (pc := 92) 2 rfl rfl dX16_fits_92 ?_
      obtain ⟨v8, M7, eM7, h⟩ := b2d h
      refine g_callS X (pc := 93) (M' := M7) (ro := some (pI v8)) (as := [pI v6, pI a2]) (as' := [pI a2, pI v6]) (st := [pI v4]) (ctX16_hexDigit _ _ _ _ _ _ fu  v6 a2 M3 _ eM7) tb_2422 tb_2420 tb_2421 tb_8 hyX16_hexDigit rfl rfl ⟨by decide, by decide⟩ (Nat.le_of_ble_eq_true rfl) dX16_fits_93 ?_
      refine g_icmp_eq X (pc := 96) (tgt := 101) dX16_fits_96 (by decide) (fun hc => ?_) (fun hc => ?_)
      · have h := (if_pos hc).symm.trans h
        refine g_iinc X (pc := 101) 2 [(2, pI (a2 + (1 : Int32))), (0, pR (some a0)), (1, pI a1)] rfl (iinc_e (by decide)) (lt_n hn (by decide)) rfl dX16_fits_101 ?_
        refine g_goto X (pc := 104) (tgt := 68) dX16_fits_104 (by decide) ?_
        refine g_sub [1, 2, 0] [(0, pR (some a0)), (1, pI a1), (2, pI (a2 + (1 : Int32)))] rfl ?_
        exact ih a0 a1 (a2 + (1 : Int32)) M7 h
      · have h := (if_neg hc).symm.trans h
        refine g_iconst X (pc := 99) (v := 0) dX16_fits_99 (by decide) ?_
        obtain ⟨hz, rfl⟩ := rN_some h
        exact g_nreturn X rfl hz hE dX16_fits_100
theorem wX16_fits {x : GX} {n0 sl0 : Nat} (X : Cx x cX16_fits RX16 (some .boolean) n0 sl0 6 130) {out : Int32 × Mm} (hE : Ends x n0 sl0 (some (pI out.1)) out.2) (hn : xn x = 3) (fu : Nat)   (a0 : Nat) (a1 : Int32)  (M : Mm) (h : fX16_fits fu  a0 a1 M = some out) : Gw x M 0 [(0, pR (some a0)), (1, pI a1)] [] := by
  unfold fX16_fits at h
  refine g_aload_n X (pc := 0) 0 rfl rfl dX16_fits_0 ?_
  refine g_aload_n X (pc := 1) 0 rfl rfl dX16_fits_1 ?_
  obtain ⟨v1, ev1, h⟩ := bd h
  refine g_getI X (pc := 2) fk_16_61 rfl rfl ev1 tb_1875 dX16_fits_2 ?_
  refine g_aload_n X (pc := 5) 0 rfl rfl dX16_fits_5 ?_
  obtain ⟨v2, ev2, h⟩ := bd h
  refine g_getI X (pc := 6) fk_16_62 rfl rfl ev2 tb_1876 dX16_fits_6 ?_
  refine g_ldcwS X (pc := 9) (List.mem_of_getElem? (i := 55) rfl) dX16_fits_9 ?_
  obtain ⟨q3, eq3, h⟩ := bd h
  obtain ⟨v5, M4, eM4, h⟩ := b2d h
  refine g_callV X (pc := 12) (M' := M4) (ro := some (pI v5)) (c := 16) rfl (by decide) (as := [pI v1, pI v2, pR (some 13)]) (as' := [pR (some 13), pI v2, pI v1]) (st := []) eq3 (ctX16_says _ _ _ _ _ _ fu q3 v1 v2 (some 13) M _ eM4) tb_2357 tb_2354 tb_2356 ts_125 tb_8 ⟨rfl, hyX16_says⟩ rfl rfl ⟨by decide, by decide⟩ (Nat.le_of_ble_eq_true rfl) dX16_fits_12 ?_
  refine g_if_eq X (pc := 15) (tgt := 20) dX16_fits_15 (by decide) (fun hc => ?_) (fun hc => ?_)
  · have h := (if_pos hc).symm.trans h
    refine g_aload_n X (pc := 20) 0 rfl rfl dX16_fits_20 ?_
    obtain ⟨v6, ev6, h⟩ := bd h
    refine g_getI X (pc := 21) fk_16_62 rfl rfl ev6 tb_1876 dX16_fits_21 ?_
    refine g_aload_n X (pc := 24) 0 rfl rfl dX16_fits_24 ?_
    obtain ⟨v7, ev7, h⟩ := bd h
    refine g_getI X (pc := 25) fk_16_61 rfl rfl ev7 tb_1875 dX16_fits_25 ?_
    refine g_isub X (pc := 28) dX16_fits_28 ?_
    refine g_bipush X (pc := 29) (v := 10) dX16_fits_29 (by decide) ?_
    refine g_icmp_ne X (pc := 31) (tgt := 64) dX16_fits_31 (by decide) (fun hc => ?_) (fun hc => ?_)
    · have h := (if_neg hc).symm.trans h
      refine g_iconst X (pc := 64) (v := 0) dX16_fits_64 (by decide) ?_
      obtain ⟨hz, rfl⟩ := rN_some h
      exact g_nreturn X rfl hz hE dX16_fits_65
    · have h := (if_pos hc).symm.trans h
      refine g_aload_n X (pc := 34) 0 rfl rfl dX16_fits_34 ?_
      obtain ⟨v8, ev8, h⟩ := bd h
      refine g_getR X (pc := 35) fk_16_41 rfl rfl ev8 tb_1855 dX16_fits_35 ?_
      refine g_aload_n X (pc := 38) 0 rfl rfl dX16_fits_38 ?_
      obtain ⟨v9, ev9, h⟩ := bd h
      refine g_getI X (pc := 39) fk_16_61 rfl rfl ev9 tb_1875 dX16_fits_39 ?_
      obtain ⟨v10, ev10, h⟩ := bd h
      refine g_baload X (pc := 42) ev10 dX16_fits_42 ?_
      refine g_bipush X (pc := 43) (v := 34) dX16_fits_43 (by decide) ?_
      refine g_icmp_ne X (pc := 45) (tgt := 64) dX16_fits_45 (by decide) (fun hc => ?_) (fun hc => ?_)
      · have h := (if_neg hc).symm.trans h
        refine g_iconst X (pc := 64) (v := 0) dX16_fits_64 (by decide) ?_
        obtain ⟨hz, rfl⟩ := rN_some h
        exact g_nreturn X rfl hz hE dX16_fits_65
      · have h := (if_pos hc).symm.trans h
        refine g_aload_n X (pc := 48) 0 rfl rfl dX16_fits_48 ?_
        obtain ⟨v11, ev11, h⟩ := bd h
        refine g_getR X (pc := 49) fk_16_41 rfl rfl ev11 tb_1855 dX16_fits_49 ?_
        refine g_aload_n X (pc := 52) 0 rfl rfl dX16_fits_52 ?_
        obtain ⟨v12, ev12, h⟩ := bd h
        refine g_getI X (pc := 53) fk_16_62 rfl rfl ev12 tb_1876 dX16_fits_53 ?_
        refine g_iconst X (pc := 56) (v := 1) dX16_fits_56 (by decide) ?_
        refine g_isub X (pc := 57) dX16_fits_57 ?_
        obtain ⟨v13, ev13, h⟩ := bd h
        refine g_baload X (pc := 58) ev13 dX16_fits_58 ?_
        refine g_bipush X (pc := 59) (v := 34) dX16_fits_59 (by decide) ?_
        refine g_icmp_eq X (pc := 61) (tgt := 66) dX16_fits_61 (by decide) (fun hc => ?_) (fun hc => ?_)
        · have h := (if_pos hc).symm.trans h
          refine g_iconst X (pc := 66) (v := 0) dX16_fits_66 (by decide) ?_
          refine g_istore_n X (pc := 67) [(2, pI (0 : Int32)), (0, pR (some a0)), (1, pI a1)] rfl (lt_n hn (by decide)) rfl dX16_fits_67 ?_
          refine g_sub [1, 2, 0] [(0, pR (some a0)), (1, pI a1), (2, pI (0 : Int32))] rfl ?_
          exact wX16_fits_L68 X hE hn fu   fu a0 a1 (0 : Int32) M4 h
        · have h := (if_neg hc).symm.trans h
          refine g_iconst X (pc := 64) (v := 0) dX16_fits_64 (by decide) ?_
          obtain ⟨hz, rfl⟩ := rN_some h
          exact g_nreturn X rfl hz hE dX16_fits_65
  · have h := (if_neg hc).symm.trans h
    refine g_iconst X (pc := 18) (v := 1) dX16_fits_18 (by decide) ?_
    obtain ⟨hz, rfl⟩ := rN_some h
    exact g_nreturn X rfl hz hE dX16_fits_19
theorem hyX16_fits : yX16_fits.cls ≠ "java/lang/invoke/MethodHandle" ∧ yX16_fits.cls ≠ "java/lang/invoke/VarHandle" ∧ (parseMethodDescriptor yX16_fits.desc).map (fun d => d.parameters.length) = some 1 := ⟨by decide +kernel, by decide +kernel, by decide +kernel⟩
theorem ctX16_fits (l : Launch) (E : Nat → Nat) (D : va_G) (dA : Nat → ClassId) (lo : Nat) (H0 : Heap) (fu : Nat) (a0 : Nat) (a1 : Int32) (M : Mm) (out : Int32 × Mm) (h : fX16_fits fu a0 a1 M = some out) : Ct l E D dA lo H0 yX16_fits cX16_fits 3 (some .boolean) 6 130 [pR (some a0), pI a1] M (some (pI out.1)) out.2 := by
  refine ct_of (by decide +kernel) (Nat.le_of_ble_eq_true rfl) ?_
  intro x hl he hd ha ho hh hn hin X hE
  exact wX16_fits X hE hn fu a0 a1 M h
