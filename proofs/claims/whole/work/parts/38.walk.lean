/-! ===== walks of methods, printed by a program of ours ===== -/
/-! WebHostModel.ipOut(III)V -/
def fX16_ipOut_L271 (fu : Nat)  : Nat → Nat → Int32 → Option Nat → Int32 → Int32 → Mm → Option (Mm)
  | 0, _, _, _, _, _, _ => none
  | n + 1, a0, a4, a6, a7, a8, M =>
    (gI M 15 962 a6).bind fun v1 =>
    if v1 ≤ a8 then (
    if a7 = 0 then (
    some M)
    else (
    (gI M 16 1034 (some a0)).bind fun v2 =>
    (pF M 15 963 a6 v2).bind fun M3 =>
    (pF M3 15 964 a6 (1 : Int32)).bind fun M4 =>
    (gI M4 16 1049 (some a0)).bind fun v5 =>
    (pF M4 16 1049 (some a0) (v5 + (1 : Int32))).bind fun M6 =>
    (gI M6 16 1049 (some a0)).bind fun v7 =>
    (pF M6 15 965 a6 v7).bind fun M8 =>
    (rc M8 16 (some a0)).bind fun q9 =>
    (fX16_ask fu q9 a4 M8).bind fun M10 =>
    some M10))
    else (
    (gR M 15 966 a6).bind fun v11 =>
    (gR M 16 1043 (some a0)).bind fun v12 =>
    (gA M 100 v12 ((14 : Int32) + a8)).bind fun v13 =>
    (pA M 100 v11 a8 (Int8.toInt32 (Int32.toInt8 v13))).bind fun M14 =>
    fX16_ipOut_L271 fu  n a0 a4 a6 a7 (a8 + (1 : Int32)) M14)
def fX16_ipOut_L240 (fu : Nat)  (a0 : Nat) (a3 : Int32) (a4 : Int32) (a6 : Option Nat) (a7 : Int32)  (M : Mm) : Option (Mm) :=
    if a6 = none then (
    some M)
    else (
    (pZ M 15 960 a6 (1 : Int32)).bind fun M1 =>
    (pF M1 15 961 a6 a4).bind fun M2 =>
    (pF M2 15 962 a6 ((20 : Int32) + a3)).bind fun M3 =>
    fX16_ipOut_L271 fu  fu a0 a4 a6 a7 (0 : Int32) M3)
def fX16_ipOut_L234 (fu : Nat) (k200 : Nat → Int32 → Int32 → Option Nat → Int32 → Int32 → Mm → Option (Mm)) (a0 : Nat) (a3 : Int32) (a4 : Int32) (a6 : Option Nat) (a7 : Int32) (a8 : Int32)  (M : Mm) : Option (Mm) :=
    k200 a0 a3 a4 a6 a7 (a8 + (1 : Int32)) M
def fX16_ipOut_L200 (fu : Nat)  : Nat → Nat → Int32 → Int32 → Option Nat → Int32 → Int32 → Mm → Option (Mm)
  | 0, _, _, _, _, _, _, _ => none
  | n + 1, a0, a3, a4, a6, a7, a8, M =>
    if (8 : Int32) ≤ a8 then (
    fX16_ipOut_L240 fu  a0 a3 a4 a6 a7 M)
    else (
    if a6 = none then (
    (gR M 16 1051 (some a0)).bind fun v1 =>
    (gB M 125 v1 a8).bind fun v2 =>
    (gI M 15 960 v2).bind fun v3 =>
    if v3 = 0 then (
    (gR M 16 1051 (some a0)).bind fun v4 =>
    (gB M 125 v4 a8).bind fun v5 =>
    fX16_ipOut_L234 fu (fun b0 b3 b4 b6 b7 b8 M => fX16_ipOut_L200 fu  n b0 b3 b4 b6 b7 b8 M) a0 a3 a4 v5 a7 a8 M)
    else (
    fX16_ipOut_L234 fu (fun b0 b3 b4 b6 b7 b8 M => fX16_ipOut_L200 fu  n b0 b3 b4 b6 b7 b8 M) a0 a3 a4 a6 a7 a8 M))
    else (
    fX16_ipOut_L240 fu  a0 a3 a4 a6 a7 M))
def fX16_ipOut_L195 (fu : Nat)  (a0 : Nat) (a3 : Int32) (a4 : Int32) (a6 : Option Nat) (s0 : Int32) (M : Mm) : Option (Mm) :=
    fX16_ipOut_L200 fu  fu a0 a3 a4 a6 s0 (0 : Int32) M
def fX16_ipOut_L140 (fu : Nat)  (a0 : Nat) (a3 : Int32) (s0 : Int32) (M : Mm) : Option (Mm) :=
    (rc M 16 (some a0)).bind fun q1 =>
    b2 (fX16_counting fu q1 s0 M) fun v3 M2 =>
    if v3 = none then (
    (rc M2 16 (some a0)).bind fun q4 =>
    b2 (fX16_packet fu q4 s0 M2) fun v6 M5 =>
    if v6 = none then (
    fX16_ipOut_L195 fu  a0 a3 s0 v6 (1 : Int32) M5)
    else (
    fX16_ipOut_L195 fu  a0 a3 s0 v6 (0 : Int32) M5))
    else (
    (gI M2 14 898 v3).bind fun v7 =>
    (gI M2 14 899 v3).bind fun v8 =>
    (rc M2 16 (some a0)).bind fun q9 =>
    (fX16_send fu q9 v7 v8 (2048 : Int32) ((20 : Int32) + a3) M2).bind fun M10 =>
    some M10)
def fX16_ipOut (fu : Nat)  (a0 : Nat) (a1 : Int32) (a2 : Int32) (a3 : Int32)  (M : Mm) : Option (Mm) :=
    (gI M 16 1048 (some a0)).bind fun v1 =>
    (pF M 16 1048 (some a0) ((v1 + (1 : Int32)) &&& (65535 : Int32))).bind fun M2 =>
    (rc M2 16 (some a0)).bind fun q3 =>
    (fX16_put fu q3 (14 : Int32) (2 : Int32) (17664 : Int32) M2).bind fun M4 =>
    (rc M4 16 (some a0)).bind fun q5 =>
    (fX16_put fu q5 (16 : Int32) (2 : Int32) ((20 : Int32) + a3) M4).bind fun M6 =>
    (gI M6 16 1048 (some a0)).bind fun v7 =>
    (rc M6 16 (some a0)).bind fun q8 =>
    (fX16_put fu q8 (18 : Int32) (2 : Int32) v7 M6).bind fun M9 =>
    (rc M9 16 (some a0)).bind fun q10 =>
    (fX16_put fu q10 (20 : Int32) (2 : Int32) (16384 : Int32) M9).bind fun M11 =>
    (rc M11 16 (some a0)).bind fun q12 =>
    (fX16_put fu q12 (22 : Int32) (2 : Int32) ((16384 : Int32) ||| a2) M11).bind fun M13 =>
    (rc M13 16 (some a0)).bind fun q14 =>
    (fX16_put fu q14 (24 : Int32) (2 : Int32) (0 : Int32) M13).bind fun M15 =>
    (gI M15 16 1029 (some a0)).bind fun v16 =>
    (rc M15 16 (some a0)).bind fun q17 =>
    (fX16_put fu q17 (26 : Int32) (4 : Int32) v16 M15).bind fun M18 =>
    (rc M18 16 (some a0)).bind fun q19 =>
    (fX16_put fu q19 (30 : Int32) (4 : Int32) a1 M18).bind fun M20 =>
    (gR M20 16 1043 (some a0)).bind fun v21 =>
    b2 (fX16_added fu  v21 (14 : Int32) (20 : Int32) (0 : Int64) M20) fun v23 M22 =>
    b2 (fX16_sixteen fu  v23 M22) fun v25 M24 =>
    (rc M24 16 (some a0)).bind fun q26 =>
    (fX16_put fu q26 (24 : Int32) (2 : Int32) v25 M24).bind fun M27 =>
    (rc M27 16 (some a0)).bind fun q28 =>
    b2 (fX16_net fu q28 a1 M27) fun v30 M29 =>
    (gI M29 16 1029 (some a0)).bind fun v31 =>
    (rc M29 16 (some a0)).bind fun q32 =>
    b2 (fX16_net fu q32 v31 M29) fun v34 M33 =>
    if v30 = v34 then (
    fX16_ipOut_L140 fu  a0 a3 a1 M33)
    else (
    (gI M33 16 1031 (some a0)).bind fun v35 =>
    fX16_ipOut_L140 fu  a0 a3 v35 M33)
theorem dX16_ipOut_0 : decode cX16_ipOut 0 = .ok (.aload_n 0, 1) := by decide +kernel
theorem dX16_ipOut_1 : decode cX16_ipOut 1 = .ok (.aload_n 0, 1) := by decide +kernel
theorem dX16_ipOut_2 : decode cX16_ipOut 2 = .ok (.getfield 140, 3) := by decide +kernel
theorem dX16_ipOut_5 : decode cX16_ipOut 5 = .ok (.iconst 1, 1) := by decide +kernel
theorem dX16_ipOut_6 : decode cX16_ipOut 6 = .ok (.iadd, 1) := by decide +kernel
theorem dX16_ipOut_7 : decode cX16_ipOut 7 = .ok (.ldc 14, 2) := by decide +kernel
theorem dX16_ipOut_9 : decode cX16_ipOut 9 = .ok (.iand, 1) := by decide +kernel
theorem dX16_ipOut_10 : decode cX16_ipOut 10 = .ok (.putfield 140, 3) := by decide +kernel
theorem dX16_ipOut_13 : decode cX16_ipOut 13 = .ok (.aload_n 0, 1) := by decide +kernel
theorem dX16_ipOut_14 : decode cX16_ipOut 14 = .ok (.bipush 14, 2) := by decide +kernel
theorem dX16_ipOut_16 : decode cX16_ipOut 16 = .ok (.iconst 2, 1) := by decide +kernel
theorem dX16_ipOut_17 : decode cX16_ipOut 17 = .ok (.sipush 17664, 3) := by decide +kernel
theorem dX16_ipOut_20 : decode cX16_ipOut 20 = .ok (.invokevirtual 160, 3) := by decide +kernel
theorem dX16_ipOut_23 : decode cX16_ipOut 23 = .ok (.aload_n 0, 1) := by decide +kernel
theorem dX16_ipOut_24 : decode cX16_ipOut 24 = .ok (.bipush 16, 2) := by decide +kernel
theorem dX16_ipOut_26 : decode cX16_ipOut 26 = .ok (.iconst 2, 1) := by decide +kernel
theorem dX16_ipOut_27 : decode cX16_ipOut 27 = .ok (.bipush 20, 2) := by decide +kernel
theorem dX16_ipOut_29 : decode cX16_ipOut 29 = .ok (.iload_n 3, 1) := by decide +kernel
theorem dX16_ipOut_30 : decode cX16_ipOut 30 = .ok (.iadd, 1) := by decide +kernel
theorem dX16_ipOut_31 : decode cX16_ipOut 31 = .ok (.invokevirtual 160, 3) := by decide +kernel
theorem dX16_ipOut_34 : decode cX16_ipOut 34 = .ok (.aload_n 0, 1) := by decide +kernel
theorem dX16_ipOut_35 : decode cX16_ipOut 35 = .ok (.bipush 18, 2) := by decide +kernel
theorem dX16_ipOut_37 : decode cX16_ipOut 37 = .ok (.iconst 2, 1) := by decide +kernel
theorem dX16_ipOut_38 : decode cX16_ipOut 38 = .ok (.aload_n 0, 1) := by decide +kernel
theorem dX16_ipOut_39 : decode cX16_ipOut 39 = .ok (.getfield 140, 3) := by decide +kernel
theorem dX16_ipOut_42 : decode cX16_ipOut 42 = .ok (.invokevirtual 160, 3) := by decide +kernel
theorem dX16_ipOut_45 : decode cX16_ipOut 45 = .ok (.aload_n 0, 1) := by decide +kernel
theorem dX16_ipOut_46 : decode cX16_ipOut 46 = .ok (.bipush 20, 2) := by decide +kernel
theorem dX16_ipOut_48 : decode cX16_ipOut 48 = .ok (.iconst 2, 1) := by decide +kernel
theorem dX16_ipOut_49 : decode cX16_ipOut 49 = .ok (.sipush 16384, 3) := by decide +kernel
theorem dX16_ipOut_52 : decode cX16_ipOut 52 = .ok (.invokevirtual 160, 3) := by decide +kernel
theorem dX16_ipOut_55 : decode cX16_ipOut 55 = .ok (.aload_n 0, 1) := by decide +kernel
theorem dX16_ipOut_56 : decode cX16_ipOut 56 = .ok (.bipush 22, 2) := by decide +kernel
theorem dX16_ipOut_58 : decode cX16_ipOut 58 = .ok (.iconst 2, 1) := by decide +kernel
theorem dX16_ipOut_59 : decode cX16_ipOut 59 = .ok (.sipush 16384, 3) := by decide +kernel
theorem dX16_ipOut_62 : decode cX16_ipOut 62 = .ok (.iload_n 2, 1) := by decide +kernel
theorem dX16_ipOut_63 : decode cX16_ipOut 63 = .ok (.ior, 1) := by decide +kernel
theorem dX16_ipOut_64 : decode cX16_ipOut 64 = .ok (.invokevirtual 160, 3) := by decide +kernel
theorem dX16_ipOut_67 : decode cX16_ipOut 67 = .ok (.aload_n 0, 1) := by decide +kernel
theorem dX16_ipOut_68 : decode cX16_ipOut 68 = .ok (.bipush 24, 2) := by decide +kernel
theorem dX16_ipOut_70 : decode cX16_ipOut 70 = .ok (.iconst 2, 1) := by decide +kernel
theorem dX16_ipOut_71 : decode cX16_ipOut 71 = .ok (.iconst 0, 1) := by decide +kernel
theorem dX16_ipOut_72 : decode cX16_ipOut 72 = .ok (.invokevirtual 160, 3) := by decide +kernel
theorem dX16_ipOut_75 : decode cX16_ipOut 75 = .ok (.aload_n 0, 1) := by decide +kernel
theorem dX16_ipOut_76 : decode cX16_ipOut 76 = .ok (.bipush 26, 2) := by decide +kernel
theorem dX16_ipOut_78 : decode cX16_ipOut 78 = .ok (.iconst 4, 1) := by decide +kernel
theorem dX16_ipOut_79 : decode cX16_ipOut 79 = .ok (.aload_n 0, 1) := by decide +kernel
theorem dX16_ipOut_80 : decode cX16_ipOut 80 = .ok (.getfield 119, 3) := by decide +kernel
theorem dX16_ipOut_83 : decode cX16_ipOut 83 = .ok (.invokevirtual 160, 3) := by decide +kernel
theorem dX16_ipOut_86 : decode cX16_ipOut 86 = .ok (.aload_n 0, 1) := by decide +kernel
theorem dX16_ipOut_87 : decode cX16_ipOut 87 = .ok (.bipush 30, 2) := by decide +kernel
theorem dX16_ipOut_89 : decode cX16_ipOut 89 = .ok (.iconst 4, 1) := by decide +kernel
theorem dX16_ipOut_90 : decode cX16_ipOut 90 = .ok (.iload_n 1, 1) := by decide +kernel
theorem dX16_ipOut_91 : decode cX16_ipOut 91 = .ok (.invokevirtual 160, 3) := by decide +kernel
theorem dX16_ipOut_94 : decode cX16_ipOut 94 = .ok (.aload_n 0, 1) := by decide +kernel
theorem dX16_ipOut_95 : decode cX16_ipOut 95 = .ok (.bipush 24, 2) := by decide +kernel
theorem dX16_ipOut_97 : decode cX16_ipOut 97 = .ok (.iconst 2, 1) := by decide +kernel
theorem dX16_ipOut_98 : decode cX16_ipOut 98 = .ok (.aload_n 0, 1) := by decide +kernel
theorem dX16_ipOut_99 : decode cX16_ipOut 99 = .ok (.getfield 34, 3) := by decide +kernel
theorem dX16_ipOut_102 : decode cX16_ipOut 102 = .ok (.bipush 14, 2) := by decide +kernel
theorem dX16_ipOut_104 : decode cX16_ipOut 104 = .ok (.bipush 20, 2) := by decide +kernel
theorem dX16_ipOut_106 : decode cX16_ipOut 106 = .ok (.lconst 0, 1) := by decide +kernel
theorem dX16_ipOut_107 : decode cX16_ipOut 107 = .ok (.invokestatic 216, 3) := by decide +kernel
theorem dX16_ipOut_110 : decode cX16_ipOut 110 = .ok (.invokestatic 220, 3) := by decide +kernel
theorem dX16_ipOut_113 : decode cX16_ipOut 113 = .ok (.invokevirtual 160, 3) := by decide +kernel
theorem dX16_ipOut_116 : decode cX16_ipOut 116 = .ok (.aload_n 0, 1) := by decide +kernel
theorem dX16_ipOut_117 : decode cX16_ipOut 117 = .ok (.iload_n 1, 1) := by decide +kernel
theorem dX16_ipOut_118 : decode cX16_ipOut 118 = .ok (.invokevirtual 224, 3) := by decide +kernel
theorem dX16_ipOut_121 : decode cX16_ipOut 121 = .ok (.aload_n 0, 1) := by decide +kernel
theorem dX16_ipOut_122 : decode cX16_ipOut 122 = .ok (.aload_n 0, 1) := by decide +kernel
theorem dX16_ipOut_123 : decode cX16_ipOut 123 = .ok (.getfield 119, 3) := by decide +kernel
theorem dX16_ipOut_126 : decode cX16_ipOut 126 = .ok (.invokevirtual 224, 3) := by decide +kernel
theorem dX16_ipOut_129 : decode cX16_ipOut 129 = .ok (.if_icmp .ne 7, 3) := by decide +kernel
theorem dX16_ipOut_132 : decode cX16_ipOut 132 = .ok (.iload_n 1, 1) := by decide +kernel
theorem dX16_ipOut_133 : decode cX16_ipOut 133 = .ok (.goto 7, 3) := by decide +kernel
theorem dX16_ipOut_136 : decode cX16_ipOut 136 = .ok (.aload_n 0, 1) := by decide +kernel
theorem dX16_ipOut_137 : decode cX16_ipOut 137 = .ok (.getfield 122, 3) := by decide +kernel
theorem dX16_ipOut_140 : decode cX16_ipOut 140 = .ok (.istore 4, 2) := by decide +kernel
theorem dX16_ipOut_142 : decode cX16_ipOut 142 = .ok (.aload_n 0, 1) := by decide +kernel
theorem dX16_ipOut_143 : decode cX16_ipOut 143 = .ok (.iload 4, 2) := by decide +kernel
theorem dX16_ipOut_145 : decode cX16_ipOut 145 = .ok (.invokevirtual 227, 3) := by decide +kernel
theorem dX16_ipOut_148 : decode cX16_ipOut 148 = .ok (.astore 5, 2) := by decide +kernel
theorem dX16_ipOut_150 : decode cX16_ipOut 150 = .ok (.aload 5, 2) := by decide +kernel
theorem dX16_ipOut_152 : decode cX16_ipOut 152 = .ok (.ifnull 25, 3) := by decide +kernel
theorem dX16_ipOut_155 : decode cX16_ipOut 155 = .ok (.aload_n 0, 1) := by decide +kernel
theorem dX16_ipOut_156 : decode cX16_ipOut 156 = .ok (.aload 5, 2) := by decide +kernel
theorem dX16_ipOut_158 : decode cX16_ipOut 158 = .ok (.getfield 185, 3) := by decide +kernel
theorem dX16_ipOut_161 : decode cX16_ipOut 161 = .ok (.aload 5, 2) := by decide +kernel
theorem dX16_ipOut_163 : decode cX16_ipOut 163 = .ok (.getfield 186, 3) := by decide +kernel
theorem dX16_ipOut_166 : decode cX16_ipOut 166 = .ok (.sipush 2048, 3) := by decide +kernel
theorem dX16_ipOut_169 : decode cX16_ipOut 169 = .ok (.bipush 20, 2) := by decide +kernel
theorem dX16_ipOut_171 : decode cX16_ipOut 171 = .ok (.iload_n 3, 1) := by decide +kernel
theorem dX16_ipOut_172 : decode cX16_ipOut 172 = .ok (.iadd, 1) := by decide +kernel
theorem dX16_ipOut_173 : decode cX16_ipOut 173 = .ok (.invokevirtual 197, 3) := by decide +kernel
theorem dX16_ipOut_176 : decode cX16_ipOut 176 = .ok (.return_, 1) := by decide +kernel
theorem dX16_ipOut_177 : decode cX16_ipOut 177 = .ok (.aload_n 0, 1) := by decide +kernel
theorem dX16_ipOut_178 : decode cX16_ipOut 178 = .ok (.iload 4, 2) := by decide +kernel
theorem dX16_ipOut_180 : decode cX16_ipOut 180 = .ok (.invokevirtual 187, 3) := by decide +kernel
theorem dX16_ipOut_183 : decode cX16_ipOut 183 = .ok (.astore 6, 2) := by decide +kernel
theorem dX16_ipOut_185 : decode cX16_ipOut 185 = .ok (.aload 6, 2) := by decide +kernel
theorem dX16_ipOut_187 : decode cX16_ipOut 187 = .ok (.ifnonnull 7, 3) := by decide +kernel
theorem dX16_ipOut_190 : decode cX16_ipOut 190 = .ok (.iconst 1, 1) := by decide +kernel
theorem dX16_ipOut_191 : decode cX16_ipOut 191 = .ok (.goto 4, 3) := by decide +kernel
theorem dX16_ipOut_194 : decode cX16_ipOut 194 = .ok (.iconst 0, 1) := by decide +kernel
theorem dX16_ipOut_195 : decode cX16_ipOut 195 = .ok (.istore 7, 2) := by decide +kernel
theorem dX16_ipOut_197 : decode cX16_ipOut 197 = .ok (.iconst 0, 1) := by decide +kernel
theorem dX16_ipOut_198 : decode cX16_ipOut 198 = .ok (.istore 8, 2) := by decide +kernel
theorem dX16_ipOut_200 : decode cX16_ipOut 200 = .ok (.iload 8, 2) := by decide +kernel
theorem dX16_ipOut_202 : decode cX16_ipOut 202 = .ok (.bipush 8, 2) := by decide +kernel
theorem dX16_ipOut_204 : decode cX16_ipOut 204 = .ok (.if_icmp .ge 36, 3) := by decide +kernel
theorem dX16_ipOut_207 : decode cX16_ipOut 207 = .ok (.aload 6, 2) := by decide +kernel
theorem dX16_ipOut_209 : decode cX16_ipOut 209 = .ok (.ifnonnull 31, 3) := by decide +kernel
theorem dX16_ipOut_212 : decode cX16_ipOut 212 = .ok (.aload_n 0, 1) := by decide +kernel
theorem dX16_ipOut_213 : decode cX16_ipOut 213 = .ok (.getfield 55, 3) := by decide +kernel
theorem dX16_ipOut_216 : decode cX16_ipOut 216 = .ok (.iload 8, 2) := by decide +kernel
theorem dX16_ipOut_218 : decode cX16_ipOut 218 = .ok (.aaload, 1) := by decide +kernel
theorem dX16_ipOut_219 : decode cX16_ipOut 219 = .ok (.getfield 158, 3) := by decide +kernel
theorem dX16_ipOut_222 : decode cX16_ipOut 222 = .ok (.ifCond .ne 12, 3) := by decide +kernel
theorem dX16_ipOut_225 : decode cX16_ipOut 225 = .ok (.aload_n 0, 1) := by decide +kernel
theorem dX16_ipOut_226 : decode cX16_ipOut 226 = .ok (.getfield 55, 3) := by decide +kernel
theorem dX16_ipOut_229 : decode cX16_ipOut 229 = .ok (.iload 8, 2) := by decide +kernel
theorem dX16_ipOut_231 : decode cX16_ipOut 231 = .ok (.aaload, 1) := by decide +kernel
theorem dX16_ipOut_232 : decode cX16_ipOut 232 = .ok (.astore 6, 2) := by decide +kernel
theorem dX16_ipOut_234 : decode cX16_ipOut 234 = .ok (.iinc 8 1, 3) := by decide +kernel
theorem dX16_ipOut_237 : decode cX16_ipOut 237 = .ok (.goto (-37), 3) := by decide +kernel
theorem dX16_ipOut_240 : decode cX16_ipOut 240 = .ok (.aload 6, 2) := by decide +kernel
theorem dX16_ipOut_242 : decode cX16_ipOut 242 = .ok (.ifnonnull 4, 3) := by decide +kernel
theorem dX16_ipOut_245 : decode cX16_ipOut 245 = .ok (.return_, 1) := by decide +kernel
theorem dX16_ipOut_246 : decode cX16_ipOut 246 = .ok (.aload 6, 2) := by decide +kernel
theorem dX16_ipOut_248 : decode cX16_ipOut 248 = .ok (.iconst 1, 1) := by decide +kernel
theorem dX16_ipOut_249 : decode cX16_ipOut 249 = .ok (.putfield 158, 3) := by decide +kernel
theorem dX16_ipOut_252 : decode cX16_ipOut 252 = .ok (.aload 6, 2) := by decide +kernel
theorem dX16_ipOut_254 : decode cX16_ipOut 254 = .ok (.iload 4, 2) := by decide +kernel
theorem dX16_ipOut_256 : decode cX16_ipOut 256 = .ok (.putfield 182, 3) := by decide +kernel
theorem dX16_ipOut_259 : decode cX16_ipOut 259 = .ok (.aload 6, 2) := by decide +kernel
theorem dX16_ipOut_261 : decode cX16_ipOut 261 = .ok (.bipush 20, 2) := by decide +kernel
theorem dX16_ipOut_263 : decode cX16_ipOut 263 = .ok (.iload_n 3, 1) := by decide +kernel
theorem dX16_ipOut_264 : decode cX16_ipOut 264 = .ok (.iadd, 1) := by decide +kernel
theorem dX16_ipOut_265 : decode cX16_ipOut 265 = .ok (.putfield 191, 3) := by decide +kernel
theorem dX16_ipOut_268 : decode cX16_ipOut 268 = .ok (.iconst 0, 1) := by decide +kernel
theorem dX16_ipOut_269 : decode cX16_ipOut 269 = .ok (.istore 8, 2) := by decide +kernel
theorem dX16_ipOut_271 : decode cX16_ipOut 271 = .ok (.iload 8, 2) := by decide +kernel
theorem dX16_ipOut_273 : decode cX16_ipOut 273 = .ok (.aload 6, 2) := by decide +kernel
theorem dX16_ipOut_275 : decode cX16_ipOut 275 = .ok (.getfield 191, 3) := by decide +kernel
theorem dX16_ipOut_278 : decode cX16_ipOut 278 = .ok (.if_icmp .ge 27, 3) := by decide +kernel
theorem dX16_ipOut_281 : decode cX16_ipOut 281 = .ok (.aload 6, 2) := by decide +kernel
theorem dX16_ipOut_283 : decode cX16_ipOut 283 = .ok (.getfield 194, 3) := by decide +kernel
theorem dX16_ipOut_286 : decode cX16_ipOut 286 = .ok (.iload 8, 2) := by decide +kernel
theorem dX16_ipOut_288 : decode cX16_ipOut 288 = .ok (.aload_n 0, 1) := by decide +kernel
theorem dX16_ipOut_289 : decode cX16_ipOut 289 = .ok (.getfield 34, 3) := by decide +kernel
theorem dX16_ipOut_292 : decode cX16_ipOut 292 = .ok (.bipush 14, 2) := by decide +kernel
theorem dX16_ipOut_294 : decode cX16_ipOut 294 = .ok (.iload 8, 2) := by decide +kernel
theorem dX16_ipOut_296 : decode cX16_ipOut 296 = .ok (.iadd, 1) := by decide +kernel
theorem dX16_ipOut_297 : decode cX16_ipOut 297 = .ok (.baload, 1) := by decide +kernel
theorem dX16_ipOut_298 : decode cX16_ipOut 298 = .ok (.bastore, 1) := by decide +kernel
theorem dX16_ipOut_299 : decode cX16_ipOut 299 = .ok (.iinc 8 1, 3) := by decide +kernel
theorem dX16_ipOut_302 : decode cX16_ipOut 302 = .ok (.goto (-31), 3) := by decide +kernel
theorem dX16_ipOut_305 : decode cX16_ipOut 305 = .ok (.iload 7, 2) := by decide +kernel
theorem dX16_ipOut_307 : decode cX16_ipOut 307 = .ok (.ifCond .ne 4, 3) := by decide +kernel
theorem dX16_ipOut_310 : decode cX16_ipOut 310 = .ok (.return_, 1) := by decide +kernel
theorem dX16_ipOut_311 : decode cX16_ipOut 311 = .ok (.aload 6, 2) := by decide +kernel
theorem dX16_ipOut_313 : decode cX16_ipOut 313 = .ok (.aload_n 0, 1) := by decide +kernel
theorem dX16_ipOut_314 : decode cX16_ipOut 314 = .ok (.getfield 134, 3) := by decide +kernel
theorem dX16_ipOut_317 : decode cX16_ipOut 317 = .ok (.putfield 230, 3) := by decide +kernel
theorem dX16_ipOut_320 : decode cX16_ipOut 320 = .ok (.aload 6, 2) := by decide +kernel
theorem dX16_ipOut_322 : decode cX16_ipOut 322 = .ok (.iconst 1, 1) := by decide +kernel
theorem dX16_ipOut_323 : decode cX16_ipOut 323 = .ok (.putfield 233, 3) := by decide +kernel
theorem dX16_ipOut_326 : decode cX16_ipOut 326 = .ok (.aload_n 0, 1) := by decide +kernel
theorem dX16_ipOut_327 : decode cX16_ipOut 327 = .ok (.dup, 1) := by decide +kernel
theorem dX16_ipOut_328 : decode cX16_ipOut 328 = .ok (.getfield 149, 3) := by decide +kernel
theorem dX16_ipOut_331 : decode cX16_ipOut 331 = .ok (.iconst 1, 1) := by decide +kernel
theorem dX16_ipOut_332 : decode cX16_ipOut 332 = .ok (.iadd, 1) := by decide +kernel
theorem dX16_ipOut_333 : decode cX16_ipOut 333 = .ok (.putfield 149, 3) := by decide +kernel
theorem dX16_ipOut_336 : decode cX16_ipOut 336 = .ok (.aload 6, 2) := by decide +kernel
theorem dX16_ipOut_338 : decode cX16_ipOut 338 = .ok (.aload_n 0, 1) := by decide +kernel
theorem dX16_ipOut_339 : decode cX16_ipOut 339 = .ok (.getfield 149, 3) := by decide +kernel
theorem dX16_ipOut_342 : decode cX16_ipOut 342 = .ok (.putfield 236, 3) := by decide +kernel
theorem dX16_ipOut_345 : decode cX16_ipOut 345 = .ok (.aload_n 0, 1) := by decide +kernel
theorem dX16_ipOut_346 : decode cX16_ipOut 346 = .ok (.iload 4, 2) := by decide +kernel
theorem dX16_ipOut_348 : decode cX16_ipOut 348 = .ok (.invokevirtual 237, 3) := by decide +kernel
theorem dX16_ipOut_351 : decode cX16_ipOut 351 = .ok (.return_, 1) := by decide +kernel
theorem wX16_ipOut_L271 {x : GX} {n0 sl0 : Nat} (X : Cx x cX16_ipOut RX16 none n0 sl0 4 98) {out : Mm} (hE : Ends x n0 sl0 none out) (hn : xn x = 9) (fu : Nat)   : ∀ (n : Nat) (a0 : Nat) (a4 : Int32) (a6 : Option Nat) (a7 : Int32) (a8 : Int32)  (M : Mm), fX16_ipOut_L271 fu  n a0 a4 a6 a7 a8 M = some out → Gw x M 271 [(0, pR (some a0)), (4, pI a4), (6, pR a6), (7, pI a7), (8, pI a8)] [] := by
  intro n
  induction n with
  | zero =>
    intro a0 a4 a6 a7 a8 M h
    have h : (none : Option (Mm)) = some out := h
    cases h
  | succ n ih =>
    intro a0 a4 a6 a7 a8 M h
    rw [fX16_ipOut_L271] at h
    refine g_iload X (pc := 271) 4 rfl dX16_ipOut_271 ?_
    refine g_aload X (pc := 273) 2 rfl dX16_ipOut_273 ?_
    obtain ⟨v1, ev1, h⟩ := bd h
    refine g_getI X (pc := 275) fk_15_2 rfl rfl ev1 tb_1758 dX16_ipOut_275 ?_
    refine g_icmp_ge X (pc := 278) (tgt := 305) dX16_ipOut_278 (by decide) (fun hc => ?_) (fun hc => ?_)
    · have h := (if_pos hc).symm.trans h
      refine g_iload X (pc := 305) 3 rfl dX16_ipOut_305 ?_
      refine g_if_ne X (pc := 307) (tgt := 311) dX16_ipOut_307 (by decide) (fun hc => ?_) (fun hc => ?_)
      · have h := (if_neg hc).symm.trans h
        refine g_aload X (pc := 311) 2 rfl dX16_ipOut_311 ?_
        refine g_aload_n X (pc := 313) 0 rfl rfl dX16_ipOut_313 ?_
        obtain ⟨v2, ev2, h⟩ := bd h
        refine g_getI X (pc := 314) fk_16_10 rfl rfl ev2 tb_1824 dX16_ipOut_314 ?_
        obtain ⟨M3, eM3, h⟩ := bd h
        refine g_putI X (pc := 317) fk_15_3 rfl rfl rfl eM3 tb_1759 (Or.inl rfl) dX16_ipOut_317 ?_
        refine g_aload X (pc := 320) 2 rfl dX16_ipOut_320 ?_
        refine g_iconst X (pc := 322) (v := 1) dX16_ipOut_322 (by decide) ?_
        obtain ⟨M4, eM4, h⟩ := bd h
        refine g_putI X (pc := 323) fk_15_4 rfl rfl rfl eM4 tb_1760 (Or.inl rfl) dX16_ipOut_323 ?_
        refine g_aload_n X (pc := 326) 0 rfl rfl dX16_ipOut_326 ?_
        refine g_dup X (pc := 327) rfl dX16_ipOut_327 ?_
        obtain ⟨v5, ev5, h⟩ := bd h
        refine g_getI X (pc := 328) fk_16_25 rfl rfl ev5 tb_1839 dX16_ipOut_328 ?_
        refine g_iconst X (pc := 331) (v := 1) dX16_ipOut_331 (by decide) ?_
        refine g_iadd X (pc := 332) dX16_ipOut_332 ?_
        obtain ⟨M6, eM6, h⟩ := bd h
        refine g_putI X (pc := 333) fk_16_25 rfl rfl rfl eM6 tb_1839 (Or.inl rfl) dX16_ipOut_333 ?_
        refine g_aload X (pc := 336) 2 rfl dX16_ipOut_336 ?_
        refine g_aload_n X (pc := 338) 0 rfl rfl dX16_ipOut_338 ?_
        obtain ⟨v7, ev7, h⟩ := bd h
        refine g_getI X (pc := 339) fk_16_25 rfl rfl ev7 tb_1839 dX16_ipOut_339 ?_
        obtain ⟨M8, eM8, h⟩ := bd h
        refine g_putI X (pc := 342) fk_15_5 rfl rfl rfl eM8 tb_1761 (Or.inl rfl) dX16_ipOut_342 ?_
        refine g_aload_n X (pc := 345) 0 rfl rfl dX16_ipOut_345 ?_
        refine g_iload X (pc := 346) 1 rfl dX16_ipOut_346 ?_
        obtain ⟨q9, eq9, h⟩ := bd h
        obtain ⟨M10, eM10, h⟩ := bd h
        refine g_callV X (pc := 348) (M' := M10) (ro := none) (c := 16) rfl (by decide) (as := [pI a4]) (as' := [pI a4]) (st := []) eq9 (ctX16_ask _ _ _ _ _ _ fu q9 a4 M8 _ eM10) tb_2086 tb_2083 tb_2085 ts_70 tb_8 ⟨rfl, hyX16_ask⟩ rfl rfl ⟨by decide, by decide⟩ (Nat.le_of_ble_eq_true rfl) dX16_ipOut_348 ?_
        obtain rfl := Option.some.inj h
        exact g_return X hE dX16_ipOut_351
      · have h := (if_pos hc).symm.trans h
        obtain rfl := Option.some.inj h
        exact g_return X hE dX16_ipOut_310
    · have h := (if_neg hc).symm.trans h
      refine g_aload X (pc := 281) 2 rfl dX16_ipOut_281 ?_
      obtain ⟨v11, ev11, h⟩ := bd h
      refine g_getR X (pc := 283) fk_15_6 rfl rfl ev11 tb_1763 dX16_ipOut_283 ?_
      refine g_iload X (pc := 286) 4 rfl dX16_ipOut_286 ?_
      refine g_aload_n X (pc := 288) 0 rfl rfl dX16_ipOut_288 ?_
      obtain ⟨v12, ev12, h⟩ := bd h
      refine g_getR X (pc := 289) fk_16_19 rfl rfl ev12 tb_1833 dX16_ipOut_289 ?_
      refine g_bipush X (pc := 292) (v := 14) dX16_ipOut_292 (by decide) ?_
      refine g_iload X (pc := 294) 4 rfl dX16_ipOut_294 ?_
      refine g_iadd X (pc := 296) dX16_ipOut_296 ?_
      obtain ⟨v13, ev13, h⟩ := bd h
      refine g_baload X (pc := 297) ev13 dX16_ipOut_297 ?_
      obtain ⟨M14, eM14, h⟩ := bd h
      refine g_bastore X (pc := 298) eM14 dX16_ipOut_298 ?_
      refine g_iinc X (pc := 299) 4 [(8, pI (a8 + (1 : Int32))), (0, pR (some a0)), (4, pI a4), (6, pR a6), (7, pI a7)] rfl (iinc_e (by decide)) (lt_n hn (by decide)) rfl dX16_ipOut_299 ?_
      refine g_goto X (pc := 302) (tgt := 271) dX16_ipOut_302 (by decide) ?_
      refine g_sub [1, 2, 3, 4, 0] [(0, pR (some a0)), (4, pI a4), (6, pR a6), (7, pI a7), (8, pI (a8 + (1 : Int32)))] rfl ?_
      exact ih a0 a4 a6 a7 (a8 + (1 : Int32)) M14 h
theorem wX16_ipOut_L240 {x : GX} {n0 sl0 : Nat} (X : Cx x cX16_ipOut RX16 none n0 sl0 4 98) {out : Mm} (hE : Ends x n0 sl0 none out) (hn : xn x = 9) (fu : Nat)   (a0 : Nat) (a3 : Int32) (a4 : Int32) (a6 : Option Nat) (a7 : Int32)  (M : Mm) (h : fX16_ipOut_L240 fu  a0 a3 a4 a6 a7 M = some out) : Gw x M 240 [(0, pR (some a0)), (3, pI a3), (4, pI a4), (6, pR a6), (7, pI a7)] [] := by
  unfold fX16_ipOut_L240 at h
  refine g_aload X (pc := 240) 3 rfl dX16_ipOut_240 ?_
  refine g_ifnonnull X (pc := 242) (tgt := 246) dX16_ipOut_242 (by decide) (fun hc => ?_) (fun hc => ?_)
  · have h := (if_neg hc).symm.trans h
    refine g_aload X (pc := 246) 3 rfl dX16_ipOut_246 ?_
    refine g_iconst X (pc := 248) (v := 1) dX16_ipOut_248 (by decide) ?_
    obtain ⟨M1, eM1, h⟩ := bd h
    refine g_putZ X (pc := 249) fk_15_0 rfl rfl rfl eM1 tb_1756 (Or.inl rfl) dX16_ipOut_249 ?_
    refine g_aload X (pc := 252) 3 rfl dX16_ipOut_252 ?_
    refine g_iload X (pc := 254) 2 rfl dX16_ipOut_254 ?_
    obtain ⟨M2, eM2, h⟩ := bd h
    refine g_putI X (pc := 256) fk_15_1 rfl rfl rfl eM2 tb_1757 (Or.inl rfl) dX16_ipOut_256 ?_
    refine g_aload X (pc := 259) 3 rfl dX16_ipOut_259 ?_
    refine g_bipush X (pc := 261) (v := 20) dX16_ipOut_261 (by decide) ?_
    refine g_iload_n X (pc := 263) 1 rfl rfl dX16_ipOut_263 ?_
    refine g_iadd X (pc := 264) dX16_ipOut_264 ?_
    obtain ⟨M3, eM3, h⟩ := bd h
    refine g_putI X (pc := 265) fk_15_2 rfl rfl rfl eM3 tb_1758 (Or.inl rfl) dX16_ipOut_265 ?_
    refine g_iconst X (pc := 268) (v := 0) dX16_ipOut_268 (by decide) ?_
    refine g_istore X (pc := 269) [(8, pI (0 : Int32)), (0, pR (some a0)), (3, pI a3), (4, pI a4), (6, pR a6), (7, pI a7)] (lt_n hn (by decide)) rfl dX16_ipOut_269 ?_
    refine g_sub [1, 3, 4, 5, 0] [(0, pR (some a0)), (4, pI a4), (6, pR a6), (7, pI a7), (8, pI (0 : Int32))] rfl ?_
    exact wX16_ipOut_L271 X hE hn fu   fu a0 a4 a6 a7 (0 : Int32) M3 h
  · have h := (if_pos hc).symm.trans h
    obtain rfl := Option.some.inj h
    exact g_return X hE dX16_ipOut_245
theorem wX16_ipOut_L234 {x : GX} {n0 sl0 : Nat} (X : Cx x cX16_ipOut RX16 none n0 sl0 4 98) {out : Mm} (hE : Ends x n0 sl0 none out) (hn : xn x = 9) (fu : Nat) (k200 : Nat → Int32 → Int32 → Option Nat → Int32 → Int32 → Mm → Option (Mm)) (hk200 : ∀ (b0 : Nat) (b3 : Int32) (b4 : Int32) (b6 : Option Nat) (b7 : Int32) (b8 : Int32)  (M : Mm), k200 b0 b3 b4 b6 b7 b8 M = some out → Gw x M 200 [(0, pR (some b0)), (3, pI b3), (4, pI b4), (6, pR b6), (7, pI b7), (8, pI b8)] []) (a0 : Nat) (a3 : Int32) (a4 : Int32) (a6 : Option Nat) (a7 : Int32) (a8 : Int32)  (M : Mm) (h : fX16_ipOut_L234 fu k200 a0 a3 a4 a6 a7 a8 M = some out) : Gw x M 234 [(0, pR (some a0)), (3, pI a3), (4, pI a4), (6, pR a6), (7, pI a7), (8, pI a8)] [] := by
  unfold fX16_ipOut_L234 at h
  refine g_iinc X (pc := 234) 5 [(8, pI (a8 + (1 : Int32))), (0, pR (some a0)), (3, pI a3), (4, pI a4), (6, pR a6), (7, pI a7)] rfl (iinc_e (by decide)) (lt_n hn (by decide)) rfl dX16_ipOut_234 ?_
  refine g_goto X (pc := 237) (tgt := 200) dX16_ipOut_237 (by decide) ?_
  refine g_sub [1, 2, 3, 4, 5, 0] [(0, pR (some a0)), (3, pI a3), (4, pI a4), (6, pR a6), (7, pI a7), (8, pI (a8 + (1 : Int32)))] rfl ?_
  exact hk200 a0 a3 a4 a6 a7 (a8 + (1 : Int32)) M h
theorem wX16_ipOut_L200 {x : GX} {n0 sl0 : Nat} (X : Cx x cX16_ipOut RX16 none n0 sl0 4 98) {out : Mm} (hE : Ends x n0 sl0 none out) (hn : xn x = 9) (fu : Nat)   : ∀ (n : Nat) (a0 : Nat) (a3 : Int32) (a4 : Int32) (a6 : Option Nat) (a7 : Int32) (a8 : Int32)  (M : Mm), fX16_ipOut_L200 fu  n a0 a3 a4 a6 a7 a8 M = some out → Gw x M 200 [(0, pR (some a0)), (3, pI a3), (4, pI a4), (6, pR a6), (7, pI a7), (8, pI a8)] [] := by
  intro n
  induction n with
  | zero =>
    intro a0 a3 a4 a6 a7 a8 M h
    have h : (none : Option (Mm)) = some out := h
    cases h
  | succ n ih =>
    intro a0 a3 a4 a6 a7 a8 M h
    rw [fX16_ipOut_L200] at h
    refine g_iload X (pc := 200) 5 rfl dX16_ipOut_200 ?_
    refine g_bipush X (pc := 202) (v := 8) dX16_ipOut_202 (by decide) ?_
    refine g_icmp_ge X (pc := 204) (tgt := 240) dX16_ipOut_204 (by decide) (fun hc => ?_) (fun hc => ?_)
    · have h := (if_pos hc).symm.trans h
      refine g_sub [0, 1, 2, 3, 4] [(0, pR (some a0)), (3, pI a3), (4, pI a4), (6, pR a6), (7, pI a7)] rfl ?_
      exact wX16_ipOut_L240 X hE hn fu   a0 a3 a4 a6 a7 M h
    · have h := (if_neg hc).symm.trans h
      refine g_aload X (pc := 207) 3 rfl dX16_ipOut_207 ?_
      refine g_ifnonnull X (pc := 209) (tgt := 240) dX16_ipOut_209 (by decide) (fun hc => ?_) (fun hc => ?_)
      · have h := (if_neg hc).symm.trans h
        refine g_sub [0, 1, 2, 3, 4] [(0, pR (some a0)), (3, pI a3), (4, pI a4), (6, pR a6), (7, pI a7)] rfl ?_
        exact wX16_ipOut_L240 X hE hn fu   a0 a3 a4 a6 a7 M h
      · have h := (if_pos hc).symm.trans h
        refine g_aload_n X (pc := 212) 0 rfl rfl dX16_ipOut_212 ?_
        obtain ⟨v1, ev1, h⟩ := bd h
        refine g_getR X (pc := 213) fk_16_27 rfl rfl ev1 tb_1841 dX16_ipOut_213 ?_
        refine g_iload X (pc := 216) 5 rfl dX16_ipOut_216 ?_
        obtain ⟨v2, ev2, h⟩ := bd h
        refine g_aaload X (pc := 218) (k := 7) rfl rfl (by decide) ev2 dX16_ipOut_218 ?_
        obtain ⟨v3, ev3, h⟩ := bd h
        refine g_getI X (pc := 219) fk_15_0 rfl rfl ev3 tb_1756 dX16_ipOut_219 ?_
        refine g_if_ne X (pc := 222) (tgt := 234) dX16_ipOut_222 (by decide) (fun hc => ?_) (fun hc => ?_)
        · have h := (if_neg hc).symm.trans h
          exact wX16_ipOut_L234 X hE hn fu (fun b0 b3 b4 b6 b7 b8 M => fX16_ipOut_L200 fu  n b0 b3 b4 b6 b7 b8 M) ih a0 a3 a4 a6 a7 a8 M h
        · have h := (if_pos hc).symm.trans h
          refine g_aload_n X (pc := 225) 0 rfl rfl dX16_ipOut_225 ?_
          obtain ⟨v4, ev4, h⟩ := bd h
          refine g_getR X (pc := 226) fk_16_27 rfl rfl ev4 tb_1841 dX16_ipOut_226 ?_
          refine g_iload X (pc := 229) 5 rfl dX16_ipOut_229 ?_
          obtain ⟨v5, ev5, h⟩ := bd h
          refine g_aaload X (pc := 231) (k := 7) rfl rfl (by decide) ev5 dX16_ipOut_231 ?_
          refine g_astore X (pc := 232) [(6, pR v5), (0, pR (some a0)), (3, pI a3), (4, pI a4), (7, pI a7), (8, pI a8)] (lt_n hn (by decide)) rfl dX16_ipOut_232 ?_
          refine g_sub [1, 2, 3, 0, 4, 5] [(0, pR (some a0)), (3, pI a3), (4, pI a4), (6, pR v5), (7, pI a7), (8, pI a8)] rfl ?_
          exact wX16_ipOut_L234 X hE hn fu (fun b0 b3 b4 b6 b7 b8 M => fX16_ipOut_L200 fu  n b0 b3 b4 b6 b7 b8 M) ih a0 a3 a4 v5 a7 a8 M h
theorem wX16_ipOut_L195 {x : GX} {n0 sl0 : Nat} (X : Cx x cX16_ipOut RX16 none n0 sl0 4 98) {out : Mm} (hE : Ends x n0 sl0 none out) (hn : xn x = 9) (fu : Nat)   (a0 : Nat) (a3 : Int32) (a4 : Int32) (a6 : Option Nat) (s0 : Int32) (M : Mm) (h : fX16_ipOut_L195 fu  a0 a3 a4 a6 s0 M = some out) : Gw x M 195 [(0, pR (some a0)), (3, pI a3), (4, pI a4), (6, pR a6)] [pI s0] := by
  unfold fX16_ipOut_L195 at h
  refine g_istore X (pc := 195) [(7, pI s0), (0, pR (some a0)), (3, pI a3), (4, pI a4), (6, pR a6)] (lt_n hn (by decide)) rfl dX16_ipOut_195 ?_
  refine g_iconst X (pc := 197) (v := 0) dX16_ipOut_197 (by decide) ?_
  refine g_istore X (pc := 198) [(8, pI (0 : Int32)), (7, pI s0), (0, pR (some a0)), (3, pI a3), (4, pI a4), (6, pR a6)] (lt_n hn (by decide)) rfl dX16_ipOut_198 ?_
  refine g_sub [2, 3, 4, 5, 1, 0] [(0, pR (some a0)), (3, pI a3), (4, pI a4), (6, pR a6), (7, pI s0), (8, pI (0 : Int32))] rfl ?_
  exact wX16_ipOut_L200 X hE hn fu   fu a0 a3 a4 a6 s0 (0 : Int32) M h
theorem wX16_ipOut_L140 {x : GX} {n0 sl0 : Nat} (X : Cx x cX16_ipOut RX16 none n0 sl0 4 98) {out : Mm} (hE : Ends x n0 sl0 none out) (hn : xn x = 9) (fu : Nat)   (a0 : Nat) (a3 : Int32) (s0 : Int32) (M : Mm) (h : fX16_ipOut_L140 fu  a0 a3 s0 M = some out) : Gw x M 140 [(0, pR (some a0)), (3, pI a3)] [pI s0] := by
  unfold fX16_ipOut_L140 at h
  refine g_istore X (pc := 140) [(4, pI s0), (0, pR (some a0)), (3, pI a3)] (lt_n hn (by decide)) rfl dX16_ipOut_140 ?_
  refine g_aload_n X (pc := 142) 1 rfl rfl dX16_ipOut_142 ?_
  refine g_iload X (pc := 143) 0 rfl dX16_ipOut_143 ?_
  obtain ⟨q1, eq1, h⟩ := bd h
  obtain ⟨v3, M2, eM2, h⟩ := b2d h
  refine g_callV X (pc := 145) (M' := M2) (ro := some (pR v3)) (c := 16) rfl (by decide) (as := [pI s0]) (as' := [pI s0]) (st := []) eq1 (ctX16_counting _ _ _ _ _ _ fu q1 s0 M _ eM2) tb_2141 tb_2138 tb_2140 ts_79 tb_8 ⟨rfl, hyX16_counting⟩ rfl rfl ⟨by decide, by decide⟩ (Nat.le_of_ble_eq_true rfl) dX16_ipOut_145 ?_
  refine g_astore X (pc := 148) [(5, pR v3), (4, pI s0), (0, pR (some a0)), (3, pI a3)] (lt_n hn (by decide)) rfl dX16_ipOut_148 ?_
  refine g_aload X (pc := 150) 0 rfl dX16_ipOut_150 ?_
  refine g_ifnull X (pc := 152) (tgt := 177) dX16_ipOut_152 (by decide) (fun hc => ?_) (fun hc => ?_)
  · have h := (if_pos hc).symm.trans h
    refine g_aload_n X (pc := 177) 2 rfl rfl dX16_ipOut_177 ?_
    refine g_iload X (pc := 178) 1 rfl dX16_ipOut_178 ?_
    obtain ⟨q4, eq4, h⟩ := bd h
    obtain ⟨v6, M5, eM5, h⟩ := b2d h
    refine g_callV X (pc := 180) (M' := M5) (ro := some (pR v6)) (c := 16) rfl (by decide) (as := [pI s0]) (as' := [pI s0]) (st := []) eq4 (ctX16_packet _ _ _ _ _ _ fu q4 s0 M2 _ eM5) tb_2150 tb_2147 tb_2149 ts_81 tb_8 ⟨rfl, hyX16_packet⟩ rfl rfl ⟨by decide, by decide⟩ (Nat.le_of_ble_eq_true rfl) dX16_ipOut_180 ?_
    refine g_astore X (pc := 183) [(6, pR v6), (5, pR v3), (4, pI s0), (0, pR (some a0)), (3, pI a3)] (lt_n hn (by decide)) rfl dX16_ipOut_183 ?_
    refine g_aload X (pc := 185) 0 rfl dX16_ipOut_185 ?_
    refine g_ifnonnull X (pc := 187) (tgt := 194) dX16_ipOut_187 (by decide) (fun hc => ?_) (fun hc => ?_)
    · have h := (if_neg hc).symm.trans h
      refine g_iconst X (pc := 194) (v := 0) dX16_ipOut_194 (by decide) ?_
      refine g_sub [3, 4, 2, 0] [(0, pR (some a0)), (3, pI a3), (4, pI s0), (6, pR v6)] rfl ?_
      exact wX16_ipOut_L195 X hE hn fu   a0 a3 s0 v6 (0 : Int32) M5 h
    · have h := (if_pos hc).symm.trans h
      refine g_iconst X (pc := 190) (v := 1) dX16_ipOut_190 (by decide) ?_
      refine g_goto X (pc := 191) (tgt := 195) dX16_ipOut_191 (by decide) ?_
      refine g_sub [3, 4, 2, 0] [(0, pR (some a0)), (3, pI a3), (4, pI s0), (6, pR v6)] rfl ?_
      exact wX16_ipOut_L195 X hE hn fu   a0 a3 s0 v6 (1 : Int32) M5 h
  · have h := (if_neg hc).symm.trans h
    refine g_aload_n X (pc := 155) 2 rfl rfl dX16_ipOut_155 ?_
    refine g_aload X (pc := 156) 0 rfl dX16_ipOut_156 ?_
    obtain ⟨v7, ev7, h⟩ := bd h
    refine g_getI X (pc := 158) fk_14_2 rfl rfl ev7 tb_1737 dX16_ipOut_158 ?_
    refine g_aload X (pc := 161) 0 rfl dX16_ipOut_161 ?_
    obtain ⟨v8, ev8, h⟩ := bd h
    refine g_getI X (pc := 163) fk_14_3 rfl rfl ev8 tb_1738 dX16_ipOut_163 ?_
    refine g_sipush X (pc := 166) (v := 2048) dX16_ipOut_166 (by decide) ?_
    refine g_bipush X (pc := 169) (v := 20) dX16_ipOut_169 (by decide) ?_
    refine g_iload_n X (pc := 171) 3 rfl rfl dX16_ipOut_171 ?_
    refine g_iadd X (pc := 172) dX16_ipOut_172 ?_
    obtain ⟨q9, eq9, h⟩ := bd h
    obtain ⟨M10, eM10, h⟩ := bd h
    refine g_callV X (pc := 173) (M' := M10) (ro := none) (c := 16) rfl (by decide) (as := [pI v7, pI v8, pI (2048 : Int32), pI ((20 : Int32) + a3)]) (as' := [pI ((20 : Int32) + a3), pI (2048 : Int32), pI v8, pI v7]) (st := []) eq9 (ctX16_send _ _ _ _ _ _ fu q9 v7 v8 (2048 : Int32) ((20 : Int32) + a3) M2 _ eM10) tb_2099 tb_2096 tb_2098 ts_73 tb_8 ⟨rfl, hyX16_send⟩ rfl rfl ⟨by decide, by decide⟩ (Nat.le_of_ble_eq_true rfl) dX16_ipOut_173 ?_
    obtain rfl := Option.some.inj h
    exact g_return X hE dX16_ipOut_176
theorem wX16_ipOut {x : GX} {n0 sl0 : Nat} (X : Cx x cX16_ipOut RX16 none n0 sl0 4 98) {out : Mm} (hE : Ends x n0 sl0 none out) (hn : xn x = 9) (fu : Nat)   (a0 : Nat) (a1 : Int32) (a2 : Int32) (a3 : Int32)  (M : Mm) (h : fX16_ipOut fu  a0 a1 a2 a3 M = some out) : Gw x M 0 [(0, pR (some a0)), (1, pI a1), (2, pI a2), (3, pI a3)] [] := by
  unfold fX16_ipOut at h
  refine g_aload_n X (pc := 0) 0 rfl rfl dX16_ipOut_0 ?_
  refine g_aload_n X (pc := 1) 0 rfl rfl dX16_ipOut_1 ?_
  obtain ⟨v1, ev1, h⟩ := bd h
  refine g_getI X (pc := 2) fk_16_24 rfl rfl ev1 tb_1838 dX16_ipOut_2 ?_
  refine g_iconst X (pc := 5) (v := 1) dX16_ipOut_5 (by decide) ?_
  refine g_iadd X (pc := 6) dX16_ipOut_6 ?_
  refine g_ldc X (pc := 7) tb_1565 dX16_ipOut_7 ?_
  refine g_iand X (pc := 9) dX16_ipOut_9 ?_
  obtain ⟨M2, eM2, h⟩ := bd h
  refine g_putI X (pc := 10) fk_16_24 rfl rfl rfl eM2 tb_1838 (Or.inl rfl) dX16_ipOut_10 ?_
  refine g_aload_n X (pc := 13) 0 rfl rfl dX16_ipOut_13 ?_
  refine g_bipush X (pc := 14) (v := 14) dX16_ipOut_14 (by decide) ?_
  refine g_iconst X (pc := 16) (v := 2) dX16_ipOut_16 (by decide) ?_
  refine g_sipush X (pc := 17) (v := 17664) dX16_ipOut_17 (by decide) ?_
  obtain ⟨q3, eq3, h⟩ := bd h
  obtain ⟨M4, eM4, h⟩ := bd h
  refine g_callV X (pc := 20) (M' := M4) (ro := none) (c := 16) rfl (by decide) (as := [pI (14 : Int32), pI (2 : Int32), pI (17664 : Int32)]) (as' := [pI (17664 : Int32), pI (2 : Int32), pI (14 : Int32)]) (st := []) eq3 (ctX16_put _ _ _ _ _ _ fu q3 (14 : Int32) (2 : Int32) (17664 : Int32) M2 _ eM4) tb_2095 tb_2092 tb_2094 ts_72 tb_8 ⟨rfl, hyX16_put⟩ rfl rfl ⟨by decide, by decide⟩ (Nat.le_of_ble_eq_true rfl) dX16_ipOut_20 ?_
  refine g_aload_n X (pc := 23) 0 rfl rfl dX16_ipOut_23 ?_
  refine g_bipush X (pc := 24) (v := 16) dX16_ipOut_24 (by decide) ?_
  refine g_iconst X (pc := 26) (v := 2) dX16_ipOut_26 (by decide) ?_
  refine g_bipush X (pc := 27) (v := 20) dX16_ipOut_27 (by decide) ?_
  refine g_iload_n X (pc := 29) 3 rfl rfl dX16_ipOut_29 ?_
  refine g_iadd X (pc := 30) dX16_ipOut_30 ?_
  obtain ⟨q5, eq5, h⟩ := bd h
  obtain ⟨M6, eM6, h⟩ := bd h
  refine g_callV X (pc := 31) (M' := M6) (ro := none) (c := 16) rfl (by decide) (as := [pI (16 : Int32), pI (2 : Int32), pI ((20 : Int32) + a3)]) (as' := [pI ((20 : Int32) + a3), pI (2 : Int32), pI (16 : Int32)]) (st := []) eq5 (ctX16_put _ _ _ _ _ _ fu q5 (16 : Int32) (2 : Int32) ((20 : Int32) + a3) M4 _ eM6) tb_2095 tb_2092 tb_2094 ts_72 tb_8 ⟨rfl, hyX16_put⟩ rfl rfl ⟨by decide, by decide⟩ (Nat.le_of_ble_eq_true rfl) dX16_ipOut_31 ?_
  refine g_aload_n X (pc := 34) 0 rfl rfl dX16_ipOut_34 ?_
  refine g_bipush X (pc := 35) (v := 18) dX16_ipOut_35 (by decide) ?_
  refine g_iconst X (pc := 37) (v := 2) dX16_ipOut_37 (by decide) ?_
  refine g_aload_n X (pc := 38) 0 rfl rfl dX16_ipOut_38 ?_
  obtain ⟨v7, ev7, h⟩ := bd h
  refine g_getI X (pc := 39) fk_16_24 rfl rfl ev7 tb_1838 dX16_ipOut_39 ?_
  obtain ⟨q8, eq8, h⟩ := bd h
  obtain ⟨M9, eM9, h⟩ := bd h
  refine g_callV X (pc := 42) (M' := M9) (ro := none) (c := 16) rfl (by decide) (as := [pI (18 : Int32), pI (2 : Int32), pI v7]) (as' := [pI v7, pI (2 : Int32), pI (18 : Int32)]) (st := []) eq8 (ctX16_put _ _ _ _ _ _ fu q8 (18 : Int32) (2 : Int32) v7 M6 _ eM9) tb_2095 tb_2092 tb_2094 ts_72 tb_8 ⟨rfl, hyX16_put⟩ rfl rfl ⟨by decide, by decide⟩ (Nat.le_of_ble_eq_true rfl) dX16_ipOut_42 ?_
  refine g_aload_n X (pc := 45) 0 rfl rfl dX16_ipOut_45 ?_
  refine g_bipush X (pc := 46) (v := 20) dX16_ipOut_46 (by decide) ?_
  refine g_iconst X (pc := 48) (v := 2) dX16_ipOut_48 (by decide) ?_
  refine g_sipush X (pc := 49) (v := 16384) dX16_ipOut_49 (by decide) ?_
  obtain ⟨q10, eq10, h⟩ := bd h
  obtain ⟨M11, eM11, h⟩ := bd h
  refine g_callV X (pc := 52) (M' := M11) (ro := none) (c := 16) rfl (by decide) (as := [pI (20 : Int32), pI (2 : Int32), pI (16384 : Int32)]) (as' := [pI (16384 : Int32), pI (2 : Int32), pI (20 : Int32)]) (st := []) eq10 (ctX16_put _ _ _ _ _ _ fu q10 (20 : Int32) (2 : Int32) (16384 : Int32) M9 _ eM11) tb_2095 tb_2092 tb_2094 ts_72 tb_8 ⟨rfl, hyX16_put⟩ rfl rfl ⟨by decide, by decide⟩ (Nat.le_of_ble_eq_true rfl) dX16_ipOut_52 ?_
  refine g_aload_n X (pc := 55) 0 rfl rfl dX16_ipOut_55 ?_
  refine g_bipush X (pc := 56) (v := 22) dX16_ipOut_56 (by decide) ?_
  refine g_iconst X (pc := 58) (v := 2) dX16_ipOut_58 (by decide) ?_
  refine g_sipush X (pc := 59) (v := 16384) dX16_ipOut_59 (by decide) ?_
  refine g_iload_n X (pc := 62) 2 rfl rfl dX16_ipOut_62 ?_
  refine g_ior X (pc := 63) dX16_ipOut_63 ?_
  obtain ⟨q12, eq12, h⟩ := bd h
  obtain ⟨M13, eM13, h⟩ := bd h
  refine g_callV X (pc := 64) (M' := M13) (ro := none) (c := 16) rfl (by decide) (as := [pI (22 : Int32), pI (2 : Int32), pI ((16384 : Int32) ||| a2)]) (as' := [pI ((16384 : Int32) ||| a2), pI (2 : Int32), pI (22 : Int32)]) (st := []) eq12 (ctX16_put _ _ _ _ _ _ fu q12 (22 : Int32) (2 : Int32) ((16384 : Int32) ||| a2) M11 _ eM13) tb_2095 tb_2092 tb_2094 ts_72 tb_8 ⟨rfl, hyX16_put⟩ rfl rfl ⟨by decide, by decide⟩ (Nat.le_of_ble_eq_true rfl) dX16_ipOut_64 ?_
  refine g_aload_n X (pc := 67) 0 rfl rfl dX16_ipOut_67 ?_
  refine g_bipush X (pc := 68) (v := 24) dX16_ipOut_68 (by decide) ?_
  refine g_iconst X (pc := 70) (v := 2) dX16_ipOut_70 (by decide) ?_
  refine g_iconst X (pc := 71) (v := 0) dX16_ipOut_71 (by decide) ?_
  obtain ⟨q14, eq14, h⟩ := bd h
  obtain ⟨M15, eM15, h⟩ := bd h
  refine g_callV X (pc := 72) (M' := M15) (ro := none) (c := 16) rfl (by decide) (as := [pI (24 : Int32), pI (2 : Int32), pI (0 : Int32)]) (as' := [pI (0 : Int32), pI (2 : Int32), pI (24 : Int32)]) (st := []) eq14 (ctX16_put _ _ _ _ _ _ fu q14 (24 : Int32) (2 : Int32) (0 : Int32) M13 _ eM15) tb_2095 tb_2092 tb_2094 ts_72 tb_8 ⟨rfl, hyX16_put⟩ rfl rfl ⟨by decide, by decide⟩ (Nat.le_of_ble_eq_true rfl) dX16_ipOut_72 ?_
  refine g_aload_n X (pc := 75) 0 rfl rfl dX16_ipOut_75 ?_
  refine g_bipush X (pc := 76) (v := 26) dX16_ipOut_76 (by decide) ?_
  refine g_iconst X (pc := 78) (v := 4) dX16_ipOut_78 (by decide) ?_
  refine g_aload_n X (pc := 79) 0 rfl rfl dX16_ipOut_79 ?_
  obtain ⟨v16, ev16, h⟩ := bd h
  refine g_getI X (pc := 80) fk_16_5 rfl rfl ev16 tb_1819 dX16_ipOut_80 ?_
  obtain ⟨q17, eq17, h⟩ := bd h
  obtain ⟨M18, eM18, h⟩ := bd h
  refine g_callV X (pc := 83) (M' := M18) (ro := none) (c := 16) rfl (by decide) (as := [pI (26 : Int32), pI (4 : Int32), pI v16]) (as' := [pI v16, pI (4 : Int32), pI (26 : Int32)]) (st := []) eq17 (ctX16_put _ _ _ _ _ _ fu q17 (26 : Int32) (4 : Int32) v16 M15 _ eM18) tb_2095 tb_2092 tb_2094 ts_72 tb_8 ⟨rfl, hyX16_put⟩ rfl rfl ⟨by decide, by decide⟩ (Nat.le_of_ble_eq_true rfl) dX16_ipOut_83 ?_
  refine g_aload_n X (pc := 86) 0 rfl rfl dX16_ipOut_86 ?_
  refine g_bipush X (pc := 87) (v := 30) dX16_ipOut_87 (by decide) ?_
  refine g_iconst X (pc := 89) (v := 4) dX16_ipOut_89 (by decide) ?_
  refine g_iload_n X (pc := 90) 1 rfl rfl dX16_ipOut_90 ?_
  obtain ⟨q19, eq19, h⟩ := bd h
  obtain ⟨M20, eM20, h⟩ := bd h
  refine g_callV X (pc := 91) (M' := M20) (ro := none) (c := 16) rfl (by decide) (as := [pI (30 : Int32), pI (4 : Int32), pI a1]) (as' := [pI a1, pI (4 : Int32), pI (30 : Int32)]) (st := []) eq19 (ctX16_put _ _ _ _ _ _ fu q19 (30 : Int32) (4 : Int32) a1 M18 _ eM20) tb_2095 tb_2092 tb_2094 ts_72 tb_8 ⟨rfl, hyX16_put⟩ rfl rfl ⟨by decide, by decide⟩ (Nat.le_of_ble_eq_true rfl) dX16_ipOut_91 ?_
  refine g_aload_n X (pc := 94) 0 rfl rfl dX16_ipOut_94 ?_
  refine g_bipush X (pc := 95) (v := 24) dX16_ipOut_95 (by decide) ?_
  refine g_iconst X (pc := 97) (v := 2) dX16_ipOut_97 (by decide) ?_
  refine g_aload_n X (pc := 98) 0 rfl rfl dX16_ipOut_98 ?_
  obtain ⟨v21, ev21, h⟩ := bd h
  refine g_getR X (pc := 99) fk_16_19 rfl rfl ev21 tb_1833 dX16_ipOut_99 ?_
  refine g_bipush X (pc := 102) (v := 14) dX16_ipOut_102 (by decide) ?_
  refine g_bipush X (pc := 104) (v := 20) dX16_ipOut_104 (by decide) ?_
  refine g_lconst X (pc := 106) (v := 0) dX16_ipOut_106 (by decide) ?_
  obtain ⟨v23, M22, eM22, h⟩ := b2d h
  refine g_callS X (pc := 107) (M' := M22) (ro := some (pL v23)) (as := [pR v21, pI (14 : Int32), pI (20 : Int32), pL (0 : Int64)]) (as' := [pL (0 : Int64), pI (20 : Int32), pI (14 : Int32), pR v21]) (st := [pI (2 : Int32), pI (24 : Int32), pR (some a0)]) (ctX16_added _ _ _ _ _ _ fu  v21 (14 : Int32) (20 : Int32) (0 : Int64) M20 _ eM22) tb_2125 tb_2123 tb_2124 tb_8 hyX16_added rfl rfl ⟨by decide, by decide⟩ (Nat.le_of_ble_eq_true rfl) dX16_ipOut_107 ?_
  obtain ⟨v25, M24, eM24, h⟩ := b2d h
  refine g_callS X (pc := 110) (M' := M24) (ro := some (pI v25)) (as := [pL v23]) (as' := [pL v23]) (st := [pI (2 : Int32), pI (24 : Int32), pR (some a0)]) (ctX16_sixteen _ _ _ _ _ _ fu  v23 M22 _ eM24) tb_2128 tb_2126 tb_2127 tb_8 hyX16_sixteen rfl rfl ⟨by decide, by decide⟩ (Nat.le_of_ble_eq_true rfl) dX16_ipOut_110 ?_
  obtain ⟨q26, eq26, h⟩ := bd h
  obtain ⟨M27, eM27, h⟩ := bd h
  refine g_callV X (pc := 113) (M' := M27) (ro := none) (c := 16) rfl (by decide) (as := [pI (24 : Int32), pI (2 : Int32), pI v25]) (as' := [pI v25, pI (2 : Int32), pI (24 : Int32)]) (st := []) eq26 (ctX16_put _ _ _ _ _ _ fu q26 (24 : Int32) (2 : Int32) v25 M24 _ eM27) tb_2095 tb_2092 tb_2094 ts_72 tb_8 ⟨rfl, hyX16_put⟩ rfl rfl ⟨by decide, by decide⟩ (Nat.le_of_ble_eq_true rfl) dX16_ipOut_113 ?_
  refine g_aload_n X (pc := 116) 0 rfl rfl dX16_ipOut_116 ?_
  refine g_iload_n X (pc := 117) 1 rfl rfl dX16_ipOut_117 ?_
  obtain ⟨q28, eq28, h⟩ := bd h
  obtain ⟨v30, M29, eM29, h⟩ := b2d h
  refine g_callV X (pc := 118) (M' := M29) (ro := some (pI v30)) (c := 16) rfl (by decide) (as := [pI a1]) (as' := [pI a1]) (st := []) eq28 (ctX16_net _ _ _ _ _ _ fu q28 a1 M27 _ eM29) tb_2137 tb_2134 tb_2136 ts_78 tb_8 ⟨rfl, hyX16_net⟩ rfl rfl ⟨by decide, by decide⟩ (Nat.le_of_ble_eq_true rfl) dX16_ipOut_118 ?_
  refine g_aload_n X (pc := 121) 0 rfl rfl dX16_ipOut_121 ?_
  refine g_aload_n X (pc := 122) 0 rfl rfl dX16_ipOut_122 ?_
  obtain ⟨v31, ev31, h⟩ := bd h
  refine g_getI X (pc := 123) fk_16_5 rfl rfl ev31 tb_1819 dX16_ipOut_123 ?_
  obtain ⟨q32, eq32, h⟩ := bd h
  obtain ⟨v34, M33, eM33, h⟩ := b2d h
  refine g_callV X (pc := 126) (M' := M33) (ro := some (pI v34)) (c := 16) rfl (by decide) (as := [pI v31]) (as' := [pI v31]) (st := [pI v30]) eq32 (ctX16_net _ _ _ _ _ _ fu q32 v31 M29 _ eM33) tb_2137 tb_2134 tb_2136 ts_78 tb_8 ⟨rfl, hyX16_net⟩ rfl rfl ⟨by decide, by decide⟩ (Nat.le_of_ble_eq_true rfl) dX16_ipOut_126 ?_
  refine g_icmp_ne X (pc := 129) (tgt := 136) dX16_ipOut_129 (by decide) (fun hc => ?_) (fun hc => ?_)
  · have h := (if_neg hc).symm.trans h
    refine g_aload_n X (pc := 136) 0 rfl rfl dX16_ipOut_136 ?_
    obtain ⟨v35, ev35, h⟩ := bd h
    refine g_getI X (pc := 137) fk_16_7 rfl rfl ev35 tb_1821 dX16_ipOut_137 ?_
    refine g_sub [0, 3] [(0, pR (some a0)), (3, pI a3)] rfl ?_
    exact wX16_ipOut_L140 X hE hn fu   a0 a3 v35 M33 h
  · have h := (if_pos hc).symm.trans h
    refine g_iload_n X (pc := 132) 1 rfl rfl dX16_ipOut_132 ?_
    refine g_goto X (pc := 133) (tgt := 140) dX16_ipOut_133 (by decide) ?_
    refine g_sub [0, 3] [(0, pR (some a0)), (3, pI a3)] rfl ?_
    exact wX16_ipOut_L140 X hE hn fu   a0 a3 a1 M33 h
theorem hyX16_ipOut : yX16_ipOut.cls ≠ "java/lang/invoke/MethodHandle" ∧ yX16_ipOut.cls ≠ "java/lang/invoke/VarHandle" ∧ (parseMethodDescriptor yX16_ipOut.desc).map (fun d => d.parameters.length) = some 3 := ⟨by decide +kernel, by decide +kernel, by decide +kernel⟩
theorem ctX16_ipOut (l : Launch) (E : Nat → Nat) (D : va_G) (dA : Nat → ClassId) (lo : Nat) (H0 : Heap) (fu : Nat) (a0 : Nat) (a1 : Int32) (a2 : Int32) (a3 : Int32) (M : Mm) (out : Mm) (h : fX16_ipOut fu a0 a1 a2 a3 M = some out) : Ct l E D dA lo H0 yX16_ipOut cX16_ipOut 9 none 4 98 [pR (some a0), pI a1, pI a2, pI a3] M none out := by
  refine ct_of (by decide +kernel) (Nat.le_of_ble_eq_true rfl) ?_
  intro x hl he hd ha ho hh hn hin X hE
  exact wX16_ipOut X hE hn fu a0 a1 a2 a3 M h
/-! WebHostModel.askAgain(LWebHostModel$Packet;)V -/
def fX16_askAgain (fu : Nat)  (a0 : Nat) (a1 : Option Nat)  (M : Mm) : Option (Mm) :=
    (gI M 15 964 a1).bind fun v1 =>
    if v1 = (3 : Int32) then (
    (pZ M 15 960 a1 (0 : Int32)).bind fun M7 =>
    some M7)
    else (
    (gI M 15 964 a1).bind fun v2 =>
    (pF M 15 964 a1 (v2 + (1 : Int32))).bind fun M3 =>
    (gI M3 15 961 a1).bind fun v4 =>
    (rc M3 16 (some a0)).bind fun q5 =>
    (fX16_ask fu q5 v4 M3).bind fun M6 =>
    some M6)
theorem dX16_askAgain_0 : decode cX16_askAgain 0 = .ok (.aload_n 1, 1) := by decide +kernel
theorem dX16_askAgain_1 : decode cX16_askAgain 1 = .ok (.getfield 233, 3) := by decide +kernel
theorem dX16_askAgain_4 : decode cX16_askAgain 4 = .ok (.iconst 3, 1) := by decide +kernel
theorem dX16_askAgain_5 : decode cX16_askAgain 5 = .ok (.if_icmp .ne 11, 3) := by decide +kernel
theorem dX16_askAgain_8 : decode cX16_askAgain 8 = .ok (.aload_n 1, 1) := by decide +kernel
theorem dX16_askAgain_9 : decode cX16_askAgain 9 = .ok (.iconst 0, 1) := by decide +kernel
theorem dX16_askAgain_10 : decode cX16_askAgain 10 = .ok (.putfield 158, 3) := by decide +kernel
theorem dX16_askAgain_13 : decode cX16_askAgain 13 = .ok (.goto 21, 3) := by decide +kernel
theorem dX16_askAgain_16 : decode cX16_askAgain 16 = .ok (.aload_n 1, 1) := by decide +kernel
theorem dX16_askAgain_17 : decode cX16_askAgain 17 = .ok (.dup, 1) := by decide +kernel
theorem dX16_askAgain_18 : decode cX16_askAgain 18 = .ok (.getfield 233, 3) := by decide +kernel
theorem dX16_askAgain_21 : decode cX16_askAgain 21 = .ok (.iconst 1, 1) := by decide +kernel
theorem dX16_askAgain_22 : decode cX16_askAgain 22 = .ok (.iadd, 1) := by decide +kernel
theorem dX16_askAgain_23 : decode cX16_askAgain 23 = .ok (.putfield 233, 3) := by decide +kernel
theorem dX16_askAgain_26 : decode cX16_askAgain 26 = .ok (.aload_n 0, 1) := by decide +kernel
theorem dX16_askAgain_27 : decode cX16_askAgain 27 = .ok (.aload_n 1, 1) := by decide +kernel
theorem dX16_askAgain_28 : decode cX16_askAgain 28 = .ok (.getfield 182, 3) := by decide +kernel
theorem dX16_askAgain_31 : decode cX16_askAgain 31 = .ok (.invokevirtual 237, 3) := by decide +kernel
theorem dX16_askAgain_34 : decode cX16_askAgain 34 = .ok (.return_, 1) := by decide +kernel
theorem wX16_askAgain {x : GX} {n0 sl0 : Nat} (X : Cx x cX16_askAgain RX16 none n0 sl0 4 98) {out : Mm} (hE : Ends x n0 sl0 none out) (hn : xn x = 2) (fu : Nat)   (a0 : Nat) (a1 : Option Nat)  (M : Mm) (h : fX16_askAgain fu  a0 a1 M = some out) : Gw x M 0 [(0, pR (some a0)), (1, pR a1)] [] := by
  unfold fX16_askAgain at h
  refine g_aload_n X (pc := 0) 1 rfl rfl dX16_askAgain_0 ?_
  obtain ⟨v1, ev1, h⟩ := bd h
  refine g_getI X (pc := 1) fk_15_4 rfl rfl ev1 tb_1760 dX16_askAgain_1 ?_
  refine g_iconst X (pc := 4) (v := 3) dX16_askAgain_4 (by decide) ?_
  refine g_icmp_ne X (pc := 5) (tgt := 16) dX16_askAgain_5 (by decide) (fun hc => ?_) (fun hc => ?_)
  · have h := (if_neg hc).symm.trans h
    refine g_aload_n X (pc := 16) 1 rfl rfl dX16_askAgain_16 ?_
    refine g_dup X (pc := 17) rfl dX16_askAgain_17 ?_
    obtain ⟨v2, ev2, h⟩ := bd h
    refine g_getI X (pc := 18) fk_15_4 rfl rfl ev2 tb_1760 dX16_askAgain_18 ?_
    refine g_iconst X (pc := 21) (v := 1) dX16_askAgain_21 (by decide) ?_
    refine g_iadd X (pc := 22) dX16_askAgain_22 ?_
    obtain ⟨M3, eM3, h⟩ := bd h
    refine g_putI X (pc := 23) fk_15_4 rfl rfl rfl eM3 tb_1760 (Or.inl rfl) dX16_askAgain_23 ?_
    refine g_aload_n X (pc := 26) 0 rfl rfl dX16_askAgain_26 ?_
    refine g_aload_n X (pc := 27) 1 rfl rfl dX16_askAgain_27 ?_
    obtain ⟨v4, ev4, h⟩ := bd h
    refine g_getI X (pc := 28) fk_15_1 rfl rfl ev4 tb_1757 dX16_askAgain_28 ?_
    obtain ⟨q5, eq5, h⟩ := bd h
    obtain ⟨M6, eM6, h⟩ := bd h
    refine g_callV X (pc := 31) (M' := M6) (ro := none) (c := 16) rfl (by decide) (as := [pI v4]) (as' := [pI v4]) (st := []) eq5 (ctX16_ask _ _ _ _ _ _ fu q5 v4 M3 _ eM6) tb_2086 tb_2083 tb_2085 ts_70 tb_8 ⟨rfl, hyX16_ask⟩ rfl rfl ⟨by decide, by decide⟩ (Nat.le_of_ble_eq_true rfl) dX16_askAgain_31 ?_
    obtain rfl := Option.some.inj h
    exact g_return X hE dX16_askAgain_34
  · have h := (if_pos hc).symm.trans h
    refine g_aload_n X (pc := 8) 1 rfl rfl dX16_askAgain_8 ?_
    refine g_iconst X (pc := 9) (v := 0) dX16_askAgain_9 (by decide) ?_
    obtain ⟨M7, eM7, h⟩ := bd h
    refine g_putZ X (pc := 10) fk_15_0 rfl rfl rfl eM7 tb_1756 (Or.inl rfl) dX16_askAgain_10 ?_
    refine g_goto X (pc := 13) (tgt := 34) dX16_askAgain_13 (by decide) ?_
    obtain rfl := Option.some.inj h
    exact g_return X hE dX16_askAgain_34
theorem hyX16_askAgain : yX16_askAgain.cls ≠ "java/lang/invoke/MethodHandle" ∧ yX16_askAgain.cls ≠ "java/lang/invoke/VarHandle" ∧ (parseMethodDescriptor yX16_askAgain.desc).map (fun d => d.parameters.length) = some 1 := ⟨by decide +kernel, by decide +kernel, by decide +kernel⟩
theorem ctX16_askAgain (l : Launch) (E : Nat → Nat) (D : va_G) (dA : Nat → ClassId) (lo : Nat) (H0 : Heap) (fu : Nat) (a0 : Nat) (a1 : Option Nat) (M : Mm) (out : Mm) (h : fX16_askAgain fu a0 a1 M = some out) : Ct l E D dA lo H0 yX16_askAgain cX16_askAgain 2 none 4 98 [pR (some a0), pR a1] M none out := by
  refine ct_of (by decide +kernel) (Nat.le_of_ble_eq_true rfl) ?_
  intro x hl he hd ha ho hh hn hin X hE
  exact wX16_askAgain X hE hn fu a0 a1 M h
/-! WebHostModel.echo(I)V -/
def fX16_echo_L52 (fu : Nat)  : Nat → Nat → Int32 → Int32 → Mm → Option (Mm)
  | 0, _, _, _, _ => none
  | n + 1, a0, a1, a2, M =>
    if a1 ≤ a2 then (
    (rc M 16 (some a0)).bind fun q1 =>
    (fX16_put fu q1 (34 : Int32) (1 : Int32) (0 : Int32) M).bind fun M2 =>
    (rc M2 16 (some a0)).bind fun q3 =>
    (fX16_put fu q3 (36 : Int32) (2 : Int32) (0 : Int32) M2).bind fun M4 =>
    (gR M4 16 1043 (some a0)).bind fun v5 =>
    b2 (fX16_added fu  v5 (34 : Int32) a1 (0 : Int64) M4) fun v7 M6 =>
    b2 (fX16_sixteen fu  v7 M6) fun v9 M8 =>
    (rc M8 16 (some a0)).bind fun q10 =>
    (fX16_put fu q10 (36 : Int32) (2 : Int32) v9 M8).bind fun M11 =>
    (gI M11 16 1054 (some a0)).bind fun v12 =>
    (rc M11 16 (some a0)).bind fun q13 =>
    (fX16_ipOut fu q13 v12 (1 : Int32) a1 M11).bind fun M14 =>
    some M14)
    else (
    (gR M 16 1043 (some a0)).bind fun v15 =>
    (gR M 16 1053 (some a0)).bind fun v16 =>
    (gA M 100 v16 a2).bind fun v17 =>
    (pA M 100 v15 ((34 : Int32) + a2) (Int8.toInt32 (Int32.toInt8 v17))).bind fun M18 =>
    fX16_echo_L52 fu  n a0 a1 (a2 + (1 : Int32)) M18)
def fX16_echo (fu : Nat)  (a0 : Nat) (a1 : Int32)  (M : Mm) : Option (Mm) :=
    if a1 < (8 : Int32) then (
    some M)
    else (
    if (1480 : Int32) < a1 then (
    some M)
    else (
    (gR M 16 1053 (some a0)).bind fun v1 =>
    b2 (fX16_added fu  v1 (0 : Int32) a1 (0 : Int64) M) fun v3 M2 =>
    b2 (fX16_sixteen fu  v3 M2) fun v5 M4 =>
    if v5 = 0 then (
    (gR M4 16 1053 (some a0)).bind fun v6 =>
    (gA M4 100 v6 (0 : Int32)).bind fun v7 =>
    if v7 = (8 : Int32) then (
    (gR M4 16 1053 (some a0)).bind fun v8 =>
    (gA M4 100 v8 (1 : Int32)).bind fun v9 =>
    if v9 = 0 then (
    fX16_echo_L52 fu  fu a0 a1 (0 : Int32) M4)
    else (
    some M4))
    else (
    some M4))
    else (
    some M4)))
theorem dX16_echo_0 : decode cX16_echo 0 = .ok (.iload_n 1, 1) := by decide +kernel
theorem dX16_echo_1 : decode cX16_echo 1 = .ok (.bipush 8, 2) := by decide +kernel
theorem dX16_echo_3 : decode cX16_echo 3 = .ok (.if_icmp .lt 46, 3) := by decide +kernel
theorem dX16_echo_6 : decode cX16_echo 6 = .ok (.iload_n 1, 1) := by decide +kernel
theorem dX16_echo_7 : decode cX16_echo 7 = .ok (.sipush 1480, 3) := by decide +kernel
theorem dX16_echo_10 : decode cX16_echo 10 = .ok (.if_icmp .gt 39, 3) := by decide +kernel
theorem dX16_echo_13 : decode cX16_echo 13 = .ok (.aload_n 0, 1) := by decide +kernel
theorem dX16_echo_14 : decode cX16_echo 14 = .ok (.getfield 65, 3) := by decide +kernel
theorem dX16_echo_17 : decode cX16_echo 17 = .ok (.iconst 0, 1) := by decide +kernel
theorem dX16_echo_18 : decode cX16_echo 18 = .ok (.iload_n 1, 1) := by decide +kernel
theorem dX16_echo_19 : decode cX16_echo 19 = .ok (.lconst 0, 1) := by decide +kernel
theorem dX16_echo_20 : decode cX16_echo 20 = .ok (.invokestatic 216, 3) := by decide +kernel
theorem dX16_echo_23 : decode cX16_echo 23 = .ok (.invokestatic 220, 3) := by decide +kernel
theorem dX16_echo_26 : decode cX16_echo 26 = .ok (.ifCond .ne 23, 3) := by decide +kernel
theorem dX16_echo_29 : decode cX16_echo 29 = .ok (.aload_n 0, 1) := by decide +kernel
theorem dX16_echo_30 : decode cX16_echo 30 = .ok (.getfield 65, 3) := by decide +kernel
theorem dX16_echo_33 : decode cX16_echo 33 = .ok (.iconst 0, 1) := by decide +kernel
theorem dX16_echo_34 : decode cX16_echo 34 = .ok (.baload, 1) := by decide +kernel
theorem dX16_echo_35 : decode cX16_echo 35 = .ok (.bipush 8, 2) := by decide +kernel
theorem dX16_echo_37 : decode cX16_echo 37 = .ok (.if_icmp .ne 12, 3) := by decide +kernel
theorem dX16_echo_40 : decode cX16_echo 40 = .ok (.aload_n 0, 1) := by decide +kernel
theorem dX16_echo_41 : decode cX16_echo 41 = .ok (.getfield 65, 3) := by decide +kernel
theorem dX16_echo_44 : decode cX16_echo 44 = .ok (.iconst 1, 1) := by decide +kernel
theorem dX16_echo_45 : decode cX16_echo 45 = .ok (.baload, 1) := by decide +kernel
theorem dX16_echo_46 : decode cX16_echo 46 = .ok (.ifCond .eq 4, 3) := by decide +kernel
theorem dX16_echo_49 : decode cX16_echo 49 = .ok (.return_, 1) := by decide +kernel
theorem dX16_echo_50 : decode cX16_echo 50 = .ok (.iconst 0, 1) := by decide +kernel
theorem dX16_echo_51 : decode cX16_echo 51 = .ok (.istore_n 2, 1) := by decide +kernel
theorem dX16_echo_52 : decode cX16_echo 52 = .ok (.iload_n 2, 1) := by decide +kernel
theorem dX16_echo_53 : decode cX16_echo 53 = .ok (.iload_n 1, 1) := by decide +kernel
theorem dX16_echo_54 : decode cX16_echo 54 = .ok (.if_icmp .ge 24, 3) := by decide +kernel
theorem dX16_echo_57 : decode cX16_echo 57 = .ok (.aload_n 0, 1) := by decide +kernel
theorem dX16_echo_58 : decode cX16_echo 58 = .ok (.getfield 34, 3) := by decide +kernel
theorem dX16_echo_61 : decode cX16_echo 61 = .ok (.bipush 34, 2) := by decide +kernel
theorem dX16_echo_63 : decode cX16_echo 63 = .ok (.iload_n 2, 1) := by decide +kernel
theorem dX16_echo_64 : decode cX16_echo 64 = .ok (.iadd, 1) := by decide +kernel
theorem dX16_echo_65 : decode cX16_echo 65 = .ok (.aload_n 0, 1) := by decide +kernel
theorem dX16_echo_66 : decode cX16_echo 66 = .ok (.getfield 65, 3) := by decide +kernel
theorem dX16_echo_69 : decode cX16_echo 69 = .ok (.iload_n 2, 1) := by decide +kernel
theorem dX16_echo_70 : decode cX16_echo 70 = .ok (.baload, 1) := by decide +kernel
theorem dX16_echo_71 : decode cX16_echo 71 = .ok (.bastore, 1) := by decide +kernel
theorem dX16_echo_72 : decode cX16_echo 72 = .ok (.iinc 2 1, 3) := by decide +kernel
theorem dX16_echo_75 : decode cX16_echo 75 = .ok (.goto (-23), 3) := by decide +kernel
theorem dX16_echo_78 : decode cX16_echo 78 = .ok (.aload_n 0, 1) := by decide +kernel
theorem dX16_echo_79 : decode cX16_echo 79 = .ok (.bipush 34, 2) := by decide +kernel
theorem dX16_echo_81 : decode cX16_echo 81 = .ok (.iconst 1, 1) := by decide +kernel
theorem dX16_echo_82 : decode cX16_echo 82 = .ok (.iconst 0, 1) := by decide +kernel
theorem dX16_echo_83 : decode cX16_echo 83 = .ok (.invokevirtual 160, 3) := by decide +kernel
theorem dX16_echo_86 : decode cX16_echo 86 = .ok (.aload_n 0, 1) := by decide +kernel
theorem dX16_echo_87 : decode cX16_echo 87 = .ok (.bipush 36, 2) := by decide +kernel
theorem dX16_echo_89 : decode cX16_echo 89 = .ok (.iconst 2, 1) := by decide +kernel
theorem dX16_echo_90 : decode cX16_echo 90 = .ok (.iconst 0, 1) := by decide +kernel
theorem dX16_echo_91 : decode cX16_echo 91 = .ok (.invokevirtual 160, 3) := by decide +kernel
theorem dX16_echo_94 : decode cX16_echo 94 = .ok (.aload_n 0, 1) := by decide +kernel
theorem dX16_echo_95 : decode cX16_echo 95 = .ok (.bipush 36, 2) := by decide +kernel
theorem dX16_echo_97 : decode cX16_echo 97 = .ok (.iconst 2, 1) := by decide +kernel
theorem dX16_echo_98 : decode cX16_echo 98 = .ok (.aload_n 0, 1) := by decide +kernel
theorem dX16_echo_99 : decode cX16_echo 99 = .ok (.getfield 34, 3) := by decide +kernel
theorem dX16_echo_102 : decode cX16_echo 102 = .ok (.bipush 34, 2) := by decide +kernel
theorem dX16_echo_104 : decode cX16_echo 104 = .ok (.iload_n 1, 1) := by decide +kernel
theorem dX16_echo_105 : decode cX16_echo 105 = .ok (.lconst 0, 1) := by decide +kernel
theorem dX16_echo_106 : decode cX16_echo 106 = .ok (.invokestatic 216, 3) := by decide +kernel
theorem dX16_echo_109 : decode cX16_echo 109 = .ok (.invokestatic 220, 3) := by decide +kernel
theorem dX16_echo_112 : decode cX16_echo 112 = .ok (.invokevirtual 160, 3) := by decide +kernel
theorem dX16_echo_115 : decode cX16_echo 115 = .ok (.aload_n 0, 1) := by decide +kernel
theorem dX16_echo_116 : decode cX16_echo 116 = .ok (.aload_n 0, 1) := by decide +kernel
theorem dX16_echo_117 : decode cX16_echo 117 = .ok (.getfield 240, 3) := by decide +kernel
theorem dX16_echo_120 : decode cX16_echo 120 = .ok (.iconst 1, 1) := by decide +kernel
theorem dX16_echo_121 : decode cX16_echo 121 = .ok (.iload_n 1, 1) := by decide +kernel
theorem dX16_echo_122 : decode cX16_echo 122 = .ok (.invokevirtual 274, 3) := by decide +kernel
theorem dX16_echo_125 : decode cX16_echo 125 = .ok (.return_, 1) := by decide +kernel
theorem wX16_echo_L52 {x : GX} {n0 sl0 : Nat} (X : Cx x cX16_echo RX16 none n0 sl0 5 126) {out : Mm} (hE : Ends x n0 sl0 none out) (hn : xn x = 3) (fu : Nat)   : ∀ (n : Nat) (a0 : Nat) (a1 : Int32) (a2 : Int32)  (M : Mm), fX16_echo_L52 fu  n a0 a1 a2 M = some out → Gw x M 52 [(0, pR (some a0)), (1, pI a1), (2, pI a2)] [] := by
  intro n
  induction n with
  | zero =>
    intro a0 a1 a2 M h
    have h : (none : Option (Mm)) = some out := h
    cases h
  | succ n ih =>
    intro a0 a1 a2 M h
    rw [fX16_echo_L52] at h
    refine g_iload_n X (pc := 52) 2 rfl rfl dX16_echo_52 ?_
    refine g_iload_n X (pc := 53) 1 rfl rfl dX16_echo_53 ?_
    refine g_icmp_ge X (pc := 54) (tgt := 78) dX16_echo_54 (by decide) (fun hc => ?_) (fun hc => ?_)
    · have h := (if_pos hc).symm.trans h
      refine g_aload_n X (pc := 78) 0 rfl rfl dX16_echo_78 ?_
      refine g_bipush X (pc := 79) (v := 34) dX16_echo_79 (by decide) ?_
      refine g_iconst X (pc := 81) (v := 1) dX16_echo_81 (by decide) ?_
      refine g_iconst X (pc := 82) (v := 0) dX16_echo_82 (by decide) ?_
      obtain ⟨q1, eq1, h⟩ := bd h
      obtain ⟨M2, eM2, h⟩ := bd h
      refine g_callV X (pc := 83) (M' := M2) (ro := none) (c := 16) rfl (by decide) (as := [pI (34 : Int32), pI (1 : Int32), pI (0 : Int32)]) (as' := [pI (0 : Int32), pI (1 : Int32), pI (34 : Int32)]) (st := []) eq1 (ctX16_put _ _ _ _ _ _ fu q1 (34 : Int32) (1 : Int32) (0 : Int32) M _ eM2) tb_2095 tb_2092 tb_2094 ts_72 tb_8 ⟨rfl, hyX16_put⟩ rfl rfl ⟨by decide, by decide⟩ (Nat.le_of_ble_eq_true rfl) dX16_echo_83 ?_
      refine g_aload_n X (pc := 86) 0 rfl rfl dX16_echo_86 ?_
      refine g_bipush X (pc := 87) (v := 36) dX16_echo_87 (by decide) ?_
      refine g_iconst X (pc := 89) (v := 2) dX16_echo_89 (by decide) ?_
      refine g_iconst X (pc := 90) (v := 0) dX16_echo_90 (by decide) ?_
      obtain ⟨q3, eq3, h⟩ := bd h
      obtain ⟨M4, eM4, h⟩ := bd h
      refine g_callV X (pc := 91) (M' := M4) (ro := none) (c := 16) rfl (by decide) (as := [pI (36 : Int32), pI (2 : Int32), pI (0 : Int32)]) (as' := [pI (0 : Int32), pI (2 : Int32), pI (36 : Int32)]) (st := []) eq3 (ctX16_put _ _ _ _ _ _ fu q3 (36 : Int32) (2 : Int32) (0 : Int32) M2 _ eM4) tb_2095 tb_2092 tb_2094 ts_72 tb_8 ⟨rfl, hyX16_put⟩ rfl rfl ⟨by decide, by decide⟩ (Nat.le_of_ble_eq_true rfl) dX16_echo_91 ?_
      refine g_aload_n X (pc := 94) 0 rfl rfl dX16_echo_94 ?_
      refine g_bipush X (pc := 95) (v := 36) dX16_echo_95 (by decide) ?_
      refine g_iconst X (pc := 97) (v := 2) dX16_echo_97 (by decide) ?_
      refine g_aload_n X (pc := 98) 0 rfl rfl dX16_echo_98 ?_
      obtain ⟨v5, ev5, h⟩ := bd h
      refine g_getR X (pc := 99) fk_16_19 rfl rfl ev5 tb_1833 dX16_echo_99 ?_
      refine g_bipush X (pc := 102) (v := 34) dX16_echo_102 (by decide) ?_
      refine g_iload_n X (pc := 104) 1 rfl rfl dX16_echo_104 ?_
      refine g_lconst X (pc := 105) (v := 0) dX16_echo_105 (by decide) ?_
      obtain ⟨v7, M6, eM6, h⟩ := b2d h
      refine g_callS X (pc := 106) (M' := M6) (ro := some (pL v7)) (as := [pR v5, pI (34 : Int32), pI a1, pL (0 : Int64)]) (as' := [pL (0 : Int64), pI a1, pI (34 : Int32), pR v5]) (st := [pI (2 : Int32), pI (36 : Int32), pR (some a0)]) (ctX16_added _ _ _ _ _ _ fu  v5 (34 : Int32) a1 (0 : Int64) M4 _ eM6) tb_2125 tb_2123 tb_2124 tb_8 hyX16_added rfl rfl ⟨by decide, by decide⟩ (Nat.le_of_ble_eq_true rfl) dX16_echo_106 ?_
      obtain ⟨v9, M8, eM8, h⟩ := b2d h
      refine g_callS X (pc := 109) (M' := M8) (ro := some (pI v9)) (as := [pL v7]) (as' := [pL v7]) (st := [pI (2 : Int32), pI (36 : Int32), pR (some a0)]) (ctX16_sixteen _ _ _ _ _ _ fu  v7 M6 _ eM8) tb_2128 tb_2126 tb_2127 tb_8 hyX16_sixteen rfl rfl ⟨by decide, by decide⟩ (Nat.le_of_ble_eq_true rfl) dX16_echo_109 ?_
      obtain ⟨q10, eq10, h⟩ := bd h
      obtain ⟨M11, eM11, h⟩ := bd h
      refine g_callV X (pc := 112) (M' := M11) (ro := none) (c := 16) rfl (by decide) (as := [pI (36 : Int32), pI (2 : Int32), pI v9]) (as' := [pI v9, pI (2 : Int32), pI (36 : Int32)]) (st := []) eq10 (ctX16_put _ _ _ _ _ _ fu q10 (36 : Int32) (2 : Int32) v9 M8 _ eM11) tb_2095 tb_2092 tb_2094 ts_72 tb_8 ⟨rfl, hyX16_put⟩ rfl rfl ⟨by decide, by decide⟩ (Nat.le_of_ble_eq_true rfl) dX16_echo_112 ?_
      refine g_aload_n X (pc := 115) 0 rfl rfl dX16_echo_115 ?_
      refine g_aload_n X (pc := 116) 0 rfl rfl dX16_echo_116 ?_
      obtain ⟨v12, ev12, h⟩ := bd h
      refine g_getI X (pc := 117) fk_16_30 rfl rfl ev12 tb_1844 dX16_echo_117 ?_
      refine g_iconst X (pc := 120) (v := 1) dX16_echo_120 (by decide) ?_
      refine g_iload_n X (pc := 121) 1 rfl rfl dX16_echo_121 ?_
      obtain ⟨q13, eq13, h⟩ := bd h
      obtain ⟨M14, eM14, h⟩ := bd h
      refine g_callV X (pc := 122) (M' := M14) (ro := none) (c := 16) rfl (by decide) (as := [pI v12, pI (1 : Int32), pI a1]) (as' := [pI a1, pI (1 : Int32), pI v12]) (st := []) eq13 (ctX16_ipOut _ _ _ _ _ _ fu q13 v12 (1 : Int32) a1 M11 _ eM14) tb_2133 tb_2130 tb_2132 ts_77 tb_8 ⟨rfl, hyX16_ipOut⟩ rfl rfl ⟨by decide, by decide⟩ (Nat.le_of_ble_eq_true rfl) dX16_echo_122 ?_
      obtain rfl := Option.some.inj h
      exact g_return X hE dX16_echo_125
    · have h := (if_neg hc).symm.trans h
      refine g_aload_n X (pc := 57) 0 rfl rfl dX16_echo_57 ?_
      obtain ⟨v15, ev15, h⟩ := bd h
      refine g_getR X (pc := 58) fk_16_19 rfl rfl ev15 tb_1833 dX16_echo_58 ?_
      refine g_bipush X (pc := 61) (v := 34) dX16_echo_61 (by decide) ?_
      refine g_iload_n X (pc := 63) 2 rfl rfl dX16_echo_63 ?_
      refine g_iadd X (pc := 64) dX16_echo_64 ?_
      refine g_aload_n X (pc := 65) 0 rfl rfl dX16_echo_65 ?_
      obtain ⟨v16, ev16, h⟩ := bd h
      refine g_getR X (pc := 66) fk_16_29 rfl rfl ev16 tb_1843 dX16_echo_66 ?_
      refine g_iload_n X (pc := 69) 2 rfl rfl dX16_echo_69 ?_
      obtain ⟨v17, ev17, h⟩ := bd h
      refine g_baload X (pc := 70) ev17 dX16_echo_70 ?_
      obtain ⟨M18, eM18, h⟩ := bd h
      refine g_bastore X (pc := 71) eM18 dX16_echo_71 ?_
      refine g_iinc X (pc := 72) 2 [(2, pI (a2 + (1 : Int32))), (0, pR (some a0)), (1, pI a1)] rfl (iinc_e (by decide)) (lt_n hn (by decide)) rfl dX16_echo_72 ?_
      refine g_goto X (pc := 75) (tgt := 52) dX16_echo_75 (by decide) ?_
      refine g_sub [1, 2, 0] [(0, pR (some a0)), (1, pI a1), (2, pI (a2 + (1 : Int32)))] rfl ?_
      exact ih a0 a1 (a2 + (1 : Int32)) M18 h
theorem wX16_echo {x : GX} {n0 sl0 : Nat} (X : Cx x cX16_echo RX16 none n0 sl0 5 126) {out : Mm} (hE : Ends x n0 sl0 none out) (hn : xn x = 3) (fu : Nat)   (a0 : Nat) (a1 : Int32)  (M : Mm) (h : fX16_echo fu  a0 a1 M = some out) : Gw x M 0 [(0, pR (some a0)), (1, pI a1)] [] := by
  unfold fX16_echo at h
  refine g_iload_n X (pc := 0) 1 rfl rfl dX16_echo_0 ?_
  refine g_bipush X (pc := 1) (v := 8) dX16_echo_1 (by decide) ?_
  refine g_icmp_lt X (pc := 3) (tgt := 49) dX16_echo_3 (by decide) (fun hc => ?_) (fun hc => ?_)
  · have h := (if_pos hc).symm.trans h
    obtain rfl := Option.some.inj h
    exact g_return X hE dX16_echo_49
  · have h := (if_neg hc).symm.trans h
    refine g_iload_n X (pc := 6) 1 rfl rfl dX16_echo_6 ?_
    refine g_sipush X (pc := 7) (v := 1480) dX16_echo_7 (by decide) ?_
    refine g_icmp_gt X (pc := 10) (tgt := 49) dX16_echo_10 (by decide) (fun hc => ?_) (fun hc => ?_)
    · have h := (if_pos hc).symm.trans h
      obtain rfl := Option.some.inj h
      exact g_return X hE dX16_echo_49
    · have h := (if_neg hc).symm.trans h
      refine g_aload_n X (pc := 13) 0 rfl rfl dX16_echo_13 ?_
      obtain ⟨v1, ev1, h⟩ := bd h
      refine g_getR X (pc := 14) fk_16_29 rfl rfl ev1 tb_1843 dX16_echo_14 ?_
      refine g_iconst X (pc := 17) (v := 0) dX16_echo_17 (by decide) ?_
      refine g_iload_n X (pc := 18) 1 rfl rfl dX16_echo_18 ?_
      refine g_lconst X (pc := 19) (v := 0) dX16_echo_19 (by decide) ?_
      obtain ⟨v3, M2, eM2, h⟩ := b2d h
      refine g_callS X (pc := 20) (M' := M2) (ro := some (pL v3)) (as := [pR v1, pI (0 : Int32), pI a1, pL (0 : Int64)]) (as' := [pL (0 : Int64), pI a1, pI (0 : Int32), pR v1]) (st := []) (ctX16_added _ _ _ _ _ _ fu  v1 (0 : Int32) a1 (0 : Int64) M _ eM2) tb_2125 tb_2123 tb_2124 tb_8 hyX16_added rfl rfl ⟨by decide, by decide⟩ (Nat.le_of_ble_eq_true rfl) dX16_echo_20 ?_
      obtain ⟨v5, M4, eM4, h⟩ := b2d h
      refine g_callS X (pc := 23) (M' := M4) (ro := some (pI v5)) (as := [pL v3]) (as' := [pL v3]) (st := []) (ctX16_sixteen _ _ _ _ _ _ fu  v3 M2 _ eM4) tb_2128 tb_2126 tb_2127 tb_8 hyX16_sixteen rfl rfl ⟨by decide, by decide⟩ (Nat.le_of_ble_eq_true rfl) dX16_echo_23 ?_
      refine g_if_ne X (pc := 26) (tgt := 49) dX16_echo_26 (by decide) (fun hc => ?_) (fun hc => ?_)
      · have h := (if_neg hc).symm.trans h
        obtain rfl := Option.some.inj h
        exact g_return X hE dX16_echo_49
      · have h := (if_pos hc).symm.trans h
        refine g_aload_n X (pc := 29) 0 rfl rfl dX16_echo_29 ?_
        obtain ⟨v6, ev6, h⟩ := bd h
        refine g_getR X (pc := 30) fk_16_29 rfl rfl ev6 tb_1843 dX16_echo_30 ?_
        refine g_iconst X (pc := 33) (v := 0) dX16_echo_33 (by decide) ?_
        obtain ⟨v7, ev7, h⟩ := bd h
        refine g_baload X (pc := 34) ev7 dX16_echo_34 ?_
        refine g_bipush X (pc := 35) (v := 8) dX16_echo_35 (by decide) ?_
        refine g_icmp_ne X (pc := 37) (tgt := 49) dX16_echo_37 (by decide) (fun hc => ?_) (fun hc => ?_)
        · have h := (if_neg hc).symm.trans h
          obtain rfl := Option.some.inj h
          exact g_return X hE dX16_echo_49
        · have h := (if_pos hc).symm.trans h
          refine g_aload_n X (pc := 40) 0 rfl rfl dX16_echo_40 ?_
          obtain ⟨v8, ev8, h⟩ := bd h
          refine g_getR X (pc := 41) fk_16_29 rfl rfl ev8 tb_1843 dX16_echo_41 ?_
          refine g_iconst X (pc := 44) (v := 1) dX16_echo_44 (by decide) ?_
          obtain ⟨v9, ev9, h⟩ := bd h
          refine g_baload X (pc := 45) ev9 dX16_echo_45 ?_
          refine g_if_eq X (pc := 46) (tgt := 50) dX16_echo_46 (by decide) (fun hc => ?_) (fun hc => ?_)
          · have h := (if_pos hc).symm.trans h
            refine g_iconst X (pc := 50) (v := 0) dX16_echo_50 (by decide) ?_
            refine g_istore_n X (pc := 51) [(2, pI (0 : Int32)), (0, pR (some a0)), (1, pI a1)] rfl (lt_n hn (by decide)) rfl dX16_echo_51 ?_
            refine g_sub [1, 2, 0] [(0, pR (some a0)), (1, pI a1), (2, pI (0 : Int32))] rfl ?_
            exact wX16_echo_L52 X hE hn fu   fu a0 a1 (0 : Int32) M4 h
          · have h := (if_neg hc).symm.trans h
            obtain rfl := Option.some.inj h
            exact g_return X hE dX16_echo_49
theorem hyX16_echo : yX16_echo.cls ≠ "java/lang/invoke/MethodHandle" ∧ yX16_echo.cls ≠ "java/lang/invoke/VarHandle" ∧ (parseMethodDescriptor yX16_echo.desc).map (fun d => d.parameters.length) = some 1 := ⟨by decide +kernel, by decide +kernel, by decide +kernel⟩
theorem ctX16_echo (l : Launch) (E : Nat → Nat) (D : va_G) (dA : Nat → ClassId) (lo : Nat) (H0 : Heap) (fu : Nat) (a0 : Nat) (a1 : Int32) (M : Mm) (out : Mm) (h : fX16_echo fu a0 a1 M = some out) : Ct l E D dA lo H0 yX16_echo cX16_echo 3 none 5 126 [pR (some a0), pI a1] M none out := by
  refine ct_of (by decide +kernel) (Nat.le_of_ble_eq_true rfl) ?_
  intro x hl he hd ha ho hh hn hin X hE
  exact wX16_echo X hE hn fu a0 a1 M h
/-! WebHostModel.pseudo(III)J -/
def fX16_pseudo (fu : Nat)  (a0 : Nat) (a1 : Int32) (a2 : Int32) (a3 : Int32)  (M : Mm) : Option (Int64 × Mm) :=
    some ((((Int32.toInt64 ((((ushr a1 (16 : Int32)) + (a1 &&& (65535 : Int32))) + (ushr a2 (16 : Int32))) + (a2 &&& (65535 : Int32)))) + (6 : Int64)) + (Int32.toInt64 a3)), M)
theorem dX16_pseudo_0 : decode cX16_pseudo 0 = .ok (.iload_n 1, 1) := by decide +kernel
theorem dX16_pseudo_1 : decode cX16_pseudo 1 = .ok (.bipush 16, 2) := by decide +kernel
theorem dX16_pseudo_3 : decode cX16_pseudo 3 = .ok (.iushr, 1) := by decide +kernel
theorem dX16_pseudo_4 : decode cX16_pseudo 4 = .ok (.iload_n 1, 1) := by decide +kernel
theorem dX16_pseudo_5 : decode cX16_pseudo 5 = .ok (.ldc 14, 2) := by decide +kernel
theorem dX16_pseudo_7 : decode cX16_pseudo 7 = .ok (.iand, 1) := by decide +kernel
theorem dX16_pseudo_8 : decode cX16_pseudo 8 = .ok (.iadd, 1) := by decide +kernel
theorem dX16_pseudo_9 : decode cX16_pseudo 9 = .ok (.iload_n 2, 1) := by decide +kernel
theorem dX16_pseudo_10 : decode cX16_pseudo 10 = .ok (.bipush 16, 2) := by decide +kernel
theorem dX16_pseudo_12 : decode cX16_pseudo 12 = .ok (.iushr, 1) := by decide +kernel
theorem dX16_pseudo_13 : decode cX16_pseudo 13 = .ok (.iadd, 1) := by decide +kernel
theorem dX16_pseudo_14 : decode cX16_pseudo 14 = .ok (.iload_n 2, 1) := by decide +kernel
theorem dX16_pseudo_15 : decode cX16_pseudo 15 = .ok (.ldc 14, 2) := by decide +kernel
theorem dX16_pseudo_17 : decode cX16_pseudo 17 = .ok (.iand, 1) := by decide +kernel
theorem dX16_pseudo_18 : decode cX16_pseudo 18 = .ok (.iadd, 1) := by decide +kernel
theorem dX16_pseudo_19 : decode cX16_pseudo 19 = .ok (.i2l, 1) := by decide +kernel
theorem dX16_pseudo_20 : decode cX16_pseudo 20 = .ok (.ldc2_w 280, 3) := by decide +kernel
theorem dX16_pseudo_23 : decode cX16_pseudo 23 = .ok (.ladd, 1) := by decide +kernel
theorem dX16_pseudo_24 : decode cX16_pseudo 24 = .ok (.iload_n 3, 1) := by decide +kernel
theorem dX16_pseudo_25 : decode cX16_pseudo 25 = .ok (.i2l, 1) := by decide +kernel
theorem dX16_pseudo_26 : decode cX16_pseudo 26 = .ok (.ladd, 1) := by decide +kernel
theorem dX16_pseudo_27 : decode cX16_pseudo 27 = .ok (.lreturn, 1) := by decide +kernel
theorem wX16_pseudo {x : GX} {n0 sl0 : Nat} (X : Cx x cX16_pseudo RX16 (some .long) n0 sl0 0 0) {out : Int64 × Mm} (hE : Ends x n0 sl0 (some (pL out.1)) out.2) (hn : xn x = 4) (fu : Nat)   (a0 : Nat) (a1 : Int32) (a2 : Int32) (a3 : Int32)  (M : Mm) (h : fX16_pseudo fu  a0 a1 a2 a3 M = some out) : Gw x M 0 [(0, pR (some a0)), (1, pI a1), (2, pI a2), (3, pI a3)] [] := by
  unfold fX16_pseudo at h
  refine g_iload_n X (pc := 0) 1 rfl rfl dX16_pseudo_0 ?_
  refine g_bipush X (pc := 1) (v := 16) dX16_pseudo_1 (by decide) ?_
  refine g_iushr X (pc := 3) dX16_pseudo_3 ?_
  refine g_iload_n X (pc := 4) 1 rfl rfl dX16_pseudo_4 ?_
  refine g_ldc X (pc := 5) tb_1565 dX16_pseudo_5 ?_
  refine g_iand X (pc := 7) dX16_pseudo_7 ?_
  refine g_iadd X (pc := 8) dX16_pseudo_8 ?_
  refine g_iload_n X (pc := 9) 2 rfl rfl dX16_pseudo_9 ?_
  refine g_bipush X (pc := 10) (v := 16) dX16_pseudo_10 (by decide) ?_
  refine g_iushr X (pc := 12) dX16_pseudo_12 ?_
  refine g_iadd X (pc := 13) dX16_pseudo_13 ?_
  refine g_iload_n X (pc := 14) 2 rfl rfl dX16_pseudo_14 ?_
  refine g_ldc X (pc := 15) tb_1565 dX16_pseudo_15 ?_
  refine g_iand X (pc := 17) dX16_pseudo_17 ?_
  refine g_iadd X (pc := 18) dX16_pseudo_18 ?_
  refine g_i2l X (pc := 19) dX16_pseudo_19 ?_
  refine g_ldc2 X (pc := 20) tb_2122 dX16_pseudo_20 ?_
  refine g_ladd X (pc := 23) dX16_pseudo_23 ?_
  refine g_iload_n X (pc := 24) 3 rfl rfl dX16_pseudo_24 ?_
  refine g_i2l X (pc := 25) dX16_pseudo_25 ?_
  refine g_ladd X (pc := 26) dX16_pseudo_26 ?_
  obtain rfl := Option.some.inj h
  exact g_lreturn X hE dX16_pseudo_27
theorem hyX16_pseudo : yX16_pseudo.cls ≠ "java/lang/invoke/MethodHandle" ∧ yX16_pseudo.cls ≠ "java/lang/invoke/VarHandle" ∧ (parseMethodDescriptor yX16_pseudo.desc).map (fun d => d.parameters.length) = some 3 := ⟨by decide +kernel, by decide +kernel, by decide +kernel⟩
theorem ctX16_pseudo (l : Launch) (E : Nat → Nat) (D : va_G) (dA : Nat → ClassId) (lo : Nat) (H0 : Heap) (fu : Nat) (a0 : Nat) (a1 : Int32) (a2 : Int32) (a3 : Int32) (M : Mm) (out : Int64 × Mm) (h : fX16_pseudo fu a0 a1 a2 a3 M = some out) : Ct l E D dA lo H0 yX16_pseudo cX16_pseudo 4 (some .long) 0 0 [pR (some a0), pI a1, pI a2, pI a3] M (some (pL out.1)) out.2 := by
  refine ct_of (by decide +kernel) (Nat.le_of_ble_eq_true rfl) ?_
  intro x hl he hd ha ho hh hn hin X hE
  exact wX16_pseudo X hE hn fu a0 a1 a2 a3 M h
/-! WebHostModel.half(I)I -/
def fX16_half (fu : Nat)  (a0 : Nat) (a1 : Int32)  (M : Mm) : Option (Int32 × Mm) :=
    (gR M 16 1053 (some a0)).bind fun v1 =>
    (gA M 100 v1 a1).bind fun v2 =>
    (gR M 16 1053 (some a0)).bind fun v3 =>
    (gA M 100 v3 (a1 + (1 : Int32))).bind fun v4 =>
    some ((((v2 &&& (255 : Int32)) <<< ((8 : Int32) &&& 31)) ||| (v4 &&& (255 : Int32))), M)
theorem dX16_half_0 : decode cX16_half 0 = .ok (.aload_n 0, 1) := by decide +kernel
theorem dX16_half_1 : decode cX16_half 1 = .ok (.getfield 65, 3) := by decide +kernel
theorem dX16_half_4 : decode cX16_half 4 = .ok (.iload_n 1, 1) := by decide +kernel
theorem dX16_half_5 : decode cX16_half 5 = .ok (.baload, 1) := by decide +kernel
theorem dX16_half_6 : decode cX16_half 6 = .ok (.sipush 255, 3) := by decide +kernel
theorem dX16_half_9 : decode cX16_half 9 = .ok (.iand, 1) := by decide +kernel
theorem dX16_half_10 : decode cX16_half 10 = .ok (.bipush 8, 2) := by decide +kernel
theorem dX16_half_12 : decode cX16_half 12 = .ok (.ishl, 1) := by decide +kernel
theorem dX16_half_13 : decode cX16_half 13 = .ok (.aload_n 0, 1) := by decide +kernel
theorem dX16_half_14 : decode cX16_half 14 = .ok (.getfield 65, 3) := by decide +kernel
theorem dX16_half_17 : decode cX16_half 17 = .ok (.iload_n 1, 1) := by decide +kernel
theorem dX16_half_18 : decode cX16_half 18 = .ok (.iconst 1, 1) := by decide +kernel
theorem dX16_half_19 : decode cX16_half 19 = .ok (.iadd, 1) := by decide +kernel
theorem dX16_half_20 : decode cX16_half 20 = .ok (.baload, 1) := by decide +kernel
theorem dX16_half_21 : decode cX16_half 21 = .ok (.sipush 255, 3) := by decide +kernel
theorem dX16_half_24 : decode cX16_half 24 = .ok (.iand, 1) := by decide +kernel
theorem dX16_half_25 : decode cX16_half 25 = .ok (.ior, 1) := by decide +kernel
theorem dX16_half_26 : decode cX16_half 26 = .ok (.ireturn, 1) := by decide +kernel
theorem wX16_half {x : GX} {n0 sl0 : Nat} (X : Cx x cX16_half RX16 (some .int) n0 sl0 0 0) {out : Int32 × Mm} (hE : Ends x n0 sl0 (some (pI out.1)) out.2) (hn : xn x = 2) (fu : Nat)   (a0 : Nat) (a1 : Int32)  (M : Mm) (h : fX16_half fu  a0 a1 M = some out) : Gw x M 0 [(0, pR (some a0)), (1, pI a1)] [] := by
  unfold fX16_half at h
  refine g_aload_n X (pc := 0) 0 rfl rfl dX16_half_0 ?_
  obtain ⟨v1, ev1, h⟩ := bd h
  refine g_getR X (pc := 1) fk_16_29 rfl rfl ev1 tb_1843 dX16_half_1 ?_
  refine g_iload_n X (pc := 4) 1 rfl rfl dX16_half_4 ?_
  obtain ⟨v2, ev2, h⟩ := bd h
  refine g_baload X (pc := 5) ev2 dX16_half_5 ?_
  refine g_sipush X (pc := 6) (v := 255) dX16_half_6 (by decide) ?_
  refine g_iand X (pc := 9) dX16_half_9 ?_
  refine g_bipush X (pc := 10) (v := 8) dX16_half_10 (by decide) ?_
  refine g_ishl X (pc := 12) dX16_half_12 ?_
  refine g_aload_n X (pc := 13) 0 rfl rfl dX16_half_13 ?_
  obtain ⟨v3, ev3, h⟩ := bd h
  refine g_getR X (pc := 14) fk_16_29 rfl rfl ev3 tb_1843 dX16_half_14 ?_
  refine g_iload_n X (pc := 17) 1 rfl rfl dX16_half_17 ?_
  refine g_iconst X (pc := 18) (v := 1) dX16_half_18 (by decide) ?_
  refine g_iadd X (pc := 19) dX16_half_19 ?_
  obtain ⟨v4, ev4, h⟩ := bd h
  refine g_baload X (pc := 20) ev4 dX16_half_20 ?_
  refine g_sipush X (pc := 21) (v := 255) dX16_half_21 (by decide) ?_
  refine g_iand X (pc := 24) dX16_half_24 ?_
  refine g_ior X (pc := 25) dX16_half_25 ?_
  obtain rfl := Option.some.inj h
  exact g_ireturn X hE dX16_half_26
theorem hyX16_half : yX16_half.cls ≠ "java/lang/invoke/MethodHandle" ∧ yX16_half.cls ≠ "java/lang/invoke/VarHandle" ∧ (parseMethodDescriptor yX16_half.desc).map (fun d => d.parameters.length) = some 1 := ⟨by decide +kernel, by decide +kernel, by decide +kernel⟩
theorem ctX16_half (l : Launch) (E : Nat → Nat) (D : va_G) (dA : Nat → ClassId) (lo : Nat) (H0 : Heap) (fu : Nat) (a0 : Nat) (a1 : Int32) (M : Mm) (out : Int32 × Mm) (h : fX16_half fu a0 a1 M = some out) : Ct l E D dA lo H0 yX16_half cX16_half 2 (some .int) 0 0 [pR (some a0), pI a1] M (some (pI out.1)) out.2 := by
  refine ct_of (by decide +kernel) (Nat.le_of_ble_eq_true rfl) ?_
  intro x hl he hd ha ho hh hn hin X hE
  exact wX16_half X hE hn fu a0 a1 M h
/-! WebHostModel.wholeWord(I)I -/
def fX16_wholeWord (fu : Nat)  (a0 : Nat) (a1 : Int32)  (M : Mm) : Option (Int32 × Mm) :=
    (rc M 16 (some a0)).bind fun q1 =>
    b2 (fX16_half fu q1 a1 M) fun v3 M2 =>
    (rc M2 16 (some a0)).bind fun q4 =>
    b2 (fX16_half fu q4 (a1 + (2 : Int32)) M2) fun v6 M5 =>
    some (((v3 <<< ((16 : Int32) &&& 31)) ||| v6), M5)
theorem dX16_wholeWord_0 : decode cX16_wholeWord 0 = .ok (.aload_n 0, 1) := by decide +kernel
theorem dX16_wholeWord_1 : decode cX16_wholeWord 1 = .ok (.iload_n 1, 1) := by decide +kernel
theorem dX16_wholeWord_2 : decode cX16_wholeWord 2 = .ok (.invokevirtual 277, 3) := by decide +kernel
theorem dX16_wholeWord_5 : decode cX16_wholeWord 5 = .ok (.bipush 16, 2) := by decide +kernel
theorem dX16_wholeWord_7 : decode cX16_wholeWord 7 = .ok (.ishl, 1) := by decide +kernel
theorem dX16_wholeWord_8 : decode cX16_wholeWord 8 = .ok (.aload_n 0, 1) := by decide +kernel
theorem dX16_wholeWord_9 : decode cX16_wholeWord 9 = .ok (.iload_n 1, 1) := by decide +kernel
theorem dX16_wholeWord_10 : decode cX16_wholeWord 10 = .ok (.iconst 2, 1) := by decide +kernel
theorem dX16_wholeWord_11 : decode cX16_wholeWord 11 = .ok (.iadd, 1) := by decide +kernel
theorem dX16_wholeWord_12 : decode cX16_wholeWord 12 = .ok (.invokevirtual 277, 3) := by decide +kernel
theorem dX16_wholeWord_15 : decode cX16_wholeWord 15 = .ok (.ior, 1) := by decide +kernel
theorem dX16_wholeWord_16 : decode cX16_wholeWord 16 = .ok (.ireturn, 1) := by decide +kernel
theorem wX16_wholeWord {x : GX} {n0 sl0 : Nat} (X : Cx x cX16_wholeWord RX16 (some .int) n0 sl0 1 21) {out : Int32 × Mm} (hE : Ends x n0 sl0 (some (pI out.1)) out.2) (hn : xn x = 2) (fu : Nat)   (a0 : Nat) (a1 : Int32)  (M : Mm) (h : fX16_wholeWord fu  a0 a1 M = some out) : Gw x M 0 [(0, pR (some a0)), (1, pI a1)] [] := by
  unfold fX16_wholeWord at h
  refine g_aload_n X (pc := 0) 0 rfl rfl dX16_wholeWord_0 ?_
  refine g_iload_n X (pc := 1) 1 rfl rfl dX16_wholeWord_1 ?_
  obtain ⟨q1, eq1, h⟩ := bd h
  obtain ⟨v3, M2, eM2, h⟩ := b2d h
  refine g_callV X (pc := 2) (M' := M2) (ro := some (pI v3)) (c := 16) rfl (by decide) (as := [pI a1]) (as' := [pI a1]) (st := []) eq1 (ctX16_half _ _ _ _ _ _ fu q1 a1 M _ eM2) tb_2238 tb_2235 tb_2237 ts_101 tb_8 ⟨rfl, hyX16_half⟩ rfl rfl ⟨by decide, by decide⟩ (Nat.le_of_ble_eq_true rfl) dX16_wholeWord_2 ?_
  refine g_bipush X (pc := 5) (v := 16) dX16_wholeWord_5 (by decide) ?_
  refine g_ishl X (pc := 7) dX16_wholeWord_7 ?_
  refine g_aload_n X (pc := 8) 0 rfl rfl dX16_wholeWord_8 ?_
  refine g_iload_n X (pc := 9) 1 rfl rfl dX16_wholeWord_9 ?_
  refine g_iconst X (pc := 10) (v := 2) dX16_wholeWord_10 (by decide) ?_
  refine g_iadd X (pc := 11) dX16_wholeWord_11 ?_
  obtain ⟨q4, eq4, h⟩ := bd h
  obtain ⟨v6, M5, eM5, h⟩ := b2d h
  refine g_callV X (pc := 12) (M' := M5) (ro := some (pI v6)) (c := 16) rfl (by decide) (as := [pI (a1 + (2 : Int32))]) (as' := [pI (a1 + (2 : Int32))]) (st := [pI (v3 <<< ((16 : Int32) &&& 31))]) eq4 (ctX16_half _ _ _ _ _ _ fu q4 (a1 + (2 : Int32)) M2 _ eM5) tb_2238 tb_2235 tb_2237 ts_101 tb_8 ⟨rfl, hyX16_half⟩ rfl rfl ⟨by decide, by decide⟩ (Nat.le_of_ble_eq_true rfl) dX16_wholeWord_12 ?_
  refine g_ior X (pc := 15) dX16_wholeWord_15 ?_
  obtain rfl := Option.some.inj h
  exact g_ireturn X hE dX16_wholeWord_16
theorem hyX16_wholeWord : yX16_wholeWord.cls ≠ "java/lang/invoke/MethodHandle" ∧ yX16_wholeWord.cls ≠ "java/lang/invoke/VarHandle" ∧ (parseMethodDescriptor yX16_wholeWord.desc).map (fun d => d.parameters.length) = some 1 := ⟨by decide +kernel, by decide +kernel, by decide +kernel⟩
theorem ctX16_wholeWord (l : Launch) (E : Nat → Nat) (D : va_G) (dA : Nat → ClassId) (lo : Nat) (H0 : Heap) (fu : Nat) (a0 : Nat) (a1 : Int32) (M : Mm) (out : Int32 × Mm) (h : fX16_wholeWord fu a0 a1 M = some out) : Ct l E D dA lo H0 yX16_wholeWord cX16_wholeWord 2 (some .int) 1 21 [pR (some a0), pI a1] M (some (pI out.1)) out.2 := by
  refine ct_of (by decide +kernel) (Nat.le_of_ble_eq_true rfl) ?_
  intro x hl he hd ha ho hh hn hin X hE
  exact wX16_wholeWord X hE hn fu a0 a1 M h
/-! WebHostModel.is(I)Z -/
def fX16_is (fu : Nat)  (a0 : Nat) (a1 : Int32)  (M : Mm) : Option (Int32 × Mm) :=
    (gI M 16 1060 (some a0)).bind fun v1 =>
    if (v1 &&& a1) = 0 then (
    rN .boolean (0 : Int32) M)
    else (
    rN .boolean (1 : Int32) M)
theorem dX16_is_0 : decode cX16_is 0 = .ok (.aload_n 0, 1) := by decide +kernel
theorem dX16_is_1 : decode cX16_is 1 = .ok (.getfield 302, 3) := by decide +kernel
theorem dX16_is_4 : decode cX16_is 4 = .ok (.iload_n 1, 1) := by decide +kernel
theorem dX16_is_5 : decode cX16_is 5 = .ok (.iand, 1) := by decide +kernel
theorem dX16_is_6 : decode cX16_is 6 = .ok (.ifCond .eq 7, 3) := by decide +kernel
theorem dX16_is_9 : decode cX16_is 9 = .ok (.iconst 1, 1) := by decide +kernel
theorem dX16_is_10 : decode cX16_is 10 = .ok (.goto 4, 3) := by decide +kernel
theorem dX16_is_13 : decode cX16_is 13 = .ok (.iconst 0, 1) := by decide +kernel
theorem dX16_is_14 : decode cX16_is 14 = .ok (.ireturn, 1) := by decide +kernel
theorem wX16_is {x : GX} {n0 sl0 : Nat} (X : Cx x cX16_is RX16 (some .boolean) n0 sl0 0 0) {out : Int32 × Mm} (hE : Ends x n0 sl0 (some (pI out.1)) out.2) (hn : xn x = 2) (fu : Nat)   (a0 : Nat) (a1 : Int32)  (M : Mm) (h : fX16_is fu  a0 a1 M = some out) : Gw x M 0 [(0, pR (some a0)), (1, pI a1)] [] := by
  unfold fX16_is at h
  refine g_aload_n X (pc := 0) 0 rfl rfl dX16_is_0 ?_
  obtain ⟨v1, ev1, h⟩ := bd h
  refine g_getI X (pc := 1) fk_16_36 rfl rfl ev1 tb_1850 dX16_is_1 ?_
  refine g_iload_n X (pc := 4) 1 rfl rfl dX16_is_4 ?_
  refine g_iand X (pc := 5) dX16_is_5 ?_
  refine g_if_eq X (pc := 6) (tgt := 13) dX16_is_6 (by decide) (fun hc => ?_) (fun hc => ?_)
  · have h := (if_pos hc).symm.trans h
    refine g_iconst X (pc := 13) (v := 0) dX16_is_13 (by decide) ?_
    obtain ⟨hz, rfl⟩ := rN_some h
    exact g_nreturn X rfl hz hE dX16_is_14
  · have h := (if_neg hc).symm.trans h
    refine g_iconst X (pc := 9) (v := 1) dX16_is_9 (by decide) ?_
    refine g_goto X (pc := 10) (tgt := 14) dX16_is_10 (by decide) ?_
    obtain ⟨hz, rfl⟩ := rN_some h
    exact g_nreturn X rfl hz hE dX16_is_14
theorem hyX16_is : yX16_is.cls ≠ "java/lang/invoke/MethodHandle" ∧ yX16_is.cls ≠ "java/lang/invoke/VarHandle" ∧ (parseMethodDescriptor yX16_is.desc).map (fun d => d.parameters.length) = some 1 := ⟨by decide +kernel, by decide +kernel, by decide +kernel⟩
theorem ctX16_is (l : Launch) (E : Nat → Nat) (D : va_G) (dA : Nat → ClassId) (lo : Nat) (H0 : Heap) (fu : Nat) (a0 : Nat) (a1 : Int32) (M : Mm) (out : Int32 × Mm) (h : fX16_is fu a0 a1 M = some out) : Ct l E D dA lo H0 yX16_is cX16_is 2 (some .boolean) 0 0 [pR (some a0), pI a1] M (some (pI out.1)) out.2 := by
  refine ct_of (by decide +kernel) (Nat.le_of_ble_eq_true rfl) ?_
  intro x hl he hd ha ho hh hn hin X hE
  exact wX16_is X hE hn fu a0 a1 M h
/-! WebHostModel.segmentOut(IIIIIIIII)V -/
def fX16_segmentOut_L91 (fu : Nat)  (a0 : Nat) (a1 : Int32) (a8 : Int32) (a9 : Int32)  (M : Mm) : Option (Mm) :=
    (gR M 16 1043 (some a0)).bind fun v1 =>
    (gI M 16 1029 (some a0)).bind fun v2 =>
    (rc M 16 (some a0)).bind fun q3 =>
    b2 (fX16_pseudo fu q3 v2 a1 (((20 : Int32) + a8) + a9) M) fun v5 M4 =>
    b2 (fX16_added fu  v1 (34 : Int32) (((20 : Int32) + a8) + a9) v5 M4) fun v7 M6 =>
    b2 (fX16_sixteen fu  v7 M6) fun v9 M8 =>
    (rc M8 16 (some a0)).bind fun q10 =>
    (fX16_put fu q10 (50 : Int32) (2 : Int32) v9 M8).bind fun M11 =>
    (rc M11 16 (some a0)).bind fun q12 =>
    (fX16_ipOut fu q12 a1 (6 : Int32) (((20 : Int32) + a8) + a9) M11).bind fun M13 =>
    some M13
def fX16_segmentOut (fu : Nat)  (a0 : Nat) (a1 : Int32) (a2 : Int32) (a3 : Int32) (a4 : Int32) (a5 : Int32) (a6 : Int32) (a7 : Int32) (a8 : Int32) (a9 : Int32)  (M : Mm) : Option (Mm) :=
    (rc M 16 (some a0)).bind fun q1 =>
    (fX16_put fu q1 (34 : Int32) (2 : Int32) a2 M).bind fun M2 =>
    (rc M2 16 (some a0)).bind fun q3 =>
    (fX16_put fu q3 (36 : Int32) (2 : Int32) a3 M2).bind fun M4 =>
    (rc M4 16 (some a0)).bind fun q5 =>
    (fX16_put fu q5 (38 : Int32) (4 : Int32) a4 M4).bind fun M6 =>
    (rc M6 16 (some a0)).bind fun q7 =>
    (fX16_put fu q7 (42 : Int32) (4 : Int32) a5 M6).bind fun M8 =>
    (rc M8 16 (some a0)).bind fun q9 =>
    (fX16_put fu q9 (46 : Int32) (1 : Int32) ((((20 : Int32) + a8) / (4 : Int32)) <<< ((4 : Int32) &&& 31)) M8).bind fun M10 =>
    (rc M10 16 (some a0)).bind fun q11 =>
    (fX16_put fu q11 (47 : Int32) (1 : Int32) a6 M10).bind fun M12 =>
    (rc M12 16 (some a0)).bind fun q13 =>
    (fX16_put fu q13 (48 : Int32) (2 : Int32) a7 M12).bind fun M14 =>
    (rc M14 16 (some a0)).bind fun q15 =>
    (fX16_put fu q15 (50 : Int32) (4 : Int32) (0 : Int32) M14).bind fun M16 =>
    if a8 ≤ 0 then (
    fX16_segmentOut_L91 fu  a0 a1 a8 a9 M16)
    else (
    (rc M16 16 (some a0)).bind fun q17 =>
    (fX16_put fu q17 (54 : Int32) (4 : Int32) (33818036 : Int32) M16).bind fun M18 =>
    fX16_segmentOut_L91 fu  a0 a1 a8 a9 M18)
theorem dX16_segmentOut_0 : decode cX16_segmentOut 0 = .ok (.aload_n 0, 1) := by decide +kernel
theorem dX16_segmentOut_1 : decode cX16_segmentOut 1 = .ok (.bipush 34, 2) := by decide +kernel
theorem dX16_segmentOut_3 : decode cX16_segmentOut 3 = .ok (.iconst 2, 1) := by decide +kernel
theorem dX16_segmentOut_4 : decode cX16_segmentOut 4 = .ok (.iload_n 2, 1) := by decide +kernel
theorem dX16_segmentOut_5 : decode cX16_segmentOut 5 = .ok (.invokevirtual 160, 3) := by decide +kernel
theorem dX16_segmentOut_8 : decode cX16_segmentOut 8 = .ok (.aload_n 0, 1) := by decide +kernel
theorem dX16_segmentOut_9 : decode cX16_segmentOut 9 = .ok (.bipush 36, 2) := by decide +kernel
theorem dX16_segmentOut_11 : decode cX16_segmentOut 11 = .ok (.iconst 2, 1) := by decide +kernel
theorem dX16_segmentOut_12 : decode cX16_segmentOut 12 = .ok (.iload_n 3, 1) := by decide +kernel
theorem dX16_segmentOut_13 : decode cX16_segmentOut 13 = .ok (.invokevirtual 160, 3) := by decide +kernel
theorem dX16_segmentOut_16 : decode cX16_segmentOut 16 = .ok (.aload_n 0, 1) := by decide +kernel
theorem dX16_segmentOut_17 : decode cX16_segmentOut 17 = .ok (.bipush 38, 2) := by decide +kernel
theorem dX16_segmentOut_19 : decode cX16_segmentOut 19 = .ok (.iconst 4, 1) := by decide +kernel
theorem dX16_segmentOut_20 : decode cX16_segmentOut 20 = .ok (.iload 4, 2) := by decide +kernel
theorem dX16_segmentOut_22 : decode cX16_segmentOut 22 = .ok (.invokevirtual 160, 3) := by decide +kernel
theorem dX16_segmentOut_25 : decode cX16_segmentOut 25 = .ok (.aload_n 0, 1) := by decide +kernel
theorem dX16_segmentOut_26 : decode cX16_segmentOut 26 = .ok (.bipush 42, 2) := by decide +kernel
theorem dX16_segmentOut_28 : decode cX16_segmentOut 28 = .ok (.iconst 4, 1) := by decide +kernel
theorem dX16_segmentOut_29 : decode cX16_segmentOut 29 = .ok (.iload 5, 2) := by decide +kernel
theorem dX16_segmentOut_31 : decode cX16_segmentOut 31 = .ok (.invokevirtual 160, 3) := by decide +kernel
theorem dX16_segmentOut_34 : decode cX16_segmentOut 34 = .ok (.aload_n 0, 1) := by decide +kernel
theorem dX16_segmentOut_35 : decode cX16_segmentOut 35 = .ok (.bipush 46, 2) := by decide +kernel
theorem dX16_segmentOut_37 : decode cX16_segmentOut 37 = .ok (.iconst 1, 1) := by decide +kernel
theorem dX16_segmentOut_38 : decode cX16_segmentOut 38 = .ok (.bipush 20, 2) := by decide +kernel
theorem dX16_segmentOut_40 : decode cX16_segmentOut 40 = .ok (.iload 8, 2) := by decide +kernel
theorem dX16_segmentOut_42 : decode cX16_segmentOut 42 = .ok (.iadd, 1) := by decide +kernel
theorem dX16_segmentOut_43 : decode cX16_segmentOut 43 = .ok (.iconst 4, 1) := by decide +kernel
theorem dX16_segmentOut_44 : decode cX16_segmentOut 44 = .ok (.idiv, 1) := by decide +kernel
theorem dX16_segmentOut_45 : decode cX16_segmentOut 45 = .ok (.iconst 4, 1) := by decide +kernel
theorem dX16_segmentOut_46 : decode cX16_segmentOut 46 = .ok (.ishl, 1) := by decide +kernel
theorem dX16_segmentOut_47 : decode cX16_segmentOut 47 = .ok (.invokevirtual 160, 3) := by decide +kernel
theorem dX16_segmentOut_50 : decode cX16_segmentOut 50 = .ok (.aload_n 0, 1) := by decide +kernel
theorem dX16_segmentOut_51 : decode cX16_segmentOut 51 = .ok (.bipush 47, 2) := by decide +kernel
theorem dX16_segmentOut_53 : decode cX16_segmentOut 53 = .ok (.iconst 1, 1) := by decide +kernel
theorem dX16_segmentOut_54 : decode cX16_segmentOut 54 = .ok (.iload 6, 2) := by decide +kernel
theorem dX16_segmentOut_56 : decode cX16_segmentOut 56 = .ok (.invokevirtual 160, 3) := by decide +kernel
theorem dX16_segmentOut_59 : decode cX16_segmentOut 59 = .ok (.aload_n 0, 1) := by decide +kernel
theorem dX16_segmentOut_60 : decode cX16_segmentOut 60 = .ok (.bipush 48, 2) := by decide +kernel
theorem dX16_segmentOut_62 : decode cX16_segmentOut 62 = .ok (.iconst 2, 1) := by decide +kernel
theorem dX16_segmentOut_63 : decode cX16_segmentOut 63 = .ok (.iload 7, 2) := by decide +kernel
theorem dX16_segmentOut_65 : decode cX16_segmentOut 65 = .ok (.invokevirtual 160, 3) := by decide +kernel
theorem dX16_segmentOut_68 : decode cX16_segmentOut 68 = .ok (.aload_n 0, 1) := by decide +kernel
theorem dX16_segmentOut_69 : decode cX16_segmentOut 69 = .ok (.bipush 50, 2) := by decide +kernel
theorem dX16_segmentOut_71 : decode cX16_segmentOut 71 = .ok (.iconst 4, 1) := by decide +kernel
theorem dX16_segmentOut_72 : decode cX16_segmentOut 72 = .ok (.iconst 0, 1) := by decide +kernel
theorem dX16_segmentOut_73 : decode cX16_segmentOut 73 = .ok (.invokevirtual 160, 3) := by decide +kernel
theorem dX16_segmentOut_76 : decode cX16_segmentOut 76 = .ok (.iload 8, 2) := by decide +kernel
theorem dX16_segmentOut_78 : decode cX16_segmentOut 78 = .ok (.ifCond .le 13, 3) := by decide +kernel
theorem dX16_segmentOut_81 : decode cX16_segmentOut 81 = .ok (.aload_n 0, 1) := by decide +kernel
theorem dX16_segmentOut_82 : decode cX16_segmentOut 82 = .ok (.bipush 54, 2) := by decide +kernel
theorem dX16_segmentOut_84 : decode cX16_segmentOut 84 = .ok (.iconst 4, 1) := by decide +kernel
theorem dX16_segmentOut_85 : decode cX16_segmentOut 85 = .ok (.ldc_w 328, 3) := by decide +kernel
theorem dX16_segmentOut_88 : decode cX16_segmentOut 88 = .ok (.invokevirtual 160, 3) := by decide +kernel
theorem dX16_segmentOut_91 : decode cX16_segmentOut 91 = .ok (.bipush 20, 2) := by decide +kernel
theorem dX16_segmentOut_93 : decode cX16_segmentOut 93 = .ok (.iload 8, 2) := by decide +kernel
theorem dX16_segmentOut_95 : decode cX16_segmentOut 95 = .ok (.iadd, 1) := by decide +kernel
theorem dX16_segmentOut_96 : decode cX16_segmentOut 96 = .ok (.iload 9, 2) := by decide +kernel
theorem dX16_segmentOut_98 : decode cX16_segmentOut 98 = .ok (.iadd, 1) := by decide +kernel
theorem dX16_segmentOut_99 : decode cX16_segmentOut 99 = .ok (.istore 10, 2) := by decide +kernel
theorem dX16_segmentOut_101 : decode cX16_segmentOut 101 = .ok (.aload_n 0, 1) := by decide +kernel
theorem dX16_segmentOut_102 : decode cX16_segmentOut 102 = .ok (.bipush 50, 2) := by decide +kernel
theorem dX16_segmentOut_104 : decode cX16_segmentOut 104 = .ok (.iconst 2, 1) := by decide +kernel
theorem dX16_segmentOut_105 : decode cX16_segmentOut 105 = .ok (.aload_n 0, 1) := by decide +kernel
theorem dX16_segmentOut_106 : decode cX16_segmentOut 106 = .ok (.getfield 34, 3) := by decide +kernel
theorem dX16_segmentOut_109 : decode cX16_segmentOut 109 = .ok (.bipush 34, 2) := by decide +kernel
theorem dX16_segmentOut_111 : decode cX16_segmentOut 111 = .ok (.iload 10, 2) := by decide +kernel
theorem dX16_segmentOut_113 : decode cX16_segmentOut 113 = .ok (.aload_n 0, 1) := by decide +kernel
theorem dX16_segmentOut_114 : decode cX16_segmentOut 114 = .ok (.aload_n 0, 1) := by decide +kernel
theorem dX16_segmentOut_115 : decode cX16_segmentOut 115 = .ok (.getfield 119, 3) := by decide +kernel
theorem dX16_segmentOut_118 : decode cX16_segmentOut 118 = .ok (.iload_n 1, 1) := by decide +kernel
theorem dX16_segmentOut_119 : decode cX16_segmentOut 119 = .ok (.iload 10, 2) := by decide +kernel
theorem dX16_segmentOut_121 : decode cX16_segmentOut 121 = .ok (.invokevirtual 285, 3) := by decide +kernel
theorem dX16_segmentOut_124 : decode cX16_segmentOut 124 = .ok (.invokestatic 216, 3) := by decide +kernel
theorem dX16_segmentOut_127 : decode cX16_segmentOut 127 = .ok (.invokestatic 220, 3) := by decide +kernel
theorem dX16_segmentOut_130 : decode cX16_segmentOut 130 = .ok (.invokevirtual 160, 3) := by decide +kernel
theorem dX16_segmentOut_133 : decode cX16_segmentOut 133 = .ok (.aload_n 0, 1) := by decide +kernel
theorem dX16_segmentOut_134 : decode cX16_segmentOut 134 = .ok (.iload_n 1, 1) := by decide +kernel
theorem dX16_segmentOut_135 : decode cX16_segmentOut 135 = .ok (.bipush 6, 2) := by decide +kernel
theorem dX16_segmentOut_137 : decode cX16_segmentOut 137 = .ok (.iload 10, 2) := by decide +kernel
theorem dX16_segmentOut_139 : decode cX16_segmentOut 139 = .ok (.invokevirtual 274, 3) := by decide +kernel
theorem dX16_segmentOut_142 : decode cX16_segmentOut 142 = .ok (.return_, 1) := by decide +kernel
theorem wX16_segmentOut_L91 {x : GX} {n0 sl0 : Nat} (X : Cx x cX16_segmentOut RX16 none n0 sl0 5 126) {out : Mm} (hE : Ends x n0 sl0 none out) (hn : xn x = 11) (fu : Nat)   (a0 : Nat) (a1 : Int32) (a8 : Int32) (a9 : Int32)  (M : Mm) (h : fX16_segmentOut_L91 fu  a0 a1 a8 a9 M = some out) : Gw x M 91 [(0, pR (some a0)), (1, pI a1), (8, pI a8), (9, pI a9)] [] := by
  unfold fX16_segmentOut_L91 at h
  refine g_bipush X (pc := 91) (v := 20) dX16_segmentOut_91 (by decide) ?_
  refine g_iload X (pc := 93) 2 rfl dX16_segmentOut_93 ?_
  refine g_iadd X (pc := 95) dX16_segmentOut_95 ?_
  refine g_iload X (pc := 96) 3 rfl dX16_segmentOut_96 ?_
  refine g_iadd X (pc := 98) dX16_segmentOut_98 ?_
  refine g_istore X (pc := 99) [(10, pI (((20 : Int32) + a8) + a9)), (0, pR (some a0)), (1, pI a1), (8, pI a8), (9, pI a9)] (lt_n hn (by decide)) rfl dX16_segmentOut_99 ?_
  refine g_aload_n X (pc := 101) 1 rfl rfl dX16_segmentOut_101 ?_
  refine g_bipush X (pc := 102) (v := 50) dX16_segmentOut_102 (by decide) ?_
  refine g_iconst X (pc := 104) (v := 2) dX16_segmentOut_104 (by decide) ?_
  refine g_aload_n X (pc := 105) 1 rfl rfl dX16_segmentOut_105 ?_
  obtain ⟨v1, ev1, h⟩ := bd h
  refine g_getR X (pc := 106) fk_16_19 rfl rfl ev1 tb_1833 dX16_segmentOut_106 ?_
  refine g_bipush X (pc := 109) (v := 34) dX16_segmentOut_109 (by decide) ?_
  refine g_iload X (pc := 111) 0 rfl dX16_segmentOut_111 ?_
  refine g_aload_n X (pc := 113) 1 rfl rfl dX16_segmentOut_113 ?_
  refine g_aload_n X (pc := 114) 1 rfl rfl dX16_segmentOut_114 ?_
  obtain ⟨v2, ev2, h⟩ := bd h
  refine g_getI X (pc := 115) fk_16_5 rfl rfl ev2 tb_1819 dX16_segmentOut_115 ?_
  refine g_iload_n X (pc := 118) 2 rfl rfl dX16_segmentOut_118 ?_
  refine g_iload X (pc := 119) 0 rfl dX16_segmentOut_119 ?_
  obtain ⟨q3, eq3, h⟩ := bd h
  obtain ⟨v5, M4, eM4, h⟩ := b2d h
  refine g_callV X (pc := 121) (M' := M4) (ro := some (pL v5)) (c := 16) rfl (by decide) (as := [pI v2, pI a1, pI (((20 : Int32) + a8) + a9)]) (as' := [pI (((20 : Int32) + a8) + a9), pI a1, pI v2]) (st := [pI (((20 : Int32) + a8) + a9), pI (34 : Int32), pR v1, pI (2 : Int32), pI (50 : Int32), pR (some a0)]) eq3 (ctX16_pseudo _ _ _ _ _ _ fu q3 v2 a1 (((20 : Int32) + a8) + a9) M _ eM4) tb_2121 tb_2118 tb_2120 ts_76 tb_8 ⟨rfl, hyX16_pseudo⟩ rfl rfl ⟨by decide, by decide⟩ (Nat.le_of_ble_eq_true rfl) dX16_segmentOut_121 ?_
  obtain ⟨v7, M6, eM6, h⟩ := b2d h
  refine g_callS X (pc := 124) (M' := M6) (ro := some (pL v7)) (as := [pR v1, pI (34 : Int32), pI (((20 : Int32) + a8) + a9), pL v5]) (as' := [pL v5, pI (((20 : Int32) + a8) + a9), pI (34 : Int32), pR v1]) (st := [pI (2 : Int32), pI (50 : Int32), pR (some a0)]) (ctX16_added _ _ _ _ _ _ fu  v1 (34 : Int32) (((20 : Int32) + a8) + a9) v5 M4 _ eM6) tb_2125 tb_2123 tb_2124 tb_8 hyX16_added rfl rfl ⟨by decide, by decide⟩ (Nat.le_of_ble_eq_true rfl) dX16_segmentOut_124 ?_
  obtain ⟨v9, M8, eM8, h⟩ := b2d h
  refine g_callS X (pc := 127) (M' := M8) (ro := some (pI v9)) (as := [pL v7]) (as' := [pL v7]) (st := [pI (2 : Int32), pI (50 : Int32), pR (some a0)]) (ctX16_sixteen _ _ _ _ _ _ fu  v7 M6 _ eM8) tb_2128 tb_2126 tb_2127 tb_8 hyX16_sixteen rfl rfl ⟨by decide, by decide⟩ (Nat.le_of_ble_eq_true rfl) dX16_segmentOut_127 ?_
  obtain ⟨q10, eq10, h⟩ := bd h
  obtain ⟨M11, eM11, h⟩ := bd h
  refine g_callV X (pc := 130) (M' := M11) (ro := none) (c := 16) rfl (by decide) (as := [pI (50 : Int32), pI (2 : Int32), pI v9]) (as' := [pI v9, pI (2 : Int32), pI (50 : Int32)]) (st := []) eq10 (ctX16_put _ _ _ _ _ _ fu q10 (50 : Int32) (2 : Int32) v9 M8 _ eM11) tb_2095 tb_2092 tb_2094 ts_72 tb_8 ⟨rfl, hyX16_put⟩ rfl rfl ⟨by decide, by decide⟩ (Nat.le_of_ble_eq_true rfl) dX16_segmentOut_130 ?_
  refine g_aload_n X (pc := 133) 1 rfl rfl dX16_segmentOut_133 ?_
  refine g_iload_n X (pc := 134) 2 rfl rfl dX16_segmentOut_134 ?_
  refine g_bipush X (pc := 135) (v := 6) dX16_segmentOut_135 (by decide) ?_
  refine g_iload X (pc := 137) 0 rfl dX16_segmentOut_137 ?_
  obtain ⟨q12, eq12, h⟩ := bd h
  obtain ⟨M13, eM13, h⟩ := bd h
  refine g_callV X (pc := 139) (M' := M13) (ro := none) (c := 16) rfl (by decide) (as := [pI a1, pI (6 : Int32), pI (((20 : Int32) + a8) + a9)]) (as' := [pI (((20 : Int32) + a8) + a9), pI (6 : Int32), pI a1]) (st := []) eq12 (ctX16_ipOut _ _ _ _ _ _ fu q12 a1 (6 : Int32) (((20 : Int32) + a8) + a9) M11 _ eM13) tb_2133 tb_2130 tb_2132 ts_77 tb_8 ⟨rfl, hyX16_ipOut⟩ rfl rfl ⟨by decide, by decide⟩ (Nat.le_of_ble_eq_true rfl) dX16_segmentOut_139 ?_
  obtain rfl := Option.some.inj h
  exact g_return X hE dX16_segmentOut_142
theorem wX16_segmentOut {x : GX} {n0 sl0 : Nat} (X : Cx x cX16_segmentOut RX16 none n0 sl0 5 126) {out : Mm} (hE : Ends x n0 sl0 none out) (hn : xn x = 11) (fu : Nat)   (a0 : Nat) (a1 : Int32) (a2 : Int32) (a3 : Int32) (a4 : Int32) (a5 : Int32) (a6 : Int32) (a7 : Int32) (a8 : Int32) (a9 : Int32)  (M : Mm) (h : fX16_segmentOut fu  a0 a1 a2 a3 a4 a5 a6 a7 a8 a9 M = some out) : Gw x M 0 [(0, pR (some a0)), (1, pI a1), (2, pI a2), (3, pI a3), (4, pI a4), (5, pI a5), (6, pI a6), (7, pI a7), (8, pI a8), (9, pI a9)] [] := by
  unfold fX16_segmentOut at h
  refine g_aload_n X (pc := 0) 0 rfl rfl dX16_segmentOut_0 ?_
  refine g_bipush X (pc := 1) (v := 34) dX16_segmentOut_1 (by decide) ?_
  refine g_iconst X (pc := 3) (v := 2) dX16_segmentOut_3 (by decide) ?_
  refine g_iload_n X (pc := 4) 2 rfl rfl dX16_segmentOut_4 ?_
  obtain ⟨q1, eq1, h⟩ := bd h
  obtain ⟨M2, eM2, h⟩ := bd h
  refine g_callV X (pc := 5) (M' := M2) (ro := none) (c := 16) rfl (by decide) (as := [pI (34 : Int32), pI (2 : Int32), pI a2]) (as' := [pI a2, pI (2 : Int32), pI (34 : Int32)]) (st := []) eq1 (ctX16_put _ _ _ _ _ _ fu q1 (34 : Int32) (2 : Int32) a2 M _ eM2) tb_2095 tb_2092 tb_2094 ts_72 tb_8 ⟨rfl, hyX16_put⟩ rfl rfl ⟨by decide, by decide⟩ (Nat.le_of_ble_eq_true rfl) dX16_segmentOut_5 ?_
  refine g_aload_n X (pc := 8) 0 rfl rfl dX16_segmentOut_8 ?_
  refine g_bipush X (pc := 9) (v := 36) dX16_segmentOut_9 (by decide) ?_
  refine g_iconst X (pc := 11) (v := 2) dX16_segmentOut_11 (by decide) ?_
  refine g_iload_n X (pc := 12) 3 rfl rfl dX16_segmentOut_12 ?_
  obtain ⟨q3, eq3, h⟩ := bd h
  obtain ⟨M4, eM4, h⟩ := bd h
  refine g_callV X (pc := 13) (M' := M4) (ro := none) (c := 16) rfl (by decide) (as := [pI (36 : Int32), pI (2 : Int32), pI a3]) (as' := [pI a3, pI (2 : Int32), pI (36 : Int32)]) (st := []) eq3 (ctX16_put _ _ _ _ _ _ fu q3 (36 : Int32) (2 : Int32) a3 M2 _ eM4) tb_2095 tb_2092 tb_2094 ts_72 tb_8 ⟨rfl, hyX16_put⟩ rfl rfl ⟨by decide, by decide⟩ (Nat.le_of_ble_eq_true rfl) dX16_segmentOut_13 ?_
  refine g_aload_n X (pc := 16) 0 rfl rfl dX16_segmentOut_16 ?_
  refine g_bipush X (pc := 17) (v := 38) dX16_segmentOut_17 (by decide) ?_
  refine g_iconst X (pc := 19) (v := 4) dX16_segmentOut_19 (by decide) ?_
  refine g_iload X (pc := 20) 4 rfl dX16_segmentOut_20 ?_
  obtain ⟨q5, eq5, h⟩ := bd h
  obtain ⟨M6, eM6, h⟩ := bd h
  refine g_callV X (pc := 22) (M' := M6) (ro := none) (c := 16) rfl (by decide) (as := [pI (38 : Int32), pI (4 : Int32), pI a4]) (as' := [pI a4, pI (4 : Int32), pI (38 : Int32)]) (st := []) eq5 (ctX16_put _ _ _ _ _ _ fu q5 (38 : Int32) (4 : Int32) a4 M4 _ eM6) tb_2095 tb_2092 tb_2094 ts_72 tb_8 ⟨rfl, hyX16_put⟩ rfl rfl ⟨by decide, by decide⟩ (Nat.le_of_ble_eq_true rfl) dX16_segmentOut_22 ?_
  refine g_aload_n X (pc := 25) 0 rfl rfl dX16_segmentOut_25 ?_
  refine g_bipush X (pc := 26) (v := 42) dX16_segmentOut_26 (by decide) ?_
  refine g_iconst X (pc := 28) (v := 4) dX16_segmentOut_28 (by decide) ?_
  refine g_iload X (pc := 29) 5 rfl dX16_segmentOut_29 ?_
  obtain ⟨q7, eq7, h⟩ := bd h
  obtain ⟨M8, eM8, h⟩ := bd h
  refine g_callV X (pc := 31) (M' := M8) (ro := none) (c := 16) rfl (by decide) (as := [pI (42 : Int32), pI (4 : Int32), pI a5]) (as' := [pI a5, pI (4 : Int32), pI (42 : Int32)]) (st := []) eq7 (ctX16_put _ _ _ _ _ _ fu q7 (42 : Int32) (4 : Int32) a5 M6 _ eM8) tb_2095 tb_2092 tb_2094 ts_72 tb_8 ⟨rfl, hyX16_put⟩ rfl rfl ⟨by decide, by decide⟩ (Nat.le_of_ble_eq_true rfl) dX16_segmentOut_31 ?_
  refine g_aload_n X (pc := 34) 0 rfl rfl dX16_segmentOut_34 ?_
  refine g_bipush X (pc := 35) (v := 46) dX16_segmentOut_35 (by decide) ?_
  refine g_iconst X (pc := 37) (v := 1) dX16_segmentOut_37 (by decide) ?_
  refine g_bipush X (pc := 38) (v := 20) dX16_segmentOut_38 (by decide) ?_
  refine g_iload X (pc := 40) 8 rfl dX16_segmentOut_40 ?_
  refine g_iadd X (pc := 42) dX16_segmentOut_42 ?_
  refine g_iconst X (pc := 43) (v := 4) dX16_segmentOut_43 (by decide) ?_
  refine g_idiv X (pc := 44) (by decide) dX16_segmentOut_44 ?_
  refine g_iconst X (pc := 45) (v := 4) dX16_segmentOut_45 (by decide) ?_
  refine g_ishl X (pc := 46) dX16_segmentOut_46 ?_
  obtain ⟨q9, eq9, h⟩ := bd h
  obtain ⟨M10, eM10, h⟩ := bd h
  refine g_callV X (pc := 47) (M' := M10) (ro := none) (c := 16) rfl (by decide) (as := [pI (46 : Int32), pI (1 : Int32), pI ((((20 : Int32) + a8) / (4 : Int32)) <<< ((4 : Int32) &&& 31))]) (as' := [pI ((((20 : Int32) + a8) / (4 : Int32)) <<< ((4 : Int32) &&& 31)), pI (1 : Int32), pI (46 : Int32)]) (st := []) eq9 (ctX16_put _ _ _ _ _ _ fu q9 (46 : Int32) (1 : Int32) ((((20 : Int32) + a8) / (4 : Int32)) <<< ((4 : Int32) &&& 31)) M8 _ eM10) tb_2095 tb_2092 tb_2094 ts_72 tb_8 ⟨rfl, hyX16_put⟩ rfl rfl ⟨by decide, by decide⟩ (Nat.le_of_ble_eq_true rfl) dX16_segmentOut_47 ?_
  refine g_aload_n X (pc := 50) 0 rfl rfl dX16_segmentOut_50 ?_
  refine g_bipush X (pc := 51) (v := 47) dX16_segmentOut_51 (by decide) ?_
  refine g_iconst X (pc := 53) (v := 1) dX16_segmentOut_53 (by decide) ?_
  refine g_iload X (pc := 54) 6 rfl dX16_segmentOut_54 ?_
  obtain ⟨q11, eq11, h⟩ := bd h
  obtain ⟨M12, eM12, h⟩ := bd h
  refine g_callV X (pc := 56) (M' := M12) (ro := none) (c := 16) rfl (by decide) (as := [pI (47 : Int32), pI (1 : Int32), pI a6]) (as' := [pI a6, pI (1 : Int32), pI (47 : Int32)]) (st := []) eq11 (ctX16_put _ _ _ _ _ _ fu q11 (47 : Int32) (1 : Int32) a6 M10 _ eM12) tb_2095 tb_2092 tb_2094 ts_72 tb_8 ⟨rfl, hyX16_put⟩ rfl rfl ⟨by decide, by decide⟩ (Nat.le_of_ble_eq_true rfl) dX16_segmentOut_56 ?_
  refine g_aload_n X (pc := 59) 0 rfl rfl dX16_segmentOut_59 ?_
  refine g_bipush X (pc := 60) (v := 48) dX16_segmentOut_60 (by decide) ?_
  refine g_iconst X (pc := 62) (v := 2) dX16_segmentOut_62 (by decide) ?_
  refine g_iload X (pc := 63) 7 rfl dX16_segmentOut_63 ?_
  obtain ⟨q13, eq13, h⟩ := bd h
  obtain ⟨M14, eM14, h⟩ := bd h
  refine g_callV X (pc := 65) (M' := M14) (ro := none) (c := 16) rfl (by decide) (as := [pI (48 : Int32), pI (2 : Int32), pI a7]) (as' := [pI a7, pI (2 : Int32), pI (48 : Int32)]) (st := []) eq13 (ctX16_put _ _ _ _ _ _ fu q13 (48 : Int32) (2 : Int32) a7 M12 _ eM14) tb_2095 tb_2092 tb_2094 ts_72 tb_8 ⟨rfl, hyX16_put⟩ rfl rfl ⟨by decide, by decide⟩ (Nat.le_of_ble_eq_true rfl) dX16_segmentOut_65 ?_
  refine g_aload_n X (pc := 68) 0 rfl rfl dX16_segmentOut_68 ?_
  refine g_bipush X (pc := 69) (v := 50) dX16_segmentOut_69 (by decide) ?_
  refine g_iconst X (pc := 71) (v := 4) dX16_segmentOut_71 (by decide) ?_
  refine g_iconst X (pc := 72) (v := 0) dX16_segmentOut_72 (by decide) ?_
  obtain ⟨q15, eq15, h⟩ := bd h
  obtain ⟨M16, eM16, h⟩ := bd h
  refine g_callV X (pc := 73) (M' := M16) (ro := none) (c := 16) rfl (by decide) (as := [pI (50 : Int32), pI (4 : Int32), pI (0 : Int32)]) (as' := [pI (0 : Int32), pI (4 : Int32), pI (50 : Int32)]) (st := []) eq15 (ctX16_put _ _ _ _ _ _ fu q15 (50 : Int32) (4 : Int32) (0 : Int32) M14 _ eM16) tb_2095 tb_2092 tb_2094 ts_72 tb_8 ⟨rfl, hyX16_put⟩ rfl rfl ⟨by decide, by decide⟩ (Nat.le_of_ble_eq_true rfl) dX16_segmentOut_73 ?_
  refine g_iload X (pc := 76) 8 rfl dX16_segmentOut_76 ?_
  refine g_if_le X (pc := 78) (tgt := 91) dX16_segmentOut_78 (by decide) (fun hc => ?_) (fun hc => ?_)
  · have h := (if_pos hc).symm.trans h
    refine g_sub [0, 1, 8, 9] [(0, pR (some a0)), (1, pI a1), (8, pI a8), (9, pI a9)] rfl ?_
    exact wX16_segmentOut_L91 X hE hn fu   a0 a1 a8 a9 M16 h
  · have h := (if_neg hc).symm.trans h
    refine g_aload_n X (pc := 81) 0 rfl rfl dX16_segmentOut_81 ?_
    refine g_bipush X (pc := 82) (v := 54) dX16_segmentOut_82 (by decide) ?_
    refine g_iconst X (pc := 84) (v := 4) dX16_segmentOut_84 (by decide) ?_
    refine g_ldcw X (pc := 85) tb_2117 dX16_segmentOut_85 ?_
    obtain ⟨q17, eq17, h⟩ := bd h
    obtain ⟨M18, eM18, h⟩ := bd h
    refine g_callV X (pc := 88) (M' := M18) (ro := none) (c := 16) rfl (by decide) (as := [pI (54 : Int32), pI (4 : Int32), pI (33818036 : Int32)]) (as' := [pI (33818036 : Int32), pI (4 : Int32), pI (54 : Int32)]) (st := []) eq17 (ctX16_put _ _ _ _ _ _ fu q17 (54 : Int32) (4 : Int32) (33818036 : Int32) M16 _ eM18) tb_2095 tb_2092 tb_2094 ts_72 tb_8 ⟨rfl, hyX16_put⟩ rfl rfl ⟨by decide, by decide⟩ (Nat.le_of_ble_eq_true rfl) dX16_segmentOut_88 ?_
    refine g_sub [0, 1, 8, 9] [(0, pR (some a0)), (1, pI a1), (8, pI a8), (9, pI a9)] rfl ?_
    exact wX16_segmentOut_L91 X hE hn fu   a0 a1 a8 a9 M18 h
theorem hyX16_segmentOut : yX16_segmentOut.cls ≠ "java/lang/invoke/MethodHandle" ∧ yX16_segmentOut.cls ≠ "java/lang/invoke/VarHandle" ∧ (parseMethodDescriptor yX16_segmentOut.desc).map (fun d => d.parameters.length) = some 9 := ⟨by decide +kernel, by decide +kernel, by decide +kernel⟩
theorem ctX16_segmentOut (l : Launch) (E : Nat → Nat) (D : va_G) (dA : Nat → ClassId) (lo : Nat) (H0 : Heap) (fu : Nat) (a0 : Nat) (a1 : Int32) (a2 : Int32) (a3 : Int32) (a4 : Int32) (a5 : Int32) (a6 : Int32) (a7 : Int32) (a8 : Int32) (a9 : Int32) (M : Mm) (out : Mm) (h : fX16_segmentOut fu a0 a1 a2 a3 a4 a5 a6 a7 a8 a9 M = some out) : Ct l E D dA lo H0 yX16_segmentOut cX16_segmentOut 11 none 5 126 [pR (some a0), pI a1, pI a2, pI a3, pI a4, pI a5, pI a6, pI a7, pI a8, pI a9] M none out := by
  refine ct_of (by decide +kernel) (Nat.le_of_ble_eq_true rfl) ?_
  intro x hl he hd ha ho hh hn hin X hE
  exact wX16_segmentOut X hE hn fu a0 a1 a2 a3 a4 a5 a6 a7 a8 a9 M h
/-! WebHostModel.extent()I -/
def fX16_extent_L17 (fu : Nat)  (a0 : Nat) (s0 : Int32) (s1 : Int32) (M : Mm) : Option (Int32 × Mm) :=
    (rc M 16 (some a0)).bind fun q1 =>
    b2 (fX16_is fu q1 (1 : Int32) M) fun v3 M2 =>
    if v3 = 0 then (
    some (((s0 + s1) + (0 : Int32)), M2))
    else (
    some (((s0 + s1) + (1 : Int32)), M2))
def fX16_extent (fu : Nat)  (a0 : Nat)  (M : Mm) : Option (Int32 × Mm) :=
    (gI M 16 1063 (some a0)).bind fun v1 =>
    (rc M 16 (some a0)).bind fun q2 =>
    b2 (fX16_is fu q2 (2 : Int32) M) fun v4 M3 =>
    if v4 = 0 then (
    fX16_extent_L17 fu  a0 v1 (0 : Int32) M3)
    else (
    fX16_extent_L17 fu  a0 v1 (1 : Int32) M3)
theorem dX16_extent_0 : decode cX16_extent 0 = .ok (.aload_n 0, 1) := by decide +kernel
theorem dX16_extent_1 : decode cX16_extent 1 = .ok (.getfield 311, 3) := by decide +kernel
theorem dX16_extent_4 : decode cX16_extent 4 = .ok (.aload_n 0, 1) := by decide +kernel
theorem dX16_extent_5 : decode cX16_extent 5 = .ok (.iconst 2, 1) := by decide +kernel
theorem dX16_extent_6 : decode cX16_extent 6 = .ok (.invokevirtual 325, 3) := by decide +kernel
theorem dX16_extent_9 : decode cX16_extent 9 = .ok (.ifCond .eq 7, 3) := by decide +kernel
theorem dX16_extent_12 : decode cX16_extent 12 = .ok (.iconst 1, 1) := by decide +kernel
theorem dX16_extent_13 : decode cX16_extent 13 = .ok (.goto 4, 3) := by decide +kernel
theorem dX16_extent_16 : decode cX16_extent 16 = .ok (.iconst 0, 1) := by decide +kernel
theorem dX16_extent_17 : decode cX16_extent 17 = .ok (.iadd, 1) := by decide +kernel
theorem dX16_extent_18 : decode cX16_extent 18 = .ok (.aload_n 0, 1) := by decide +kernel
theorem dX16_extent_19 : decode cX16_extent 19 = .ok (.iconst 1, 1) := by decide +kernel
theorem dX16_extent_20 : decode cX16_extent 20 = .ok (.invokevirtual 325, 3) := by decide +kernel
theorem dX16_extent_23 : decode cX16_extent 23 = .ok (.ifCond .eq 7, 3) := by decide +kernel
theorem dX16_extent_26 : decode cX16_extent 26 = .ok (.iconst 1, 1) := by decide +kernel
theorem dX16_extent_27 : decode cX16_extent 27 = .ok (.goto 4, 3) := by decide +kernel
theorem dX16_extent_30 : decode cX16_extent 30 = .ok (.iconst 0, 1) := by decide +kernel
theorem dX16_extent_31 : decode cX16_extent 31 = .ok (.iadd, 1) := by decide +kernel
theorem dX16_extent_32 : decode cX16_extent 32 = .ok (.ireturn, 1) := by decide +kernel
theorem wX16_extent_L17 {x : GX} {n0 sl0 : Nat} (X : Cx x cX16_extent RX16 (some .int) n0 sl0 1 21) {out : Int32 × Mm} (hE : Ends x n0 sl0 (some (pI out.1)) out.2) (hn : xn x = 1) (fu : Nat)   (a0 : Nat) (s0 : Int32) (s1 : Int32) (M : Mm) (h : fX16_extent_L17 fu  a0 s0 s1 M = some out) : Gw x M 17 [(0, pR (some a0))] [pI s1, pI s0] := by
  unfold fX16_extent_L17 at h
  refine g_iadd X (pc := 17) dX16_extent_17 ?_
  refine g_aload_n X (pc := 18) 0 rfl rfl dX16_extent_18 ?_
  refine g_iconst X (pc := 19) (v := 1) dX16_extent_19 (by decide) ?_
  obtain ⟨q1, eq1, h⟩ := bd h
  obtain ⟨v3, M2, eM2, h⟩ := b2d h
  refine g_callV X (pc := 20) (M' := M2) (ro := some (pI v3)) (c := 16) rfl (by decide) (as := [pI (1 : Int32)]) (as' := [pI (1 : Int32)]) (st := [pI (s0 + s1)]) eq1 (ctX16_is _ _ _ _ _ _ fu q1 (1 : Int32) M _ eM2) tb_2250 tb_2247 tb_2249 ts_104 tb_8 ⟨rfl, hyX16_is⟩ rfl rfl ⟨by decide, by decide⟩ (Nat.le_of_ble_eq_true rfl) dX16_extent_20 ?_
  refine g_if_eq X (pc := 23) (tgt := 30) dX16_extent_23 (by decide) (fun hc => ?_) (fun hc => ?_)
  · have h := (if_pos hc).symm.trans h
    refine g_iconst X (pc := 30) (v := 0) dX16_extent_30 (by decide) ?_
    refine g_iadd X (pc := 31) dX16_extent_31 ?_
    obtain rfl := Option.some.inj h
    exact g_ireturn X hE dX16_extent_32
  · have h := (if_neg hc).symm.trans h
    refine g_iconst X (pc := 26) (v := 1) dX16_extent_26 (by decide) ?_
    refine g_goto X (pc := 27) (tgt := 31) dX16_extent_27 (by decide) ?_
    refine g_iadd X (pc := 31) dX16_extent_31 ?_
    obtain rfl := Option.some.inj h
    exact g_ireturn X hE dX16_extent_32
theorem wX16_extent {x : GX} {n0 sl0 : Nat} (X : Cx x cX16_extent RX16 (some .int) n0 sl0 1 21) {out : Int32 × Mm} (hE : Ends x n0 sl0 (some (pI out.1)) out.2) (hn : xn x = 1) (fu : Nat)   (a0 : Nat)  (M : Mm) (h : fX16_extent fu  a0 M = some out) : Gw x M 0 [(0, pR (some a0))] [] := by
  unfold fX16_extent at h
  refine g_aload_n X (pc := 0) 0 rfl rfl dX16_extent_0 ?_
  obtain ⟨v1, ev1, h⟩ := bd h
  refine g_getI X (pc := 1) fk_16_39 rfl rfl ev1 tb_1853 dX16_extent_1 ?_
  refine g_aload_n X (pc := 4) 0 rfl rfl dX16_extent_4 ?_
  refine g_iconst X (pc := 5) (v := 2) dX16_extent_5 (by decide) ?_
  obtain ⟨q2, eq2, h⟩ := bd h
  obtain ⟨v4, M3, eM3, h⟩ := b2d h
  refine g_callV X (pc := 6) (M' := M3) (ro := some (pI v4)) (c := 16) rfl (by decide) (as := [pI (2 : Int32)]) (as' := [pI (2 : Int32)]) (st := [pI v1]) eq2 (ctX16_is _ _ _ _ _ _ fu q2 (2 : Int32) M _ eM3) tb_2250 tb_2247 tb_2249 ts_104 tb_8 ⟨rfl, hyX16_is⟩ rfl rfl ⟨by decide, by decide⟩ (Nat.le_of_ble_eq_true rfl) dX16_extent_6 ?_
  refine g_if_eq X (pc := 9) (tgt := 16) dX16_extent_9 (by decide) (fun hc => ?_) (fun hc => ?_)
  · have h := (if_pos hc).symm.trans h
    refine g_iconst X (pc := 16) (v := 0) dX16_extent_16 (by decide) ?_
    exact wX16_extent_L17 X hE hn fu   a0 v1 (0 : Int32) M3 h
  · have h := (if_neg hc).symm.trans h
    refine g_iconst X (pc := 12) (v := 1) dX16_extent_12 (by decide) ?_
    refine g_goto X (pc := 13) (tgt := 17) dX16_extent_13 (by decide) ?_
    exact wX16_extent_L17 X hE hn fu   a0 v1 (1 : Int32) M3 h
theorem hyX16_extent : yX16_extent.cls ≠ "java/lang/invoke/MethodHandle" ∧ yX16_extent.cls ≠ "java/lang/invoke/VarHandle" ∧ (parseMethodDescriptor yX16_extent.desc).map (fun d => d.parameters.length) = some 0 := ⟨by decide +kernel, by decide +kernel, by decide +kernel⟩
theorem ctX16_extent (l : Launch) (E : Nat → Nat) (D : va_G) (dA : Nat → ClassId) (lo : Nat) (H0 : Heap) (fu : Nat) (a0 : Nat) (M : Mm) (out : Int32 × Mm) (h : fX16_extent fu a0 M = some out) : Ct l E D dA lo H0 yX16_extent cX16_extent 1 (some .int) 1 21 [pR (some a0)] M (some (pI out.1)) out.2 := by
  refine ct_of (by decide +kernel) (Nat.le_of_ble_eq_true rfl) ?_
  intro x hl he hd ha ho hh hn hin X hE
  exact wX16_extent X hE hn fu a0 M h
/-! WebHostModel.reset()V -/
def fX16_reset (fu : Nat)  (a0 : Nat)  (M : Mm) : Option (Mm) :=
    (gR M 16 1041 (some a0)).bind fun v1 =>
    (gA M 101 v1 (2 : Int32)).bind fun v2 =>
    (pA M 101 v1 (2 : Int32) (v2 + (1 : Int32))).bind fun M3 =>
    (rc M3 16 (some a0)).bind fun q4 =>
    b2 (fX16_is fu q4 (16 : Int32) M3) fun v6 M5 =>
    if v6 = 0 then (
    (gI M5 16 1054 (some a0)).bind fun v7 =>
    (gI M5 16 1057 (some a0)).bind fun v8 =>
    (gI M5 16 1056 (some a0)).bind fun v9 =>
    (gI M5 16 1058 (some a0)).bind fun v10 =>
    (rc M5 16 (some a0)).bind fun q11 =>
    b2 (fX16_extent fu q11  M5) fun v13 M12 =>
    (rc M12 16 (some a0)).bind fun q14 =>
    (fX16_segmentOut fu q14 v7 v8 v9 (0 : Int32) (v10 + v13) (20 : Int32) (0 : Int32) (0 : Int32) (0 : Int32) M12).bind fun M15 =>
    some M15)
    else (
    (gI M5 16 1054 (some a0)).bind fun v16 =>
    (gI M5 16 1057 (some a0)).bind fun v17 =>
    (gI M5 16 1056 (some a0)).bind fun v18 =>
    (gI M5 16 1059 (some a0)).bind fun v19 =>
    (rc M5 16 (some a0)).bind fun q20 =>
    (fX16_segmentOut fu q20 v16 v17 v18 v19 (0 : Int32) (4 : Int32) (0 : Int32) (0 : Int32) (0 : Int32) M5).bind fun M21 =>
    some M21)
theorem dX16_reset_0 : decode cX16_reset 0 = .ok (.aload_n 0, 1) := by decide +kernel
theorem dX16_reset_1 : decode cX16_reset 1 = .ok (.getfield 31, 3) := by decide +kernel
theorem dX16_reset_4 : decode cX16_reset 4 = .ok (.iconst 2, 1) := by decide +kernel
theorem dX16_reset_5 : decode cX16_reset 5 = .ok (.dup2, 1) := by decide +kernel
theorem dX16_reset_6 : decode cX16_reset 6 = .ok (.iaload, 1) := by decide +kernel
theorem dX16_reset_7 : decode cX16_reset 7 = .ok (.iconst 1, 1) := by decide +kernel
theorem dX16_reset_8 : decode cX16_reset 8 = .ok (.iadd, 1) := by decide +kernel
theorem dX16_reset_9 : decode cX16_reset 9 = .ok (.iastore, 1) := by decide +kernel
theorem dX16_reset_10 : decode cX16_reset 10 = .ok (.aload_n 0, 1) := by decide +kernel
theorem dX16_reset_11 : decode cX16_reset 11 = .ok (.bipush 16, 2) := by decide +kernel
theorem dX16_reset_13 : decode cX16_reset 13 = .ok (.invokevirtual 325, 3) := by decide +kernel
theorem dX16_reset_16 : decode cX16_reset 16 = .ok (.ifCond .eq 31, 3) := by decide +kernel
theorem dX16_reset_19 : decode cX16_reset 19 = .ok (.aload_n 0, 1) := by decide +kernel
theorem dX16_reset_20 : decode cX16_reset 20 = .ok (.aload_n 0, 1) := by decide +kernel
theorem dX16_reset_21 : decode cX16_reset 21 = .ok (.getfield 240, 3) := by decide +kernel
theorem dX16_reset_24 : decode cX16_reset 24 = .ok (.aload_n 0, 1) := by decide +kernel
theorem dX16_reset_25 : decode cX16_reset 25 = .ok (.getfield 292, 3) := by decide +kernel
theorem dX16_reset_28 : decode cX16_reset 28 = .ok (.aload_n 0, 1) := by decide +kernel
theorem dX16_reset_29 : decode cX16_reset 29 = .ok (.getfield 289, 3) := by decide +kernel
theorem dX16_reset_32 : decode cX16_reset 32 = .ok (.aload_n 0, 1) := by decide +kernel
theorem dX16_reset_33 : decode cX16_reset 33 = .ok (.getfield 299, 3) := by decide +kernel
theorem dX16_reset_36 : decode cX16_reset 36 = .ok (.iconst 0, 1) := by decide +kernel
theorem dX16_reset_37 : decode cX16_reset 37 = .ok (.iconst 4, 1) := by decide +kernel
theorem dX16_reset_38 : decode cX16_reset 38 = .ok (.iconst 0, 1) := by decide +kernel
theorem dX16_reset_39 : decode cX16_reset 39 = .ok (.iconst 0, 1) := by decide +kernel
theorem dX16_reset_40 : decode cX16_reset 40 = .ok (.iconst 0, 1) := by decide +kernel
theorem dX16_reset_41 : decode cX16_reset 41 = .ok (.invokevirtual 329, 3) := by decide +kernel
theorem dX16_reset_44 : decode cX16_reset 44 = .ok (.goto 34, 3) := by decide +kernel
theorem dX16_reset_47 : decode cX16_reset 47 = .ok (.aload_n 0, 1) := by decide +kernel
theorem dX16_reset_48 : decode cX16_reset 48 = .ok (.aload_n 0, 1) := by decide +kernel
theorem dX16_reset_49 : decode cX16_reset 49 = .ok (.getfield 240, 3) := by decide +kernel
theorem dX16_reset_52 : decode cX16_reset 52 = .ok (.aload_n 0, 1) := by decide +kernel
theorem dX16_reset_53 : decode cX16_reset 53 = .ok (.getfield 292, 3) := by decide +kernel
theorem dX16_reset_56 : decode cX16_reset 56 = .ok (.aload_n 0, 1) := by decide +kernel
theorem dX16_reset_57 : decode cX16_reset 57 = .ok (.getfield 289, 3) := by decide +kernel
theorem dX16_reset_60 : decode cX16_reset 60 = .ok (.iconst 0, 1) := by decide +kernel
theorem dX16_reset_61 : decode cX16_reset 61 = .ok (.aload_n 0, 1) := by decide +kernel
theorem dX16_reset_62 : decode cX16_reset 62 = .ok (.getfield 298, 3) := by decide +kernel
theorem dX16_reset_65 : decode cX16_reset 65 = .ok (.aload_n 0, 1) := by decide +kernel
theorem dX16_reset_66 : decode cX16_reset 66 = .ok (.invokevirtual 333, 3) := by decide +kernel
theorem dX16_reset_69 : decode cX16_reset 69 = .ok (.iadd, 1) := by decide +kernel
theorem dX16_reset_70 : decode cX16_reset 70 = .ok (.bipush 20, 2) := by decide +kernel
theorem dX16_reset_72 : decode cX16_reset 72 = .ok (.iconst 0, 1) := by decide +kernel
theorem dX16_reset_73 : decode cX16_reset 73 = .ok (.iconst 0, 1) := by decide +kernel
theorem dX16_reset_74 : decode cX16_reset 74 = .ok (.iconst 0, 1) := by decide +kernel
theorem dX16_reset_75 : decode cX16_reset 75 = .ok (.invokevirtual 329, 3) := by decide +kernel
theorem dX16_reset_78 : decode cX16_reset 78 = .ok (.return_, 1) := by decide +kernel
theorem wX16_reset {x : GX} {n0 sl0 : Nat} (X : Cx x cX16_reset RX16 none n0 sl0 6 156) {out : Mm} (hE : Ends x n0 sl0 none out) (hn : xn x = 1) (fu : Nat)   (a0 : Nat)  (M : Mm) (h : fX16_reset fu  a0 M = some out) : Gw x M 0 [(0, pR (some a0))] [] := by
  unfold fX16_reset at h
  refine g_aload_n X (pc := 0) 0 rfl rfl dX16_reset_0 ?_
  obtain ⟨v1, ev1, h⟩ := bd h
  refine g_getR X (pc := 1) fk_16_17 rfl rfl ev1 tb_1831 dX16_reset_1 ?_
  refine g_iconst X (pc := 4) (v := 2) dX16_reset_4 (by decide) ?_
  refine g_dup2 X (pc := 5) rfl rfl dX16_reset_5 ?_
  obtain ⟨v2, ev2, h⟩ := bd h
  refine g_iaload X (pc := 6) ev2 dX16_reset_6 ?_
  refine g_iconst X (pc := 7) (v := 1) dX16_reset_7 (by decide) ?_
  refine g_iadd X (pc := 8) dX16_reset_8 ?_
  obtain ⟨M3, eM3, h⟩ := bd h
  refine g_iastore X (pc := 9) eM3 dX16_reset_9 ?_
  refine g_aload_n X (pc := 10) 0 rfl rfl dX16_reset_10 ?_
  refine g_bipush X (pc := 11) (v := 16) dX16_reset_11 (by decide) ?_
  obtain ⟨q4, eq4, h⟩ := bd h
  obtain ⟨v6, M5, eM5, h⟩ := b2d h
  refine g_callV X (pc := 13) (M' := M5) (ro := some (pI v6)) (c := 16) rfl (by decide) (as := [pI (16 : Int32)]) (as' := [pI (16 : Int32)]) (st := []) eq4 (ctX16_is _ _ _ _ _ _ fu q4 (16 : Int32) M3 _ eM5) tb_2250 tb_2247 tb_2249 ts_104 tb_8 ⟨rfl, hyX16_is⟩ rfl rfl ⟨by decide, by decide⟩ (Nat.le_of_ble_eq_true rfl) dX16_reset_13 ?_
  refine g_if_eq X (pc := 16) (tgt := 47) dX16_reset_16 (by decide) (fun hc => ?_) (fun hc => ?_)
  · have h := (if_pos hc).symm.trans h
    refine g_aload_n X (pc := 47) 0 rfl rfl dX16_reset_47 ?_
    refine g_aload_n X (pc := 48) 0 rfl rfl dX16_reset_48 ?_
    obtain ⟨v7, ev7, h⟩ := bd h
    refine g_getI X (pc := 49) fk_16_30 rfl rfl ev7 tb_1844 dX16_reset_49 ?_
    refine g_aload_n X (pc := 52) 0 rfl rfl dX16_reset_52 ?_
    obtain ⟨v8, ev8, h⟩ := bd h
    refine g_getI X (pc := 53) fk_16_33 rfl rfl ev8 tb_1847 dX16_reset_53 ?_
    refine g_aload_n X (pc := 56) 0 rfl rfl dX16_reset_56 ?_
    obtain ⟨v9, ev9, h⟩ := bd h
    refine g_getI X (pc := 57) fk_16_32 rfl rfl ev9 tb_1846 dX16_reset_57 ?_
    refine g_iconst X (pc := 60) (v := 0) dX16_reset_60 (by decide) ?_
    refine g_aload_n X (pc := 61) 0 rfl rfl dX16_reset_61 ?_
    obtain ⟨v10, ev10, h⟩ := bd h
    refine g_getI X (pc := 62) fk_16_34 rfl rfl ev10 tb_1848 dX16_reset_62 ?_
    refine g_aload_n X (pc := 65) 0 rfl rfl dX16_reset_65 ?_
    obtain ⟨q11, eq11, h⟩ := bd h
    obtain ⟨v13, M12, eM12, h⟩ := b2d h
    refine g_callV X (pc := 66) (M' := M12) (ro := some (pI v13)) (c := 16) rfl (by decide) (as := []) (as' := []) (st := [pI v10, pI (0 : Int32), pI v9, pI v8, pI v7, pR (some a0)]) eq11 (ctX16_extent _ _ _ _ _ _ fu q11  M5 _ eM12) tb_2258 tb_2255 tb_2257 ts_106 tb_8 ⟨rfl, hyX16_extent⟩ rfl rfl ⟨by decide, by decide⟩ (Nat.le_of_ble_eq_true rfl) dX16_reset_66 ?_
    refine g_iadd X (pc := 69) dX16_reset_69 ?_
    refine g_bipush X (pc := 70) (v := 20) dX16_reset_70 (by decide) ?_
    refine g_iconst X (pc := 72) (v := 0) dX16_reset_72 (by decide) ?_
    refine g_iconst X (pc := 73) (v := 0) dX16_reset_73 (by decide) ?_
    refine g_iconst X (pc := 74) (v := 0) dX16_reset_74 (by decide) ?_
    obtain ⟨q14, eq14, h⟩ := bd h
    obtain ⟨M15, eM15, h⟩ := bd h
    refine g_callV X (pc := 75) (M' := M15) (ro := none) (c := 16) rfl (by decide) (as := [pI v7, pI v8, pI v9, pI (0 : Int32), pI (v10 + v13), pI (20 : Int32), pI (0 : Int32), pI (0 : Int32), pI (0 : Int32)]) (as' := [pI (0 : Int32), pI (0 : Int32), pI (0 : Int32), pI (20 : Int32), pI (v10 + v13), pI (0 : Int32), pI v9, pI v8, pI v7]) (st := []) eq14 (ctX16_segmentOut _ _ _ _ _ _ fu q14 v7 v8 v9 (0 : Int32) (v10 + v13) (20 : Int32) (0 : Int32) (0 : Int32) (0 : Int32) M12 _ eM15) tb_2116 tb_2113 tb_2115 ts_75 tb_8 ⟨rfl, hyX16_segmentOut⟩ rfl rfl ⟨by decide, by decide⟩ (Nat.le_of_ble_eq_true rfl) dX16_reset_75 ?_
    obtain rfl := Option.some.inj h
    exact g_return X hE dX16_reset_78
  · have h := (if_neg hc).symm.trans h
    refine g_aload_n X (pc := 19) 0 rfl rfl dX16_reset_19 ?_
    refine g_aload_n X (pc := 20) 0 rfl rfl dX16_reset_20 ?_
    obtain ⟨v16, ev16, h⟩ := bd h
    refine g_getI X (pc := 21) fk_16_30 rfl rfl ev16 tb_1844 dX16_reset_21 ?_
    refine g_aload_n X (pc := 24) 0 rfl rfl dX16_reset_24 ?_
    obtain ⟨v17, ev17, h⟩ := bd h
    refine g_getI X (pc := 25) fk_16_33 rfl rfl ev17 tb_1847 dX16_reset_25 ?_
    refine g_aload_n X (pc := 28) 0 rfl rfl dX16_reset_28 ?_
    obtain ⟨v18, ev18, h⟩ := bd h
    refine g_getI X (pc := 29) fk_16_32 rfl rfl ev18 tb_1846 dX16_reset_29 ?_
    refine g_aload_n X (pc := 32) 0 rfl rfl dX16_reset_32 ?_
    obtain ⟨v19, ev19, h⟩ := bd h
    refine g_getI X (pc := 33) fk_16_35 rfl rfl ev19 tb_1849 dX16_reset_33 ?_
    refine g_iconst X (pc := 36) (v := 0) dX16_reset_36 (by decide) ?_
    refine g_iconst X (pc := 37) (v := 4) dX16_reset_37 (by decide) ?_
    refine g_iconst X (pc := 38) (v := 0) dX16_reset_38 (by decide) ?_
    refine g_iconst X (pc := 39) (v := 0) dX16_reset_39 (by decide) ?_
    refine g_iconst X (pc := 40) (v := 0) dX16_reset_40 (by decide) ?_
    obtain ⟨q20, eq20, h⟩ := bd h
    obtain ⟨M21, eM21, h⟩ := bd h
    refine g_callV X (pc := 41) (M' := M21) (ro := none) (c := 16) rfl (by decide) (as := [pI v16, pI v17, pI v18, pI v19, pI (0 : Int32), pI (4 : Int32), pI (0 : Int32), pI (0 : Int32), pI (0 : Int32)]) (as' := [pI (0 : Int32), pI (0 : Int32), pI (0 : Int32), pI (4 : Int32), pI (0 : Int32), pI v19, pI v18, pI v17, pI v16]) (st := []) eq20 (ctX16_segmentOut _ _ _ _ _ _ fu q20 v16 v17 v18 v19 (0 : Int32) (4 : Int32) (0 : Int32) (0 : Int32) (0 : Int32) M5 _ eM21) tb_2116 tb_2113 tb_2115 ts_75 tb_8 ⟨rfl, hyX16_segmentOut⟩ rfl rfl ⟨by decide, by decide⟩ (Nat.le_of_ble_eq_true rfl) dX16_reset_41 ?_
    refine g_goto X (pc := 44) (tgt := 78) dX16_reset_44 (by decide) ?_
    obtain rfl := Option.some.inj h
    exact g_return X hE dX16_reset_78
theorem hyX16_reset : yX16_reset.cls ≠ "java/lang/invoke/MethodHandle" ∧ yX16_reset.cls ≠ "java/lang/invoke/VarHandle" ∧ (parseMethodDescriptor yX16_reset.desc).map (fun d => d.parameters.length) = some 0 := ⟨by decide +kernel, by decide +kernel, by decide +kernel⟩
theorem ctX16_reset (l : Launch) (E : Nat → Nat) (D : va_G) (dA : Nat → ClassId) (lo : Nat) (H0 : Heap) (fu : Nat) (a0 : Nat) (M : Mm) (out : Mm) (h : fX16_reset fu a0 M = some out) : Ct l E D dA lo H0 yX16_reset cX16_reset 1 none 6 156 [pR (some a0)] M none out := by
  refine ct_of (by decide +kernel) (Nat.le_of_ble_eq_true rfl) ?_
  intro x hl he hd ha ho hh hn hin X hE
  exact wX16_reset X hE hn fu a0 M h
