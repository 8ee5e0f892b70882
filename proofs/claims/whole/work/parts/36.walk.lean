/-! ===== walks of methods, printed by a program of ours ===== -/
/-! WebHostModel.files()I -/
def fX16_files_L376 (fu : Nat) (k151 : Nat → Int32 → Int32 → Mm → Option (Int32 × Mm)) (k319 : Nat → Int32 → Int32 → Int32 → Int32 → Mm → Option (Int32 × Mm)) (k331 : Nat → Int32 → Int32 → Int32 → Int32 → Int32 → Int32 → Mm → Option (Int32 × Mm)) (a0 : Nat) (a1 : Int32) (a2 : Int32) (a3 : Int32) (a5 : Int32) (a7 : Int32) (s0 : Int32) (M : Mm) : Option (Int32 × Mm) :=
    k331 a0 a1 a2 a3 a5 s0 (a7 + (1 : Int32)) M
def fX16_files_L375 (fu : Nat) (k151 : Nat → Int32 → Int32 → Mm → Option (Int32 × Mm)) (k319 : Nat → Int32 → Int32 → Int32 → Int32 → Mm → Option (Int32 × Mm)) (k331 : Nat → Int32 → Int32 → Int32 → Int32 → Int32 → Int32 → Mm → Option (Int32 × Mm)) (a0 : Nat) (a1 : Int32) (a2 : Int32) (a3 : Int32) (a5 : Int32) (a7 : Int32)  (M : Mm) : Option (Int32 × Mm) :=
    fX16_files_L376 fu k151 k319 k331 a0 a1 a2 a3 a5 a7 (0 : Int32) M
def fX16_files_L331 (fu : Nat) (k151 : Nat → Int32 → Int32 → Mm → Option (Int32 × Mm)) (k319 : Nat → Int32 → Int32 → Int32 → Int32 → Mm → Option (Int32 × Mm)) : Nat → Nat → Int32 → Int32 → Int32 → Int32 → Int32 → Int32 → Mm → Option (Int32 × Mm)
  | 0, _, _, _, _, _, _, _, _ => none
  | n + 1, a0, a1, a2, a3, a5, a6, a7, M =>
    if (48 : Int32) ≤ a7 then (
    if a6 = 0 then (
    k319 a0 a1 a2 a3 (a5 + (1 : Int32)) M)
    else (
    some ((-1 : Int32), M)))
    else (
    if a6 = 0 then (
    fX16_files_L375 fu k151 k319 (fun b0 b1 b2 b3 b5 b6 b7 M => fX16_files_L331 fu k151 k319 n b0 b1 b2 b3 b5 b6 b7 M) a0 a1 a2 a3 a5 a7 M)
    else (
    (gR M 16 1026 (some a0)).bind fun v1 =>
    (gA M 100 v1 (a3 + a7)).bind fun v2 =>
    (gR M 16 1026 (some a0)).bind fun v3 =>
    (gA M 100 v3 (((8 : Int32) + ((64 : Int32) * a5)) + a7)).bind fun v4 =>
    if v2 = v4 then (
    fX16_files_L376 fu k151 k319 (fun b0 b1 b2 b3 b5 b6 b7 M => fX16_files_L331 fu k151 k319 n b0 b1 b2 b3 b5 b6 b7 M) a0 a1 a2 a3 a5 a7 (1 : Int32) M)
    else (
    fX16_files_L375 fu k151 k319 (fun b0 b1 b2 b3 b5 b6 b7 M => fX16_files_L331 fu k151 k319 n b0 b1 b2 b3 b5 b6 b7 M) a0 a1 a2 a3 a5 a7 M)))
def fX16_files_L319 (fu : Nat) (k151 : Nat → Int32 → Int32 → Mm → Option (Int32 × Mm)) : Nat → Nat → Int32 → Int32 → Int32 → Int32 → Mm → Option (Int32 × Mm)
  | 0, _, _, _, _, _, _ => none
  | n + 1, a0, a1, a2, a3, a5, M =>
    if a2 ≤ a5 then (
    k151 a0 a1 (a2 + (1 : Int32)) M)
    else (
    fX16_files_L331 fu k151 (fun b0 b1 b2 b3 b5 M => fX16_files_L319 fu k151 n b0 b1 b2 b3 b5 M) fu a0 a1 a2 a3 a5 (1 : Int32) (0 : Int32) M)
def fX16_files_L269 (fu : Nat) (k151 : Nat → Int32 → Int32 → Mm → Option (Int32 × Mm)) (k220 : Nat → Int32 → Int32 → Int32 → Int32 → Int32 → Mm → Option (Int32 × Mm)) (a0 : Nat) (a1 : Int32) (a2 : Int32) (a3 : Int32) (a4 : Int32) (a5 : Int32)  (M : Mm) : Option (Int32 × Mm) :=
    k220 a0 a1 a2 a3 a4 (a5 + (1 : Int32)) M
def fX16_files_L220 (fu : Nat) (k151 : Nat → Int32 → Int32 → Mm → Option (Int32 × Mm)) : Nat → Nat → Int32 → Int32 → Int32 → Int32 → Int32 → Mm → Option (Int32 × Mm)
  | 0, _, _, _, _, _, _, _ => none
  | n + 1, a0, a1, a2, a3, a4, a5, M =>
    if (48 : Int32) ≤ a5 then (
    (rc M 16 (some a0)).bind fun q1 =>
    b2 (fX16_imageWord fu q1 (a3 + (48 : Int32)) M) fun v3 M2 =>
    (rc M2 16 (some a0)).bind fun q4 =>
    b2 (fX16_imageWord fu q4 (a3 + (52 : Int32)) M2) fun v6 M5 =>
    (gI M5 16 1027 (some a0)).bind fun v7 =>
    if 0 < (lg_cmp (v3 + v6) (Int32.toInt64 v7)) then (
    some ((-1 : Int32), M5))
    else (
    (rc M5 16 (some a0)).bind fun q8 =>
    b2 (fX16_imageWord fu q8 (a3 + (60 : Int32)) M5) fun v10 M9 =>
    if (lg_cmp v10 (0 : Int64)) = 0 then (
    fX16_files_L319 fu k151 fu a0 a1 a2 a3 (0 : Int32) M9)
    else (
    some ((-1 : Int32), M9))))
    else (
    (gR M 16 1026 (some a0)).bind fun v11 =>
    (gA M 100 v11 (a3 + a5)).bind fun v12 =>
    if a4 ≤ a5 then (
    if v12 = 0 then (
    fX16_files_L269 fu k151 (fun b0 b1 b2 b3 b4 b5 M => fX16_files_L220 fu k151 n b0 b1 b2 b3 b4 b5 M) a0 a1 a2 a3 a4 a5 M)
    else (
    some ((-1 : Int32), M)))
    else (
    if v12 < (33 : Int32) then (
    some ((-1 : Int32), M))
    else (
    if v12 ≤ (126 : Int32) then (
    fX16_files_L269 fu k151 (fun b0 b1 b2 b3 b4 b5 M => fX16_files_L220 fu k151 n b0 b1 b2 b3 b4 b5 M) a0 a1 a2 a3 a4 a5 M)
    else (
    some ((-1 : Int32), M)))))
def fX16_files_L192 (fu : Nat) (k151 : Nat → Int32 → Int32 → Mm → Option (Int32 × Mm)) (a0 : Nat) (a1 : Int32) (a2 : Int32) (a3 : Int32) (a4 : Int32)  (M : Mm) : Option (Int32 × Mm) :=
    if a4 = 0 then (
    some ((-1 : Int32), M))
    else (
    if a4 = (48 : Int32) then (
    some ((-1 : Int32), M))
    else (
    (gR M 16 1026 (some a0)).bind fun v1 =>
    (gA M 100 v1 a3).bind fun v2 =>
    if v2 = (47 : Int32) then (
    fX16_files_L220 fu k151 fu a0 a1 a2 a3 a4 (0 : Int32) M)
    else (
    some ((-1 : Int32), M))))
def fX16_files_L167 (fu : Nat) (k151 : Nat → Int32 → Int32 → Mm → Option (Int32 × Mm)) : Nat → Nat → Int32 → Int32 → Int32 → Int32 → Mm → Option (Int32 × Mm)
  | 0, _, _, _, _, _, _ => none
  | n + 1, a0, a1, a2, a3, a4, M =>
    if (48 : Int32) ≤ a4 then (
    fX16_files_L192 fu k151 a0 a1 a2 a3 a4 M)
    else (
    (gR M 16 1026 (some a0)).bind fun v1 =>
    (gA M 100 v1 (a3 + a4)).bind fun v2 =>
    if v2 = 0 then (
    fX16_files_L192 fu k151 a0 a1 a2 a3 a4 M)
    else (
    fX16_files_L167 fu k151 n a0 a1 a2 a3 (a4 + (1 : Int32)) M))
def fX16_files_L151 (fu : Nat)  : Nat → Nat → Int32 → Int32 → Mm → Option (Int32 × Mm)
  | 0, _, _, _, _ => none
  | n + 1, a0, a1, a2, M =>
    if a1 ≤ a2 then (
    some (a1, M))
    else (
    fX16_files_L167 fu (fun b0 b1 b2 M => fX16_files_L151 fu  n b0 b1 b2 M) fu a0 a1 a2 ((8 : Int32) + ((64 : Int32) * a2)) (0 : Int32) M)
def fX16_files (fu : Nat)  (a0 : Nat)  (M : Mm) : Option (Int32 × Mm) :=
    (gI M 16 1027 (some a0)).bind fun v1 =>
    if v1 < (12 : Int32) then (
    some ((-1 : Int32), M))
    else (
    (gR M 16 1026 (some a0)).bind fun v2 =>
    (gA M 100 v2 (0 : Int32)).bind fun v3 =>
    if v3 = (83 : Int32) then (
    (gR M 16 1026 (some a0)).bind fun v4 =>
    (gA M 100 v4 (1 : Int32)).bind fun v5 =>
    if v5 = (84 : Int32) then (
    (gR M 16 1026 (some a0)).bind fun v6 =>
    (gA M 100 v6 (2 : Int32)).bind fun v7 =>
    if v7 = (79 : Int32) then (
    (gR M 16 1026 (some a0)).bind fun v8 =>
    (gA M 100 v8 (3 : Int32)).bind fun v9 =>
    if v9 = (82 : Int32) then (
    (gR M 16 1026 (some a0)).bind fun v10 =>
    (gA M 100 v10 (6 : Int32)).bind fun v11 =>
    if v11 = 0 then (
    (gR M 16 1026 (some a0)).bind fun v12 =>
    (gA M 100 v12 (7 : Int32)).bind fun v13 =>
    if v13 = 0 then (
    (gR M 16 1026 (some a0)).bind fun v14 =>
    (gA M 100 v14 (4 : Int32)).bind fun v15 =>
    (gR M 16 1026 (some a0)).bind fun v16 =>
    (gA M 100 v16 (5 : Int32)).bind fun v17 =>
    (some (((v15 &&& (255 : Int32)) <<< ((8 : Int32) &&& 31)) ||| (v17 &&& (255 : Int32)))).bind fun v18 =>
    if (64 : Int32) < v18 then (
    some ((-1 : Int32), M))
    else (
    (gI M 16 1027 (some a0)).bind fun v19 =>
    if v19 < ((12 : Int32) + ((64 : Int32) * v18)) then (
    some ((-1 : Int32), M))
    else (
    (rc M 16 (some a0)).bind fun q20 =>
    b2 (fX16_check fu q20 (0 : Int32) ((8 : Int32) + ((64 : Int32) * v18)) M) fun v22 M21 =>
    (rc M21 16 (some a0)).bind fun q23 =>
    b2 (fX16_imageWord fu q23 ((8 : Int32) + ((64 : Int32) * v18)) M21) fun v25 M24 =>
    if v22 = (Int64.toInt32 v25) then (
    fX16_files_L151 fu  fu a0 v18 (0 : Int32) M24)
    else (
    some ((-1 : Int32), M24)))))
    else (
    some ((-1 : Int32), M)))
    else (
    some ((-1 : Int32), M)))
    else (
    some ((-1 : Int32), M)))
    else (
    some ((-1 : Int32), M)))
    else (
    some ((-1 : Int32), M)))
    else (
    some ((-1 : Int32), M)))
theorem dX16_files_0 : decode cX16_files 0 = .ok (.aload_n 0, 1) := by decide +kernel
theorem dX16_files_1 : decode cX16_files 1 = .ok (.getfield 92, 3) := by decide +kernel
theorem dX16_files_4 : decode cX16_files 4 = .ok (.bipush 12, 2) := by decide +kernel
theorem dX16_files_6 : decode cX16_files 6 = .ok (.if_icmp .lt 67, 3) := by decide +kernel
theorem dX16_files_9 : decode cX16_files 9 = .ok (.aload_n 0, 1) := by decide +kernel
theorem dX16_files_10 : decode cX16_files 10 = .ok (.getfield 15, 3) := by decide +kernel
theorem dX16_files_13 : decode cX16_files 13 = .ok (.iconst 0, 1) := by decide +kernel
theorem dX16_files_14 : decode cX16_files 14 = .ok (.baload, 1) := by decide +kernel
theorem dX16_files_15 : decode cX16_files 15 = .ok (.bipush 83, 2) := by decide +kernel
theorem dX16_files_17 : decode cX16_files 17 = .ok (.if_icmp .ne 56, 3) := by decide +kernel
theorem dX16_files_20 : decode cX16_files 20 = .ok (.aload_n 0, 1) := by decide +kernel
theorem dX16_files_21 : decode cX16_files 21 = .ok (.getfield 15, 3) := by decide +kernel
theorem dX16_files_24 : decode cX16_files 24 = .ok (.iconst 1, 1) := by decide +kernel
theorem dX16_files_25 : decode cX16_files 25 = .ok (.baload, 1) := by decide +kernel
theorem dX16_files_26 : decode cX16_files 26 = .ok (.bipush 84, 2) := by decide +kernel
theorem dX16_files_28 : decode cX16_files 28 = .ok (.if_icmp .ne 45, 3) := by decide +kernel
theorem dX16_files_31 : decode cX16_files 31 = .ok (.aload_n 0, 1) := by decide +kernel
theorem dX16_files_32 : decode cX16_files 32 = .ok (.getfield 15, 3) := by decide +kernel
theorem dX16_files_35 : decode cX16_files 35 = .ok (.iconst 2, 1) := by decide +kernel
theorem dX16_files_36 : decode cX16_files 36 = .ok (.baload, 1) := by decide +kernel
theorem dX16_files_37 : decode cX16_files 37 = .ok (.bipush 79, 2) := by decide +kernel
theorem dX16_files_39 : decode cX16_files 39 = .ok (.if_icmp .ne 34, 3) := by decide +kernel
theorem dX16_files_42 : decode cX16_files 42 = .ok (.aload_n 0, 1) := by decide +kernel
theorem dX16_files_43 : decode cX16_files 43 = .ok (.getfield 15, 3) := by decide +kernel
theorem dX16_files_46 : decode cX16_files 46 = .ok (.iconst 3, 1) := by decide +kernel
theorem dX16_files_47 : decode cX16_files 47 = .ok (.baload, 1) := by decide +kernel
theorem dX16_files_48 : decode cX16_files 48 = .ok (.bipush 82, 2) := by decide +kernel
theorem dX16_files_50 : decode cX16_files 50 = .ok (.if_icmp .ne 23, 3) := by decide +kernel
theorem dX16_files_53 : decode cX16_files 53 = .ok (.aload_n 0, 1) := by decide +kernel
theorem dX16_files_54 : decode cX16_files 54 = .ok (.getfield 15, 3) := by decide +kernel
theorem dX16_files_57 : decode cX16_files 57 = .ok (.bipush 6, 2) := by decide +kernel
theorem dX16_files_59 : decode cX16_files 59 = .ok (.baload, 1) := by decide +kernel
theorem dX16_files_60 : decode cX16_files 60 = .ok (.ifCond .ne 13, 3) := by decide +kernel
theorem dX16_files_63 : decode cX16_files 63 = .ok (.aload_n 0, 1) := by decide +kernel
theorem dX16_files_64 : decode cX16_files 64 = .ok (.getfield 15, 3) := by decide +kernel
theorem dX16_files_67 : decode cX16_files 67 = .ok (.bipush 7, 2) := by decide +kernel
theorem dX16_files_69 : decode cX16_files 69 = .ok (.baload, 1) := by decide +kernel
theorem dX16_files_70 : decode cX16_files 70 = .ok (.ifCond .eq 5, 3) := by decide +kernel
theorem dX16_files_73 : decode cX16_files 73 = .ok (.iconst (-1), 1) := by decide +kernel
theorem dX16_files_74 : decode cX16_files 74 = .ok (.ireturn, 1) := by decide +kernel
theorem dX16_files_75 : decode cX16_files 75 = .ok (.aload_n 0, 1) := by decide +kernel
theorem dX16_files_76 : decode cX16_files 76 = .ok (.getfield 15, 3) := by decide +kernel
theorem dX16_files_79 : decode cX16_files 79 = .ok (.iconst 4, 1) := by decide +kernel
theorem dX16_files_80 : decode cX16_files 80 = .ok (.baload, 1) := by decide +kernel
theorem dX16_files_81 : decode cX16_files 81 = .ok (.sipush 255, 3) := by decide +kernel
theorem dX16_files_84 : decode cX16_files 84 = .ok (.iand, 1) := by decide +kernel
theorem dX16_files_85 : decode cX16_files 85 = .ok (.bipush 8, 2) := by decide +kernel
theorem dX16_files_87 : decode cX16_files 87 = .ok (.ishl, 1) := by decide +kernel
theorem dX16_files_88 : decode cX16_files 88 = .ok (.aload_n 0, 1) := by decide +kernel
theorem dX16_files_89 : decode cX16_files 89 = .ok (.getfield 15, 3) := by decide +kernel
theorem dX16_files_92 : decode cX16_files 92 = .ok (.iconst 5, 1) := by decide +kernel
theorem dX16_files_93 : decode cX16_files 93 = .ok (.baload, 1) := by decide +kernel
theorem dX16_files_94 : decode cX16_files 94 = .ok (.sipush 255, 3) := by decide +kernel
theorem dX16_files_97 : decode cX16_files 97 = .ok (.iand, 1) := by decide +kernel
theorem dX16_files_98 : decode cX16_files 98 = .ok (.ior, 1) := by decide +kernel
theorem dX16_files_99 : decode cX16_files 99 = .ok (.istore_n 1, 1) := by decide +kernel
theorem dX16_files_100 : decode cX16_files 100 = .ok (.iload_n 1, 1) := by decide +kernel
theorem dX16_files_101 : decode cX16_files 101 = .ok (.bipush 64, 2) := by decide +kernel
theorem dX16_files_103 : decode cX16_files 103 = .ok (.if_icmp .gt 44, 3) := by decide +kernel
theorem dX16_files_106 : decode cX16_files 106 = .ok (.aload_n 0, 1) := by decide +kernel
theorem dX16_files_107 : decode cX16_files 107 = .ok (.getfield 92, 3) := by decide +kernel
theorem dX16_files_110 : decode cX16_files 110 = .ok (.bipush 12, 2) := by decide +kernel
theorem dX16_files_112 : decode cX16_files 112 = .ok (.bipush 64, 2) := by decide +kernel
theorem dX16_files_114 : decode cX16_files 114 = .ok (.iload_n 1, 1) := by decide +kernel
theorem dX16_files_115 : decode cX16_files 115 = .ok (.imul, 1) := by decide +kernel
theorem dX16_files_116 : decode cX16_files 116 = .ok (.iadd, 1) := by decide +kernel
theorem dX16_files_117 : decode cX16_files 117 = .ok (.if_icmp .lt 30, 3) := by decide +kernel
theorem dX16_files_120 : decode cX16_files 120 = .ok (.aload_n 0, 1) := by decide +kernel
theorem dX16_files_121 : decode cX16_files 121 = .ok (.iconst 0, 1) := by decide +kernel
theorem dX16_files_122 : decode cX16_files 122 = .ok (.bipush 8, 2) := by decide +kernel
theorem dX16_files_124 : decode cX16_files 124 = .ok (.bipush 64, 2) := by decide +kernel
theorem dX16_files_126 : decode cX16_files 126 = .ok (.iload_n 1, 1) := by decide +kernel
theorem dX16_files_127 : decode cX16_files 127 = .ok (.imul, 1) := by decide +kernel
theorem dX16_files_128 : decode cX16_files 128 = .ok (.iadd, 1) := by decide +kernel
theorem dX16_files_129 : decode cX16_files 129 = .ok (.invokevirtual 100, 3) := by decide +kernel
theorem dX16_files_132 : decode cX16_files 132 = .ok (.aload_n 0, 1) := by decide +kernel
theorem dX16_files_133 : decode cX16_files 133 = .ok (.bipush 8, 2) := by decide +kernel
theorem dX16_files_135 : decode cX16_files 135 = .ok (.bipush 64, 2) := by decide +kernel
theorem dX16_files_137 : decode cX16_files 137 = .ok (.iload_n 1, 1) := by decide +kernel
theorem dX16_files_138 : decode cX16_files 138 = .ok (.imul, 1) := by decide +kernel
theorem dX16_files_139 : decode cX16_files 139 = .ok (.iadd, 1) := by decide +kernel
theorem dX16_files_140 : decode cX16_files 140 = .ok (.invokevirtual 104, 3) := by decide +kernel
theorem dX16_files_143 : decode cX16_files 143 = .ok (.l2i, 1) := by decide +kernel
theorem dX16_files_144 : decode cX16_files 144 = .ok (.if_icmp .eq 5, 3) := by decide +kernel
theorem dX16_files_147 : decode cX16_files 147 = .ok (.iconst (-1), 1) := by decide +kernel
theorem dX16_files_148 : decode cX16_files 148 = .ok (.ireturn, 1) := by decide +kernel
theorem dX16_files_149 : decode cX16_files 149 = .ok (.iconst 0, 1) := by decide +kernel
theorem dX16_files_150 : decode cX16_files 150 = .ok (.istore_n 2, 1) := by decide +kernel
theorem dX16_files_151 : decode cX16_files 151 = .ok (.iload_n 2, 1) := by decide +kernel
theorem dX16_files_152 : decode cX16_files 152 = .ok (.iload_n 1, 1) := by decide +kernel
theorem dX16_files_153 : decode cX16_files 153 = .ok (.if_icmp .ge 250, 3) := by decide +kernel
theorem dX16_files_156 : decode cX16_files 156 = .ok (.bipush 8, 2) := by decide +kernel
theorem dX16_files_158 : decode cX16_files 158 = .ok (.bipush 64, 2) := by decide +kernel
theorem dX16_files_160 : decode cX16_files 160 = .ok (.iload_n 2, 1) := by decide +kernel
theorem dX16_files_161 : decode cX16_files 161 = .ok (.imul, 1) := by decide +kernel
theorem dX16_files_162 : decode cX16_files 162 = .ok (.iadd, 1) := by decide +kernel
theorem dX16_files_163 : decode cX16_files 163 = .ok (.istore_n 3, 1) := by decide +kernel
theorem dX16_files_164 : decode cX16_files 164 = .ok (.iconst 0, 1) := by decide +kernel
theorem dX16_files_165 : decode cX16_files 165 = .ok (.istore 4, 2) := by decide +kernel
theorem dX16_files_167 : decode cX16_files 167 = .ok (.iload 4, 2) := by decide +kernel
theorem dX16_files_169 : decode cX16_files 169 = .ok (.bipush 48, 2) := by decide +kernel
theorem dX16_files_171 : decode cX16_files 171 = .ok (.if_icmp .ge 21, 3) := by decide +kernel
theorem dX16_files_174 : decode cX16_files 174 = .ok (.aload_n 0, 1) := by decide +kernel
theorem dX16_files_175 : decode cX16_files 175 = .ok (.getfield 15, 3) := by decide +kernel
theorem dX16_files_178 : decode cX16_files 178 = .ok (.iload_n 3, 1) := by decide +kernel
theorem dX16_files_179 : decode cX16_files 179 = .ok (.iload 4, 2) := by decide +kernel
theorem dX16_files_181 : decode cX16_files 181 = .ok (.iadd, 1) := by decide +kernel
theorem dX16_files_182 : decode cX16_files 182 = .ok (.baload, 1) := by decide +kernel
theorem dX16_files_183 : decode cX16_files 183 = .ok (.ifCond .eq 9, 3) := by decide +kernel
theorem dX16_files_186 : decode cX16_files 186 = .ok (.iinc 4 1, 3) := by decide +kernel
theorem dX16_files_189 : decode cX16_files 189 = .ok (.goto (-22), 3) := by decide +kernel
theorem dX16_files_192 : decode cX16_files 192 = .ok (.iload 4, 2) := by decide +kernel
theorem dX16_files_194 : decode cX16_files 194 = .ok (.ifCond .eq 21, 3) := by decide +kernel
theorem dX16_files_197 : decode cX16_files 197 = .ok (.iload 4, 2) := by decide +kernel
theorem dX16_files_199 : decode cX16_files 199 = .ok (.bipush 48, 2) := by decide +kernel
theorem dX16_files_201 : decode cX16_files 201 = .ok (.if_icmp .eq 14, 3) := by decide +kernel
theorem dX16_files_204 : decode cX16_files 204 = .ok (.aload_n 0, 1) := by decide +kernel
theorem dX16_files_205 : decode cX16_files 205 = .ok (.getfield 15, 3) := by decide +kernel
theorem dX16_files_208 : decode cX16_files 208 = .ok (.iload_n 3, 1) := by decide +kernel
theorem dX16_files_209 : decode cX16_files 209 = .ok (.baload, 1) := by decide +kernel
theorem dX16_files_210 : decode cX16_files 210 = .ok (.bipush 47, 2) := by decide +kernel
theorem dX16_files_212 : decode cX16_files 212 = .ok (.if_icmp .eq 5, 3) := by decide +kernel
theorem dX16_files_215 : decode cX16_files 215 = .ok (.iconst (-1), 1) := by decide +kernel
theorem dX16_files_216 : decode cX16_files 216 = .ok (.ireturn, 1) := by decide +kernel
theorem dX16_files_217 : decode cX16_files 217 = .ok (.iconst 0, 1) := by decide +kernel
theorem dX16_files_218 : decode cX16_files 218 = .ok (.istore 5, 2) := by decide +kernel
theorem dX16_files_220 : decode cX16_files 220 = .ok (.iload 5, 2) := by decide +kernel
theorem dX16_files_222 : decode cX16_files 222 = .ok (.bipush 48, 2) := by decide +kernel
theorem dX16_files_224 : decode cX16_files 224 = .ok (.if_icmp .ge 51, 3) := by decide +kernel
theorem dX16_files_227 : decode cX16_files 227 = .ok (.aload_n 0, 1) := by decide +kernel
theorem dX16_files_228 : decode cX16_files 228 = .ok (.getfield 15, 3) := by decide +kernel
theorem dX16_files_231 : decode cX16_files 231 = .ok (.iload_n 3, 1) := by decide +kernel
theorem dX16_files_232 : decode cX16_files 232 = .ok (.iload 5, 2) := by decide +kernel
theorem dX16_files_234 : decode cX16_files 234 = .ok (.iadd, 1) := by decide +kernel
theorem dX16_files_235 : decode cX16_files 235 = .ok (.baload, 1) := by decide +kernel
theorem dX16_files_236 : decode cX16_files 236 = .ok (.istore 6, 2) := by decide +kernel
theorem dX16_files_238 : decode cX16_files 238 = .ok (.iload 5, 2) := by decide +kernel
theorem dX16_files_240 : decode cX16_files 240 = .ok (.iload 4, 2) := by decide +kernel
theorem dX16_files_242 : decode cX16_files 242 = .ok (.if_icmp .ge 20, 3) := by decide +kernel
theorem dX16_files_245 : decode cX16_files 245 = .ok (.iload 6, 2) := by decide +kernel
theorem dX16_files_247 : decode cX16_files 247 = .ok (.bipush 33, 2) := by decide +kernel
theorem dX16_files_249 : decode cX16_files 249 = .ok (.if_icmp .lt 18, 3) := by decide +kernel
theorem dX16_files_252 : decode cX16_files 252 = .ok (.iload 6, 2) := by decide +kernel
theorem dX16_files_254 : decode cX16_files 254 = .ok (.bipush 126, 2) := by decide +kernel
theorem dX16_files_256 : decode cX16_files 256 = .ok (.if_icmp .le 13, 3) := by decide +kernel
theorem dX16_files_259 : decode cX16_files 259 = .ok (.goto 8, 3) := by decide +kernel
theorem dX16_files_262 : decode cX16_files 262 = .ok (.iload 6, 2) := by decide +kernel
theorem dX16_files_264 : decode cX16_files 264 = .ok (.ifCond .eq 5, 3) := by decide +kernel
theorem dX16_files_267 : decode cX16_files 267 = .ok (.iconst (-1), 1) := by decide +kernel
theorem dX16_files_268 : decode cX16_files 268 = .ok (.ireturn, 1) := by decide +kernel
theorem dX16_files_269 : decode cX16_files 269 = .ok (.iinc 5 1, 3) := by decide +kernel
theorem dX16_files_272 : decode cX16_files 272 = .ok (.goto (-52), 3) := by decide +kernel
theorem dX16_files_275 : decode cX16_files 275 = .ok (.aload_n 0, 1) := by decide +kernel
theorem dX16_files_276 : decode cX16_files 276 = .ok (.iload_n 3, 1) := by decide +kernel
theorem dX16_files_277 : decode cX16_files 277 = .ok (.bipush 48, 2) := by decide +kernel
theorem dX16_files_279 : decode cX16_files 279 = .ok (.iadd, 1) := by decide +kernel
theorem dX16_files_280 : decode cX16_files 280 = .ok (.invokevirtual 104, 3) := by decide +kernel
theorem dX16_files_283 : decode cX16_files 283 = .ok (.aload_n 0, 1) := by decide +kernel
theorem dX16_files_284 : decode cX16_files 284 = .ok (.iload_n 3, 1) := by decide +kernel
theorem dX16_files_285 : decode cX16_files 285 = .ok (.bipush 52, 2) := by decide +kernel
theorem dX16_files_287 : decode cX16_files 287 = .ok (.iadd, 1) := by decide +kernel
theorem dX16_files_288 : decode cX16_files 288 = .ok (.invokevirtual 104, 3) := by decide +kernel
theorem dX16_files_291 : decode cX16_files 291 = .ok (.ladd, 1) := by decide +kernel
theorem dX16_files_292 : decode cX16_files 292 = .ok (.aload_n 0, 1) := by decide +kernel
theorem dX16_files_293 : decode cX16_files 293 = .ok (.getfield 92, 3) := by decide +kernel
theorem dX16_files_296 : decode cX16_files 296 = .ok (.i2l, 1) := by decide +kernel
theorem dX16_files_297 : decode cX16_files 297 = .ok (.lcmp, 1) := by decide +kernel
theorem dX16_files_298 : decode cX16_files 298 = .ok (.ifCond .gt 16, 3) := by decide +kernel
theorem dX16_files_301 : decode cX16_files 301 = .ok (.aload_n 0, 1) := by decide +kernel
theorem dX16_files_302 : decode cX16_files 302 = .ok (.iload_n 3, 1) := by decide +kernel
theorem dX16_files_303 : decode cX16_files 303 = .ok (.bipush 60, 2) := by decide +kernel
theorem dX16_files_305 : decode cX16_files 305 = .ok (.iadd, 1) := by decide +kernel
theorem dX16_files_306 : decode cX16_files 306 = .ok (.invokevirtual 104, 3) := by decide +kernel
theorem dX16_files_309 : decode cX16_files 309 = .ok (.lconst 0, 1) := by decide +kernel
theorem dX16_files_310 : decode cX16_files 310 = .ok (.lcmp, 1) := by decide +kernel
theorem dX16_files_311 : decode cX16_files 311 = .ok (.ifCond .eq 5, 3) := by decide +kernel
theorem dX16_files_314 : decode cX16_files 314 = .ok (.iconst (-1), 1) := by decide +kernel
theorem dX16_files_315 : decode cX16_files 315 = .ok (.ireturn, 1) := by decide +kernel
theorem dX16_files_316 : decode cX16_files 316 = .ok (.iconst 0, 1) := by decide +kernel
theorem dX16_files_317 : decode cX16_files 317 = .ok (.istore 5, 2) := by decide +kernel
theorem dX16_files_319 : decode cX16_files 319 = .ok (.iload 5, 2) := by decide +kernel
theorem dX16_files_321 : decode cX16_files 321 = .ok (.iload_n 2, 1) := by decide +kernel
theorem dX16_files_322 : decode cX16_files 322 = .ok (.if_icmp .ge 75, 3) := by decide +kernel
theorem dX16_files_325 : decode cX16_files 325 = .ok (.iconst 1, 1) := by decide +kernel
theorem dX16_files_326 : decode cX16_files 326 = .ok (.istore 6, 2) := by decide +kernel
theorem dX16_files_328 : decode cX16_files 328 = .ok (.iconst 0, 1) := by decide +kernel
theorem dX16_files_329 : decode cX16_files 329 = .ok (.istore 7, 2) := by decide +kernel
theorem dX16_files_331 : decode cX16_files 331 = .ok (.iload 7, 2) := by decide +kernel
theorem dX16_files_333 : decode cX16_files 333 = .ok (.bipush 48, 2) := by decide +kernel
theorem dX16_files_335 : decode cX16_files 335 = .ok (.if_icmp .ge 49, 3) := by decide +kernel
theorem dX16_files_338 : decode cX16_files 338 = .ok (.iload 6, 2) := by decide +kernel
theorem dX16_files_340 : decode cX16_files 340 = .ok (.ifCond .eq 35, 3) := by decide +kernel
theorem dX16_files_343 : decode cX16_files 343 = .ok (.aload_n 0, 1) := by decide +kernel
theorem dX16_files_344 : decode cX16_files 344 = .ok (.getfield 15, 3) := by decide +kernel
theorem dX16_files_347 : decode cX16_files 347 = .ok (.iload_n 3, 1) := by decide +kernel
theorem dX16_files_348 : decode cX16_files 348 = .ok (.iload 7, 2) := by decide +kernel
theorem dX16_files_350 : decode cX16_files 350 = .ok (.iadd, 1) := by decide +kernel
theorem dX16_files_351 : decode cX16_files 351 = .ok (.baload, 1) := by decide +kernel
theorem dX16_files_352 : decode cX16_files 352 = .ok (.aload_n 0, 1) := by decide +kernel
theorem dX16_files_353 : decode cX16_files 353 = .ok (.getfield 15, 3) := by decide +kernel
theorem dX16_files_356 : decode cX16_files 356 = .ok (.bipush 8, 2) := by decide +kernel
theorem dX16_files_358 : decode cX16_files 358 = .ok (.bipush 64, 2) := by decide +kernel
theorem dX16_files_360 : decode cX16_files 360 = .ok (.iload 5, 2) := by decide +kernel
theorem dX16_files_362 : decode cX16_files 362 = .ok (.imul, 1) := by decide +kernel
theorem dX16_files_363 : decode cX16_files 363 = .ok (.iadd, 1) := by decide +kernel
theorem dX16_files_364 : decode cX16_files 364 = .ok (.iload 7, 2) := by decide +kernel
theorem dX16_files_366 : decode cX16_files 366 = .ok (.iadd, 1) := by decide +kernel
theorem dX16_files_367 : decode cX16_files 367 = .ok (.baload, 1) := by decide +kernel
theorem dX16_files_368 : decode cX16_files 368 = .ok (.if_icmp .ne 7, 3) := by decide +kernel
theorem dX16_files_371 : decode cX16_files 371 = .ok (.iconst 1, 1) := by decide +kernel
theorem dX16_files_372 : decode cX16_files 372 = .ok (.goto 4, 3) := by decide +kernel
theorem dX16_files_375 : decode cX16_files 375 = .ok (.iconst 0, 1) := by decide +kernel
theorem dX16_files_376 : decode cX16_files 376 = .ok (.istore 6, 2) := by decide +kernel
theorem dX16_files_378 : decode cX16_files 378 = .ok (.iinc 7 1, 3) := by decide +kernel
theorem dX16_files_381 : decode cX16_files 381 = .ok (.goto (-50), 3) := by decide +kernel
theorem dX16_files_384 : decode cX16_files 384 = .ok (.iload 6, 2) := by decide +kernel
theorem dX16_files_386 : decode cX16_files 386 = .ok (.ifCond .eq 5, 3) := by decide +kernel
theorem dX16_files_389 : decode cX16_files 389 = .ok (.iconst (-1), 1) := by decide +kernel
theorem dX16_files_390 : decode cX16_files 390 = .ok (.ireturn, 1) := by decide +kernel
theorem dX16_files_391 : decode cX16_files 391 = .ok (.iinc 5 1, 3) := by decide +kernel
theorem dX16_files_394 : decode cX16_files 394 = .ok (.goto (-75), 3) := by decide +kernel
theorem dX16_files_397 : decode cX16_files 397 = .ok (.iinc 2 1, 3) := by decide +kernel
theorem dX16_files_400 : decode cX16_files 400 = .ok (.goto (-249), 3) := by decide +kernel
theorem dX16_files_403 : decode cX16_files 403 = .ok (.iload_n 1, 1) := by decide +kernel
theorem dX16_files_404 : decode cX16_files 404 = .ok (.ireturn, 1) := by decide +kernel
theorem wX16_files_L376 {x : GX} {n0 sl0 : Nat} (X : Cx x cX16_files RX16 (some .int) n0 sl0 1 25) {out : Int32 × Mm} (hE : Ends x n0 sl0 (some (pI out.1)) out.2) (hn : xn x = 8) (fu : Nat) (k151 : Nat → Int32 → Int32 → Mm → Option (Int32 × Mm)) (k319 : Nat → Int32 → Int32 → Int32 → Int32 → Mm → Option (Int32 × Mm)) (k331 : Nat → Int32 → Int32 → Int32 → Int32 → Int32 → Int32 → Mm → Option (Int32 × Mm)) (hk151 : ∀ (b0 : Nat) (b1 : Int32) (b2 : Int32)  (M : Mm), k151 b0 b1 b2 M = some out → Gw x M 151 [(0, pR (some b0)), (1, pI b1), (2, pI b2)] []) (hk319 : ∀ (b0 : Nat) (b1 : Int32) (b2 : Int32) (b3 : Int32) (b5 : Int32)  (M : Mm), k319 b0 b1 b2 b3 b5 M = some out → Gw x M 319 [(0, pR (some b0)), (1, pI b1), (2, pI b2), (3, pI b3), (5, pI b5)] []) (hk331 : ∀ (b0 : Nat) (b1 : Int32) (b2 : Int32) (b3 : Int32) (b5 : Int32) (b6 : Int32) (b7 : Int32)  (M : Mm), k331 b0 b1 b2 b3 b5 b6 b7 M = some out → Gw x M 331 [(0, pR (some b0)), (1, pI b1), (2, pI b2), (3, pI b3), (5, pI b5), (6, pI b6), (7, pI b7)] []) (a0 : Nat) (a1 : Int32) (a2 : Int32) (a3 : Int32) (a5 : Int32) (a7 : Int32) (s0 : Int32) (M : Mm) (h : fX16_files_L376 fu k151 k319 k331 a0 a1 a2 a3 a5 a7 s0 M = some out) : Gw x M 376 [(0, pR (some a0)), (1, pI a1), (2, pI a2), (3, pI a3), (5, pI a5), (7, pI a7)] [pI s0] := by
  unfold fX16_files_L376 at h
  refine g_istore X (pc := 376) [(6, pI s0), (0, pR (some a0)), (1, pI a1), (2, pI a2), (3, pI a3), (5, pI a5), (7, pI a7)] (lt_n hn (by decide)) rfl dX16_files_376 ?_
  refine g_iinc X (pc := 378) 6 [(7, pI (a7 + (1 : Int32))), (6, pI s0), (0, pR (some a0)), (1, pI a1), (2, pI a2), (3, pI a3), (5, pI a5)] rfl (iinc_e (by decide)) (lt_n hn (by decide)) rfl dX16_files_378 ?_
  refine g_goto X (pc := 381) (tgt := 331) dX16_files_381 (by decide) ?_
  refine g_sub [2, 3, 4, 5, 6, 1, 0] [(0, pR (some a0)), (1, pI a1), (2, pI a2), (3, pI a3), (5, pI a5), (6, pI s0), (7, pI (a7 + (1 : Int32)))] rfl ?_
  exact hk331 a0 a1 a2 a3 a5 s0 (a7 + (1 : Int32)) M h
theorem wX16_files_L375 {x : GX} {n0 sl0 : Nat} (X : Cx x cX16_files RX16 (some .int) n0 sl0 1 25) {out : Int32 × Mm} (hE : Ends x n0 sl0 (some (pI out.1)) out.2) (hn : xn x = 8) (fu : Nat) (k151 : Nat → Int32 → Int32 → Mm → Option (Int32 × Mm)) (k319 : Nat → Int32 → Int32 → Int32 → Int32 → Mm → Option (Int32 × Mm)) (k331 : Nat → Int32 → Int32 → Int32 → Int32 → Int32 → Int32 → Mm → Option (Int32 × Mm)) (hk151 : ∀ (b0 : Nat) (b1 : Int32) (b2 : Int32)  (M : Mm), k151 b0 b1 b2 M = some out → Gw x M 151 [(0, pR (some b0)), (1, pI b1), (2, pI b2)] []) (hk319 : ∀ (b0 : Nat) (b1 : Int32) (b2 : Int32) (b3 : Int32) (b5 : Int32)  (M : Mm), k319 b0 b1 b2 b3 b5 M = some out → Gw x M 319 [(0, pR (some b0)), (1, pI b1), (2, pI b2), (3, pI b3), (5, pI b5)] []) (hk331 : ∀ (b0 : Nat) (b1 : Int32) (b2 : Int32) (b3 : Int32) (b5 : Int32) (b6 : Int32) (b7 : Int32)  (M : Mm), k331 b0 b1 b2 b3 b5 b6 b7 M = some out → Gw x M 331 [(0, pR (some b0)), (1, pI b1), (2, pI b2), (3, pI b3), (5, pI b5), (6, pI b6), (7, pI b7)] []) (a0 : Nat) (a1 : Int32) (a2 : Int32) (a3 : Int32) (a5 : Int32) (a7 : Int32)  (M : Mm) (h : fX16_files_L375 fu k151 k319 k331 a0 a1 a2 a3 a5 a7 M = some out) : Gw x M 375 [(0, pR (some a0)), (1, pI a1), (2, pI a2), (3, pI a3), (5, pI a5), (7, pI a7)] [] := by
  unfold fX16_files_L375 at h
  refine g_iconst X (pc := 375) (v := 0) dX16_files_375 (by decide) ?_
  exact wX16_files_L376 X hE hn fu k151 k319 k331 hk151 hk319 hk331 a0 a1 a2 a3 a5 a7 (0 : Int32) M h
theorem wX16_files_L331 {x : GX} {n0 sl0 : Nat} (X : Cx x cX16_files RX16 (some .int) n0 sl0 1 25) {out : Int32 × Mm} (hE : Ends x n0 sl0 (some (pI out.1)) out.2) (hn : xn x = 8) (fu : Nat) (k151 : Nat → Int32 → Int32 → Mm → Option (Int32 × Mm)) (k319 : Nat → Int32 → Int32 → Int32 → Int32 → Mm → Option (Int32 × Mm)) (hk151 : ∀ (b0 : Nat) (b1 : Int32) (b2 : Int32)  (M : Mm), k151 b0 b1 b2 M = some out → Gw x M 151 [(0, pR (some b0)), (1, pI b1), (2, pI b2)] []) (hk319 : ∀ (b0 : Nat) (b1 : Int32) (b2 : Int32) (b3 : Int32) (b5 : Int32)  (M : Mm), k319 b0 b1 b2 b3 b5 M = some out → Gw x M 319 [(0, pR (some b0)), (1, pI b1), (2, pI b2), (3, pI b3), (5, pI b5)] []) : ∀ (n : Nat) (a0 : Nat) (a1 : Int32) (a2 : Int32) (a3 : Int32) (a5 : Int32) (a6 : Int32) (a7 : Int32)  (M : Mm), fX16_files_L331 fu k151 k319 n a0 a1 a2 a3 a5 a6 a7 M = some out → Gw x M 331 [(0, pR (some a0)), (1, pI a1), (2, pI a2), (3, pI a3), (5, pI a5), (6, pI a6), (7, pI a7)] [] := by
  intro n
  induction n with
  | zero =>
    intro a0 a1 a2 a3 a5 a6 a7 M h
    have h : (none : Option (Int32 × Mm)) = some out := h
    cases h
  | succ n ih =>
    intro a0 a1 a2 a3 a5 a6 a7 M h
    rw [fX16_files_L331] at h
    refine g_iload X (pc := 331) 6 rfl dX16_files_331 ?_
    refine g_bipush X (pc := 333) (v := 48) dX16_files_333 (by decide) ?_
    refine g_icmp_ge X (pc := 335) (tgt := 384) dX16_files_335 (by decide) (fun hc => ?_) (fun hc => ?_)
    · have h := (if_pos hc).symm.trans h
      refine g_iload X (pc := 384) 5 rfl dX16_files_384 ?_
      refine g_if_eq X (pc := 386) (tgt := 391) dX16_files_386 (by decide) (fun hc => ?_) (fun hc => ?_)
      · have h := (if_pos hc).symm.trans h
        refine g_iinc X (pc := 391) 4 [(5, pI (a5 + (1 : Int32))), (0, pR (some a0)), (1, pI a1), (2, pI a2), (3, pI a3), (6, pI a6), (7, pI a7)] rfl (iinc_e (by decide)) (lt_n hn (by decide)) rfl dX16_files_391 ?_
        refine g_goto X (pc := 394) (tgt := 319) dX16_files_394 (by decide) ?_
        refine g_sub [1, 2, 3, 4, 0] [(0, pR (some a0)), (1, pI a1), (2, pI a2), (3, pI a3), (5, pI (a5 + (1 : Int32)))] rfl ?_
        exact hk319 a0 a1 a2 a3 (a5 + (1 : Int32)) M h
      · have h := (if_neg hc).symm.trans h
        refine g_iconst X (pc := 389) (v := (-1)) dX16_files_389 (by decide) ?_
        obtain rfl := Option.some.inj h
        exact g_ireturn X hE dX16_files_390
    · have h := (if_neg hc).symm.trans h
      refine g_iload X (pc := 338) 5 rfl dX16_files_338 ?_
      refine g_if_eq X (pc := 340) (tgt := 375) dX16_files_340 (by decide) (fun hc => ?_) (fun hc => ?_)
      · have h := (if_pos hc).symm.trans h
        refine g_sub [0, 1, 2, 3, 4, 6] [(0, pR (some a0)), (1, pI a1), (2, pI a2), (3, pI a3), (5, pI a5), (7, pI a7)] rfl ?_
        exact wX16_files_L375 X hE hn fu k151 k319 (fun b0 b1 b2 b3 b5 b6 b7 M => fX16_files_L331 fu k151 k319 n b0 b1 b2 b3 b5 b6 b7 M) hk151 hk319 ih a0 a1 a2 a3 a5 a7 M h
      · have h := (if_neg hc).symm.trans h
        refine g_aload_n X (pc := 343) 0 rfl rfl dX16_files_343 ?_
        obtain ⟨v1, ev1, h⟩ := bd h
        refine g_getR X (pc := 344) fk_16_2 rfl rfl ev1 tb_1816 dX16_files_344 ?_
        refine g_iload_n X (pc := 347) 3 rfl rfl dX16_files_347 ?_
        refine g_iload X (pc := 348) 6 rfl dX16_files_348 ?_
        refine g_iadd X (pc := 350) dX16_files_350 ?_
        obtain ⟨v2, ev2, h⟩ := bd h
        refine g_baload X (pc := 351) ev2 dX16_files_351 ?_
        refine g_aload_n X (pc := 352) 0 rfl rfl dX16_files_352 ?_
        obtain ⟨v3, ev3, h⟩ := bd h
        refine g_getR X (pc := 353) fk_16_2 rfl rfl ev3 tb_1816 dX16_files_353 ?_
        refine g_bipush X (pc := 356) (v := 8) dX16_files_356 (by decide) ?_
        refine g_bipush X (pc := 358) (v := 64) dX16_files_358 (by decide) ?_
        refine g_iload X (pc := 360) 4 rfl dX16_files_360 ?_
        refine g_imul X (pc := 362) dX16_files_362 ?_
        refine g_iadd X (pc := 363) dX16_files_363 ?_
        refine g_iload X (pc := 364) 6 rfl dX16_files_364 ?_
        refine g_iadd X (pc := 366) dX16_files_366 ?_
        obtain ⟨v4, ev4, h⟩ := bd h
        refine g_baload X (pc := 367) ev4 dX16_files_367 ?_
        refine g_icmp_ne X (pc := 368) (tgt := 375) dX16_files_368 (by decide) (fun hc => ?_) (fun hc => ?_)
        · have h := (if_neg hc).symm.trans h
          refine g_sub [0, 1, 2, 3, 4, 6] [(0, pR (some a0)), (1, pI a1), (2, pI a2), (3, pI a3), (5, pI a5), (7, pI a7)] rfl ?_
          exact wX16_files_L375 X hE hn fu k151 k319 (fun b0 b1 b2 b3 b5 b6 b7 M => fX16_files_L331 fu k151 k319 n b0 b1 b2 b3 b5 b6 b7 M) hk151 hk319 ih a0 a1 a2 a3 a5 a7 M h
        · have h := (if_pos hc).symm.trans h
          refine g_iconst X (pc := 371) (v := 1) dX16_files_371 (by decide) ?_
          refine g_goto X (pc := 372) (tgt := 376) dX16_files_372 (by decide) ?_
          refine g_sub [0, 1, 2, 3, 4, 6] [(0, pR (some a0)), (1, pI a1), (2, pI a2), (3, pI a3), (5, pI a5), (7, pI a7)] rfl ?_
          exact wX16_files_L376 X hE hn fu k151 k319 (fun b0 b1 b2 b3 b5 b6 b7 M => fX16_files_L331 fu k151 k319 n b0 b1 b2 b3 b5 b6 b7 M) hk151 hk319 ih a0 a1 a2 a3 a5 a7 (1 : Int32) M h
theorem wX16_files_L319 {x : GX} {n0 sl0 : Nat} (X : Cx x cX16_files RX16 (some .int) n0 sl0 1 25) {out : Int32 × Mm} (hE : Ends x n0 sl0 (some (pI out.1)) out.2) (hn : xn x = 8) (fu : Nat) (k151 : Nat → Int32 → Int32 → Mm → Option (Int32 × Mm)) (hk151 : ∀ (b0 : Nat) (b1 : Int32) (b2 : Int32)  (M : Mm), k151 b0 b1 b2 M = some out → Gw x M 151 [(0, pR (some b0)), (1, pI b1), (2, pI b2)] []) : ∀ (n : Nat) (a0 : Nat) (a1 : Int32) (a2 : Int32) (a3 : Int32) (a5 : Int32)  (M : Mm), fX16_files_L319 fu k151 n a0 a1 a2 a3 a5 M = some out → Gw x M 319 [(0, pR (some a0)), (1, pI a1), (2, pI a2), (3, pI a3), (5, pI a5)] [] := by
  intro n
  induction n with
  | zero =>
    intro a0 a1 a2 a3 a5 M h
    have h : (none : Option (Int32 × Mm)) = some out := h
    cases h
  | succ n ih =>
    intro a0 a1 a2 a3 a5 M h
    rw [fX16_files_L319] at h
    refine g_iload X (pc := 319) 4 rfl dX16_files_319 ?_
    refine g_iload_n X (pc := 321) 2 rfl rfl dX16_files_321 ?_
    refine g_icmp_ge X (pc := 322) (tgt := 397) dX16_files_322 (by decide) (fun hc => ?_) (fun hc => ?_)
    · have h := (if_pos hc).symm.trans h
      refine g_iinc X (pc := 397) 2 [(2, pI (a2 + (1 : Int32))), (0, pR (some a0)), (1, pI a1), (3, pI a3), (5, pI a5)] rfl (iinc_e (by decide)) (lt_n hn (by decide)) rfl dX16_files_397 ?_
      refine g_goto X (pc := 400) (tgt := 151) dX16_files_400 (by decide) ?_
      refine g_sub [1, 2, 0] [(0, pR (some a0)), (1, pI a1), (2, pI (a2 + (1 : Int32)))] rfl ?_
      exact hk151 a0 a1 (a2 + (1 : Int32)) M h
    · have h := (if_neg hc).symm.trans h
      refine g_iconst X (pc := 325) (v := 1) dX16_files_325 (by decide) ?_
      refine g_istore X (pc := 326) [(6, pI (1 : Int32)), (0, pR (some a0)), (1, pI a1), (2, pI a2), (3, pI a3), (5, pI a5)] (lt_n hn (by decide)) rfl dX16_files_326 ?_
      refine g_iconst X (pc := 328) (v := 0) dX16_files_328 (by decide) ?_
      refine g_istore X (pc := 329) [(7, pI (0 : Int32)), (6, pI (1 : Int32)), (0, pR (some a0)), (1, pI a1), (2, pI a2), (3, pI a3), (5, pI a5)] (lt_n hn (by decide)) rfl dX16_files_329 ?_
      refine g_sub [2, 3, 4, 5, 6, 1, 0] [(0, pR (some a0)), (1, pI a1), (2, pI a2), (3, pI a3), (5, pI a5), (6, pI (1 : Int32)), (7, pI (0 : Int32))] rfl ?_
      exact wX16_files_L331 X hE hn fu k151 (fun b0 b1 b2 b3 b5 M => fX16_files_L319 fu k151 n b0 b1 b2 b3 b5 M) hk151 ih fu a0 a1 a2 a3 a5 (1 : Int32) (0 : Int32) M h
theorem wX16_files_L269 {x : GX} {n0 sl0 : Nat} (X : Cx x cX16_files RX16 (some .int) n0 sl0 1 25) {out : Int32 × Mm} (hE : Ends x n0 sl0 (some (pI out.1)) out.2) (hn : xn x = 8) (fu : Nat) (k151 : Nat → Int32 → Int32 → Mm → Option (Int32 × Mm)) (k220 : Nat → Int32 → Int32 → Int32 → Int32 → Int32 → Mm → Option (Int32 × Mm)) (hk151 : ∀ (b0 : Nat) (b1 : Int32) (b2 : Int32)  (M : Mm), k151 b0 b1 b2 M = some out → Gw x M 151 [(0, pR (some b0)), (1, pI b1), (2, pI b2)] []) (hk220 : ∀ (b0 : Nat) (b1 : Int32) (b2 : Int32) (b3 : Int32) (b4 : Int32) (b5 : Int32)  (M : Mm), k220 b0 b1 b2 b3 b4 b5 M = some out → Gw x M 220 [(0, pR (some b0)), (1, pI b1), (2, pI b2), (3, pI b3), (4, pI b4), (5, pI b5)] []) (a0 : Nat) (a1 : Int32) (a2 : Int32) (a3 : Int32) (a4 : Int32) (a5 : Int32)  (M : Mm) (h : fX16_files_L269 fu k151 k220 a0 a1 a2 a3 a4 a5 M = some out) : Gw x M 269 [(0, pR (some a0)), (1, pI a1), (2, pI a2), (3, pI a3), (4, pI a4), (5, pI a5)] [] := by
  unfold fX16_files_L269 at h
  refine g_iinc X (pc := 269) 5 [(5, pI (a5 + (1 : Int32))), (0, pR (some a0)), (1, pI a1), (2, pI a2), (3, pI a3), (4, pI a4)] rfl (iinc_e (by decide)) (lt_n hn (by decide)) rfl dX16_files_269 ?_
  refine g_goto X (pc := 272) (tgt := 220) dX16_files_272 (by decide) ?_
  refine g_sub [1, 2, 3, 4, 5, 0] [(0, pR (some a0)), (1, pI a1), (2, pI a2), (3, pI a3), (4, pI a4), (5, pI (a5 + (1 : Int32)))] rfl ?_
  exact hk220 a0 a1 a2 a3 a4 (a5 + (1 : Int32)) M h
theorem wX16_files_L220 {x : GX} {n0 sl0 : Nat} (X : Cx x cX16_files RX16 (some .int) n0 sl0 1 25) {out : Int32 × Mm} (hE : Ends x n0 sl0 (some (pI out.1)) out.2) (hn : xn x = 8) (fu : Nat) (k151 : Nat → Int32 → Int32 → Mm → Option (Int32 × Mm)) (hk151 : ∀ (b0 : Nat) (b1 : Int32) (b2 : Int32)  (M : Mm), k151 b0 b1 b2 M = some out → Gw x M 151 [(0, pR (some b0)), (1, pI b1), (2, pI b2)] []) : ∀ (n : Nat) (a0 : Nat) (a1 : Int32) (a2 : Int32) (a3 : Int32) (a4 : Int32) (a5 : Int32)  (M : Mm), fX16_files_L220 fu k151 n a0 a1 a2 a3 a4 a5 M = some out → Gw x M 220 [(0, pR (some a0)), (1, pI a1), (2, pI a2), (3, pI a3), (4, pI a4), (5, pI a5)] [] := by
  intro n
  induction n with
  | zero =>
    intro a0 a1 a2 a3 a4 a5 M h
    have h : (none : Option (Int32 × Mm)) = some out := h
    cases h
  | succ n ih =>
    intro a0 a1 a2 a3 a4 a5 M h
    rw [fX16_files_L220] at h
    refine g_iload X (pc := 220) 5 rfl dX16_files_220 ?_
    refine g_bipush X (pc := 222) (v := 48) dX16_files_222 (by decide) ?_
    refine g_icmp_ge X (pc := 224) (tgt := 275) dX16_files_224 (by decide) (fun hc => ?_) (fun hc => ?_)
    · have h := (if_pos hc).symm.trans h
      refine g_aload_n X (pc := 275) 0 rfl rfl dX16_files_275 ?_
      refine g_iload_n X (pc := 276) 3 rfl rfl dX16_files_276 ?_
      refine g_bipush X (pc := 277) (v := 48) dX16_files_277 (by decide) ?_
      refine g_iadd X (pc := 279) dX16_files_279 ?_
      obtain ⟨q1, eq1, h⟩ := bd h
      obtain ⟨v3, M2, eM2, h⟩ := b2d h
      refine g_callV X (pc := 280) (M' := M2) (ro := some (pL v3)) (c := 16) rfl (by decide) (as := [pI (a3 + (48 : Int32))]) (as' := [pI (a3 + (48 : Int32))]) (st := []) eq1 (ctX16_imageWord _ _ _ _ _ _ fu q1 (a3 + (48 : Int32)) M _ eM2) tb_2039 tb_2036 tb_2038 ts_66 tb_8 ⟨rfl, hyX16_imageWord⟩ rfl rfl ⟨by decide, by decide⟩ (Nat.le_of_ble_eq_true rfl) dX16_files_280 ?_
      refine g_aload_n X (pc := 283) 0 rfl rfl dX16_files_283 ?_
      refine g_iload_n X (pc := 284) 3 rfl rfl dX16_files_284 ?_
      refine g_bipush X (pc := 285) (v := 52) dX16_files_285 (by decide) ?_
      refine g_iadd X (pc := 287) dX16_files_287 ?_
      obtain ⟨q4, eq4, h⟩ := bd h
      obtain ⟨v6, M5, eM5, h⟩ := b2d h
      refine g_callV X (pc := 288) (M' := M5) (ro := some (pL v6)) (c := 16) rfl (by decide) (as := [pI (a3 + (52 : Int32))]) (as' := [pI (a3 + (52 : Int32))]) (st := [pL v3]) eq4 (ctX16_imageWord _ _ _ _ _ _ fu q4 (a3 + (52 : Int32)) M2 _ eM5) tb_2039 tb_2036 tb_2038 ts_66 tb_8 ⟨rfl, hyX16_imageWord⟩ rfl rfl ⟨by decide, by decide⟩ (Nat.le_of_ble_eq_true rfl) dX16_files_288 ?_
      refine g_ladd X (pc := 291) dX16_files_291 ?_
      refine g_aload_n X (pc := 292) 0 rfl rfl dX16_files_292 ?_
      obtain ⟨v7, ev7, h⟩ := bd h
      refine g_getI X (pc := 293) fk_16_3 rfl rfl ev7 tb_1817 dX16_files_293 ?_
      refine g_i2l X (pc := 296) dX16_files_296 ?_
      refine g_lcmp X (pc := 297) dX16_files_297 ?_
      refine g_if_gt X (pc := 298) (tgt := 314) dX16_files_298 (by decide) (fun hc => ?_) (fun hc => ?_)
      · have h := (if_pos hc).symm.trans h
        refine g_iconst X (pc := 314) (v := (-1)) dX16_files_314 (by decide) ?_
        obtain rfl := Option.some.inj h
        exact g_ireturn X hE dX16_files_315
      · have h := (if_neg hc).symm.trans h
        refine g_aload_n X (pc := 301) 0 rfl rfl dX16_files_301 ?_
        refine g_iload_n X (pc := 302) 3 rfl rfl dX16_files_302 ?_
        refine g_bipush X (pc := 303) (v := 60) dX16_files_303 (by decide) ?_
        refine g_iadd X (pc := 305) dX16_files_305 ?_
        obtain ⟨q8, eq8, h⟩ := bd h
        obtain ⟨v10, M9, eM9, h⟩ := b2d h
        refine g_callV X (pc := 306) (M' := M9) (ro := some (pL v10)) (c := 16) rfl (by decide) (as := [pI (a3 + (60 : Int32))]) (as' := [pI (a3 + (60 : Int32))]) (st := []) eq8 (ctX16_imageWord _ _ _ _ _ _ fu q8 (a3 + (60 : Int32)) M5 _ eM9) tb_2039 tb_2036 tb_2038 ts_66 tb_8 ⟨rfl, hyX16_imageWord⟩ rfl rfl ⟨by decide, by decide⟩ (Nat.le_of_ble_eq_true rfl) dX16_files_306 ?_
        refine g_lconst X (pc := 309) (v := 0) dX16_files_309 (by decide) ?_
        refine g_lcmp X (pc := 310) dX16_files_310 ?_
        refine g_if_eq X (pc := 311) (tgt := 316) dX16_files_311 (by decide) (fun hc => ?_) (fun hc => ?_)
        · have h := (if_pos hc).symm.trans h
          refine g_iconst X (pc := 316) (v := 0) dX16_files_316 (by decide) ?_
          refine g_istore X (pc := 317) [(5, pI (0 : Int32)), (0, pR (some a0)), (1, pI a1), (2, pI a2), (3, pI a3), (4, pI a4)] (lt_n hn (by decide)) rfl dX16_files_317 ?_
          refine g_sub [1, 2, 3, 4, 0] [(0, pR (some a0)), (1, pI a1), (2, pI a2), (3, pI a3), (5, pI (0 : Int32))] rfl ?_
          exact wX16_files_L319 X hE hn fu k151 hk151 fu a0 a1 a2 a3 (0 : Int32) M9 h
        · have h := (if_neg hc).symm.trans h
          refine g_iconst X (pc := 314) (v := (-1)) dX16_files_314 (by decide) ?_
          obtain rfl := Option.some.inj h
          exact g_ireturn X hE dX16_files_315
    · have h := (if_neg hc).symm.trans h
      refine g_aload_n X (pc := 227) 0 rfl rfl dX16_files_227 ?_
      obtain ⟨v11, ev11, h⟩ := bd h
      refine g_getR X (pc := 228) fk_16_2 rfl rfl ev11 tb_1816 dX16_files_228 ?_
      refine g_iload_n X (pc := 231) 3 rfl rfl dX16_files_231 ?_
      refine g_iload X (pc := 232) 5 rfl dX16_files_232 ?_
      refine g_iadd X (pc := 234) dX16_files_234 ?_
      obtain ⟨v12, ev12, h⟩ := bd h
      refine g_baload X (pc := 235) ev12 dX16_files_235 ?_
      refine g_istore X (pc := 236) [(6, pI v12), (0, pR (some a0)), (1, pI a1), (2, pI a2), (3, pI a3), (4, pI a4), (5, pI a5)] (lt_n hn (by decide)) rfl dX16_files_236 ?_
      refine g_iload X (pc := 238) 6 rfl dX16_files_238 ?_
      refine g_iload X (pc := 240) 5 rfl dX16_files_240 ?_
      refine g_icmp_ge X (pc := 242) (tgt := 262) dX16_files_242 (by decide) (fun hc => ?_) (fun hc => ?_)
      · have h := (if_pos hc).symm.trans h
        refine g_iload X (pc := 262) 0 rfl dX16_files_262 ?_
        refine g_if_eq X (pc := 264) (tgt := 269) dX16_files_264 (by decide) (fun hc => ?_) (fun hc => ?_)
        · have h := (if_pos hc).symm.trans h
          refine g_sub [1, 2, 3, 4, 5, 6] [(0, pR (some a0)), (1, pI a1), (2, pI a2), (3, pI a3), (4, pI a4), (5, pI a5)] rfl ?_
          exact wX16_files_L269 X hE hn fu k151 (fun b0 b1 b2 b3 b4 b5 M => fX16_files_L220 fu k151 n b0 b1 b2 b3 b4 b5 M) hk151 ih a0 a1 a2 a3 a4 a5 M h
        · have h := (if_neg hc).symm.trans h
          refine g_iconst X (pc := 267) (v := (-1)) dX16_files_267 (by decide) ?_
          obtain rfl := Option.some.inj h
          exact g_ireturn X hE dX16_files_268
      · have h := (if_neg hc).symm.trans h
        refine g_iload X (pc := 245) 0 rfl dX16_files_245 ?_
        refine g_bipush X (pc := 247) (v := 33) dX16_files_247 (by decide) ?_
        refine g_icmp_lt X (pc := 249) (tgt := 267) dX16_files_249 (by decide) (fun hc => ?_) (fun hc => ?_)
        · have h := (if_pos hc).symm.trans h
          refine g_iconst X (pc := 267) (v := (-1)) dX16_files_267 (by decide) ?_
          obtain rfl := Option.some.inj h
          exact g_ireturn X hE dX16_files_268
        · have h := (if_neg hc).symm.trans h
          refine g_iload X (pc := 252) 0 rfl dX16_files_252 ?_
          refine g_bipush X (pc := 254) (v := 126) dX16_files_254 (by decide) ?_
          refine g_icmp_le X (pc := 256) (tgt := 269) dX16_files_256 (by decide) (fun hc => ?_) (fun hc => ?_)
          · have h := (if_pos hc).symm.trans h
            refine g_sub [1, 2, 3, 4, 5, 6] [(0, pR (some a0)), (1, pI a1), (2, pI a2), (3, pI a3), (4, pI a4), (5, pI a5)] rfl ?_
            exact wX16_files_L269 X hE hn fu k151 (fun b0 b1 b2 b3 b4 b5 M => fX16_files_L220 fu k151 n b0 b1 b2 b3 b4 b5 M) hk151 ih a0 a1 a2 a3 a4 a5 M h
          · have h := (if_neg hc).symm.trans h
            refine g_goto X (pc := 259) (tgt := 267) dX16_files_259 (by decide) ?_
            refine g_iconst X (pc := 267) (v := (-1)) dX16_files_267 (by decide) ?_
            obtain rfl := Option.some.inj h
            exact g_ireturn X hE dX16_files_268
theorem wX16_files_L192 {x : GX} {n0 sl0 : Nat} (X : Cx x cX16_files RX16 (some .int) n0 sl0 1 25) {out : Int32 × Mm} (hE : Ends x n0 sl0 (some (pI out.1)) out.2) (hn : xn x = 8) (fu : Nat) (k151 : Nat → Int32 → Int32 → Mm → Option (Int32 × Mm)) (hk151 : ∀ (b0 : Nat) (b1 : Int32) (b2 : Int32)  (M : Mm), k151 b0 b1 b2 M = some out → Gw x M 151 [(0, pR (some b0)), (1, pI b1), (2, pI b2)] []) (a0 : Nat) (a1 : Int32) (a2 : Int32) (a3 : Int32) (a4 : Int32)  (M : Mm) (h : fX16_files_L192 fu k151 a0 a1 a2 a3 a4 M = some out) : Gw x M 192 [(0, pR (some a0)), (1, pI a1), (2, pI a2), (3, pI a3), (4, pI a4)] [] := by
  unfold fX16_files_L192 at h
  refine g_iload X (pc := 192) 4 rfl dX16_files_192 ?_
  refine g_if_eq X (pc := 194) (tgt := 215) dX16_files_194 (by decide) (fun hc => ?_) (fun hc => ?_)
  · have h := (if_pos hc).symm.trans h
    refine g_iconst X (pc := 215) (v := (-1)) dX16_files_215 (by decide) ?_
    obtain rfl := Option.some.inj h
    exact g_ireturn X hE dX16_files_216
  · have h := (if_neg hc).symm.trans h
    refine g_iload X (pc := 197) 4 rfl dX16_files_197 ?_
    refine g_bipush X (pc := 199) (v := 48) dX16_files_199 (by decide) ?_
    refine g_icmp_eq X (pc := 201) (tgt := 215) dX16_files_201 (by decide) (fun hc => ?_) (fun hc => ?_)
    · have h := (if_pos hc).symm.trans h
      refine g_iconst X (pc := 215) (v := (-1)) dX16_files_215 (by decide) ?_
      obtain rfl := Option.some.inj h
      exact g_ireturn X hE dX16_files_216
    · have h := (if_neg hc).symm.trans h
      refine g_aload_n X (pc := 204) 0 rfl rfl dX16_files_204 ?_
      obtain ⟨v1, ev1, h⟩ := bd h
      refine g_getR X (pc := 205) fk_16_2 rfl rfl ev1 tb_1816 dX16_files_205 ?_
      refine g_iload_n X (pc := 208) 3 rfl rfl dX16_files_208 ?_
      obtain ⟨v2, ev2, h⟩ := bd h
      refine g_baload X (pc := 209) ev2 dX16_files_209 ?_
      refine g_bipush X (pc := 210) (v := 47) dX16_files_210 (by decide) ?_
      refine g_icmp_eq X (pc := 212) (tgt := 217) dX16_files_212 (by decide) (fun hc => ?_) (fun hc => ?_)
      · have h := (if_pos hc).symm.trans h
        refine g_iconst X (pc := 217) (v := 0) dX16_files_217 (by decide) ?_
        refine g_istore X (pc := 218) [(5, pI (0 : Int32)), (0, pR (some a0)), (1, pI a1), (2, pI a2), (3, pI a3), (4, pI a4)] (lt_n hn (by decide)) rfl dX16_files_218 ?_
        refine g_sub [1, 2, 3, 4, 5, 0] [(0, pR (some a0)), (1, pI a1), (2, pI a2), (3, pI a3), (4, pI a4), (5, pI (0 : Int32))] rfl ?_
        exact wX16_files_L220 X hE hn fu k151 hk151 fu a0 a1 a2 a3 a4 (0 : Int32) M h
      · have h := (if_neg hc).symm.trans h
        refine g_iconst X (pc := 215) (v := (-1)) dX16_files_215 (by decide) ?_
        obtain rfl := Option.some.inj h
        exact g_ireturn X hE dX16_files_216
theorem wX16_files_L167 {x : GX} {n0 sl0 : Nat} (X : Cx x cX16_files RX16 (some .int) n0 sl0 1 25) {out : Int32 × Mm} (hE : Ends x n0 sl0 (some (pI out.1)) out.2) (hn : xn x = 8) (fu : Nat) (k151 : Nat → Int32 → Int32 → Mm → Option (Int32 × Mm)) (hk151 : ∀ (b0 : Nat) (b1 : Int32) (b2 : Int32)  (M : Mm), k151 b0 b1 b2 M = some out → Gw x M 151 [(0, pR (some b0)), (1, pI b1), (2, pI b2)] []) : ∀ (n : Nat) (a0 : Nat) (a1 : Int32) (a2 : Int32) (a3 : Int32) (a4 : Int32)  (M : Mm), fX16_files_L167 fu k151 n a0 a1 a2 a3 a4 M = some out → Gw x M 167 [(0, pR (some a0)), (1, pI a1), (2, pI a2), (3, pI a3), (4, pI a4)] [] := by
  intro n
  induction n with
  | zero =>
    intro a0 a1 a2 a3 a4 M h
    have h : (none : Option (Int32 × Mm)) = some out := h
    cases h
  | succ n ih =>
    intro a0 a1 a2 a3 a4 M h
    rw [fX16_files_L167] at h
    refine g_iload X (pc := 167) 4 rfl dX16_files_167 ?_
    refine g_bipush X (pc := 169) (v := 48) dX16_files_169 (by decide) ?_
    refine g_icmp_ge X (pc := 171) (tgt := 192) dX16_files_171 (by decide) (fun hc => ?_) (fun hc => ?_)
    · have h := (if_pos hc).symm.trans h
      exact wX16_files_L192 X hE hn fu k151 hk151 a0 a1 a2 a3 a4 M h
    · have h := (if_neg hc).symm.trans h
      refine g_aload_n X (pc := 174) 0 rfl rfl dX16_files_174 ?_
      obtain ⟨v1, ev1, h⟩ := bd h
      refine g_getR X (pc := 175) fk_16_2 rfl rfl ev1 tb_1816 dX16_files_175 ?_
      refine g_iload_n X (pc := 178) 3 rfl rfl dX16_files_178 ?_
      refine g_iload X (pc := 179) 4 rfl dX16_files_179 ?_
      refine g_iadd X (pc := 181) dX16_files_181 ?_
      obtain ⟨v2, ev2, h⟩ := bd h
      refine g_baload X (pc := 182) ev2 dX16_files_182 ?_
      refine g_if_eq X (pc := 183) (tgt := 192) dX16_files_183 (by decide) (fun hc => ?_) (fun hc => ?_)
      · have h := (if_pos hc).symm.trans h
        exact wX16_files_L192 X hE hn fu k151 hk151 a0 a1 a2 a3 a4 M h
      · have h := (if_neg hc).symm.trans h
        refine g_iinc X (pc := 186) 4 [(4, pI (a4 + (1 : Int32))), (0, pR (some a0)), (1, pI a1), (2, pI a2), (3, pI a3)] rfl (iinc_e (by decide)) (lt_n hn (by decide)) rfl dX16_files_186 ?_
        refine g_goto X (pc := 189) (tgt := 167) dX16_files_189 (by decide) ?_
        refine g_sub [1, 2, 3, 4, 0] [(0, pR (some a0)), (1, pI a1), (2, pI a2), (3, pI a3), (4, pI (a4 + (1 : Int32)))] rfl ?_
        exact ih a0 a1 a2 a3 (a4 + (1 : Int32)) M h
theorem wX16_files_L151 {x : GX} {n0 sl0 : Nat} (X : Cx x cX16_files RX16 (some .int) n0 sl0 1 25) {out : Int32 × Mm} (hE : Ends x n0 sl0 (some (pI out.1)) out.2) (hn : xn x = 8) (fu : Nat)   : ∀ (n : Nat) (a0 : Nat) (a1 : Int32) (a2 : Int32)  (M : Mm), fX16_files_L151 fu  n a0 a1 a2 M = some out → Gw x M 151 [(0, pR (some a0)), (1, pI a1), (2, pI a2)] [] := by
  intro n
  induction n with
  | zero =>
    intro a0 a1 a2 M h
    have h : (none : Option (Int32 × Mm)) = some out := h
    cases h
  | succ n ih =>
    intro a0 a1 a2 M h
    rw [fX16_files_L151] at h
    refine g_iload_n X (pc := 151) 2 rfl rfl dX16_files_151 ?_
    refine g_iload_n X (pc := 152) 1 rfl rfl dX16_files_152 ?_
    refine g_icmp_ge X (pc := 153) (tgt := 403) dX16_files_153 (by decide) (fun hc => ?_) (fun hc => ?_)
    · have h := (if_pos hc).symm.trans h
      refine g_iload_n X (pc := 403) 1 rfl rfl dX16_files_403 ?_
      obtain rfl := Option.some.inj h
      exact g_ireturn X hE dX16_files_404
    · have h := (if_neg hc).symm.trans h
      refine g_bipush X (pc := 156) (v := 8) dX16_files_156 (by decide) ?_
      refine g_bipush X (pc := 158) (v := 64) dX16_files_158 (by decide) ?_
      refine g_iload_n X (pc := 160) 2 rfl rfl dX16_files_160 ?_
      refine g_imul X (pc := 161) dX16_files_161 ?_
      refine g_iadd X (pc := 162) dX16_files_162 ?_
      refine g_istore_n X (pc := 163) [(3, pI ((8 : Int32) + ((64 : Int32) * a2))), (0, pR (some a0)), (1, pI a1), (2, pI a2)] rfl (lt_n hn (by decide)) rfl dX16_files_163 ?_
      refine g_iconst X (pc := 164) (v := 0) dX16_files_164 (by decide) ?_
      refine g_istore X (pc := 165) [(4, pI (0 : Int32)), (3, pI ((8 : Int32) + ((64 : Int32) * a2))), (0, pR (some a0)), (1, pI a1), (2, pI a2)] (lt_n hn (by decide)) rfl dX16_files_165 ?_
      refine g_sub [2, 3, 4, 1, 0] [(0, pR (some a0)), (1, pI a1), (2, pI a2), (3, pI ((8 : Int32) + ((64 : Int32) * a2))), (4, pI (0 : Int32))] rfl ?_
      exact wX16_files_L167 X hE hn fu (fun b0 b1 b2 M => fX16_files_L151 fu  n b0 b1 b2 M) ih fu a0 a1 a2 ((8 : Int32) + ((64 : Int32) * a2)) (0 : Int32) M h
theorem wX16_files {x : GX} {n0 sl0 : Nat} (X : Cx x cX16_files RX16 (some .int) n0 sl0 1 25) {out : Int32 × Mm} (hE : Ends x n0 sl0 (some (pI out.1)) out.2) (hn : xn x = 8) (fu : Nat)   (a0 : Nat)  (M : Mm) (h : fX16_files fu  a0 M = some out) : Gw x M 0 [(0, pR (some a0))] [] := by
  unfold fX16_files at h
  refine g_aload_n X (pc := 0) 0 rfl rfl dX16_files_0 ?_
  obtain ⟨v1, ev1, h⟩ := bd h
  refine g_getI X (pc := 1) fk_16_3 rfl rfl ev1 tb_1817 dX16_files_1 ?_
  refine g_bipush X (pc := 4) (v := 12) dX16_files_4 (by decide) ?_
  refine g_icmp_lt X (pc := 6) (tgt := 73) dX16_files_6 (by decide) (fun hc => ?_) (fun hc => ?_)
  · have h := (if_pos hc).symm.trans h
    refine g_iconst X (pc := 73) (v := (-1)) dX16_files_73 (by decide) ?_
    obtain rfl := Option.some.inj h
    exact g_ireturn X hE dX16_files_74
  · have h := (if_neg hc).symm.trans h
    refine g_aload_n X (pc := 9) 0 rfl rfl dX16_files_9 ?_
    obtain ⟨v2, ev2, h⟩ := bd h
    refine g_getR X (pc := 10) fk_16_2 rfl rfl ev2 tb_1816 dX16_files_10 ?_
    refine g_iconst X (pc := 13) (v := 0) dX16_files_13 (by decide) ?_
    obtain ⟨v3, ev3, h⟩ := bd h
    refine g_baload X (pc := 14) ev3 dX16_files_14 ?_
    refine g_bipush X (pc := 15) (v := 83) dX16_files_15 (by decide) ?_
    refine g_icmp_ne X (pc := 17) (tgt := 73) dX16_files_17 (by decide) (fun hc => ?_) (fun hc => ?_)
    · have h := (if_neg hc).symm.trans h
      refine g_iconst X (pc := 73) (v := (-1)) dX16_files_73 (by decide) ?_
      obtain rfl := Option.some.inj h
      exact g_ireturn X hE dX16_files_74
    · have h := (if_pos hc).symm.trans h
      refine g_aload_n X (pc := 20) 0 rfl rfl dX16_files_20 ?_
      obtain ⟨v4, ev4, h⟩ := bd h
      refine g_getR X (pc := 21) fk_16_2 rfl rfl ev4 tb_1816 dX16_files_21 ?_
      refine g_iconst X (pc := 24) (v := 1) dX16_files_24 (by decide) ?_
      obtain ⟨v5, ev5, h⟩ := bd h
      refine g_baload X (pc := 25) ev5 dX16_files_25 ?_
      refine g_bipush X (pc := 26) (v := 84) dX16_files_26 (by decide) ?_
      refine g_icmp_ne X (pc := 28) (tgt := 73) dX16_files_28 (by decide) (fun hc => ?_) (fun hc => ?_)
      · have h := (if_neg hc).symm.trans h
        refine g_iconst X (pc := 73) (v := (-1)) dX16_files_73 (by decide) ?_
        obtain rfl := Option.some.inj h
        exact g_ireturn X hE dX16_files_74
      · have h := (if_pos hc).symm.trans h
        refine g_aload_n X (pc := 31) 0 rfl rfl dX16_files_31 ?_
        obtain ⟨v6, ev6, h⟩ := bd h
        refine g_getR X (pc := 32) fk_16_2 rfl rfl ev6 tb_1816 dX16_files_32 ?_
        refine g_iconst X (pc := 35) (v := 2) dX16_files_35 (by decide) ?_
        obtain ⟨v7, ev7, h⟩ := bd h
        refine g_baload X (pc := 36) ev7 dX16_files_36 ?_
        refine g_bipush X (pc := 37) (v := 79) dX16_files_37 (by decide) ?_
        refine g_icmp_ne X (pc := 39) (tgt := 73) dX16_files_39 (by decide) (fun hc => ?_) (fun hc => ?_)
        · have h := (if_neg hc).symm.trans h
          refine g_iconst X (pc := 73) (v := (-1)) dX16_files_73 (by decide) ?_
          obtain rfl := Option.some.inj h
          exact g_ireturn X hE dX16_files_74
        · have h := (if_pos hc).symm.trans h
          refine g_aload_n X (pc := 42) 0 rfl rfl dX16_files_42 ?_
          obtain ⟨v8, ev8, h⟩ := bd h
          refine g_getR X (pc := 43) fk_16_2 rfl rfl ev8 tb_1816 dX16_files_43 ?_
          refine g_iconst X (pc := 46) (v := 3) dX16_files_46 (by decide) ?_
          obtain ⟨v9, ev9, h⟩ := bd h
          refine g_baload X (pc := 47) ev9 dX16_files_47 ?_
          refine g_bipush X (pc := 48) (v := 82) dX16_files_48 (by decide) ?_
          refine g_icmp_ne X (pc := 50) (tgt := 73) dX16_files_50 (by decide) (fun hc => ?_) (fun hc => ?_)
          · have h := (if_neg hc).symm.trans h
            refine g_iconst X (pc := 73) (v := (-1)) dX16_files_73 (by decide) ?_
            obtain rfl := Option.some.inj h
            exact g_ireturn X hE dX16_files_74
          · have h := (if_pos hc).symm.trans h
            refine g_aload_n X (pc := 53) 0 rfl rfl dX16_files_53 ?_
            obtain ⟨v10, ev10, h⟩ := bd h
            refine g_getR X (pc := 54) fk_16_2 rfl rfl ev10 tb_1816 dX16_files_54 ?_
            refine g_bipush X (pc := 57) (v := 6) dX16_files_57 (by decide) ?_
            obtain ⟨v11, ev11, h⟩ := bd h
            refine g_baload X (pc := 59) ev11 dX16_files_59 ?_
            refine g_if_ne X (pc := 60) (tgt := 73) dX16_files_60 (by decide) (fun hc => ?_) (fun hc => ?_)
            · have h := (if_neg hc).symm.trans h
              refine g_iconst X (pc := 73) (v := (-1)) dX16_files_73 (by decide) ?_
              obtain rfl := Option.some.inj h
              exact g_ireturn X hE dX16_files_74
            · have h := (if_pos hc).symm.trans h
              refine g_aload_n X (pc := 63) 0 rfl rfl dX16_files_63 ?_
              obtain ⟨v12, ev12, h⟩ := bd h
              refine g_getR X (pc := 64) fk_16_2 rfl rfl ev12 tb_1816 dX16_files_64 ?_
              refine g_bipush X (pc := 67) (v := 7) dX16_files_67 (by decide) ?_
              obtain ⟨v13, ev13, h⟩ := bd h
              refine g_baload X (pc := 69) ev13 dX16_files_69 ?_
              refine g_if_eq X (pc := 70) (tgt := 75) dX16_files_70 (by decide) (fun hc => ?_) (fun hc => ?_)
              · have h := (if_pos hc).symm.trans h
                refine g_aload_n X (pc := 75) 0 rfl rfl dX16_files_75 ?_
                obtain ⟨v14, ev14, h⟩ := bd h
                refine g_getR X (pc := 76) fk_16_2 rfl rfl ev14 tb_1816 dX16_files_76 ?_
                refine g_iconst X (pc := 79) (v := 4) dX16_files_79 (by decide) ?_
                obtain ⟨v15, ev15, h⟩ := bd h
                refine g_baload X (pc := 80) ev15 dX16_files_80 ?_
                refine g_sipush X (pc := 81) (v := 255) dX16_files_81 (by decide) ?_
                refine g_iand X (pc := 84) dX16_files_84 ?_
                refine g_bipush X (pc := 85) (v := 8) dX16_files_85 (by decide) ?_
                refine g_ishl X (pc := 87) dX16_files_87 ?_
                refine g_aload_n X (pc := 88) 0 rfl rfl dX16_files_88 ?_
                obtain ⟨v16, ev16, h⟩ := bd h
                refine g_getR X (pc := 89) fk_16_2 rfl rfl ev16 tb_1816 dX16_files_89 ?_
                refine g_iconst X (pc := 92) (v := 5) dX16_files_92 (by decide) ?_
                obtain ⟨v17, ev17, h⟩ := bd h
                refine g_baload X (pc := 93) ev17 dX16_files_93 ?_
                refine g_sipush X (pc := 94) (v := 255) dX16_files_94 (by decide) ?_
                refine g_iand X (pc := 97) dX16_files_97 ?_
                refine g_ior X (pc := 98) dX16_files_98 ?_
                obtain ⟨v18, ev18, h⟩ := bd h
                refine g_nmI ev18 ?_
                refine g_istore_n X (pc := 99) [(1, pI v18), (0, pR (some a0))] rfl (lt_n hn (by decide)) rfl dX16_files_99 ?_
                refine g_iload_n X (pc := 100) 0 rfl rfl dX16_files_100 ?_
                refine g_bipush X (pc := 101) (v := 64) dX16_files_101 (by decide) ?_
                refine g_icmp_gt X (pc := 103) (tgt := 147) dX16_files_103 (by decide) (fun hc => ?_) (fun hc => ?_)
                · have h := (if_pos hc).symm.trans h
                  refine g_iconst X (pc := 147) (v := (-1)) dX16_files_147 (by decide) ?_
                  obtain rfl := Option.some.inj h
                  exact g_ireturn X hE dX16_files_148
                · have h := (if_neg hc).symm.trans h
                  refine g_aload_n X (pc := 106) 1 rfl rfl dX16_files_106 ?_
                  obtain ⟨v19, ev19, h⟩ := bd h
                  refine g_getI X (pc := 107) fk_16_3 rfl rfl ev19 tb_1817 dX16_files_107 ?_
                  refine g_bipush X (pc := 110) (v := 12) dX16_files_110 (by decide) ?_
                  refine g_bipush X (pc := 112) (v := 64) dX16_files_112 (by decide) ?_
                  refine g_iload_n X (pc := 114) 0 rfl rfl dX16_files_114 ?_
                  refine g_imul X (pc := 115) dX16_files_115 ?_
                  refine g_iadd X (pc := 116) dX16_files_116 ?_
                  refine g_icmp_lt X (pc := 117) (tgt := 147) dX16_files_117 (by decide) (fun hc => ?_) (fun hc => ?_)
                  · have h := (if_pos hc).symm.trans h
                    refine g_iconst X (pc := 147) (v := (-1)) dX16_files_147 (by decide) ?_
                    obtain rfl := Option.some.inj h
                    exact g_ireturn X hE dX16_files_148
                  · have h := (if_neg hc).symm.trans h
                    refine g_aload_n X (pc := 120) 1 rfl rfl dX16_files_120 ?_
                    refine g_iconst X (pc := 121) (v := 0) dX16_files_121 (by decide) ?_
                    refine g_bipush X (pc := 122) (v := 8) dX16_files_122 (by decide) ?_
                    refine g_bipush X (pc := 124) (v := 64) dX16_files_124 (by decide) ?_
                    refine g_iload_n X (pc := 126) 0 rfl rfl dX16_files_126 ?_
                    refine g_imul X (pc := 127) dX16_files_127 ?_
                    refine g_iadd X (pc := 128) dX16_files_128 ?_
                    obtain ⟨q20, eq20, h⟩ := bd h
                    obtain ⟨v22, M21, eM21, h⟩ := b2d h
                    refine g_callV X (pc := 129) (M' := M21) (ro := some (pI v22)) (c := 16) rfl (by decide) (as := [pI (0 : Int32), pI ((8 : Int32) + ((64 : Int32) * v18))]) (as' := [pI ((8 : Int32) + ((64 : Int32) * v18)), pI (0 : Int32)]) (st := []) eq20 (ctX16_check _ _ _ _ _ _ fu q20 (0 : Int32) ((8 : Int32) + ((64 : Int32) * v18)) M _ eM21) tb_2034 tb_2031 tb_2033 ts_65 tb_8 ⟨rfl, hyX16_check⟩ rfl rfl ⟨by decide, by decide⟩ (Nat.le_of_ble_eq_true rfl) dX16_files_129 ?_
                    refine g_aload_n X (pc := 132) 1 rfl rfl dX16_files_132 ?_
                    refine g_bipush X (pc := 133) (v := 8) dX16_files_133 (by decide) ?_
                    refine g_bipush X (pc := 135) (v := 64) dX16_files_135 (by decide) ?_
                    refine g_iload_n X (pc := 137) 0 rfl rfl dX16_files_137 ?_
                    refine g_imul X (pc := 138) dX16_files_138 ?_
                    refine g_iadd X (pc := 139) dX16_files_139 ?_
                    obtain ⟨q23, eq23, h⟩ := bd h
                    obtain ⟨v25, M24, eM24, h⟩ := b2d h
                    refine g_callV X (pc := 140) (M' := M24) (ro := some (pL v25)) (c := 16) rfl (by decide) (as := [pI ((8 : Int32) + ((64 : Int32) * v18))]) (as' := [pI ((8 : Int32) + ((64 : Int32) * v18))]) (st := [pI v22]) eq23 (ctX16_imageWord _ _ _ _ _ _ fu q23 ((8 : Int32) + ((64 : Int32) * v18)) M21 _ eM24) tb_2039 tb_2036 tb_2038 ts_66 tb_8 ⟨rfl, hyX16_imageWord⟩ rfl rfl ⟨by decide, by decide⟩ (Nat.le_of_ble_eq_true rfl) dX16_files_140 ?_
                    refine g_l2i X (pc := 143) dX16_files_143 ?_
                    refine g_icmp_eq X (pc := 144) (tgt := 149) dX16_files_144 (by decide) (fun hc => ?_) (fun hc => ?_)
                    · have h := (if_pos hc).symm.trans h
                      refine g_iconst X (pc := 149) (v := 0) dX16_files_149 (by decide) ?_
                      refine g_istore_n X (pc := 150) [(2, pI (0 : Int32)), (1, pI v18), (0, pR (some a0))] rfl (lt_n hn (by decide)) rfl dX16_files_150 ?_
                      refine g_sub [2, 1, 0] [(0, pR (some a0)), (1, pI v18), (2, pI (0 : Int32))] rfl ?_
                      exact wX16_files_L151 X hE hn fu   fu a0 v18 (0 : Int32) M24 h
                    · have h := (if_neg hc).symm.trans h
                      refine g_iconst X (pc := 147) (v := (-1)) dX16_files_147 (by decide) ?_
                      obtain rfl := Option.some.inj h
                      exact g_ireturn X hE dX16_files_148
              · have h := (if_neg hc).symm.trans h
                refine g_iconst X (pc := 73) (v := (-1)) dX16_files_73 (by decide) ?_
                obtain rfl := Option.some.inj h
                exact g_ireturn X hE dX16_files_74
theorem hyX16_files : yX16_files.cls ≠ "java/lang/invoke/MethodHandle" ∧ yX16_files.cls ≠ "java/lang/invoke/VarHandle" ∧ (parseMethodDescriptor yX16_files.desc).map (fun d => d.parameters.length) = some 0 := ⟨by decide +kernel, by decide +kernel, by decide +kernel⟩
theorem ctX16_files (l : Launch) (E : Nat → Nat) (D : va_G) (dA : Nat → ClassId) (lo : Nat) (H0 : Heap) (fu : Nat) (a0 : Nat) (M : Mm) (out : Int32 × Mm) (h : fX16_files fu a0 M = some out) : Ct l E D dA lo H0 yX16_files cX16_files 8 (some .int) 1 25 [pR (some a0)] M (some (pI out.1)) out.2 := by
  refine ct_of (by decide +kernel) (Nat.le_of_ble_eq_true rfl) ?_
  intro x hl he hd ha ho hh hn hin X hE
  exact wX16_files X hE hn fu a0 M h
/-! WebHostModel.net(I)I -/
def fX16_net (fu : Nat)  (a0 : Nat) (a1 : Int32)  (M : Mm) : Option (Int32 × Mm) :=
    (gI M 16 1030 (some a0)).bind fun v1 =>
    (gI M 16 1030 (some a0)).bind fun v2 =>
    some (((a1 >>> (((32 : Int32) - v1) &&& 31)) <<< (((32 : Int32) - v2) &&& 31)), M)
theorem dX16_net_0 : decode cX16_net 0 = .ok (.iload_n 1, 1) := by decide +kernel
theorem dX16_net_1 : decode cX16_net 1 = .ok (.bipush 32, 2) := by decide +kernel
theorem dX16_net_3 : decode cX16_net 3 = .ok (.aload_n 0, 1) := by decide +kernel
theorem dX16_net_4 : decode cX16_net 4 = .ok (.getfield 108, 3) := by decide +kernel
theorem dX16_net_7 : decode cX16_net 7 = .ok (.isub, 1) := by decide +kernel
theorem dX16_net_8 : decode cX16_net 8 = .ok (.ishr, 1) := by decide +kernel
theorem dX16_net_9 : decode cX16_net 9 = .ok (.bipush 32, 2) := by decide +kernel
theorem dX16_net_11 : decode cX16_net 11 = .ok (.aload_n 0, 1) := by decide +kernel
theorem dX16_net_12 : decode cX16_net 12 = .ok (.getfield 108, 3) := by decide +kernel
theorem dX16_net_15 : decode cX16_net 15 = .ok (.isub, 1) := by decide +kernel
theorem dX16_net_16 : decode cX16_net 16 = .ok (.ishl, 1) := by decide +kernel
theorem dX16_net_17 : decode cX16_net 17 = .ok (.ireturn, 1) := by decide +kernel
theorem wX16_net {x : GX} {n0 sl0 : Nat} (X : Cx x cX16_net RX16 (some .int) n0 sl0 0 0) {out : Int32 × Mm} (hE : Ends x n0 sl0 (some (pI out.1)) out.2) (hn : xn x = 2) (fu : Nat)   (a0 : Nat) (a1 : Int32)  (M : Mm) (h : fX16_net fu  a0 a1 M = some out) : Gw x M 0 [(0, pR (some a0)), (1, pI a1)] [] := by
  unfold fX16_net at h
  refine g_iload_n X (pc := 0) 1 rfl rfl dX16_net_0 ?_
  refine g_bipush X (pc := 1) (v := 32) dX16_net_1 (by decide) ?_
  refine g_aload_n X (pc := 3) 0 rfl rfl dX16_net_3 ?_
  obtain ⟨v1, ev1, h⟩ := bd h
  refine g_getI X (pc := 4) fk_16_6 rfl rfl ev1 tb_1820 dX16_net_4 ?_
  refine g_isub X (pc := 7) dX16_net_7 ?_
  refine g_ishr X (pc := 8) dX16_net_8 ?_
  refine g_bipush X (pc := 9) (v := 32) dX16_net_9 (by decide) ?_
  refine g_aload_n X (pc := 11) 0 rfl rfl dX16_net_11 ?_
  obtain ⟨v2, ev2, h⟩ := bd h
  refine g_getI X (pc := 12) fk_16_6 rfl rfl ev2 tb_1820 dX16_net_12 ?_
  refine g_isub X (pc := 15) dX16_net_15 ?_
  refine g_ishl X (pc := 16) dX16_net_16 ?_
  obtain rfl := Option.some.inj h
  exact g_ireturn X hE dX16_net_17
theorem hyX16_net : yX16_net.cls ≠ "java/lang/invoke/MethodHandle" ∧ yX16_net.cls ≠ "java/lang/invoke/VarHandle" ∧ (parseMethodDescriptor yX16_net.desc).map (fun d => d.parameters.length) = some 1 := ⟨by decide +kernel, by decide +kernel, by decide +kernel⟩
theorem ctX16_net (l : Launch) (E : Nat → Nat) (D : va_G) (dA : Nat → ClassId) (lo : Nat) (H0 : Heap) (fu : Nat) (a0 : Nat) (a1 : Int32) (M : Mm) (out : Int32 × Mm) (h : fX16_net fu a0 a1 M = some out) : Ct l E D dA lo H0 yX16_net cX16_net 2 (some .int) 0 0 [pR (some a0), pI a1] M (some (pI out.1)) out.2 := by
  refine ct_of (by decide +kernel) (Nat.le_of_ble_eq_true rfl) ?_
  intro x hl he hd ha ho hh hn hin X hE
  exact wX16_net X hE hn fu a0 a1 M h
/-! WebHostModel.isHost(I)Z -/
def fX16_isHost (fu : Nat)  (a0 : Int32)  (M : Mm) : Option (Int32 × Mm) :=
    if (ushr a0 (24 : Int32)) < (1 : Int32) then (
    rN .boolean (0 : Int32) M)
    else (
    if (223 : Int32) < (ushr a0 (24 : Int32)) then (
    rN .boolean (0 : Int32) M)
    else (
    if (ushr a0 (24 : Int32)) = (127 : Int32) then (
    rN .boolean (0 : Int32) M)
    else (
    rN .boolean (1 : Int32) M)))
theorem dX16_isHost_0 : decode cX16_isHost 0 = .ok (.iload_n 0, 1) := by decide +kernel
theorem dX16_isHost_1 : decode cX16_isHost 1 = .ok (.bipush 24, 2) := by decide +kernel
theorem dX16_isHost_3 : decode cX16_isHost 3 = .ok (.iushr, 1) := by decide +kernel
theorem dX16_isHost_4 : decode cX16_isHost 4 = .ok (.istore_n 1, 1) := by decide +kernel
theorem dX16_isHost_5 : decode cX16_isHost 5 = .ok (.iload_n 1, 1) := by decide +kernel
theorem dX16_isHost_6 : decode cX16_isHost 6 = .ok (.iconst 1, 1) := by decide +kernel
theorem dX16_isHost_7 : decode cX16_isHost 7 = .ok (.if_icmp .lt 20, 3) := by decide +kernel
theorem dX16_isHost_10 : decode cX16_isHost 10 = .ok (.iload_n 1, 1) := by decide +kernel
theorem dX16_isHost_11 : decode cX16_isHost 11 = .ok (.sipush 223, 3) := by decide +kernel
theorem dX16_isHost_14 : decode cX16_isHost 14 = .ok (.if_icmp .gt 13, 3) := by decide +kernel
theorem dX16_isHost_17 : decode cX16_isHost 17 = .ok (.iload_n 1, 1) := by decide +kernel
theorem dX16_isHost_18 : decode cX16_isHost 18 = .ok (.bipush 127, 2) := by decide +kernel
theorem dX16_isHost_20 : decode cX16_isHost 20 = .ok (.if_icmp .eq 7, 3) := by decide +kernel
theorem dX16_isHost_23 : decode cX16_isHost 23 = .ok (.iconst 1, 1) := by decide +kernel
theorem dX16_isHost_24 : decode cX16_isHost 24 = .ok (.goto 4, 3) := by decide +kernel
theorem dX16_isHost_27 : decode cX16_isHost 27 = .ok (.iconst 0, 1) := by decide +kernel
theorem dX16_isHost_28 : decode cX16_isHost 28 = .ok (.ireturn, 1) := by decide +kernel
theorem wX16_isHost {x : GX} {n0 sl0 : Nat} (X : Cx x cX16_isHost RX16 (some .boolean) n0 sl0 0 0) {out : Int32 × Mm} (hE : Ends x n0 sl0 (some (pI out.1)) out.2) (hn : xn x = 2) (fu : Nat)   (a0 : Int32)  (M : Mm) (h : fX16_isHost fu  a0 M = some out) : Gw x M 0 [(0, pI a0)] [] := by
  unfold fX16_isHost at h
  refine g_iload_n X (pc := 0) 0 rfl rfl dX16_isHost_0 ?_
  refine g_bipush X (pc := 1) (v := 24) dX16_isHost_1 (by decide) ?_
  refine g_iushr X (pc := 3) dX16_isHost_3 ?_
  refine g_istore_n X (pc := 4) [(1, pI (ushr a0 (24 : Int32))), (0, pI a0)] rfl (lt_n hn (by decide)) rfl dX16_isHost_4 ?_
  refine g_iload_n X (pc := 5) 0 rfl rfl dX16_isHost_5 ?_
  refine g_iconst X (pc := 6) (v := 1) dX16_isHost_6 (by decide) ?_
  refine g_icmp_lt X (pc := 7) (tgt := 27) dX16_isHost_7 (by decide) (fun hc => ?_) (fun hc => ?_)
  · have h := (if_pos hc).symm.trans h
    refine g_iconst X (pc := 27) (v := 0) dX16_isHost_27 (by decide) ?_
    obtain ⟨hz, rfl⟩ := rN_some h
    exact g_nreturn X rfl hz hE dX16_isHost_28
  · have h := (if_neg hc).symm.trans h
    refine g_iload_n X (pc := 10) 0 rfl rfl dX16_isHost_10 ?_
    refine g_sipush X (pc := 11) (v := 223) dX16_isHost_11 (by decide) ?_
    refine g_icmp_gt X (pc := 14) (tgt := 27) dX16_isHost_14 (by decide) (fun hc => ?_) (fun hc => ?_)
    · have h := (if_pos hc).symm.trans h
      refine g_iconst X (pc := 27) (v := 0) dX16_isHost_27 (by decide) ?_
      obtain ⟨hz, rfl⟩ := rN_some h
      exact g_nreturn X rfl hz hE dX16_isHost_28
    · have h := (if_neg hc).symm.trans h
      refine g_iload_n X (pc := 17) 0 rfl rfl dX16_isHost_17 ?_
      refine g_bipush X (pc := 18) (v := 127) dX16_isHost_18 (by decide) ?_
      refine g_icmp_eq X (pc := 20) (tgt := 27) dX16_isHost_20 (by decide) (fun hc => ?_) (fun hc => ?_)
      · have h := (if_pos hc).symm.trans h
        refine g_iconst X (pc := 27) (v := 0) dX16_isHost_27 (by decide) ?_
        obtain ⟨hz, rfl⟩ := rN_some h
        exact g_nreturn X rfl hz hE dX16_isHost_28
      · have h := (if_neg hc).symm.trans h
        refine g_iconst X (pc := 23) (v := 1) dX16_isHost_23 (by decide) ?_
        refine g_goto X (pc := 24) (tgt := 28) dX16_isHost_24 (by decide) ?_
        obtain ⟨hz, rfl⟩ := rN_some h
        exact g_nreturn X rfl hz hE dX16_isHost_28
theorem hyX16_isHost : yX16_isHost.cls ≠ "java/lang/invoke/MethodHandle" ∧ yX16_isHost.cls ≠ "java/lang/invoke/VarHandle" ∧ (parseMethodDescriptor yX16_isHost.desc).map (fun d => d.parameters.length) = some 1 := ⟨by decide +kernel, by decide +kernel, by decide +kernel⟩
theorem ctX16_isHost (l : Launch) (E : Nat → Nat) (D : va_G) (dA : Nat → ClassId) (lo : Nat) (H0 : Heap) (fu : Nat) (a0 : Int32) (M : Mm) (out : Int32 × Mm) (h : fX16_isHost fu a0 M = some out) : Ct l E D dA lo H0 yX16_isHost cX16_isHost 2 (some .boolean) 0 0 [pI a0] M (some (pI out.1)) out.2 := by
  refine ct_of (by decide +kernel) (Nat.le_of_ble_eq_true rfl) ?_
  intro x hl he hd ha ho hh hn hin X hE
  exact wX16_isHost X hE hn fu a0 M h
/-! WebHostModel.boot(IIIII)I -/
def fX16_boot_L380 (fu : Nat)  : Nat → Nat → Int32 → Int32 → Mm → Option (Int32 × Mm)
  | 0, _, _, _, _ => none
  | n + 1, a0, a7, a8, M =>
    if (4 : Int32) ≤ a8 then (
    some (a7, M))
    else (
    (gR M 16 1052 (some a0)).bind fun v1 =>
    (gB M 123 v1 a8).bind fun v2 =>
    (pZ M 13 832 v2 (0 : Int32)).bind fun M3 =>
    fX16_boot_L380 fu  n a0 a7 (a8 + (1 : Int32)) M3)
def fX16_boot_L353 (fu : Nat)  : Nat → Nat → Int32 → Int32 → Mm → Option (Int32 × Mm)
  | 0, _, _, _, _ => none
  | n + 1, a0, a7, a8, M =>
    if (8 : Int32) ≤ a8 then (
    fX16_boot_L380 fu  fu a0 a7 (0 : Int32) M)
    else (
    (gR M 16 1051 (some a0)).bind fun v1 =>
    (gB M 125 v1 a8).bind fun v2 =>
    (pZ M 15 960 v2 (0 : Int32)).bind fun M3 =>
    fX16_boot_L353 fu  n a0 a7 (a8 + (1 : Int32)) M3)
def fX16_boot_L326 (fu : Nat)  : Nat → Nat → Int32 → Int32 → Mm → Option (Int32 × Mm)
  | 0, _, _, _, _ => none
  | n + 1, a0, a7, a8, M =>
    if (16 : Int32) ≤ a8 then (
    fX16_boot_L353 fu  fu a0 a7 (0 : Int32) M)
    else (
    (gR M 16 1050 (some a0)).bind fun v1 =>
    (gB M 124 v1 a8).bind fun v2 =>
    (pZ M 14 896 v2 (0 : Int32)).bind fun M3 =>
    fX16_boot_L326 fu  n a0 a7 (a8 + (1 : Int32)) M3)
def fX16_boot_L299 (fu : Nat)  : Nat → Nat → Int32 → Int32 → Mm → Option (Int32 × Mm)
  | 0, _, _, _, _ => none
  | n + 1, a0, a7, a8, M =>
    if (16 : Int32) ≤ a8 then (
    fX16_boot_L326 fu  fu a0 a7 (0 : Int32) M)
    else (
    (gR M 16 1055 (some a0)).bind fun v1 =>
    (gB M 122 v1 a8).bind fun v2 =>
    (pF M 12 768 v2 (0 : Int32)).bind fun M3 =>
    fX16_boot_L299 fu  n a0 a7 (a8 + (1 : Int32)) M3)
def fX16_boot_L275 (fu : Nat)  : Nat → Nat → Int32 → Int32 → Mm → Option (Int32 × Mm)
  | 0, _, _, _, _ => none
  | n + 1, a0, a7, a8, M =>
    if (8 : Int32) ≤ a8 then (
    fX16_boot_L299 fu  fu a0 a7 (0 : Int32) M)
    else (
    (gR M 16 1041 (some a0)).bind fun v1 =>
    (pA M 101 v1 a8 (0 : Int32)).bind fun M2 =>
    fX16_boot_L275 fu  n a0 a7 (a8 + (1 : Int32)) M2)
def fX16_boot_L120 (fu : Nat) (k110 : Nat → Int32 → Int32 → Mm → Option (Int32 × Mm)) : Nat → Nat → Int32 → Int32 → Int32 → Mm → Option (Int32 × Mm)
  | 0, _, _, _, _, _ => none
  | n + 1, a0, a7, a8, a9, M =>
    if (48 : Int32) ≤ a9 then (
    (gR M 16 1038 (some a0)).bind fun v1 =>
    (rc M 16 (some a0)).bind fun q2 =>
    b2 (fX16_imageWord fu q2 (((8 : Int32) + ((64 : Int32) * a8)) + (48 : Int32)) M) fun v4 M3 =>
    (pA M3 101 v1 a8 (Int64.toInt32 v4)).bind fun M5 =>
    (gR M5 16 1039 (some a0)).bind fun v6 =>
    (rc M5 16 (some a0)).bind fun q7 =>
    b2 (fX16_imageWord fu q7 (((8 : Int32) + ((64 : Int32) * a8)) + (52 : Int32)) M5) fun v9 M8 =>
    (pA M8 101 v6 a8 (Int64.toInt32 v9)).bind fun M10 =>
    (gR M10 16 1040 (some a0)).bind fun v11 =>
    (rc M10 16 (some a0)).bind fun q12 =>
    b2 (fX16_imageWord fu q12 (((8 : Int32) + ((64 : Int32) * a8)) + (56 : Int32)) M10) fun v14 M13 =>
    (pA M13 101 v11 a8 (Int64.toInt32 v14)).bind fun M15 =>
    k110 a0 a7 (a8 + (1 : Int32)) M15)
    else (
    (gR M 16 1037 (some a0)).bind fun v16 =>
    (gR M 16 1026 (some a0)).bind fun v17 =>
    (gA M 100 v17 (((8 : Int32) + ((64 : Int32) * a8)) + a9)).bind fun v18 =>
    (pA M 100 v16 (((48 : Int32) * a8) + a9) (Int8.toInt32 (Int32.toInt8 v18))).bind fun M19 =>
    fX16_boot_L120 fu k110 n a0 a7 a8 (a9 + (1 : Int32)) M19)
def fX16_boot_L110 (fu : Nat)  : Nat → Nat → Int32 → Int32 → Mm → Option (Int32 × Mm)
  | 0, _, _, _, _ => none
  | n + 1, a0, a7, a8, M =>
    if a7 ≤ a8 then (
    (pZ M 16 1028 (some a0) (1 : Int32)).bind fun M1 =>
    (pF M1 16 1034 (some a0) (0 : Int32)).bind fun M2 =>
    (pF M2 16 1047 (some a0) (0 : Int32)).bind fun M3 =>
    (pF M3 16 1048 (some a0) (0 : Int32)).bind fun M4 =>
    (pF M4 16 1036 (some a0) (0 : Int32)).bind fun M5 =>
    (pF M5 16 1042 (some a0) (0 : Int32)).bind fun M6 =>
    (pF M6 16 1049 (some a0) (0 : Int32)).bind fun M7 =>
    fX16_boot_L275 fu  fu a0 a7 (0 : Int32) M7)
    else (
    fX16_boot_L120 fu (fun b0 b7 b8 M => fX16_boot_L110 fu  n b0 b7 b8 M) fu a0 a7 a8 (0 : Int32) M)
def fX16_boot (fu : Nat)  (a0 : Nat) (a1 : Int32) (a2 : Int32) (a3 : Int32) (a4 : Int32) (a5 : Int32)  (M : Mm) : Option (Int32 × Mm) :=
    if a2 < (8 : Int32) then (
    some ((-1 : Int32), M))
    else (
    if (30 : Int32) < a2 then (
    some ((-1 : Int32), M))
    else (
    b2 (fX16_isHost fu  a1 M) fun v2 M1 =>
    if v2 = 0 then (
    some ((-1 : Int32), M1))
    else (
    if (a3 >>> (((32 : Int32) - a2) &&& 31)) = (a1 >>> (((32 : Int32) - a2) &&& 31)) then (
    if a3 = a1 then (
    some ((-2 : Int32), M1))
    else (
    if ((a4 >>> ((8 : Int32) &&& 31)) &&& (1 : Int32)) = (1 : Int32) then (
    some ((-2 : Int32), M1))
    else (
    (rc M1 16 (some a0)).bind fun q3 =>
    b2 (fX16_files fu q3  M1) fun v5 M4 =>
    if 0 ≤ v5 then (
    (pF M4 16 1029 (some a0) a1).bind fun M6 =>
    (pF M6 16 1030 (some a0) a2).bind fun M7 =>
    (pF M7 16 1031 (some a0) a3).bind fun M8 =>
    (pF M8 16 1032 (some a0) (a4 &&& (65535 : Int32))).bind fun M9 =>
    (pF M9 16 1033 (some a0) a5).bind fun M10 =>
    (pF M10 16 1035 (some a0) v5).bind fun M11 =>
    fX16_boot_L110 fu  fu a0 v5 (0 : Int32) M11)
    else (
    some ((-3 : Int32), M4)))))
    else (
    some ((-2 : Int32), M1)))))
theorem dX16_boot_0 : decode cX16_boot 0 = .ok (.iload_n 2, 1) := by decide +kernel
theorem dX16_boot_1 : decode cX16_boot 1 = .ok (.bipush 8, 2) := by decide +kernel
theorem dX16_boot_3 : decode cX16_boot 3 = .ok (.if_icmp .lt 16, 3) := by decide +kernel
theorem dX16_boot_6 : decode cX16_boot 6 = .ok (.iload_n 2, 1) := by decide +kernel
theorem dX16_boot_7 : decode cX16_boot 7 = .ok (.bipush 30, 2) := by decide +kernel
theorem dX16_boot_9 : decode cX16_boot 9 = .ok (.if_icmp .gt 10, 3) := by decide +kernel
theorem dX16_boot_12 : decode cX16_boot 12 = .ok (.iload_n 1, 1) := by decide +kernel
theorem dX16_boot_13 : decode cX16_boot 13 = .ok (.invokestatic 111, 3) := by decide +kernel
theorem dX16_boot_16 : decode cX16_boot 16 = .ok (.ifCond .ne 5, 3) := by decide +kernel
theorem dX16_boot_19 : decode cX16_boot 19 = .ok (.iconst (-1), 1) := by decide +kernel
theorem dX16_boot_20 : decode cX16_boot 20 = .ok (.ireturn, 1) := by decide +kernel
theorem dX16_boot_21 : decode cX16_boot 21 = .ok (.bipush 32, 2) := by decide +kernel
theorem dX16_boot_23 : decode cX16_boot 23 = .ok (.iload_n 2, 1) := by decide +kernel
theorem dX16_boot_24 : decode cX16_boot 24 = .ok (.isub, 1) := by decide +kernel
theorem dX16_boot_25 : decode cX16_boot 25 = .ok (.istore 6, 2) := by decide +kernel
theorem dX16_boot_27 : decode cX16_boot 27 = .ok (.iload_n 3, 1) := by decide +kernel
theorem dX16_boot_28 : decode cX16_boot 28 = .ok (.iload 6, 2) := by decide +kernel
theorem dX16_boot_30 : decode cX16_boot 30 = .ok (.ishr, 1) := by decide +kernel
theorem dX16_boot_31 : decode cX16_boot 31 = .ok (.iload_n 1, 1) := by decide +kernel
theorem dX16_boot_32 : decode cX16_boot 32 = .ok (.iload 6, 2) := by decide +kernel
theorem dX16_boot_34 : decode cX16_boot 34 = .ok (.ishr, 1) := by decide +kernel
theorem dX16_boot_35 : decode cX16_boot 35 = .ok (.if_icmp .ne 19, 3) := by decide +kernel
theorem dX16_boot_38 : decode cX16_boot 38 = .ok (.iload_n 3, 1) := by decide +kernel
theorem dX16_boot_39 : decode cX16_boot 39 = .ok (.iload_n 1, 1) := by decide +kernel
theorem dX16_boot_40 : decode cX16_boot 40 = .ok (.if_icmp .eq 14, 3) := by decide +kernel
theorem dX16_boot_43 : decode cX16_boot 43 = .ok (.iload 4, 2) := by decide +kernel
theorem dX16_boot_45 : decode cX16_boot 45 = .ok (.bipush 8, 2) := by decide +kernel
theorem dX16_boot_47 : decode cX16_boot 47 = .ok (.ishr, 1) := by decide +kernel
theorem dX16_boot_48 : decode cX16_boot 48 = .ok (.iconst 1, 1) := by decide +kernel
theorem dX16_boot_49 : decode cX16_boot 49 = .ok (.iand, 1) := by decide +kernel
theorem dX16_boot_50 : decode cX16_boot 50 = .ok (.iconst 1, 1) := by decide +kernel
theorem dX16_boot_51 : decode cX16_boot 51 = .ok (.if_icmp .ne 6, 3) := by decide +kernel
theorem dX16_boot_54 : decode cX16_boot 54 = .ok (.bipush (-2), 2) := by decide +kernel
theorem dX16_boot_56 : decode cX16_boot 56 = .ok (.ireturn, 1) := by decide +kernel
theorem dX16_boot_57 : decode cX16_boot 57 = .ok (.aload_n 0, 1) := by decide +kernel
theorem dX16_boot_58 : decode cX16_boot 58 = .ok (.invokevirtual 115, 3) := by decide +kernel
theorem dX16_boot_61 : decode cX16_boot 61 = .ok (.istore 7, 2) := by decide +kernel
theorem dX16_boot_63 : decode cX16_boot 63 = .ok (.iload 7, 2) := by decide +kernel
theorem dX16_boot_65 : decode cX16_boot 65 = .ok (.ifCond .ge 6, 3) := by decide +kernel
theorem dX16_boot_68 : decode cX16_boot 68 = .ok (.bipush (-3), 2) := by decide +kernel
theorem dX16_boot_70 : decode cX16_boot 70 = .ok (.ireturn, 1) := by decide +kernel
theorem dX16_boot_71 : decode cX16_boot 71 = .ok (.aload_n 0, 1) := by decide +kernel
theorem dX16_boot_72 : decode cX16_boot 72 = .ok (.iload_n 1, 1) := by decide +kernel
theorem dX16_boot_73 : decode cX16_boot 73 = .ok (.putfield 119, 3) := by decide +kernel
theorem dX16_boot_76 : decode cX16_boot 76 = .ok (.aload_n 0, 1) := by decide +kernel
theorem dX16_boot_77 : decode cX16_boot 77 = .ok (.iload_n 2, 1) := by decide +kernel
theorem dX16_boot_78 : decode cX16_boot 78 = .ok (.putfield 108, 3) := by decide +kernel
theorem dX16_boot_81 : decode cX16_boot 81 = .ok (.aload_n 0, 1) := by decide +kernel
theorem dX16_boot_82 : decode cX16_boot 82 = .ok (.iload_n 3, 1) := by decide +kernel
theorem dX16_boot_83 : decode cX16_boot 83 = .ok (.putfield 122, 3) := by decide +kernel
theorem dX16_boot_86 : decode cX16_boot 86 = .ok (.aload_n 0, 1) := by decide +kernel
theorem dX16_boot_87 : decode cX16_boot 87 = .ok (.iload 4, 2) := by decide +kernel
theorem dX16_boot_89 : decode cX16_boot 89 = .ok (.ldc 14, 2) := by decide +kernel
theorem dX16_boot_91 : decode cX16_boot 91 = .ok (.iand, 1) := by decide +kernel
theorem dX16_boot_92 : decode cX16_boot 92 = .ok (.putfield 125, 3) := by decide +kernel
theorem dX16_boot_95 : decode cX16_boot 95 = .ok (.aload_n 0, 1) := by decide +kernel
theorem dX16_boot_96 : decode cX16_boot 96 = .ok (.iload 5, 2) := by decide +kernel
theorem dX16_boot_98 : decode cX16_boot 98 = .ok (.putfield 128, 3) := by decide +kernel
theorem dX16_boot_101 : decode cX16_boot 101 = .ok (.aload_n 0, 1) := by decide +kernel
theorem dX16_boot_102 : decode cX16_boot 102 = .ok (.iload 7, 2) := by decide +kernel
theorem dX16_boot_104 : decode cX16_boot 104 = .ok (.putfield 131, 3) := by decide +kernel
theorem dX16_boot_107 : decode cX16_boot 107 = .ok (.iconst 0, 1) := by decide +kernel
theorem dX16_boot_108 : decode cX16_boot 108 = .ok (.istore 8, 2) := by decide +kernel
theorem dX16_boot_110 : decode cX16_boot 110 = .ok (.iload 8, 2) := by decide +kernel
theorem dX16_boot_112 : decode cX16_boot 112 = .ok (.iload 7, 2) := by decide +kernel
theorem dX16_boot_114 : decode cX16_boot 114 = .ok (.if_icmp .ge 123, 3) := by decide +kernel
theorem dX16_boot_117 : decode cX16_boot 117 = .ok (.iconst 0, 1) := by decide +kernel
theorem dX16_boot_118 : decode cX16_boot 118 = .ok (.istore 9, 2) := by decide +kernel
theorem dX16_boot_120 : decode cX16_boot 120 = .ok (.iload 9, 2) := by decide +kernel
theorem dX16_boot_122 : decode cX16_boot 122 = .ok (.bipush 48, 2) := by decide +kernel
theorem dX16_boot_124 : decode cX16_boot 124 = .ok (.if_icmp .ge 38, 3) := by decide +kernel
theorem dX16_boot_127 : decode cX16_boot 127 = .ok (.aload_n 0, 1) := by decide +kernel
theorem dX16_boot_128 : decode cX16_boot 128 = .ok (.getfield 18, 3) := by decide +kernel
theorem dX16_boot_131 : decode cX16_boot 131 = .ok (.bipush 48, 2) := by decide +kernel
theorem dX16_boot_133 : decode cX16_boot 133 = .ok (.iload 8, 2) := by decide +kernel
theorem dX16_boot_135 : decode cX16_boot 135 = .ok (.imul, 1) := by decide +kernel
theorem dX16_boot_136 : decode cX16_boot 136 = .ok (.iload 9, 2) := by decide +kernel
theorem dX16_boot_138 : decode cX16_boot 138 = .ok (.iadd, 1) := by decide +kernel
theorem dX16_boot_139 : decode cX16_boot 139 = .ok (.aload_n 0, 1) := by decide +kernel
theorem dX16_boot_140 : decode cX16_boot 140 = .ok (.getfield 15, 3) := by decide +kernel
theorem dX16_boot_143 : decode cX16_boot 143 = .ok (.bipush 8, 2) := by decide +kernel
theorem dX16_boot_145 : decode cX16_boot 145 = .ok (.bipush 64, 2) := by decide +kernel
theorem dX16_boot_147 : decode cX16_boot 147 = .ok (.iload 8, 2) := by decide +kernel
theorem dX16_boot_149 : decode cX16_boot 149 = .ok (.imul, 1) := by decide +kernel
theorem dX16_boot_150 : decode cX16_boot 150 = .ok (.iadd, 1) := by decide +kernel
theorem dX16_boot_151 : decode cX16_boot 151 = .ok (.iload 9, 2) := by decide +kernel
theorem dX16_boot_153 : decode cX16_boot 153 = .ok (.iadd, 1) := by decide +kernel
theorem dX16_boot_154 : decode cX16_boot 154 = .ok (.baload, 1) := by decide +kernel
theorem dX16_boot_155 : decode cX16_boot 155 = .ok (.bastore, 1) := by decide +kernel
theorem dX16_boot_156 : decode cX16_boot 156 = .ok (.iinc 9 1, 3) := by decide +kernel
theorem dX16_boot_159 : decode cX16_boot 159 = .ok (.goto (-39), 3) := by decide +kernel
theorem dX16_boot_162 : decode cX16_boot 162 = .ok (.aload_n 0, 1) := by decide +kernel
theorem dX16_boot_163 : decode cX16_boot 163 = .ok (.getfield 21, 3) := by decide +kernel
theorem dX16_boot_166 : decode cX16_boot 166 = .ok (.iload 8, 2) := by decide +kernel
theorem dX16_boot_168 : decode cX16_boot 168 = .ok (.aload_n 0, 1) := by decide +kernel
theorem dX16_boot_169 : decode cX16_boot 169 = .ok (.bipush 8, 2) := by decide +kernel
theorem dX16_boot_171 : decode cX16_boot 171 = .ok (.bipush 64, 2) := by decide +kernel
theorem dX16_boot_173 : decode cX16_boot 173 = .ok (.iload 8, 2) := by decide +kernel
theorem dX16_boot_175 : decode cX16_boot 175 = .ok (.imul, 1) := by decide +kernel
theorem dX16_boot_176 : decode cX16_boot 176 = .ok (.iadd, 1) := by decide +kernel
theorem dX16_boot_177 : decode cX16_boot 177 = .ok (.bipush 48, 2) := by decide +kernel
theorem dX16_boot_179 : decode cX16_boot 179 = .ok (.iadd, 1) := by decide +kernel
theorem dX16_boot_180 : decode cX16_boot 180 = .ok (.invokevirtual 104, 3) := by decide +kernel
theorem dX16_boot_183 : decode cX16_boot 183 = .ok (.l2i, 1) := by decide +kernel
theorem dX16_boot_184 : decode cX16_boot 184 = .ok (.iastore, 1) := by decide +kernel
theorem dX16_boot_185 : decode cX16_boot 185 = .ok (.aload_n 0, 1) := by decide +kernel
theorem dX16_boot_186 : decode cX16_boot 186 = .ok (.getfield 25, 3) := by decide +kernel
theorem dX16_boot_189 : decode cX16_boot 189 = .ok (.iload 8, 2) := by decide +kernel
theorem dX16_boot_191 : decode cX16_boot 191 = .ok (.aload_n 0, 1) := by decide +kernel
theorem dX16_boot_192 : decode cX16_boot 192 = .ok (.bipush 8, 2) := by decide +kernel
theorem dX16_boot_194 : decode cX16_boot 194 = .ok (.bipush 64, 2) := by decide +kernel
theorem dX16_boot_196 : decode cX16_boot 196 = .ok (.iload 8, 2) := by decide +kernel
theorem dX16_boot_198 : decode cX16_boot 198 = .ok (.imul, 1) := by decide +kernel
theorem dX16_boot_199 : decode cX16_boot 199 = .ok (.iadd, 1) := by decide +kernel
theorem dX16_boot_200 : decode cX16_boot 200 = .ok (.bipush 52, 2) := by decide +kernel
theorem dX16_boot_202 : decode cX16_boot 202 = .ok (.iadd, 1) := by decide +kernel
theorem dX16_boot_203 : decode cX16_boot 203 = .ok (.invokevirtual 104, 3) := by decide +kernel
theorem dX16_boot_206 : decode cX16_boot 206 = .ok (.l2i, 1) := by decide +kernel
theorem dX16_boot_207 : decode cX16_boot 207 = .ok (.iastore, 1) := by decide +kernel
theorem dX16_boot_208 : decode cX16_boot 208 = .ok (.aload_n 0, 1) := by decide +kernel
theorem dX16_boot_209 : decode cX16_boot 209 = .ok (.getfield 28, 3) := by decide +kernel
theorem dX16_boot_212 : decode cX16_boot 212 = .ok (.iload 8, 2) := by decide +kernel
theorem dX16_boot_214 : decode cX16_boot 214 = .ok (.aload_n 0, 1) := by decide +kernel
theorem dX16_boot_215 : decode cX16_boot 215 = .ok (.bipush 8, 2) := by decide +kernel
theorem dX16_boot_217 : decode cX16_boot 217 = .ok (.bipush 64, 2) := by decide +kernel
theorem dX16_boot_219 : decode cX16_boot 219 = .ok (.iload 8, 2) := by decide +kernel
theorem dX16_boot_221 : decode cX16_boot 221 = .ok (.imul, 1) := by decide +kernel
theorem dX16_boot_222 : decode cX16_boot 222 = .ok (.iadd, 1) := by decide +kernel
theorem dX16_boot_223 : decode cX16_boot 223 = .ok (.bipush 56, 2) := by decide +kernel
theorem dX16_boot_225 : decode cX16_boot 225 = .ok (.iadd, 1) := by decide +kernel
theorem dX16_boot_226 : decode cX16_boot 226 = .ok (.invokevirtual 104, 3) := by decide +kernel
theorem dX16_boot_229 : decode cX16_boot 229 = .ok (.l2i, 1) := by decide +kernel
theorem dX16_boot_230 : decode cX16_boot 230 = .ok (.iastore, 1) := by decide +kernel
theorem dX16_boot_231 : decode cX16_boot 231 = .ok (.iinc 8 1, 3) := by decide +kernel
theorem dX16_boot_234 : decode cX16_boot 234 = .ok (.goto (-124), 3) := by decide +kernel
theorem dX16_boot_237 : decode cX16_boot 237 = .ok (.aload_n 0, 1) := by decide +kernel
theorem dX16_boot_238 : decode cX16_boot 238 = .ok (.iconst 1, 1) := by decide +kernel
theorem dX16_boot_239 : decode cX16_boot 239 = .ok (.putfield 95, 3) := by decide +kernel
theorem dX16_boot_242 : decode cX16_boot 242 = .ok (.aload_n 0, 1) := by decide +kernel
theorem dX16_boot_243 : decode cX16_boot 243 = .ok (.iconst 0, 1) := by decide +kernel
theorem dX16_boot_244 : decode cX16_boot 244 = .ok (.putfield 134, 3) := by decide +kernel
theorem dX16_boot_247 : decode cX16_boot 247 = .ok (.aload_n 0, 1) := by decide +kernel
theorem dX16_boot_248 : decode cX16_boot 248 = .ok (.iconst 0, 1) := by decide +kernel
theorem dX16_boot_249 : decode cX16_boot 249 = .ok (.putfield 137, 3) := by decide +kernel
theorem dX16_boot_252 : decode cX16_boot 252 = .ok (.aload_n 0, 1) := by decide +kernel
theorem dX16_boot_253 : decode cX16_boot 253 = .ok (.iconst 0, 1) := by decide +kernel
theorem dX16_boot_254 : decode cX16_boot 254 = .ok (.putfield 140, 3) := by decide +kernel
theorem dX16_boot_257 : decode cX16_boot 257 = .ok (.aload_n 0, 1) := by decide +kernel
theorem dX16_boot_258 : decode cX16_boot 258 = .ok (.iconst 0, 1) := by decide +kernel
theorem dX16_boot_259 : decode cX16_boot 259 = .ok (.putfield 143, 3) := by decide +kernel
theorem dX16_boot_262 : decode cX16_boot 262 = .ok (.aload_n 0, 1) := by decide +kernel
theorem dX16_boot_263 : decode cX16_boot 263 = .ok (.iconst 0, 1) := by decide +kernel
theorem dX16_boot_264 : decode cX16_boot 264 = .ok (.putfield 146, 3) := by decide +kernel
theorem dX16_boot_267 : decode cX16_boot 267 = .ok (.aload_n 0, 1) := by decide +kernel
theorem dX16_boot_268 : decode cX16_boot 268 = .ok (.iconst 0, 1) := by decide +kernel
theorem dX16_boot_269 : decode cX16_boot 269 = .ok (.putfield 149, 3) := by decide +kernel
theorem dX16_boot_272 : decode cX16_boot 272 = .ok (.iconst 0, 1) := by decide +kernel
theorem dX16_boot_273 : decode cX16_boot 273 = .ok (.istore 8, 2) := by decide +kernel
theorem dX16_boot_275 : decode cX16_boot 275 = .ok (.iload 8, 2) := by decide +kernel
theorem dX16_boot_277 : decode cX16_boot 277 = .ok (.bipush 8, 2) := by decide +kernel
theorem dX16_boot_279 : decode cX16_boot 279 = .ok (.if_icmp .ge 17, 3) := by decide +kernel
theorem dX16_boot_282 : decode cX16_boot 282 = .ok (.aload_n 0, 1) := by decide +kernel
theorem dX16_boot_283 : decode cX16_boot 283 = .ok (.getfield 31, 3) := by decide +kernel
theorem dX16_boot_286 : decode cX16_boot 286 = .ok (.iload 8, 2) := by decide +kernel
theorem dX16_boot_288 : decode cX16_boot 288 = .ok (.iconst 0, 1) := by decide +kernel
theorem dX16_boot_289 : decode cX16_boot 289 = .ok (.iastore, 1) := by decide +kernel
theorem dX16_boot_290 : decode cX16_boot 290 = .ok (.iinc 8 1, 3) := by decide +kernel
theorem dX16_boot_293 : decode cX16_boot 293 = .ok (.goto (-18), 3) := by decide +kernel
theorem dX16_boot_296 : decode cX16_boot 296 = .ok (.iconst 0, 1) := by decide +kernel
theorem dX16_boot_297 : decode cX16_boot 297 = .ok (.istore 8, 2) := by decide +kernel
theorem dX16_boot_299 : decode cX16_boot 299 = .ok (.iload 8, 2) := by decide +kernel
theorem dX16_boot_301 : decode cX16_boot 301 = .ok (.bipush 16, 2) := by decide +kernel
theorem dX16_boot_303 : decode cX16_boot 303 = .ok (.if_icmp .ge 20, 3) := by decide +kernel
theorem dX16_boot_306 : decode cX16_boot 306 = .ok (.aload_n 0, 1) := by decide +kernel
theorem dX16_boot_307 : decode cX16_boot 307 = .ok (.getfield 70, 3) := by decide +kernel
theorem dX16_boot_310 : decode cX16_boot 310 = .ok (.iload 8, 2) := by decide +kernel
theorem dX16_boot_312 : decode cX16_boot 312 = .ok (.aaload, 1) := by decide +kernel
theorem dX16_boot_313 : decode cX16_boot 313 = .ok (.iconst 0, 1) := by decide +kernel
theorem dX16_boot_314 : decode cX16_boot 314 = .ok (.putfield 152, 3) := by decide +kernel
theorem dX16_boot_317 : decode cX16_boot 317 = .ok (.iinc 8 1, 3) := by decide +kernel
theorem dX16_boot_320 : decode cX16_boot 320 = .ok (.goto (-21), 3) := by decide +kernel
theorem dX16_boot_323 : decode cX16_boot 323 = .ok (.iconst 0, 1) := by decide +kernel
theorem dX16_boot_324 : decode cX16_boot 324 = .ok (.istore 8, 2) := by decide +kernel
theorem dX16_boot_326 : decode cX16_boot 326 = .ok (.iload 8, 2) := by decide +kernel
theorem dX16_boot_328 : decode cX16_boot 328 = .ok (.bipush 16, 2) := by decide +kernel
theorem dX16_boot_330 : decode cX16_boot 330 = .ok (.if_icmp .ge 20, 3) := by decide +kernel
theorem dX16_boot_333 : decode cX16_boot 333 = .ok (.aload_n 0, 1) := by decide +kernel
theorem dX16_boot_334 : decode cX16_boot 334 = .ok (.getfield 49, 3) := by decide +kernel
theorem dX16_boot_337 : decode cX16_boot 337 = .ok (.iload 8, 2) := by decide +kernel
theorem dX16_boot_339 : decode cX16_boot 339 = .ok (.aaload, 1) := by decide +kernel
theorem dX16_boot_340 : decode cX16_boot 340 = .ok (.iconst 0, 1) := by decide +kernel
theorem dX16_boot_341 : decode cX16_boot 341 = .ok (.putfield 155, 3) := by decide +kernel
theorem dX16_boot_344 : decode cX16_boot 344 = .ok (.iinc 8 1, 3) := by decide +kernel
theorem dX16_boot_347 : decode cX16_boot 347 = .ok (.goto (-21), 3) := by decide +kernel
theorem dX16_boot_350 : decode cX16_boot 350 = .ok (.iconst 0, 1) := by decide +kernel
theorem dX16_boot_351 : decode cX16_boot 351 = .ok (.istore 8, 2) := by decide +kernel
theorem dX16_boot_353 : decode cX16_boot 353 = .ok (.iload 8, 2) := by decide +kernel
theorem dX16_boot_355 : decode cX16_boot 355 = .ok (.bipush 8, 2) := by decide +kernel
theorem dX16_boot_357 : decode cX16_boot 357 = .ok (.if_icmp .ge 20, 3) := by decide +kernel
theorem dX16_boot_360 : decode cX16_boot 360 = .ok (.aload_n 0, 1) := by decide +kernel
theorem dX16_boot_361 : decode cX16_boot 361 = .ok (.getfield 55, 3) := by decide +kernel
theorem dX16_boot_364 : decode cX16_boot 364 = .ok (.iload 8, 2) := by decide +kernel
theorem dX16_boot_366 : decode cX16_boot 366 = .ok (.aaload, 1) := by decide +kernel
theorem dX16_boot_367 : decode cX16_boot 367 = .ok (.iconst 0, 1) := by decide +kernel
theorem dX16_boot_368 : decode cX16_boot 368 = .ok (.putfield 158, 3) := by decide +kernel
theorem dX16_boot_371 : decode cX16_boot 371 = .ok (.iinc 8 1, 3) := by decide +kernel
theorem dX16_boot_374 : decode cX16_boot 374 = .ok (.goto (-21), 3) := by decide +kernel
theorem dX16_boot_377 : decode cX16_boot 377 = .ok (.iconst 0, 1) := by decide +kernel
theorem dX16_boot_378 : decode cX16_boot 378 = .ok (.istore 8, 2) := by decide +kernel
theorem dX16_boot_380 : decode cX16_boot 380 = .ok (.iload 8, 2) := by decide +kernel
theorem dX16_boot_382 : decode cX16_boot 382 = .ok (.iconst 4, 1) := by decide +kernel
theorem dX16_boot_383 : decode cX16_boot 383 = .ok (.if_icmp .ge 20, 3) := by decide +kernel
theorem dX16_boot_386 : decode cX16_boot 386 = .ok (.aload_n 0, 1) := by decide +kernel
theorem dX16_boot_387 : decode cX16_boot 387 = .ok (.getfield 61, 3) := by decide +kernel
theorem dX16_boot_390 : decode cX16_boot 390 = .ok (.iload 8, 2) := by decide +kernel
theorem dX16_boot_392 : decode cX16_boot 392 = .ok (.aaload, 1) := by decide +kernel
theorem dX16_boot_393 : decode cX16_boot 393 = .ok (.iconst 0, 1) := by decide +kernel
theorem dX16_boot_394 : decode cX16_boot 394 = .ok (.putfield 159, 3) := by decide +kernel
theorem dX16_boot_397 : decode cX16_boot 397 = .ok (.iinc 8 1, 3) := by decide +kernel
theorem dX16_boot_400 : decode cX16_boot 400 = .ok (.goto (-20), 3) := by decide +kernel
theorem dX16_boot_403 : decode cX16_boot 403 = .ok (.iload 7, 2) := by decide +kernel
theorem dX16_boot_405 : decode cX16_boot 405 = .ok (.ireturn, 1) := by decide +kernel
theorem wX16_boot_L380 {x : GX} {n0 sl0 : Nat} (X : Cx x cX16_boot RX16 (some .int) n0 sl0 2 52) {out : Int32 × Mm} (hE : Ends x n0 sl0 (some (pI out.1)) out.2) (hn : xn x = 10) (fu : Nat)   : ∀ (n : Nat) (a0 : Nat) (a7 : Int32) (a8 : Int32)  (M : Mm), fX16_boot_L380 fu  n a0 a7 a8 M = some out → Gw x M 380 [(0, pR (some a0)), (7, pI a7), (8, pI a8)] [] := by
  intro n
  induction n with
  | zero =>
    intro a0 a7 a8 M h
    have h : (none : Option (Int32 × Mm)) = some out := h
    cases h
  | succ n ih =>
    intro a0 a7 a8 M h
    rw [fX16_boot_L380] at h
    refine g_iload X (pc := 380) 2 rfl dX16_boot_380 ?_
    refine g_iconst X (pc := 382) (v := 4) dX16_boot_382 (by decide) ?_
    refine g_icmp_ge X (pc := 383) (tgt := 403) dX16_boot_383 (by decide) (fun hc => ?_) (fun hc => ?_)
    · have h := (if_pos hc).symm.trans h
      refine g_iload X (pc := 403) 1 rfl dX16_boot_403 ?_
      obtain rfl := Option.some.inj h
      exact g_ireturn X hE dX16_boot_405
    · have h := (if_neg hc).symm.trans h
      refine g_aload_n X (pc := 386) 0 rfl rfl dX16_boot_386 ?_
      obtain ⟨v1, ev1, h⟩ := bd h
      refine g_getR X (pc := 387) fk_16_28 rfl rfl ev1 tb_1842 dX16_boot_387 ?_
      refine g_iload X (pc := 390) 2 rfl dX16_boot_390 ?_
      obtain ⟨v2, ev2, h⟩ := bd h
      refine g_aaload X (pc := 392) (k := 8) rfl rfl (by decide) ev2 dX16_boot_392 ?_
      refine g_iconst X (pc := 393) (v := 0) dX16_boot_393 (by decide) ?_
      obtain ⟨M3, eM3, h⟩ := bd h
      refine g_putZ X (pc := 394) fk_13_0 rfl rfl rfl eM3 tb_1784 (Or.inl rfl) dX16_boot_394 ?_
      refine g_iinc X (pc := 397) 2 [(8, pI (a8 + (1 : Int32))), (0, pR (some a0)), (7, pI a7)] rfl (iinc_e (by decide)) (lt_n hn (by decide)) rfl dX16_boot_397 ?_
      refine g_goto X (pc := 400) (tgt := 380) dX16_boot_400 (by decide) ?_
      refine g_sub [1, 2, 0] [(0, pR (some a0)), (7, pI a7), (8, pI (a8 + (1 : Int32)))] rfl ?_
      exact ih a0 a7 (a8 + (1 : Int32)) M3 h
theorem wX16_boot_L353 {x : GX} {n0 sl0 : Nat} (X : Cx x cX16_boot RX16 (some .int) n0 sl0 2 52) {out : Int32 × Mm} (hE : Ends x n0 sl0 (some (pI out.1)) out.2) (hn : xn x = 10) (fu : Nat)   : ∀ (n : Nat) (a0 : Nat) (a7 : Int32) (a8 : Int32)  (M : Mm), fX16_boot_L353 fu  n a0 a7 a8 M = some out → Gw x M 353 [(0, pR (some a0)), (7, pI a7), (8, pI a8)] [] := by
  intro n
  induction n with
  | zero =>
    intro a0 a7 a8 M h
    have h : (none : Option (Int32 × Mm)) = some out := h
    cases h
  | succ n ih =>
    intro a0 a7 a8 M h
    rw [fX16_boot_L353] at h
    refine g_iload X (pc := 353) 2 rfl dX16_boot_353 ?_
    refine g_bipush X (pc := 355) (v := 8) dX16_boot_355 (by decide) ?_
    refine g_icmp_ge X (pc := 357) (tgt := 377) dX16_boot_357 (by decide) (fun hc => ?_) (fun hc => ?_)
    · have h := (if_pos hc).symm.trans h
      refine g_iconst X (pc := 377) (v := 0) dX16_boot_377 (by decide) ?_
      refine g_istore X (pc := 378) [(8, pI (0 : Int32)), (0, pR (some a0)), (7, pI a7)] (lt_n hn (by decide)) rfl dX16_boot_378 ?_
      refine g_sub [1, 2, 0] [(0, pR (some a0)), (7, pI a7), (8, pI (0 : Int32))] rfl ?_
      exact wX16_boot_L380 X hE hn fu   fu a0 a7 (0 : Int32) M h
    · have h := (if_neg hc).symm.trans h
      refine g_aload_n X (pc := 360) 0 rfl rfl dX16_boot_360 ?_
      obtain ⟨v1, ev1, h⟩ := bd h
      refine g_getR X (pc := 361) fk_16_27 rfl rfl ev1 tb_1841 dX16_boot_361 ?_
      refine g_iload X (pc := 364) 2 rfl dX16_boot_364 ?_
      obtain ⟨v2, ev2, h⟩ := bd h
      refine g_aaload X (pc := 366) (k := 7) rfl rfl (by decide) ev2 dX16_boot_366 ?_
      refine g_iconst X (pc := 367) (v := 0) dX16_boot_367 (by decide) ?_
      obtain ⟨M3, eM3, h⟩ := bd h
      refine g_putZ X (pc := 368) fk_15_0 rfl rfl rfl eM3 tb_1756 (Or.inl rfl) dX16_boot_368 ?_
      refine g_iinc X (pc := 371) 2 [(8, pI (a8 + (1 : Int32))), (0, pR (some a0)), (7, pI a7)] rfl (iinc_e (by decide)) (lt_n hn (by decide)) rfl dX16_boot_371 ?_
      refine g_goto X (pc := 374) (tgt := 353) dX16_boot_374 (by decide) ?_
      refine g_sub [1, 2, 0] [(0, pR (some a0)), (7, pI a7), (8, pI (a8 + (1 : Int32)))] rfl ?_
      exact ih a0 a7 (a8 + (1 : Int32)) M3 h
theorem wX16_boot_L326 {x : GX} {n0 sl0 : Nat} (X : Cx x cX16_boot RX16 (some .int) n0 sl0 2 52) {out : Int32 × Mm} (hE : Ends x n0 sl0 (some (pI out.1)) out.2) (hn : xn x = 10) (fu : Nat)   : ∀ (n : Nat) (a0 : Nat) (a7 : Int32) (a8 : Int32)  (M : Mm), fX16_boot_L326 fu  n a0 a7 a8 M = some out → Gw x M 326 [(0, pR (some a0)), (7, pI a7), (8, pI a8)] [] := by
  intro n
  induction n with
  | zero =>
    intro a0 a7 a8 M h
    have h : (none : Option (Int32 × Mm)) = some out := h
    cases h
  | succ n ih =>
    intro a0 a7 a8 M h
    rw [fX16_boot_L326] at h
    refine g_iload X (pc := 326) 2 rfl dX16_boot_326 ?_
    refine g_bipush X (pc := 328) (v := 16) dX16_boot_328 (by decide) ?_
    refine g_icmp_ge X (pc := 330) (tgt := 350) dX16_boot_330 (by decide) (fun hc => ?_) (fun hc => ?_)
    · have h := (if_pos hc).symm.trans h
      refine g_iconst X (pc := 350) (v := 0) dX16_boot_350 (by decide) ?_
      refine g_istore X (pc := 351) [(8, pI (0 : Int32)), (0, pR (some a0)), (7, pI a7)] (lt_n hn (by decide)) rfl dX16_boot_351 ?_
      refine g_sub [1, 2, 0] [(0, pR (some a0)), (7, pI a7), (8, pI (0 : Int32))] rfl ?_
      exact wX16_boot_L353 X hE hn fu   fu a0 a7 (0 : Int32) M h
    · have h := (if_neg hc).symm.trans h
      refine g_aload_n X (pc := 333) 0 rfl rfl dX16_boot_333 ?_
      obtain ⟨v1, ev1, h⟩ := bd h
      refine g_getR X (pc := 334) fk_16_26 rfl rfl ev1 tb_1840 dX16_boot_334 ?_
      refine g_iload X (pc := 337) 2 rfl dX16_boot_337 ?_
      obtain ⟨v2, ev2, h⟩ := bd h
      refine g_aaload X (pc := 339) (k := 6) rfl rfl (by decide) ev2 dX16_boot_339 ?_
      refine g_iconst X (pc := 340) (v := 0) dX16_boot_340 (by decide) ?_
      obtain ⟨M3, eM3, h⟩ := bd h
      refine g_putZ X (pc := 341) fk_14_0 rfl rfl rfl eM3 tb_1735 (Or.inl rfl) dX16_boot_341 ?_
      refine g_iinc X (pc := 344) 2 [(8, pI (a8 + (1 : Int32))), (0, pR (some a0)), (7, pI a7)] rfl (iinc_e (by decide)) (lt_n hn (by decide)) rfl dX16_boot_344 ?_
      refine g_goto X (pc := 347) (tgt := 326) dX16_boot_347 (by decide) ?_
      refine g_sub [1, 2, 0] [(0, pR (some a0)), (7, pI a7), (8, pI (a8 + (1 : Int32)))] rfl ?_
      exact ih a0 a7 (a8 + (1 : Int32)) M3 h
theorem wX16_boot_L299 {x : GX} {n0 sl0 : Nat} (X : Cx x cX16_boot RX16 (some .int) n0 sl0 2 52) {out : Int32 × Mm} (hE : Ends x n0 sl0 (some (pI out.1)) out.2) (hn : xn x = 10) (fu : Nat)   : ∀ (n : Nat) (a0 : Nat) (a7 : Int32) (a8 : Int32)  (M : Mm), fX16_boot_L299 fu  n a0 a7 a8 M = some out → Gw x M 299 [(0, pR (some a0)), (7, pI a7), (8, pI a8)] [] := by
  intro n
  induction n with
  | zero =>
    intro a0 a7 a8 M h
    have h : (none : Option (Int32 × Mm)) = some out := h
    cases h
  | succ n ih =>
    intro a0 a7 a8 M h
    rw [fX16_boot_L299] at h
    refine g_iload X (pc := 299) 2 rfl dX16_boot_299 ?_
    refine g_bipush X (pc := 301) (v := 16) dX16_boot_301 (by decide) ?_
    refine g_icmp_ge X (pc := 303) (tgt := 323) dX16_boot_303 (by decide) (fun hc => ?_) (fun hc => ?_)
    · have h := (if_pos hc).symm.trans h
      refine g_iconst X (pc := 323) (v := 0) dX16_boot_323 (by decide) ?_
      refine g_istore X (pc := 324) [(8, pI (0 : Int32)), (0, pR (some a0)), (7, pI a7)] (lt_n hn (by decide)) rfl dX16_boot_324 ?_
      refine g_sub [1, 2, 0] [(0, pR (some a0)), (7, pI a7), (8, pI (0 : Int32))] rfl ?_
      exact wX16_boot_L326 X hE hn fu   fu a0 a7 (0 : Int32) M h
    · have h := (if_neg hc).symm.trans h
      refine g_aload_n X (pc := 306) 0 rfl rfl dX16_boot_306 ?_
      obtain ⟨v1, ev1, h⟩ := bd h
      refine g_getR X (pc := 307) fk_16_31 rfl rfl ev1 tb_1845 dX16_boot_307 ?_
      refine g_iload X (pc := 310) 2 rfl dX16_boot_310 ?_
      obtain ⟨v2, ev2, h⟩ := bd h
      refine g_aaload X (pc := 312) (k := 9) rfl rfl (by decide) ev2 dX16_boot_312 ?_
      refine g_iconst X (pc := 313) (v := 0) dX16_boot_313 (by decide) ?_
      obtain ⟨M3, eM3, h⟩ := bd h
      refine g_putI X (pc := 314) fk_12_0 rfl rfl rfl eM3 tb_1580 (Or.inl rfl) dX16_boot_314 ?_
      refine g_iinc X (pc := 317) 2 [(8, pI (a8 + (1 : Int32))), (0, pR (some a0)), (7, pI a7)] rfl (iinc_e (by decide)) (lt_n hn (by decide)) rfl dX16_boot_317 ?_
      refine g_goto X (pc := 320) (tgt := 299) dX16_boot_320 (by decide) ?_
      refine g_sub [1, 2, 0] [(0, pR (some a0)), (7, pI a7), (8, pI (a8 + (1 : Int32)))] rfl ?_
      exact ih a0 a7 (a8 + (1 : Int32)) M3 h
theorem wX16_boot_L275 {x : GX} {n0 sl0 : Nat} (X : Cx x cX16_boot RX16 (some .int) n0 sl0 2 52) {out : Int32 × Mm} (hE : Ends x n0 sl0 (some (pI out.1)) out.2) (hn : xn x = 10) (fu : Nat)   : ∀ (n : Nat) (a0 : Nat) (a7 : Int32) (a8 : Int32)  (M : Mm), fX16_boot_L275 fu  n a0 a7 a8 M = some out → Gw x M 275 [(0, pR (some a0)), (7, pI a7), (8, pI a8)] [] := by
  intro n
  induction n with
  | zero =>
    intro a0 a7 a8 M h
    have h : (none : Option (Int32 × Mm)) = some out := h
    cases h
  | succ n ih =>
    intro a0 a7 a8 M h
    rw [fX16_boot_L275] at h
    refine g_iload X (pc := 275) 2 rfl dX16_boot_275 ?_
    refine g_bipush X (pc := 277) (v := 8) dX16_boot_277 (by decide) ?_
    refine g_icmp_ge X (pc := 279) (tgt := 296) dX16_boot_279 (by decide) (fun hc => ?_) (fun hc => ?_)
    · have h := (if_pos hc).symm.trans h
      refine g_iconst X (pc := 296) (v := 0) dX16_boot_296 (by decide) ?_
      refine g_istore X (pc := 297) [(8, pI (0 : Int32)), (0, pR (some a0)), (7, pI a7)] (lt_n hn (by decide)) rfl dX16_boot_297 ?_
      refine g_sub [1, 2, 0] [(0, pR (some a0)), (7, pI a7), (8, pI (0 : Int32))] rfl ?_
      exact wX16_boot_L299 X hE hn fu   fu a0 a7 (0 : Int32) M h
    · have h := (if_neg hc).symm.trans h
      refine g_aload_n X (pc := 282) 0 rfl rfl dX16_boot_282 ?_
      obtain ⟨v1, ev1, h⟩ := bd h
      refine g_getR X (pc := 283) fk_16_17 rfl rfl ev1 tb_1831 dX16_boot_283 ?_
      refine g_iload X (pc := 286) 2 rfl dX16_boot_286 ?_
      refine g_iconst X (pc := 288) (v := 0) dX16_boot_288 (by decide) ?_
      obtain ⟨M2, eM2, h⟩ := bd h
      refine g_iastore X (pc := 289) eM2 dX16_boot_289 ?_
      refine g_iinc X (pc := 290) 2 [(8, pI (a8 + (1 : Int32))), (0, pR (some a0)), (7, pI a7)] rfl (iinc_e (by decide)) (lt_n hn (by decide)) rfl dX16_boot_290 ?_
      refine g_goto X (pc := 293) (tgt := 275) dX16_boot_293 (by decide) ?_
      refine g_sub [1, 2, 0] [(0, pR (some a0)), (7, pI a7), (8, pI (a8 + (1 : Int32)))] rfl ?_
      exact ih a0 a7 (a8 + (1 : Int32)) M2 h
theorem wX16_boot_L120 {x : GX} {n0 sl0 : Nat} (X : Cx x cX16_boot RX16 (some .int) n0 sl0 2 52) {out : Int32 × Mm} (hE : Ends x n0 sl0 (some (pI out.1)) out.2) (hn : xn x = 10) (fu : Nat) (k110 : Nat → Int32 → Int32 → Mm → Option (Int32 × Mm)) (hk110 : ∀ (b0 : Nat) (b7 : Int32) (b8 : Int32)  (M : Mm), k110 b0 b7 b8 M = some out → Gw x M 110 [(0, pR (some b0)), (7, pI b7), (8, pI b8)] []) : ∀ (n : Nat) (a0 : Nat) (a7 : Int32) (a8 : Int32) (a9 : Int32)  (M : Mm), fX16_boot_L120 fu k110 n a0 a7 a8 a9 M = some out → Gw x M 120 [(0, pR (some a0)), (7, pI a7), (8, pI a8), (9, pI a9)] [] := by
  intro n
  induction n with
  | zero =>
    intro a0 a7 a8 a9 M h
    have h : (none : Option (Int32 × Mm)) = some out := h
    cases h
  | succ n ih =>
    intro a0 a7 a8 a9 M h
    rw [fX16_boot_L120] at h
    refine g_iload X (pc := 120) 3 rfl dX16_boot_120 ?_
    refine g_bipush X (pc := 122) (v := 48) dX16_boot_122 (by decide) ?_
    refine g_icmp_ge X (pc := 124) (tgt := 162) dX16_boot_124 (by decide) (fun hc => ?_) (fun hc => ?_)
    · have h := (if_pos hc).symm.trans h
      refine g_aload_n X (pc := 162) 0 rfl rfl dX16_boot_162 ?_
      obtain ⟨v1, ev1, h⟩ := bd h
      refine g_getR X (pc := 163) fk_16_14 rfl rfl ev1 tb_1828 dX16_boot_163 ?_
      refine g_iload X (pc := 166) 2 rfl dX16_boot_166 ?_
      refine g_aload_n X (pc := 168) 0 rfl rfl dX16_boot_168 ?_
      refine g_bipush X (pc := 169) (v := 8) dX16_boot_169 (by decide) ?_
      refine g_bipush X (pc := 171) (v := 64) dX16_boot_171 (by decide) ?_
      refine g_iload X (pc := 173) 2 rfl dX16_boot_173 ?_
      refine g_imul X (pc := 175) dX16_boot_175 ?_
      refine g_iadd X (pc := 176) dX16_boot_176 ?_
      refine g_bipush X (pc := 177) (v := 48) dX16_boot_177 (by decide) ?_
      refine g_iadd X (pc := 179) dX16_boot_179 ?_
      obtain ⟨q2, eq2, h⟩ := bd h
      obtain ⟨v4, M3, eM3, h⟩ := b2d h
      refine g_callV X (pc := 180) (M' := M3) (ro := some (pL v4)) (c := 16) rfl (by decide) (as := [pI (((8 : Int32) + ((64 : Int32) * a8)) + (48 : Int32))]) (as' := [pI (((8 : Int32) + ((64 : Int32) * a8)) + (48 : Int32))]) (st := [pI a8, pR v1]) eq2 (ctX16_imageWord _ _ _ _ _ _ fu q2 (((8 : Int32) + ((64 : Int32) * a8)) + (48 : Int32)) M _ eM3) tb_2039 tb_2036 tb_2038 ts_66 tb_8 ⟨rfl, hyX16_imageWord⟩ rfl rfl ⟨by decide, by decide⟩ (Nat.le_of_ble_eq_true rfl) dX16_boot_180 ?_
      refine g_l2i X (pc := 183) dX16_boot_183 ?_
      obtain ⟨M5, eM5, h⟩ := bd h
      refine g_iastore X (pc := 184) eM5 dX16_boot_184 ?_
      refine g_aload_n X (pc := 185) 0 rfl rfl dX16_boot_185 ?_
      obtain ⟨v6, ev6, h⟩ := bd h
      refine g_getR X (pc := 186) fk_16_15 rfl rfl ev6 tb_1829 dX16_boot_186 ?_
      refine g_iload X (pc := 189) 2 rfl dX16_boot_189 ?_
      refine g_aload_n X (pc := 191) 0 rfl rfl dX16_boot_191 ?_
      refine g_bipush X (pc := 192) (v := 8) dX16_boot_192 (by decide) ?_
      refine g_bipush X (pc := 194) (v := 64) dX16_boot_194 (by decide) ?_
      refine g_iload X (pc := 196) 2 rfl dX16_boot_196 ?_
      refine g_imul X (pc := 198) dX16_boot_198 ?_
      refine g_iadd X (pc := 199) dX16_boot_199 ?_
      refine g_bipush X (pc := 200) (v := 52) dX16_boot_200 (by decide) ?_
      refine g_iadd X (pc := 202) dX16_boot_202 ?_
      obtain ⟨q7, eq7, h⟩ := bd h
      obtain ⟨v9, M8, eM8, h⟩ := b2d h
      refine g_callV X (pc := 203) (M' := M8) (ro := some (pL v9)) (c := 16) rfl (by decide) (as := [pI (((8 : Int32) + ((64 : Int32) * a8)) + (52 : Int32))]) (as' := [pI (((8 : Int32) + ((64 : Int32) * a8)) + (52 : Int32))]) (st := [pI a8, pR v6]) eq7 (ctX16_imageWord _ _ _ _ _ _ fu q7 (((8 : Int32) + ((64 : Int32) * a8)) + (52 : Int32)) M5 _ eM8) tb_2039 tb_2036 tb_2038 ts_66 tb_8 ⟨rfl, hyX16_imageWord⟩ rfl rfl ⟨by decide, by decide⟩ (Nat.le_of_ble_eq_true rfl) dX16_boot_203 ?_
      refine g_l2i X (pc := 206) dX16_boot_206 ?_
      obtain ⟨M10, eM10, h⟩ := bd h
      refine g_iastore X (pc := 207) eM10 dX16_boot_207 ?_
      refine g_aload_n X (pc := 208) 0 rfl rfl dX16_boot_208 ?_
      obtain ⟨v11, ev11, h⟩ := bd h
      refine g_getR X (pc := 209) fk_16_16 rfl rfl ev11 tb_1830 dX16_boot_209 ?_
      refine g_iload X (pc := 212) 2 rfl dX16_boot_212 ?_
      refine g_aload_n X (pc := 214) 0 rfl rfl dX16_boot_214 ?_
      refine g_bipush X (pc := 215) (v := 8) dX16_boot_215 (by decide) ?_
      refine g_bipush X (pc := 217) (v := 64) dX16_boot_217 (by decide) ?_
      refine g_iload X (pc := 219) 2 rfl dX16_boot_219 ?_
      refine g_imul X (pc := 221) dX16_boot_221 ?_
      refine g_iadd X (pc := 222) dX16_boot_222 ?_
      refine g_bipush X (pc := 223) (v := 56) dX16_boot_223 (by decide) ?_
      refine g_iadd X (pc := 225) dX16_boot_225 ?_
      obtain ⟨q12, eq12, h⟩ := bd h
      obtain ⟨v14, M13, eM13, h⟩ := b2d h
      refine g_callV X (pc := 226) (M' := M13) (ro := some (pL v14)) (c := 16) rfl (by decide) (as := [pI (((8 : Int32) + ((64 : Int32) * a8)) + (56 : Int32))]) (as' := [pI (((8 : Int32) + ((64 : Int32) * a8)) + (56 : Int32))]) (st := [pI a8, pR v11]) eq12 (ctX16_imageWord _ _ _ _ _ _ fu q12 (((8 : Int32) + ((64 : Int32) * a8)) + (56 : Int32)) M10 _ eM13) tb_2039 tb_2036 tb_2038 ts_66 tb_8 ⟨rfl, hyX16_imageWord⟩ rfl rfl ⟨by decide, by decide⟩ (Nat.le_of_ble_eq_true rfl) dX16_boot_226 ?_
      refine g_l2i X (pc := 229) dX16_boot_229 ?_
      obtain ⟨M15, eM15, h⟩ := bd h
      refine g_iastore X (pc := 230) eM15 dX16_boot_230 ?_
      refine g_iinc X (pc := 231) 2 [(8, pI (a8 + (1 : Int32))), (0, pR (some a0)), (7, pI a7), (9, pI a9)] rfl (iinc_e (by decide)) (lt_n hn (by decide)) rfl dX16_boot_231 ?_
      refine g_goto X (pc := 234) (tgt := 110) dX16_boot_234 (by decide) ?_
      refine g_sub [1, 2, 0] [(0, pR (some a0)), (7, pI a7), (8, pI (a8 + (1 : Int32)))] rfl ?_
      exact hk110 a0 a7 (a8 + (1 : Int32)) M15 h
    · have h := (if_neg hc).symm.trans h
      refine g_aload_n X (pc := 127) 0 rfl rfl dX16_boot_127 ?_
      obtain ⟨v16, ev16, h⟩ := bd h
      refine g_getR X (pc := 128) fk_16_13 rfl rfl ev16 tb_1827 dX16_boot_128 ?_
      refine g_bipush X (pc := 131) (v := 48) dX16_boot_131 (by decide) ?_
      refine g_iload X (pc := 133) 2 rfl dX16_boot_133 ?_
      refine g_imul X (pc := 135) dX16_boot_135 ?_
      refine g_iload X (pc := 136) 3 rfl dX16_boot_136 ?_
      refine g_iadd X (pc := 138) dX16_boot_138 ?_
      refine g_aload_n X (pc := 139) 0 rfl rfl dX16_boot_139 ?_
      obtain ⟨v17, ev17, h⟩ := bd h
      refine g_getR X (pc := 140) fk_16_2 rfl rfl ev17 tb_1816 dX16_boot_140 ?_
      refine g_bipush X (pc := 143) (v := 8) dX16_boot_143 (by decide) ?_
      refine g_bipush X (pc := 145) (v := 64) dX16_boot_145 (by decide) ?_
      refine g_iload X (pc := 147) 2 rfl dX16_boot_147 ?_
      refine g_imul X (pc := 149) dX16_boot_149 ?_
      refine g_iadd X (pc := 150) dX16_boot_150 ?_
      refine g_iload X (pc := 151) 3 rfl dX16_boot_151 ?_
      refine g_iadd X (pc := 153) dX16_boot_153 ?_
      obtain ⟨v18, ev18, h⟩ := bd h
      refine g_baload X (pc := 154) ev18 dX16_boot_154 ?_
      obtain ⟨M19, eM19, h⟩ := bd h
      refine g_bastore X (pc := 155) eM19 dX16_boot_155 ?_
      refine g_iinc X (pc := 156) 3 [(9, pI (a9 + (1 : Int32))), (0, pR (some a0)), (7, pI a7), (8, pI a8)] rfl (iinc_e (by decide)) (lt_n hn (by decide)) rfl dX16_boot_156 ?_
      refine g_goto X (pc := 159) (tgt := 120) dX16_boot_159 (by decide) ?_
      refine g_sub [1, 2, 3, 0] [(0, pR (some a0)), (7, pI a7), (8, pI a8), (9, pI (a9 + (1 : Int32)))] rfl ?_
      exact ih a0 a7 a8 (a9 + (1 : Int32)) M19 h
theorem wX16_boot_L110 {x : GX} {n0 sl0 : Nat} (X : Cx x cX16_boot RX16 (some .int) n0 sl0 2 52) {out : Int32 × Mm} (hE : Ends x n0 sl0 (some (pI out.1)) out.2) (hn : xn x = 10) (fu : Nat)   : ∀ (n : Nat) (a0 : Nat) (a7 : Int32) (a8 : Int32)  (M : Mm), fX16_boot_L110 fu  n a0 a7 a8 M = some out → Gw x M 110 [(0, pR (some a0)), (7, pI a7), (8, pI a8)] [] := by
  intro n
  induction n with
  | zero =>
    intro a0 a7 a8 M h
    have h : (none : Option (Int32 × Mm)) = some out := h
    cases h
  | succ n ih =>
    intro a0 a7 a8 M h
    rw [fX16_boot_L110] at h
    refine g_iload X (pc := 110) 2 rfl dX16_boot_110 ?_
    refine g_iload X (pc := 112) 1 rfl dX16_boot_112 ?_
    refine g_icmp_ge X (pc := 114) (tgt := 237) dX16_boot_114 (by decide) (fun hc => ?_) (fun hc => ?_)
    · have h := (if_pos hc).symm.trans h
      refine g_aload_n X (pc := 237) 0 rfl rfl dX16_boot_237 ?_
      refine g_iconst X (pc := 238) (v := 1) dX16_boot_238 (by decide) ?_
      obtain ⟨M1, eM1, h⟩ := bd h
      refine g_putZ X (pc := 239) fk_16_4 rfl rfl rfl eM1 tb_1818 (Or.inl rfl) dX16_boot_239 ?_
      refine g_aload_n X (pc := 242) 0 rfl rfl dX16_boot_242 ?_
      refine g_iconst X (pc := 243) (v := 0) dX16_boot_243 (by decide) ?_
      obtain ⟨M2, eM2, h⟩ := bd h
      refine g_putI X (pc := 244) fk_16_10 rfl rfl rfl eM2 tb_1824 (Or.inl rfl) dX16_boot_244 ?_
      refine g_aload_n X (pc := 247) 0 rfl rfl dX16_boot_247 ?_
      refine g_iconst X (pc := 248) (v := 0) dX16_boot_248 (by decide) ?_
      obtain ⟨M3, eM3, h⟩ := bd h
      refine g_putI X (pc := 249) fk_16_23 rfl rfl rfl eM3 tb_1837 (Or.inl rfl) dX16_boot_249 ?_
      refine g_aload_n X (pc := 252) 0 rfl rfl dX16_boot_252 ?_
      refine g_iconst X (pc := 253) (v := 0) dX16_boot_253 (by decide) ?_
      obtain ⟨M4, eM4, h⟩ := bd h
      refine g_putI X (pc := 254) fk_16_24 rfl rfl rfl eM4 tb_1838 (Or.inl rfl) dX16_boot_254 ?_
      refine g_aload_n X (pc := 257) 0 rfl rfl dX16_boot_257 ?_
      refine g_iconst X (pc := 258) (v := 0) dX16_boot_258 (by decide) ?_
      obtain ⟨M5, eM5, h⟩ := bd h
      refine g_putI X (pc := 259) fk_16_12 rfl rfl rfl eM5 tb_1826 (Or.inl rfl) dX16_boot_259 ?_
      refine g_aload_n X (pc := 262) 0 rfl rfl dX16_boot_262 ?_
      refine g_iconst X (pc := 263) (v := 0) dX16_boot_263 (by decide) ?_
      obtain ⟨M6, eM6, h⟩ := bd h
      refine g_putI X (pc := 264) fk_16_18 rfl rfl rfl eM6 tb_1832 (Or.inl rfl) dX16_boot_264 ?_
      refine g_aload_n X (pc := 267) 0 rfl rfl dX16_boot_267 ?_
      refine g_iconst X (pc := 268) (v := 0) dX16_boot_268 (by decide) ?_
      obtain ⟨M7, eM7, h⟩ := bd h
      refine g_putI X (pc := 269) fk_16_25 rfl rfl rfl eM7 tb_1839 (Or.inl rfl) dX16_boot_269 ?_
      refine g_iconst X (pc := 272) (v := 0) dX16_boot_272 (by decide) ?_
      refine g_istore X (pc := 273) [(8, pI (0 : Int32)), (0, pR (some a0)), (7, pI a7)] (lt_n hn (by decide)) rfl dX16_boot_273 ?_
      refine g_sub [1, 2, 0] [(0, pR (some a0)), (7, pI a7), (8, pI (0 : Int32))] rfl ?_
      exact wX16_boot_L275 X hE hn fu   fu a0 a7 (0 : Int32) M7 h
    · have h := (if_neg hc).symm.trans h
      refine g_iconst X (pc := 117) (v := 0) dX16_boot_117 (by decide) ?_
      refine g_istore X (pc := 118) [(9, pI (0 : Int32)), (0, pR (some a0)), (7, pI a7), (8, pI a8)] (lt_n hn (by decide)) rfl dX16_boot_118 ?_
      refine g_sub [1, 2, 3, 0] [(0, pR (some a0)), (7, pI a7), (8, pI a8), (9, pI (0 : Int32))] rfl ?_
      exact wX16_boot_L120 X hE hn fu (fun b0 b7 b8 M => fX16_boot_L110 fu  n b0 b7 b8 M) ih fu a0 a7 a8 (0 : Int32) M h
theorem wX16_boot {x : GX} {n0 sl0 : Nat} (X : Cx x cX16_boot RX16 (some .int) n0 sl0 2 52) {out : Int32 × Mm} (hE : Ends x n0 sl0 (some (pI out.1)) out.2) (hn : xn x = 10) (fu : Nat)   (a0 : Nat) (a1 : Int32) (a2 : Int32) (a3 : Int32) (a4 : Int32) (a5 : Int32)  (M : Mm) (h : fX16_boot fu  a0 a1 a2 a3 a4 a5 M = some out) : Gw x M 0 [(0, pR (some a0)), (1, pI a1), (2, pI a2), (3, pI a3), (4, pI a4), (5, pI a5)] [] := by
  unfold fX16_boot at h
  refine g_iload_n X (pc := 0) 2 rfl rfl dX16_boot_0 ?_
  refine g_bipush X (pc := 1) (v := 8) dX16_boot_1 (by decide) ?_
  refine g_icmp_lt X (pc := 3) (tgt := 19) dX16_boot_3 (by decide) (fun hc => ?_) (fun hc => ?_)
  · have h := (if_pos hc).symm.trans h
    refine g_iconst X (pc := 19) (v := (-1)) dX16_boot_19 (by decide) ?_
    obtain rfl := Option.some.inj h
    exact g_ireturn X hE dX16_boot_20
  · have h := (if_neg hc).symm.trans h
    refine g_iload_n X (pc := 6) 2 rfl rfl dX16_boot_6 ?_
    refine g_bipush X (pc := 7) (v := 30) dX16_boot_7 (by decide) ?_
    refine g_icmp_gt X (pc := 9) (tgt := 19) dX16_boot_9 (by decide) (fun hc => ?_) (fun hc => ?_)
    · have h := (if_pos hc).symm.trans h
      refine g_iconst X (pc := 19) (v := (-1)) dX16_boot_19 (by decide) ?_
      obtain rfl := Option.some.inj h
      exact g_ireturn X hE dX16_boot_20
    · have h := (if_neg hc).symm.trans h
      refine g_iload_n X (pc := 12) 1 rfl rfl dX16_boot_12 ?_
      obtain ⟨v2, M1, eM1, h⟩ := b2d h
      refine g_callS X (pc := 13) (M' := M1) (ro := some (pI v2)) (as := [pI a1]) (as' := [pI a1]) (st := []) (ctX16_isHost _ _ _ _ _ _ fu  a1 M _ eM1) tb_2026 tb_2024 tb_2025 tb_8 hyX16_isHost rfl rfl ⟨by decide, by decide⟩ (Nat.le_of_ble_eq_true rfl) dX16_boot_13 ?_
      refine g_if_ne X (pc := 16) (tgt := 21) dX16_boot_16 (by decide) (fun hc => ?_) (fun hc => ?_)
      · have h := (if_neg hc).symm.trans h
        refine g_bipush X (pc := 21) (v := 32) dX16_boot_21 (by decide) ?_
        refine g_iload_n X (pc := 23) 2 rfl rfl dX16_boot_23 ?_
        refine g_isub X (pc := 24) dX16_boot_24 ?_
        refine g_istore X (pc := 25) [(6, pI ((32 : Int32) - a2)), (0, pR (some a0)), (1, pI a1), (2, pI a2), (3, pI a3), (4, pI a4), (5, pI a5)] (lt_n hn (by decide)) rfl dX16_boot_25 ?_
        refine g_iload_n X (pc := 27) 4 rfl rfl dX16_boot_27 ?_
        refine g_iload X (pc := 28) 0 rfl dX16_boot_28 ?_
        refine g_ishr X (pc := 30) dX16_boot_30 ?_
        refine g_iload_n X (pc := 31) 2 rfl rfl dX16_boot_31 ?_
        refine g_iload X (pc := 32) 0 rfl dX16_boot_32 ?_
        refine g_ishr X (pc := 34) dX16_boot_34 ?_
        refine g_icmp_ne X (pc := 35) (tgt := 54) dX16_boot_35 (by decide) (fun hc => ?_) (fun hc => ?_)
        · have h := (if_neg hc).symm.trans h
          refine g_bipush X (pc := 54) (v := (-2)) dX16_boot_54 (by decide) ?_
          obtain rfl := Option.some.inj h
          exact g_ireturn X hE dX16_boot_56
        · have h := (if_pos hc).symm.trans h
          refine g_iload_n X (pc := 38) 4 rfl rfl dX16_boot_38 ?_
          refine g_iload_n X (pc := 39) 2 rfl rfl dX16_boot_39 ?_
          refine g_icmp_eq X (pc := 40) (tgt := 54) dX16_boot_40 (by decide) (fun hc => ?_) (fun hc => ?_)
          · have h := (if_pos hc).symm.trans h
            refine g_bipush X (pc := 54) (v := (-2)) dX16_boot_54 (by decide) ?_
            obtain rfl := Option.some.inj h
            exact g_ireturn X hE dX16_boot_56
          · have h := (if_neg hc).symm.trans h
            refine g_iload X (pc := 43) 5 rfl dX16_boot_43 ?_
            refine g_bipush X (pc := 45) (v := 8) dX16_boot_45 (by decide) ?_
            refine g_ishr X (pc := 47) dX16_boot_47 ?_
            refine g_iconst X (pc := 48) (v := 1) dX16_boot_48 (by decide) ?_
            refine g_iand X (pc := 49) dX16_boot_49 ?_
            refine g_iconst X (pc := 50) (v := 1) dX16_boot_50 (by decide) ?_
            refine g_icmp_ne X (pc := 51) (tgt := 57) dX16_boot_51 (by decide) (fun hc => ?_) (fun hc => ?_)
            · have h := (if_neg hc).symm.trans h
              refine g_aload_n X (pc := 57) 1 rfl rfl dX16_boot_57 ?_
              obtain ⟨q3, eq3, h⟩ := bd h
              obtain ⟨v5, M4, eM4, h⟩ := b2d h
              refine g_callV X (pc := 58) (M' := M4) (ro := some (pI v5)) (c := 16) rfl (by decide) (as := []) (as' := []) (st := []) eq3 (ctX16_files _ _ _ _ _ _ fu q3  M1 _ eM4) tb_2030 tb_2027 tb_2029 ts_64 tb_8 ⟨rfl, hyX16_files⟩ rfl rfl ⟨by decide, by decide⟩ (Nat.le_of_ble_eq_true rfl) dX16_boot_58 ?_
              refine g_istore X (pc := 61) [(7, pI v5), (6, pI ((32 : Int32) - a2)), (0, pR (some a0)), (1, pI a1), (2, pI a2), (3, pI a3), (4, pI a4), (5, pI a5)] (lt_n hn (by decide)) rfl dX16_boot_61 ?_
              refine g_iload X (pc := 63) 0 rfl dX16_boot_63 ?_
              refine g_if_ge X (pc := 65) (tgt := 71) dX16_boot_65 (by decide) (fun hc => ?_) (fun hc => ?_)
              · have h := (if_pos hc).symm.trans h
                refine g_aload_n X (pc := 71) 2 rfl rfl dX16_boot_71 ?_
                refine g_iload_n X (pc := 72) 3 rfl rfl dX16_boot_72 ?_
                obtain ⟨M6, eM6, h⟩ := bd h
                refine g_putI X (pc := 73) fk_16_5 rfl rfl rfl eM6 tb_1819 (Or.inl rfl) dX16_boot_73 ?_
                refine g_aload_n X (pc := 76) 2 rfl rfl dX16_boot_76 ?_
                refine g_iload_n X (pc := 77) 4 rfl rfl dX16_boot_77 ?_
                obtain ⟨M7, eM7, h⟩ := bd h
                refine g_putI X (pc := 78) fk_16_6 rfl rfl rfl eM7 tb_1820 (Or.inl rfl) dX16_boot_78 ?_
                refine g_aload_n X (pc := 81) 2 rfl rfl dX16_boot_81 ?_
                refine g_iload_n X (pc := 82) 5 rfl rfl dX16_boot_82 ?_
                obtain ⟨M8, eM8, h⟩ := bd h
                refine g_putI X (pc := 83) fk_16_7 rfl rfl rfl eM8 tb_1821 (Or.inl rfl) dX16_boot_83 ?_
                refine g_aload_n X (pc := 86) 2 rfl rfl dX16_boot_86 ?_
                refine g_iload X (pc := 87) 6 rfl dX16_boot_87 ?_
                refine g_ldc X (pc := 89) tb_1565 dX16_boot_89 ?_
                refine g_iand X (pc := 91) dX16_boot_91 ?_
                obtain ⟨M9, eM9, h⟩ := bd h
                refine g_putI X (pc := 92) fk_16_8 rfl rfl rfl eM9 tb_1822 (Or.inl rfl) dX16_boot_92 ?_
                refine g_aload_n X (pc := 95) 2 rfl rfl dX16_boot_95 ?_
                refine g_iload X (pc := 96) 7 rfl dX16_boot_96 ?_
                obtain ⟨M10, eM10, h⟩ := bd h
                refine g_putI X (pc := 98) fk_16_9 rfl rfl rfl eM10 tb_1823 (Or.inl rfl) dX16_boot_98 ?_
                refine g_aload_n X (pc := 101) 2 rfl rfl dX16_boot_101 ?_
                refine g_iload X (pc := 102) 0 rfl dX16_boot_102 ?_
                obtain ⟨M11, eM11, h⟩ := bd h
                refine g_putI X (pc := 104) fk_16_11 rfl rfl rfl eM11 tb_1825 (Or.inl rfl) dX16_boot_104 ?_
                refine g_iconst X (pc := 107) (v := 0) dX16_boot_107 (by decide) ?_
                refine g_istore X (pc := 108) [(8, pI (0 : Int32)), (7, pI v5), (6, pI ((32 : Int32) - a2)), (0, pR (some a0)), (1, pI a1), (2, pI a2), (3, pI a3), (4, pI a4), (5, pI a5)] (lt_n hn (by decide)) rfl dX16_boot_108 ?_
                refine g_sub [3, 1, 0] [(0, pR (some a0)), (7, pI v5), (8, pI (0 : Int32))] rfl ?_
                exact wX16_boot_L110 X hE hn fu   fu a0 v5 (0 : Int32) M11 h
              · have h := (if_neg hc).symm.trans h
                refine g_bipush X (pc := 68) (v := (-3)) dX16_boot_68 (by decide) ?_
                obtain rfl := Option.some.inj h
                exact g_ireturn X hE dX16_boot_70
            · have h := (if_pos hc).symm.trans h
              refine g_bipush X (pc := 54) (v := (-2)) dX16_boot_54 (by decide) ?_
              obtain rfl := Option.some.inj h
              exact g_ireturn X hE dX16_boot_56
      · have h := (if_pos hc).symm.trans h
        refine g_iconst X (pc := 19) (v := (-1)) dX16_boot_19 (by decide) ?_
        obtain rfl := Option.some.inj h
        exact g_ireturn X hE dX16_boot_20
theorem hyX16_boot : yX16_boot.cls ≠ "java/lang/invoke/MethodHandle" ∧ yX16_boot.cls ≠ "java/lang/invoke/VarHandle" ∧ (parseMethodDescriptor yX16_boot.desc).map (fun d => d.parameters.length) = some 5 := ⟨by decide +kernel, by decide +kernel, by decide +kernel⟩
theorem ctX16_boot (l : Launch) (E : Nat → Nat) (D : va_G) (dA : Nat → ClassId) (lo : Nat) (H0 : Heap) (fu : Nat) (a0 : Nat) (a1 : Int32) (a2 : Int32) (a3 : Int32) (a4 : Int32) (a5 : Int32) (M : Mm) (out : Int32 × Mm) (h : fX16_boot fu a0 a1 a2 a3 a4 a5 M = some out) : Ct l E D dA lo H0 yX16_boot cX16_boot 10 (some .int) 2 52 [pR (some a0), pI a1, pI a2, pI a3, pI a4, pI a5] M (some (pI out.1)) out.2 := by
  refine ct_of (by decide +kernel) (Nat.le_of_ble_eq_true rfl) ?_
  intro x hl he hd ha ho hh hn hin X hE
  exact wX16_boot X hE hn fu a0 a1 a2 a3 a4 a5 M h
/-! WebHostModel.put(III)V -/
def fX16_put_L3 (fu : Nat)  : Nat → Nat → Int32 → Int32 → Int32 → Int32 → Mm → Option (Mm)
  | 0, _, _, _, _, _, _ => none
  | n + 1, a0, a1, a2, a3, a4, M =>
    if a2 ≤ a4 then (
    some M)
    else (
    (gR M 16 1043 (some a0)).bind fun v1 =>
    (pA M 100 v1 (a1 + a4) (Int8.toInt32 (Int32.toInt8 (Int8.toInt32 (Int32.toInt8 (a3 >>> (((8 : Int32) * ((a2 - (1 : Int32)) - a4)) &&& 31))))))).bind fun M2 =>
    fX16_put_L3 fu  n a0 a1 a2 a3 (a4 + (1 : Int32)) M2)
def fX16_put (fu : Nat)  (a0 : Nat) (a1 : Int32) (a2 : Int32) (a3 : Int32)  (M : Mm) : Option (Mm) :=
    fX16_put_L3 fu  fu a0 a1 a2 a3 (0 : Int32) M
theorem dX16_put_0 : decode cX16_put 0 = .ok (.iconst 0, 1) := by decide +kernel
theorem dX16_put_1 : decode cX16_put 1 = .ok (.istore 4, 2) := by decide +kernel
theorem dX16_put_3 : decode cX16_put 3 = .ok (.iload 4, 2) := by decide +kernel
theorem dX16_put_5 : decode cX16_put 5 = .ok (.iload_n 2, 1) := by decide +kernel
theorem dX16_put_6 : decode cX16_put 6 = .ok (.if_icmp .ge 30, 3) := by decide +kernel
theorem dX16_put_9 : decode cX16_put 9 = .ok (.aload_n 0, 1) := by decide +kernel
theorem dX16_put_10 : decode cX16_put 10 = .ok (.getfield 34, 3) := by decide +kernel
theorem dX16_put_13 : decode cX16_put 13 = .ok (.iload_n 1, 1) := by decide +kernel
theorem dX16_put_14 : decode cX16_put 14 = .ok (.iload 4, 2) := by decide +kernel
theorem dX16_put_16 : decode cX16_put 16 = .ok (.iadd, 1) := by decide +kernel
theorem dX16_put_17 : decode cX16_put 17 = .ok (.iload_n 3, 1) := by decide +kernel
theorem dX16_put_18 : decode cX16_put 18 = .ok (.bipush 8, 2) := by decide +kernel
theorem dX16_put_20 : decode cX16_put 20 = .ok (.iload_n 2, 1) := by decide +kernel
theorem dX16_put_21 : decode cX16_put 21 = .ok (.iconst 1, 1) := by decide +kernel
theorem dX16_put_22 : decode cX16_put 22 = .ok (.isub, 1) := by decide +kernel
theorem dX16_put_23 : decode cX16_put 23 = .ok (.iload 4, 2) := by decide +kernel
theorem dX16_put_25 : decode cX16_put 25 = .ok (.isub, 1) := by decide +kernel
theorem dX16_put_26 : decode cX16_put 26 = .ok (.imul, 1) := by decide +kernel
theorem dX16_put_27 : decode cX16_put 27 = .ok (.ishr, 1) := by decide +kernel
theorem dX16_put_28 : decode cX16_put 28 = .ok (.i2b, 1) := by decide +kernel
theorem dX16_put_29 : decode cX16_put 29 = .ok (.bastore, 1) := by decide +kernel
theorem dX16_put_30 : decode cX16_put 30 = .ok (.iinc 4 1, 3) := by decide +kernel
theorem dX16_put_33 : decode cX16_put 33 = .ok (.goto (-30), 3) := by decide +kernel
theorem dX16_put_36 : decode cX16_put 36 = .ok (.return_, 1) := by decide +kernel
theorem wX16_put_L3 {x : GX} {n0 sl0 : Nat} (X : Cx x cX16_put RX16 none n0 sl0 0 0) {out : Mm} (hE : Ends x n0 sl0 none out) (hn : xn x = 5) (fu : Nat)   : ∀ (n : Nat) (a0 : Nat) (a1 : Int32) (a2 : Int32) (a3 : Int32) (a4 : Int32)  (M : Mm), fX16_put_L3 fu  n a0 a1 a2 a3 a4 M = some out → Gw x M 3 [(0, pR (some a0)), (1, pI a1), (2, pI a2), (3, pI a3), (4, pI a4)] [] := by
  intro n
  induction n with
  | zero =>
    intro a0 a1 a2 a3 a4 M h
    have h : (none : Option (Mm)) = some out := h
    cases h
  | succ n ih =>
    intro a0 a1 a2 a3 a4 M h
    rw [fX16_put_L3] at h
    refine g_iload X (pc := 3) 4 rfl dX16_put_3 ?_
    refine g_iload_n X (pc := 5) 2 rfl rfl dX16_put_5 ?_
    refine g_icmp_ge X (pc := 6) (tgt := 36) dX16_put_6 (by decide) (fun hc => ?_) (fun hc => ?_)
    · have h := (if_pos hc).symm.trans h
      obtain rfl := Option.some.inj h
      exact g_return X hE dX16_put_36
    · have h := (if_neg hc).symm.trans h
      refine g_aload_n X (pc := 9) 0 rfl rfl dX16_put_9 ?_
      obtain ⟨v1, ev1, h⟩ := bd h
      refine g_getR X (pc := 10) fk_16_19 rfl rfl ev1 tb_1833 dX16_put_10 ?_
      refine g_iload_n X (pc := 13) 1 rfl rfl dX16_put_13 ?_
      refine g_iload X (pc := 14) 4 rfl dX16_put_14 ?_
      refine g_iadd X (pc := 16) dX16_put_16 ?_
      refine g_iload_n X (pc := 17) 3 rfl rfl dX16_put_17 ?_
      refine g_bipush X (pc := 18) (v := 8) dX16_put_18 (by decide) ?_
      refine g_iload_n X (pc := 20) 2 rfl rfl dX16_put_20 ?_
      refine g_iconst X (pc := 21) (v := 1) dX16_put_21 (by decide) ?_
      refine g_isub X (pc := 22) dX16_put_22 ?_
      refine g_iload X (pc := 23) 4 rfl dX16_put_23 ?_
      refine g_isub X (pc := 25) dX16_put_25 ?_
      refine g_imul X (pc := 26) dX16_put_26 ?_
      refine g_ishr X (pc := 27) dX16_put_27 ?_
      refine g_i2b X (pc := 28) dX16_put_28 ?_
      obtain ⟨M2, eM2, h⟩ := bd h
      refine g_bastore X (pc := 29) eM2 dX16_put_29 ?_
      refine g_iinc X (pc := 30) 4 [(4, pI (a4 + (1 : Int32))), (0, pR (some a0)), (1, pI a1), (2, pI a2), (3, pI a3)] rfl (iinc_e (by decide)) (lt_n hn (by decide)) rfl dX16_put_30 ?_
      refine g_goto X (pc := 33) (tgt := 3) dX16_put_33 (by decide) ?_
      refine g_sub [1, 2, 3, 4, 0] [(0, pR (some a0)), (1, pI a1), (2, pI a2), (3, pI a3), (4, pI (a4 + (1 : Int32)))] rfl ?_
      exact ih a0 a1 a2 a3 (a4 + (1 : Int32)) M2 h
theorem wX16_put {x : GX} {n0 sl0 : Nat} (X : Cx x cX16_put RX16 none n0 sl0 0 0) {out : Mm} (hE : Ends x n0 sl0 none out) (hn : xn x = 5) (fu : Nat)   (a0 : Nat) (a1 : Int32) (a2 : Int32) (a3 : Int32)  (M : Mm) (h : fX16_put fu  a0 a1 a2 a3 M = some out) : Gw x M 0 [(0, pR (some a0)), (1, pI a1), (2, pI a2), (3, pI a3)] [] := by
  unfold fX16_put at h
  refine g_iconst X (pc := 0) (v := 0) dX16_put_0 (by decide) ?_
  refine g_istore X (pc := 1) [(4, pI (0 : Int32)), (0, pR (some a0)), (1, pI a1), (2, pI a2), (3, pI a3)] (lt_n hn (by decide)) rfl dX16_put_1 ?_
  refine g_sub [1, 2, 3, 4, 0] [(0, pR (some a0)), (1, pI a1), (2, pI a2), (3, pI a3), (4, pI (0 : Int32))] rfl ?_
  exact wX16_put_L3 X hE hn fu   fu a0 a1 a2 a3 (0 : Int32) M h
theorem hyX16_put : yX16_put.cls ≠ "java/lang/invoke/MethodHandle" ∧ yX16_put.cls ≠ "java/lang/invoke/VarHandle" ∧ (parseMethodDescriptor yX16_put.desc).map (fun d => d.parameters.length) = some 3 := ⟨by decide +kernel, by decide +kernel, by decide +kernel⟩
theorem ctX16_put (l : Launch) (E : Nat → Nat) (D : va_G) (dA : Nat → ClassId) (lo : Nat) (H0 : Heap) (fu : Nat) (a0 : Nat) (a1 : Int32) (a2 : Int32) (a3 : Int32) (M : Mm) (out : Mm) (h : fX16_put fu a0 a1 a2 a3 M = some out) : Ct l E D dA lo H0 yX16_put cX16_put 5 none 0 0 [pR (some a0), pI a1, pI a2, pI a3] M none out := by
  refine ct_of (by decide +kernel) (Nat.le_of_ble_eq_true rfl) ?_
  intro x hl he hd ha ho hh hn hin X hE
  exact wX16_put X hE hn fu a0 a1 a2 a3 M h
