/-! ===== walks of methods, printed by a program of ours ===== -/
/-! WebHostModel.answer(LWebHostModel$Connection;I)V -/
def fX16_answer_L351 (fu : Nat)  (a0 : Nat) (a1 : Option Nat) (s0 : Option Nat) (s1 : Option Nat) (s2 : Int32) (s3 : Int32) (M : Mm) : Option (Mm) :=
    (rc M 16 s0).bind fun q1 =>
    (fX16_make fu q1 s1 s2 s3 M).bind fun M2 =>
    (gI M2 12 806 a1).bind fun v3 =>
    (rc M2 12 a1).bind fun q4 =>
    b2 (fX12_held fu q4  M2) fun v6 M5 =>
    if (jmin v3 v6) ≤ 0 then (
    some M5)
    else (
    (gI M5 12 806 a1).bind fun v7 =>
    (pF M5 12 806 a1 (v7 - (jmin v3 v6))).bind fun M8 =>
    (rc M8 16 (some a0)).bind fun q9 =>
    (fX16_take fu q9 a1 (jmin v3 v6) M8).bind fun M10 =>
    some M10)
def fX16_answer_L346 (fu : Nat)  (a0 : Nat) (a1 : Option Nat) (s0 : Option Nat) (s1 : Option Nat) (s2 : Int32) (M : Mm) : Option (Mm) :=
    fX16_answer_L351 fu  a0 a1 s0 s1 s2 (1 : Int32) M
def fX16_answer_L332 (fu : Nat)  (a0 : Nat) (a1 : Option Nat) (a6 : Int32) (a7 : Int32) (a8 : Int32)  (M : Mm) : Option (Mm) :=
    if a7 = 0 then (
    if a8 = 0 then (
    fX16_answer_L346 fu  a0 a1 (some a0) a1 a6 M)
    else (
    fX16_answer_L351 fu  a0 a1 (some a0) a1 a6 (0 : Int32) M))
    else (
    fX16_answer_L346 fu  a0 a1 (some a0) a1 a6 M)
def fX16_answer_L292 (fu : Nat)  (a0 : Nat) (a1 : Option Nat) (a6 : Int32) (a7 : Int32) (s0 : Int32) (M : Mm) : Option (Mm) :=
    (gI M 16 1067 (some a0)).bind fun v1 =>
    if v1 = (400 : Int32) then (
    fX16_answer_L332 fu  a0 a1 a6 a7 s0 M)
    else (
    (gI M 16 1067 (some a0)).bind fun v2 =>
    if v2 = (413 : Int32) then (
    fX16_answer_L332 fu  a0 a1 a6 a7 s0 M)
    else (
    (gI M 16 1067 (some a0)).bind fun v3 =>
    if v3 = (501 : Int32) then (
    fX16_answer_L332 fu  a0 a1 a6 a7 s0 M)
    else (
    (gI M 16 1075 (some a0)).bind fun v4 =>
    (pF M 12 806 a1 v4).bind fun M5 =>
    fX16_answer_L332 fu  a0 a1 a6 a7 s0 M5)))
def fX16_answer_L291 (fu : Nat)  (a0 : Nat) (a1 : Option Nat) (a6 : Int32) (a7 : Int32)  (M : Mm) : Option (Mm) :=
    fX16_answer_L292 fu  a0 a1 a6 a7 (0 : Int32) M
def fX16_answer_L287 (fu : Nat)  (a0 : Nat) (a1 : Option Nat) (a6 : Int32) (a7 : Int32)  (M : Mm) : Option (Mm) :=
    fX16_answer_L292 fu  a0 a1 a6 a7 (1 : Int32) M
def fX16_answer_L249 (fu : Nat)  (a0 : Nat) (a1 : Option Nat) (a5 : Int32) (a6 : Int32) (s0 : Int32) (M : Mm) : Option (Mm) :=
    if a5 = 0 then (
    fX16_answer_L291 fu  a0 a1 a6 s0 M)
    else (
    (gI M 16 1069 (some a0)).bind fun v1 =>
    if v1 = 0 then (
    (gI M 16 1070 (some a0)).bind fun v2 =>
    if v2 = 0 then (
    fX16_answer_L287 fu  a0 a1 a6 s0 M)
    else (
    fX16_answer_L291 fu  a0 a1 a6 s0 M))
    else (
    (gI M 16 1071 (some a0)).bind fun v3 =>
    if v3 = 0 then (
    fX16_answer_L291 fu  a0 a1 a6 s0 M)
    else (
    (gI M 16 1070 (some a0)).bind fun v4 =>
    if v4 = 0 then (
    fX16_answer_L287 fu  a0 a1 a6 s0 M)
    else (
    fX16_answer_L291 fu  a0 a1 a6 s0 M))))
def fX16_answer_L244 (fu : Nat)  (a0 : Nat) (a1 : Option Nat) (a5 : Int32) (a6 : Int32)  (M : Mm) : Option (Mm) :=
    fX16_answer_L249 fu  a0 a1 a5 a6 (1 : Int32) M
def fX16_answer_L204 (fu : Nat)  (a0 : Nat) (a1 : Option Nat) (a5 : Int32) (a6 : Int32)  (M : Mm) : Option (Mm) :=
    (gI M 16 1067 (some a0)).bind fun v1 =>
    if v1 = (400 : Int32) then (
    fX16_answer_L244 fu  a0 a1 a5 a6 M)
    else (
    (gI M 16 1067 (some a0)).bind fun v2 =>
    if v2 = (413 : Int32) then (
    fX16_answer_L244 fu  a0 a1 a5 a6 M)
    else (
    (gI M 16 1067 (some a0)).bind fun v3 =>
    if v3 = (500 : Int32) then (
    fX16_answer_L244 fu  a0 a1 a5 a6 M)
    else (
    (gI M 16 1067 (some a0)).bind fun v4 =>
    if v4 = (501 : Int32) then (
    fX16_answer_L244 fu  a0 a1 a5 a6 M)
    else (
    fX16_answer_L249 fu  a0 a1 a5 a6 (0 : Int32) M))))
def fX16_answer_L183 (fu : Nat)  (a0 : Nat) (a1 : Option Nat) (a4 : Int32) (a5 : Int32) (a6 : Int32)  (M : Mm) : Option (Mm) :=
    if a4 = 0 then (
    (pF M 16 1067 (some a0) (400 : Int32)).bind fun M4 =>
    fX16_answer_L204 fu  a0 a1 a5 a6 M4)
    else (
    (rc M 16 (some a0)).bind fun q1 =>
    b2 (fX16_chosen fu q1  M) fun v3 M2 =>
    fX16_answer_L204 fu  a0 a1 a5 v3 M2)
def fX16_answer_L180 (fu : Nat) (k127 : Nat → Option Nat → Int32 → Int32 → Int32 → Int32 → Mm → Option (Mm)) (a0 : Nat) (a1 : Option Nat) (a3 : Int32) (a4 : Int32) (a5 : Int32) (a6 : Int32)  (M : Mm) : Option (Mm) :=
    k127 a0 a1 a3 a4 a5 a6 M
def fX16_answer_L127 (fu : Nat)  : Nat → Nat → Option Nat → Int32 → Int32 → Int32 → Int32 → Mm → Option (Mm)
  | 0, _, _, _, _, _, _, _ => none
  | n + 1, a0, a1, a3, a4, a5, a6, M =>
    if a4 = 0 then (
    fX16_answer_L183 fu  a0 a1 a4 a5 a6 M)
    else (
    (gI M 16 1066 (some a0)).bind fun v1 =>
    if v1 ≤ (a3 + (1 : Int32)) then (
    fX16_answer_L183 fu  a0 a1 a4 a5 a6 M)
    else (
    (rc M 16 (some a0)).bind fun q2 =>
    b2 (fX16_lineEnd fu q2 (a3 + (1 : Int32)) M) fun v4 M3 =>
    (rc M3 16 (some a0)).bind fun q5 =>
    b2 (fX16_shown fu q5 (a3 + (1 : Int32)) v4 M3) fun v7 M6 =>
    if v7 ≤ (a3 + (1 : Int32)) then (
    fX16_answer_L180 fu (fun b0 b1 b3 b4 b5 b6 M => fX16_answer_L127 fu  n b0 b1 b3 b4 b5 b6 M) a0 a1 v4 a4 a5 a6 M6)
    else (
    (rc M6 16 (some a0)).bind fun q8 =>
    b2 (fX16_field fu q8 (a3 + (1 : Int32)) v7 M6) fun v10 M9 =>
    fX16_answer_L180 fu (fun b0 b1 b3 b4 b5 b6 M => fX16_answer_L127 fu  n b0 b1 b3 b4 b5 b6 M) a0 a1 v4 v10 a5 a6 M9)))
def fX16_answer_L7 (fu : Nat)  : Nat → Nat → Option Nat → Int32 → Int32 → Mm → Option (Mm)
  | 0, _, _, _, _, _ => none
  | n + 1, a0, a1, a2, a3, M =>
    if a2 ≤ a3 then (
    (rc M 16 (some a0)).bind fun q1 =>
    (fX16_take fu q1 a1 a2 M).bind fun M2 =>
    (pF M2 16 1067 (some a0) (0 : Int32)).bind fun M3 =>
    (pZ M3 16 1068 (some a0) (0 : Int32)).bind fun M4 =>
    (pZ M4 16 1069 (some a0) (0 : Int32)).bind fun M5 =>
    (pZ M5 16 1070 (some a0) (0 : Int32)).bind fun M6 =>
    (pZ M6 16 1071 (some a0) (0 : Int32)).bind fun M7 =>
    (pF M7 16 1072 (some a0) (0 : Int32)).bind fun M8 =>
    (pF M8 16 1073 (some a0) (0 : Int32)).bind fun M9 =>
    (pF M9 16 1074 (some a0) (0 : Int32)).bind fun M10 =>
    (pF M10 16 1075 (some a0) (0 : Int32)).bind fun M11 =>
    (pZ M11 16 1076 (some a0) (0 : Int32)).bind fun M12 =>
    (pZ M12 16 1077 (some a0) (0 : Int32)).bind fun M13 =>
    (pZ M13 16 1078 (some a0) (0 : Int32)).bind fun M14 =>
    (pZ M14 16 1079 (some a0) (0 : Int32)).bind fun M15 =>
    (rc M15 16 (some a0)).bind fun q16 =>
    b2 (fX16_lineEnd fu q16 (0 : Int32) M15) fun v18 M17 =>
    (rc M17 16 (some a0)).bind fun q19 =>
    b2 (fX16_shown fu q19 (0 : Int32) v18 M17) fun v21 M20 =>
    (rc M20 16 (some a0)).bind fun q22 =>
    b2 (fX16_requestLine fu q22 (0 : Int32) v21 M20) fun v24 M23 =>
    fX16_answer_L127 fu  fu a0 a1 v18 v24 v24 (-1 : Int32) M23)
    else (
    (gR M 16 1065 (some a0)).bind fun v25 =>
    (gR M 12 800 a1).bind fun v26 =>
    (gA M 100 v26 a3).bind fun v27 =>
    (pA M 100 v25 a3 (Int8.toInt32 (Int32.toInt8 v27))).bind fun M28 =>
    fX16_answer_L7 fu  n a0 a1 a2 (a3 + (1 : Int32)) M28)
def fX16_answer (fu : Nat)  (a0 : Nat) (a1 : Option Nat) (a2 : Int32)  (M : Mm) : Option (Mm) :=
    (pF M 16 1066 (some a0) a2).bind fun M1 =>
    fX16_answer_L7 fu  fu a0 a1 a2 (0 : Int32) M1
theorem dX16_answer_0 : decode cX16_answer 0 = .ok (.aload_n 0, 1) := by decide +kernel
theorem dX16_answer_1 : decode cX16_answer 1 = .ok (.iload_n 2, 1) := by decide +kernel
theorem dX16_answer_2 : decode cX16_answer 2 = .ok (.putfield 644, 3) := by decide +kernel
theorem dX16_answer_5 : decode cX16_answer 5 = .ok (.iconst 0, 1) := by decide +kernel
theorem dX16_answer_6 : decode cX16_answer 6 = .ok (.istore_n 3, 1) := by decide +kernel
theorem dX16_answer_7 : decode cX16_answer 7 = .ok (.iload_n 3, 1) := by decide +kernel
theorem dX16_answer_8 : decode cX16_answer 8 = .ok (.iload_n 2, 1) := by decide +kernel
theorem dX16_answer_9 : decode cX16_answer 9 = .ok (.if_icmp .ge 21, 3) := by decide +kernel
theorem dX16_answer_12 : decode cX16_answer 12 = .ok (.aload_n 0, 1) := by decide +kernel
theorem dX16_answer_13 : decode cX16_answer 13 = .ok (.getfield 74, 3) := by decide +kernel
theorem dX16_answer_16 : decode cX16_answer 16 = .ok (.iload_n 3, 1) := by decide +kernel
theorem dX16_answer_17 : decode cX16_answer 17 = .ok (.aload_n 1, 1) := by decide +kernel
theorem dX16_answer_18 : decode cX16_answer 18 = .ok (.getfield 560, 3) := by decide +kernel
theorem dX16_answer_21 : decode cX16_answer 21 = .ok (.iload_n 3, 1) := by decide +kernel
theorem dX16_answer_22 : decode cX16_answer 22 = .ok (.baload, 1) := by decide +kernel
theorem dX16_answer_23 : decode cX16_answer 23 = .ok (.bastore, 1) := by decide +kernel
theorem dX16_answer_24 : decode cX16_answer 24 = .ok (.iinc 3 1, 3) := by decide +kernel
theorem dX16_answer_27 : decode cX16_answer 27 = .ok (.goto (-20), 3) := by decide +kernel
theorem dX16_answer_30 : decode cX16_answer 30 = .ok (.aload_n 0, 1) := by decide +kernel
theorem dX16_answer_31 : decode cX16_answer 31 = .ok (.aload_n 1, 1) := by decide +kernel
theorem dX16_answer_32 : decode cX16_answer 32 = .ok (.iload_n 2, 1) := by decide +kernel
theorem dX16_answer_33 : decode cX16_answer 33 = .ok (.invokevirtual 615, 3) := by decide +kernel
theorem dX16_answer_36 : decode cX16_answer 36 = .ok (.aload_n 0, 1) := by decide +kernel
theorem dX16_answer_37 : decode cX16_answer 37 = .ok (.iconst 0, 1) := by decide +kernel
theorem dX16_answer_38 : decode cX16_answer 38 = .ok (.putfield 637, 3) := by decide +kernel
theorem dX16_answer_41 : decode cX16_answer 41 = .ok (.aload_n 0, 1) := by decide +kernel
theorem dX16_answer_42 : decode cX16_answer 42 = .ok (.iconst 0, 1) := by decide +kernel
theorem dX16_answer_43 : decode cX16_answer 43 = .ok (.putfield 634, 3) := by decide +kernel
theorem dX16_answer_46 : decode cX16_answer 46 = .ok (.aload_n 0, 1) := by decide +kernel
theorem dX16_answer_47 : decode cX16_answer 47 = .ok (.iconst 0, 1) := by decide +kernel
theorem dX16_answer_48 : decode cX16_answer 48 = .ok (.putfield 645, 3) := by decide +kernel
theorem dX16_answer_51 : decode cX16_answer 51 = .ok (.aload_n 0, 1) := by decide +kernel
theorem dX16_answer_52 : decode cX16_answer 52 = .ok (.iconst 0, 1) := by decide +kernel
theorem dX16_answer_53 : decode cX16_answer 53 = .ok (.putfield 648, 3) := by decide +kernel
theorem dX16_answer_56 : decode cX16_answer 56 = .ok (.aload_n 0, 1) := by decide +kernel
theorem dX16_answer_57 : decode cX16_answer 57 = .ok (.iconst 0, 1) := by decide +kernel
theorem dX16_answer_58 : decode cX16_answer 58 = .ok (.putfield 651, 3) := by decide +kernel
theorem dX16_answer_61 : decode cX16_answer 61 = .ok (.aload_n 0, 1) := by decide +kernel
theorem dX16_answer_62 : decode cX16_answer 62 = .ok (.iconst 0, 1) := by decide +kernel
theorem dX16_answer_63 : decode cX16_answer 63 = .ok (.putfield 654, 3) := by decide +kernel
theorem dX16_answer_66 : decode cX16_answer 66 = .ok (.aload_n 0, 1) := by decide +kernel
theorem dX16_answer_67 : decode cX16_answer 67 = .ok (.iconst 0, 1) := by decide +kernel
theorem dX16_answer_68 : decode cX16_answer 68 = .ok (.putfield 657, 3) := by decide +kernel
theorem dX16_answer_71 : decode cX16_answer 71 = .ok (.aload_n 0, 1) := by decide +kernel
theorem dX16_answer_72 : decode cX16_answer 72 = .ok (.iconst 0, 1) := by decide +kernel
theorem dX16_answer_73 : decode cX16_answer 73 = .ok (.putfield 660, 3) := by decide +kernel
theorem dX16_answer_76 : decode cX16_answer 76 = .ok (.aload_n 0, 1) := by decide +kernel
theorem dX16_answer_77 : decode cX16_answer 77 = .ok (.iconst 0, 1) := by decide +kernel
theorem dX16_answer_78 : decode cX16_answer 78 = .ok (.putfield 663, 3) := by decide +kernel
theorem dX16_answer_81 : decode cX16_answer 81 = .ok (.aload_n 0, 1) := by decide +kernel
theorem dX16_answer_82 : decode cX16_answer 82 = .ok (.iconst 0, 1) := by decide +kernel
theorem dX16_answer_83 : decode cX16_answer 83 = .ok (.putfield 666, 3) := by decide +kernel
theorem dX16_answer_86 : decode cX16_answer 86 = .ok (.aload_n 0, 1) := by decide +kernel
theorem dX16_answer_87 : decode cX16_answer 87 = .ok (.iconst 0, 1) := by decide +kernel
theorem dX16_answer_88 : decode cX16_answer 88 = .ok (.putfield 669, 3) := by decide +kernel
theorem dX16_answer_91 : decode cX16_answer 91 = .ok (.aload_n 0, 1) := by decide +kernel
theorem dX16_answer_92 : decode cX16_answer 92 = .ok (.iconst 0, 1) := by decide +kernel
theorem dX16_answer_93 : decode cX16_answer 93 = .ok (.putfield 672, 3) := by decide +kernel
theorem dX16_answer_96 : decode cX16_answer 96 = .ok (.aload_n 0, 1) := by decide +kernel
theorem dX16_answer_97 : decode cX16_answer 97 = .ok (.iconst 0, 1) := by decide +kernel
theorem dX16_answer_98 : decode cX16_answer 98 = .ok (.putfield 675, 3) := by decide +kernel
theorem dX16_answer_101 : decode cX16_answer 101 = .ok (.aload_n 0, 1) := by decide +kernel
theorem dX16_answer_102 : decode cX16_answer 102 = .ok (.iconst 0, 1) := by decide +kernel
theorem dX16_answer_103 : decode cX16_answer 103 = .ok (.invokevirtual 678, 3) := by decide +kernel
theorem dX16_answer_106 : decode cX16_answer 106 = .ok (.istore_n 3, 1) := by decide +kernel
theorem dX16_answer_107 : decode cX16_answer 107 = .ok (.aload_n 0, 1) := by decide +kernel
theorem dX16_answer_108 : decode cX16_answer 108 = .ok (.iconst 0, 1) := by decide +kernel
theorem dX16_answer_109 : decode cX16_answer 109 = .ok (.aload_n 0, 1) := by decide +kernel
theorem dX16_answer_110 : decode cX16_answer 110 = .ok (.iconst 0, 1) := by decide +kernel
theorem dX16_answer_111 : decode cX16_answer 111 = .ok (.iload_n 3, 1) := by decide +kernel
theorem dX16_answer_112 : decode cX16_answer 112 = .ok (.invokevirtual 681, 3) := by decide +kernel
theorem dX16_answer_115 : decode cX16_answer 115 = .ok (.invokevirtual 684, 3) := by decide +kernel
theorem dX16_answer_118 : decode cX16_answer 118 = .ok (.istore 4, 2) := by decide +kernel
theorem dX16_answer_120 : decode cX16_answer 120 = .ok (.iload 4, 2) := by decide +kernel
theorem dX16_answer_122 : decode cX16_answer 122 = .ok (.istore 5, 2) := by decide +kernel
theorem dX16_answer_124 : decode cX16_answer 124 = .ok (.iconst (-1), 1) := by decide +kernel
theorem dX16_answer_125 : decode cX16_answer 125 = .ok (.istore 6, 2) := by decide +kernel
theorem dX16_answer_127 : decode cX16_answer 127 = .ok (.iload 4, 2) := by decide +kernel
theorem dX16_answer_129 : decode cX16_answer 129 = .ok (.ifCond .eq 54, 3) := by decide +kernel
theorem dX16_answer_132 : decode cX16_answer 132 = .ok (.aload_n 0, 1) := by decide +kernel
theorem dX16_answer_133 : decode cX16_answer 133 = .ok (.getfield 644, 3) := by decide +kernel
theorem dX16_answer_136 : decode cX16_answer 136 = .ok (.iload_n 3, 1) := by decide +kernel
theorem dX16_answer_137 : decode cX16_answer 137 = .ok (.iconst 1, 1) := by decide +kernel
theorem dX16_answer_138 : decode cX16_answer 138 = .ok (.iadd, 1) := by decide +kernel
theorem dX16_answer_139 : decode cX16_answer 139 = .ok (.if_icmp .le 44, 3) := by decide +kernel
theorem dX16_answer_142 : decode cX16_answer 142 = .ok (.iload_n 3, 1) := by decide +kernel
theorem dX16_answer_143 : decode cX16_answer 143 = .ok (.iconst 1, 1) := by decide +kernel
theorem dX16_answer_144 : decode cX16_answer 144 = .ok (.iadd, 1) := by decide +kernel
theorem dX16_answer_145 : decode cX16_answer 145 = .ok (.istore 7, 2) := by decide +kernel
theorem dX16_answer_147 : decode cX16_answer 147 = .ok (.aload_n 0, 1) := by decide +kernel
theorem dX16_answer_148 : decode cX16_answer 148 = .ok (.iload 7, 2) := by decide +kernel
theorem dX16_answer_150 : decode cX16_answer 150 = .ok (.invokevirtual 678, 3) := by decide +kernel
theorem dX16_answer_153 : decode cX16_answer 153 = .ok (.istore_n 3, 1) := by decide +kernel
theorem dX16_answer_154 : decode cX16_answer 154 = .ok (.aload_n 0, 1) := by decide +kernel
theorem dX16_answer_155 : decode cX16_answer 155 = .ok (.iload 7, 2) := by decide +kernel
theorem dX16_answer_157 : decode cX16_answer 157 = .ok (.iload_n 3, 1) := by decide +kernel
theorem dX16_answer_158 : decode cX16_answer 158 = .ok (.invokevirtual 681, 3) := by decide +kernel
theorem dX16_answer_161 : decode cX16_answer 161 = .ok (.istore 8, 2) := by decide +kernel
theorem dX16_answer_163 : decode cX16_answer 163 = .ok (.iload 8, 2) := by decide +kernel
theorem dX16_answer_165 : decode cX16_answer 165 = .ok (.iload 7, 2) := by decide +kernel
theorem dX16_answer_167 : decode cX16_answer 167 = .ok (.if_icmp .le 13, 3) := by decide +kernel
theorem dX16_answer_170 : decode cX16_answer 170 = .ok (.aload_n 0, 1) := by decide +kernel
theorem dX16_answer_171 : decode cX16_answer 171 = .ok (.iload 7, 2) := by decide +kernel
theorem dX16_answer_173 : decode cX16_answer 173 = .ok (.iload 8, 2) := by decide +kernel
theorem dX16_answer_175 : decode cX16_answer 175 = .ok (.invokevirtual 687, 3) := by decide +kernel
theorem dX16_answer_178 : decode cX16_answer 178 = .ok (.istore 4, 2) := by decide +kernel
theorem dX16_answer_180 : decode cX16_answer 180 = .ok (.goto (-53), 3) := by decide +kernel
theorem dX16_answer_183 : decode cX16_answer 183 = .ok (.iload 4, 2) := by decide +kernel
theorem dX16_answer_185 : decode cX16_answer 185 = .ok (.ifCond .ne 13, 3) := by decide +kernel
theorem dX16_answer_188 : decode cX16_answer 188 = .ok (.aload_n 0, 1) := by decide +kernel
theorem dX16_answer_189 : decode cX16_answer 189 = .ok (.sipush 400, 3) := by decide +kernel
theorem dX16_answer_192 : decode cX16_answer 192 = .ok (.putfield 637, 3) := by decide +kernel
theorem dX16_answer_195 : decode cX16_answer 195 = .ok (.goto 9, 3) := by decide +kernel
theorem dX16_answer_198 : decode cX16_answer 198 = .ok (.aload_n 0, 1) := by decide +kernel
theorem dX16_answer_199 : decode cX16_answer 199 = .ok (.invokevirtual 690, 3) := by decide +kernel
theorem dX16_answer_202 : decode cX16_answer 202 = .ok (.istore 6, 2) := by decide +kernel
theorem dX16_answer_204 : decode cX16_answer 204 = .ok (.aload_n 0, 1) := by decide +kernel
theorem dX16_answer_205 : decode cX16_answer 205 = .ok (.getfield 637, 3) := by decide +kernel
theorem dX16_answer_208 : decode cX16_answer 208 = .ok (.sipush 400, 3) := by decide +kernel
theorem dX16_answer_211 : decode cX16_answer 211 = .ok (.if_icmp .eq 33, 3) := by decide +kernel
theorem dX16_answer_214 : decode cX16_answer 214 = .ok (.aload_n 0, 1) := by decide +kernel
theorem dX16_answer_215 : decode cX16_answer 215 = .ok (.getfield 637, 3) := by decide +kernel
theorem dX16_answer_218 : decode cX16_answer 218 = .ok (.sipush 413, 3) := by decide +kernel
theorem dX16_answer_221 : decode cX16_answer 221 = .ok (.if_icmp .eq 23, 3) := by decide +kernel
theorem dX16_answer_224 : decode cX16_answer 224 = .ok (.aload_n 0, 1) := by decide +kernel
theorem dX16_answer_225 : decode cX16_answer 225 = .ok (.getfield 637, 3) := by decide +kernel
theorem dX16_answer_228 : decode cX16_answer 228 = .ok (.sipush 500, 3) := by decide +kernel
theorem dX16_answer_231 : decode cX16_answer 231 = .ok (.if_icmp .eq 13, 3) := by decide +kernel
theorem dX16_answer_234 : decode cX16_answer 234 = .ok (.aload_n 0, 1) := by decide +kernel
theorem dX16_answer_235 : decode cX16_answer 235 = .ok (.getfield 637, 3) := by decide +kernel
theorem dX16_answer_238 : decode cX16_answer 238 = .ok (.sipush 501, 3) := by decide +kernel
theorem dX16_answer_241 : decode cX16_answer 241 = .ok (.if_icmp .ne 7, 3) := by decide +kernel
theorem dX16_answer_244 : decode cX16_answer 244 = .ok (.iconst 1, 1) := by decide +kernel
theorem dX16_answer_245 : decode cX16_answer 245 = .ok (.goto 4, 3) := by decide +kernel
theorem dX16_answer_248 : decode cX16_answer 248 = .ok (.iconst 0, 1) := by decide +kernel
theorem dX16_answer_249 : decode cX16_answer 249 = .ok (.istore 7, 2) := by decide +kernel
theorem dX16_answer_251 : decode cX16_answer 251 = .ok (.iload 5, 2) := by decide +kernel
theorem dX16_answer_253 : decode cX16_answer 253 = .ok (.ifCond .eq 38, 3) := by decide +kernel
theorem dX16_answer_256 : decode cX16_answer 256 = .ok (.aload_n 0, 1) := by decide +kernel
theorem dX16_answer_257 : decode cX16_answer 257 = .ok (.getfield 645, 3) := by decide +kernel
theorem dX16_answer_260 : decode cX16_answer 260 = .ok (.ifCond .eq 20, 3) := by decide +kernel
theorem dX16_answer_263 : decode cX16_answer 263 = .ok (.aload_n 0, 1) := by decide +kernel
theorem dX16_answer_264 : decode cX16_answer 264 = .ok (.getfield 651, 3) := by decide +kernel
theorem dX16_answer_267 : decode cX16_answer 267 = .ok (.ifCond .eq 24, 3) := by decide +kernel
theorem dX16_answer_270 : decode cX16_answer 270 = .ok (.aload_n 0, 1) := by decide +kernel
theorem dX16_answer_271 : decode cX16_answer 271 = .ok (.getfield 648, 3) := by decide +kernel
theorem dX16_answer_274 : decode cX16_answer 274 = .ok (.ifCond .ne 17, 3) := by decide +kernel
theorem dX16_answer_277 : decode cX16_answer 277 = .ok (.goto 10, 3) := by decide +kernel
theorem dX16_answer_280 : decode cX16_answer 280 = .ok (.aload_n 0, 1) := by decide +kernel
theorem dX16_answer_281 : decode cX16_answer 281 = .ok (.getfield 648, 3) := by decide +kernel
theorem dX16_answer_284 : decode cX16_answer 284 = .ok (.ifCond .ne 7, 3) := by decide +kernel
theorem dX16_answer_287 : decode cX16_answer 287 = .ok (.iconst 1, 1) := by decide +kernel
theorem dX16_answer_288 : decode cX16_answer 288 = .ok (.goto 4, 3) := by decide +kernel
theorem dX16_answer_291 : decode cX16_answer 291 = .ok (.iconst 0, 1) := by decide +kernel
theorem dX16_answer_292 : decode cX16_answer 292 = .ok (.istore 8, 2) := by decide +kernel
theorem dX16_answer_294 : decode cX16_answer 294 = .ok (.aload_n 0, 1) := by decide +kernel
theorem dX16_answer_295 : decode cX16_answer 295 = .ok (.getfield 637, 3) := by decide +kernel
theorem dX16_answer_298 : decode cX16_answer 298 = .ok (.sipush 400, 3) := by decide +kernel
theorem dX16_answer_301 : decode cX16_answer 301 = .ok (.if_icmp .eq 31, 3) := by decide +kernel
theorem dX16_answer_304 : decode cX16_answer 304 = .ok (.aload_n 0, 1) := by decide +kernel
theorem dX16_answer_305 : decode cX16_answer 305 = .ok (.getfield 637, 3) := by decide +kernel
theorem dX16_answer_308 : decode cX16_answer 308 = .ok (.sipush 413, 3) := by decide +kernel
theorem dX16_answer_311 : decode cX16_answer 311 = .ok (.if_icmp .eq 21, 3) := by decide +kernel
theorem dX16_answer_314 : decode cX16_answer 314 = .ok (.aload_n 0, 1) := by decide +kernel
theorem dX16_answer_315 : decode cX16_answer 315 = .ok (.getfield 637, 3) := by decide +kernel
theorem dX16_answer_318 : decode cX16_answer 318 = .ok (.sipush 501, 3) := by decide +kernel
theorem dX16_answer_321 : decode cX16_answer 321 = .ok (.if_icmp .eq 11, 3) := by decide +kernel
theorem dX16_answer_324 : decode cX16_answer 324 = .ok (.aload_n 1, 1) := by decide +kernel
theorem dX16_answer_325 : decode cX16_answer 325 = .ok (.aload_n 0, 1) := by decide +kernel
theorem dX16_answer_326 : decode cX16_answer 326 = .ok (.getfield 663, 3) := by decide +kernel
theorem dX16_answer_329 : decode cX16_answer 329 = .ok (.putfield 475, 3) := by decide +kernel
theorem dX16_answer_332 : decode cX16_answer 332 = .ok (.aload_n 0, 1) := by decide +kernel
theorem dX16_answer_333 : decode cX16_answer 333 = .ok (.aload_n 1, 1) := by decide +kernel
theorem dX16_answer_334 : decode cX16_answer 334 = .ok (.iload 6, 2) := by decide +kernel
theorem dX16_answer_336 : decode cX16_answer 336 = .ok (.iload 7, 2) := by decide +kernel
theorem dX16_answer_338 : decode cX16_answer 338 = .ok (.ifCond .ne 8, 3) := by decide +kernel
theorem dX16_answer_341 : decode cX16_answer 341 = .ok (.iload 8, 2) := by decide +kernel
theorem dX16_answer_343 : decode cX16_answer 343 = .ok (.ifCond .ne 7, 3) := by decide +kernel
theorem dX16_answer_346 : decode cX16_answer 346 = .ok (.iconst 1, 1) := by decide +kernel
theorem dX16_answer_347 : decode cX16_answer 347 = .ok (.goto 4, 3) := by decide +kernel
theorem dX16_answer_350 : decode cX16_answer 350 = .ok (.iconst 0, 1) := by decide +kernel
theorem dX16_answer_351 : decode cX16_answer 351 = .ok (.invokevirtual 640, 3) := by decide +kernel
theorem dX16_answer_354 : decode cX16_answer 354 = .ok (.aload_n 1, 1) := by decide +kernel
theorem dX16_answer_355 : decode cX16_answer 355 = .ok (.getfield 475, 3) := by decide +kernel
theorem dX16_answer_358 : decode cX16_answer 358 = .ok (.aload_n 1, 1) := by decide +kernel
theorem dX16_answer_359 : decode cX16_answer 359 = .ok (.invokevirtual 612, 3) := by decide +kernel
theorem dX16_answer_362 : decode cX16_answer 362 = .ok (.invokestatic 411, 3) := by decide +kernel
theorem dX16_answer_365 : decode cX16_answer 365 = .ok (.istore 9, 2) := by decide +kernel
theorem dX16_answer_367 : decode cX16_answer 367 = .ok (.iload 9, 2) := by decide +kernel
theorem dX16_answer_369 : decode cX16_answer 369 = .ok (.ifCond .le 21, 3) := by decide +kernel
theorem dX16_answer_372 : decode cX16_answer 372 = .ok (.aload_n 1, 1) := by decide +kernel
theorem dX16_answer_373 : decode cX16_answer 373 = .ok (.aload_n 1, 1) := by decide +kernel
theorem dX16_answer_374 : decode cX16_answer 374 = .ok (.getfield 475, 3) := by decide +kernel
theorem dX16_answer_377 : decode cX16_answer 377 = .ok (.iload 9, 2) := by decide +kernel
theorem dX16_answer_379 : decode cX16_answer 379 = .ok (.isub, 1) := by decide +kernel
theorem dX16_answer_380 : decode cX16_answer 380 = .ok (.putfield 475, 3) := by decide +kernel
theorem dX16_answer_383 : decode cX16_answer 383 = .ok (.aload_n 0, 1) := by decide +kernel
theorem dX16_answer_384 : decode cX16_answer 384 = .ok (.aload_n 1, 1) := by decide +kernel
theorem dX16_answer_385 : decode cX16_answer 385 = .ok (.iload 9, 2) := by decide +kernel
theorem dX16_answer_387 : decode cX16_answer 387 = .ok (.invokevirtual 615, 3) := by decide +kernel
theorem dX16_answer_390 : decode cX16_answer 390 = .ok (.return_, 1) := by decide +kernel
theorem wX16_answer_L351 {x : GX} {n0 sl0 : Nat} (X : Cx x cX16_answer RX16 none n0 sl0 8 181) {out : Mm} (hE : Ends x n0 sl0 none out) (hn : xn x = 10) (fu : Nat)   (a0 : Nat) (a1 : Option Nat) (s0 : Option Nat) (s1 : Option Nat) (s2 : Int32) (s3 : Int32) (M : Mm) (h : fX16_answer_L351 fu  a0 a1 s0 s1 s2 s3 M = some out) : Gw x M 351 [(0, pR (some a0)), (1, pR a1)] [pI s3, pI s2, pR s1, pR s0] := by
  unfold fX16_answer_L351 at h
  obtain ⟨q1, eq1, h⟩ := bd h
  obtain ⟨M2, eM2, h⟩ := bd h
  refine g_callV X (pc := 351) (M' := M2) (ro := none) (c := 16) rfl (by decide) (as := [pR s1, pI s2, pI s3]) (as' := [pI s3, pI s2, pR s1]) (st := []) eq1 (ctX16_make _ _ _ _ _ _ fu q1 s1 s2 s3 M _ eM2) tb_2426 tb_2423 tb_2425 ts_134 tb_8 ⟨rfl, hyX16_make⟩ rfl rfl ⟨by decide, by decide⟩ (Nat.le_of_ble_eq_true rfl) dX16_answer_351 ?_
  refine g_aload_n X (pc := 354) 1 rfl rfl dX16_answer_354 ?_
  obtain ⟨v3, ev3, h⟩ := bd h
  refine g_getI X (pc := 355) fk_12_38 rfl rfl ev3 tb_1627 dX16_answer_355 ?_
  refine g_aload_n X (pc := 358) 1 rfl rfl dX16_answer_358 ?_
  obtain ⟨q4, eq4, h⟩ := bd h
  obtain ⟨v6, M5, eM5, h⟩ := b2d h
  refine g_callV X (pc := 359) (M' := M5) (ro := some (pI v6)) (c := 12) rfl (by decide) (as := []) (as' := []) (st := [pI v3]) eq4 (ctX12_held _ _ _ _ _ _ fu q4  M2 _ eM5) tb_2112 tb_2317 tb_2110 tb_2111 tb_9 ⟨rfl, hyX12_held⟩ rfl rfl ⟨by decide, by decide⟩ (Nat.le_of_ble_eq_true rfl) dX16_answer_359 ?_
  refine g_mmin X (pc := 362) tb_2155 tb_348 tb_13 tb_349 ⟨by decide, Nat.le_of_ble_eq_true rfl⟩ dX16_answer_362 ?_
  refine g_istore X (pc := 365) [(9, pI (jmin v3 v6)), (0, pR (some a0)), (1, pR a1)] (lt_n hn (by decide)) rfl dX16_answer_365 ?_
  refine g_iload X (pc := 367) 0 rfl dX16_answer_367 ?_
  refine g_if_le X (pc := 369) (tgt := 390) dX16_answer_369 (by decide) (fun hc => ?_) (fun hc => ?_)
  · have h := (if_pos hc).symm.trans h
    obtain rfl := Option.some.inj h
    exact g_return X hE dX16_answer_390
  · have h := (if_neg hc).symm.trans h
    refine g_aload_n X (pc := 372) 2 rfl rfl dX16_answer_372 ?_
    refine g_aload_n X (pc := 373) 2 rfl rfl dX16_answer_373 ?_
    obtain ⟨v7, ev7, h⟩ := bd h
    refine g_getI X (pc := 374) fk_12_38 rfl rfl ev7 tb_1627 dX16_answer_374 ?_
    refine g_iload X (pc := 377) 0 rfl dX16_answer_377 ?_
    refine g_isub X (pc := 379) dX16_answer_379 ?_
    obtain ⟨M8, eM8, h⟩ := bd h
    refine g_putI X (pc := 380) fk_12_38 rfl rfl rfl eM8 tb_1627 (Or.inl rfl) dX16_answer_380 ?_
    refine g_aload_n X (pc := 383) 1 rfl rfl dX16_answer_383 ?_
    refine g_aload_n X (pc := 384) 2 rfl rfl dX16_answer_384 ?_
    refine g_iload X (pc := 385) 0 rfl dX16_answer_385 ?_
    obtain ⟨q9, eq9, h⟩ := bd h
    obtain ⟨M10, eM10, h⟩ := bd h
    refine g_callV X (pc := 387) (M' := M10) (ro := none) (c := 16) rfl (by decide) (as := [pR a1, pI (jmin v3 v6)]) (as' := [pI (jmin v3 v6), pR a1]) (st := []) eq9 (ctX16_take _ _ _ _ _ _ fu q9 a1 (jmin v3 v6) M8 _ eM10) tb_2321 tb_2318 tb_2320 ts_117 tb_8 ⟨rfl, hyX16_take⟩ rfl rfl ⟨by decide, by decide⟩ (Nat.le_of_ble_eq_true rfl) dX16_answer_387 ?_
    obtain rfl := Option.some.inj h
    exact g_return X hE dX16_answer_390
theorem wX16_answer_L346 {x : GX} {n0 sl0 : Nat} (X : Cx x cX16_answer RX16 none n0 sl0 8 181) {out : Mm} (hE : Ends x n0 sl0 none out) (hn : xn x = 10) (fu : Nat)   (a0 : Nat) (a1 : Option Nat) (s0 : Option Nat) (s1 : Option Nat) (s2 : Int32) (M : Mm) (h : fX16_answer_L346 fu  a0 a1 s0 s1 s2 M = some out) : Gw x M 346 [(0, pR (some a0)), (1, pR a1)] [pI s2, pR s1, pR s0] := by
  unfold fX16_answer_L346 at h
  refine g_iconst X (pc := 346) (v := 1) dX16_answer_346 (by decide) ?_
  refine g_goto X (pc := 347) (tgt := 351) dX16_answer_347 (by decide) ?_
  exact wX16_answer_L351 X hE hn fu   a0 a1 s0 s1 s2 (1 : Int32) M h
theorem wX16_answer_L332 {x : GX} {n0 sl0 : Nat} (X : Cx x cX16_answer RX16 none n0 sl0 8 181) {out : Mm} (hE : Ends x n0 sl0 none out) (hn : xn x = 10) (fu : Nat)   (a0 : Nat) (a1 : Option Nat) (a6 : Int32) (a7 : Int32) (a8 : Int32)  (M : Mm) (h : fX16_answer_L332 fu  a0 a1 a6 a7 a8 M = some out) : Gw x M 332 [(0, pR (some a0)), (1, pR a1), (6, pI a6), (7, pI a7), (8, pI a8)] [] := by
  unfold fX16_answer_L332 at h
  refine g_aload_n X (pc := 332) 0 rfl rfl dX16_answer_332 ?_
  refine g_aload_n X (pc := 333) 1 rfl rfl dX16_answer_333 ?_
  refine g_iload X (pc := 334) 2 rfl dX16_answer_334 ?_
  refine g_iload X (pc := 336) 3 rfl dX16_answer_336 ?_
  refine g_if_ne X (pc := 338) (tgt := 346) dX16_answer_338 (by decide) (fun hc => ?_) (fun hc => ?_)
  · have h := (if_neg hc).symm.trans h
    refine g_sub [0, 1] [(0, pR (some a0)), (1, pR a1)] rfl ?_
    exact wX16_answer_L346 X hE hn fu   a0 a1 (some a0) a1 a6 M h
  · have h := (if_pos hc).symm.trans h
    refine g_iload X (pc := 341) 4 rfl dX16_answer_341 ?_
    refine g_if_ne X (pc := 343) (tgt := 350) dX16_answer_343 (by decide) (fun hc => ?_) (fun hc => ?_)
    · have h := (if_neg hc).symm.trans h
      refine g_iconst X (pc := 350) (v := 0) dX16_answer_350 (by decide) ?_
      refine g_sub [0, 1] [(0, pR (some a0)), (1, pR a1)] rfl ?_
      exact wX16_answer_L351 X hE hn fu   a0 a1 (some a0) a1 a6 (0 : Int32) M h
    · have h := (if_pos hc).symm.trans h
      refine g_sub [0, 1] [(0, pR (some a0)), (1, pR a1)] rfl ?_
      exact wX16_answer_L346 X hE hn fu   a0 a1 (some a0) a1 a6 M h
theorem wX16_answer_L292 {x : GX} {n0 sl0 : Nat} (X : Cx x cX16_answer RX16 none n0 sl0 8 181) {out : Mm} (hE : Ends x n0 sl0 none out) (hn : xn x = 10) (fu : Nat)   (a0 : Nat) (a1 : Option Nat) (a6 : Int32) (a7 : Int32) (s0 : Int32) (M : Mm) (h : fX16_answer_L292 fu  a0 a1 a6 a7 s0 M = some out) : Gw x M 292 [(0, pR (some a0)), (1, pR a1), (6, pI a6), (7, pI a7)] [pI s0] := by
  unfold fX16_answer_L292 at h
  refine g_istore X (pc := 292) [(8, pI s0), (0, pR (some a0)), (1, pR a1), (6, pI a6), (7, pI a7)] (lt_n hn (by decide)) rfl dX16_answer_292 ?_
  refine g_aload_n X (pc := 294) 1 rfl rfl dX16_answer_294 ?_
  obtain ⟨v1, ev1, h⟩ := bd h
  refine g_getI X (pc := 295) fk_16_43 rfl rfl ev1 tb_1857 dX16_answer_295 ?_
  refine g_sipush X (pc := 298) (v := 400) dX16_answer_298 (by decide) ?_
  refine g_icmp_eq X (pc := 301) (tgt := 332) dX16_answer_301 (by decide) (fun hc => ?_) (fun hc => ?_)
  · have h := (if_pos hc).symm.trans h
    refine g_sub [1, 2, 3, 4, 0] [(0, pR (some a0)), (1, pR a1), (6, pI a6), (7, pI a7), (8, pI s0)] rfl ?_
    exact wX16_answer_L332 X hE hn fu   a0 a1 a6 a7 s0 M h
  · have h := (if_neg hc).symm.trans h
    refine g_aload_n X (pc := 304) 1 rfl rfl dX16_answer_304 ?_
    obtain ⟨v2, ev2, h⟩ := bd h
    refine g_getI X (pc := 305) fk_16_43 rfl rfl ev2 tb_1857 dX16_answer_305 ?_
    refine g_sipush X (pc := 308) (v := 413) dX16_answer_308 (by decide) ?_
    refine g_icmp_eq X (pc := 311) (tgt := 332) dX16_answer_311 (by decide) (fun hc => ?_) (fun hc => ?_)
    · have h := (if_pos hc).symm.trans h
      refine g_sub [1, 2, 3, 4, 0] [(0, pR (some a0)), (1, pR a1), (6, pI a6), (7, pI a7), (8, pI s0)] rfl ?_
      exact wX16_answer_L332 X hE hn fu   a0 a1 a6 a7 s0 M h
    · have h := (if_neg hc).symm.trans h
      refine g_aload_n X (pc := 314) 1 rfl rfl dX16_answer_314 ?_
      obtain ⟨v3, ev3, h⟩ := bd h
      refine g_getI X (pc := 315) fk_16_43 rfl rfl ev3 tb_1857 dX16_answer_315 ?_
      refine g_sipush X (pc := 318) (v := 501) dX16_answer_318 (by decide) ?_
      refine g_icmp_eq X (pc := 321) (tgt := 332) dX16_answer_321 (by decide) (fun hc => ?_) (fun hc => ?_)
      · have h := (if_pos hc).symm.trans h
        refine g_sub [1, 2, 3, 4, 0] [(0, pR (some a0)), (1, pR a1), (6, pI a6), (7, pI a7), (8, pI s0)] rfl ?_
        exact wX16_answer_L332 X hE hn fu   a0 a1 a6 a7 s0 M h
      · have h := (if_neg hc).symm.trans h
        refine g_aload_n X (pc := 324) 2 rfl rfl dX16_answer_324 ?_
        refine g_aload_n X (pc := 325) 1 rfl rfl dX16_answer_325 ?_
        obtain ⟨v4, ev4, h⟩ := bd h
        refine g_getI X (pc := 326) fk_16_51 rfl rfl ev4 tb_1865 dX16_answer_326 ?_
        obtain ⟨M5, eM5, h⟩ := bd h
        refine g_putI X (pc := 329) fk_12_38 rfl rfl rfl eM5 tb_1627 (Or.inl rfl) dX16_answer_329 ?_
        refine g_sub [1, 2, 3, 4, 0] [(0, pR (some a0)), (1, pR a1), (6, pI a6), (7, pI a7), (8, pI s0)] rfl ?_
        exact wX16_answer_L332 X hE hn fu   a0 a1 a6 a7 s0 M5 h
theorem wX16_answer_L291 {x : GX} {n0 sl0 : Nat} (X : Cx x cX16_answer RX16 none n0 sl0 8 181) {out : Mm} (hE : Ends x n0 sl0 none out) (hn : xn x = 10) (fu : Nat)   (a0 : Nat) (a1 : Option Nat) (a6 : Int32) (a7 : Int32)  (M : Mm) (h : fX16_answer_L291 fu  a0 a1 a6 a7 M = some out) : Gw x M 291 [(0, pR (some a0)), (1, pR a1), (6, pI a6), (7, pI a7)] [] := by
  unfold fX16_answer_L291 at h
  refine g_iconst X (pc := 291) (v := 0) dX16_answer_291 (by decide) ?_
  exact wX16_answer_L292 X hE hn fu   a0 a1 a6 a7 (0 : Int32) M h
theorem wX16_answer_L287 {x : GX} {n0 sl0 : Nat} (X : Cx x cX16_answer RX16 none n0 sl0 8 181) {out : Mm} (hE : Ends x n0 sl0 none out) (hn : xn x = 10) (fu : Nat)   (a0 : Nat) (a1 : Option Nat) (a6 : Int32) (a7 : Int32)  (M : Mm) (h : fX16_answer_L287 fu  a0 a1 a6 a7 M = some out) : Gw x M 287 [(0, pR (some a0)), (1, pR a1), (6, pI a6), (7, pI a7)] [] := by
  unfold fX16_answer_L287 at h
  refine g_iconst X (pc := 287) (v := 1) dX16_answer_287 (by decide) ?_
  refine g_goto X (pc := 288) (tgt := 292) dX16_answer_288 (by decide) ?_
  exact wX16_answer_L292 X hE hn fu   a0 a1 a6 a7 (1 : Int32) M h
theorem wX16_answer_L249 {x : GX} {n0 sl0 : Nat} (X : Cx x cX16_answer RX16 none n0 sl0 8 181) {out : Mm} (hE : Ends x n0 sl0 none out) (hn : xn x = 10) (fu : Nat)   (a0 : Nat) (a1 : Option Nat) (a5 : Int32) (a6 : Int32) (s0 : Int32) (M : Mm) (h : fX16_answer_L249 fu  a0 a1 a5 a6 s0 M = some out) : Gw x M 249 [(0, pR (some a0)), (1, pR a1), (5, pI a5), (6, pI a6)] [pI s0] := by
  unfold fX16_answer_L249 at h
  refine g_istore X (pc := 249) [(7, pI s0), (0, pR (some a0)), (1, pR a1), (5, pI a5), (6, pI a6)] (lt_n hn (by decide)) rfl dX16_answer_249 ?_
  refine g_iload X (pc := 251) 3 rfl dX16_answer_251 ?_
  refine g_if_eq X (pc := 253) (tgt := 291) dX16_answer_253 (by decide) (fun hc => ?_) (fun hc => ?_)
  · have h := (if_pos hc).symm.trans h
    refine g_sub [1, 2, 4, 0] [(0, pR (some a0)), (1, pR a1), (6, pI a6), (7, pI s0)] rfl ?_
    exact wX16_answer_L291 X hE hn fu   a0 a1 a6 s0 M h
  · have h := (if_neg hc).symm.trans h
    refine g_aload_n X (pc := 256) 1 rfl rfl dX16_answer_256 ?_
    obtain ⟨v1, ev1, h⟩ := bd h
    refine g_getI X (pc := 257) fk_16_45 rfl rfl ev1 tb_1859 dX16_answer_257 ?_
    refine g_if_eq X (pc := 260) (tgt := 280) dX16_answer_260 (by decide) (fun hc => ?_) (fun hc => ?_)
    · have h := (if_pos hc).symm.trans h
      refine g_aload_n X (pc := 280) 1 rfl rfl dX16_answer_280 ?_
      obtain ⟨v2, ev2, h⟩ := bd h
      refine g_getI X (pc := 281) fk_16_46 rfl rfl ev2 tb_1860 dX16_answer_281 ?_
      refine g_if_ne X (pc := 284) (tgt := 291) dX16_answer_284 (by decide) (fun hc => ?_) (fun hc => ?_)
      · have h := (if_neg hc).symm.trans h
        refine g_sub [1, 2, 4, 0] [(0, pR (some a0)), (1, pR a1), (6, pI a6), (7, pI s0)] rfl ?_
        exact wX16_answer_L291 X hE hn fu   a0 a1 a6 s0 M h
      · have h := (if_pos hc).symm.trans h
        refine g_sub [1, 2, 4, 0] [(0, pR (some a0)), (1, pR a1), (6, pI a6), (7, pI s0)] rfl ?_
        exact wX16_answer_L287 X hE hn fu   a0 a1 a6 s0 M h
    · have h := (if_neg hc).symm.trans h
      refine g_aload_n X (pc := 263) 1 rfl rfl dX16_answer_263 ?_
      obtain ⟨v3, ev3, h⟩ := bd h
      refine g_getI X (pc := 264) fk_16_47 rfl rfl ev3 tb_1861 dX16_answer_264 ?_
      refine g_if_eq X (pc := 267) (tgt := 291) dX16_answer_267 (by decide) (fun hc => ?_) (fun hc => ?_)
      · have h := (if_pos hc).symm.trans h
        refine g_sub [1, 2, 4, 0] [(0, pR (some a0)), (1, pR a1), (6, pI a6), (7, pI s0)] rfl ?_
        exact wX16_answer_L291 X hE hn fu   a0 a1 a6 s0 M h
      · have h := (if_neg hc).symm.trans h
        refine g_aload_n X (pc := 270) 1 rfl rfl dX16_answer_270 ?_
        obtain ⟨v4, ev4, h⟩ := bd h
        refine g_getI X (pc := 271) fk_16_46 rfl rfl ev4 tb_1860 dX16_answer_271 ?_
        refine g_if_ne X (pc := 274) (tgt := 291) dX16_answer_274 (by decide) (fun hc => ?_) (fun hc => ?_)
        · have h := (if_neg hc).symm.trans h
          refine g_sub [1, 2, 4, 0] [(0, pR (some a0)), (1, pR a1), (6, pI a6), (7, pI s0)] rfl ?_
          exact wX16_answer_L291 X hE hn fu   a0 a1 a6 s0 M h
        · have h := (if_pos hc).symm.trans h
          refine g_goto X (pc := 277) (tgt := 287) dX16_answer_277 (by decide) ?_
          refine g_sub [1, 2, 4, 0] [(0, pR (some a0)), (1, pR a1), (6, pI a6), (7, pI s0)] rfl ?_
          exact wX16_answer_L287 X hE hn fu   a0 a1 a6 s0 M h
theorem wX16_answer_L244 {x : GX} {n0 sl0 : Nat} (X : Cx x cX16_answer RX16 none n0 sl0 8 181) {out : Mm} (hE : Ends x n0 sl0 none out) (hn : xn x = 10) (fu : Nat)   (a0 : Nat) (a1 : Option Nat) (a5 : Int32) (a6 : Int32)  (M : Mm) (h : fX16_answer_L244 fu  a0 a1 a5 a6 M = some out) : Gw x M 244 [(0, pR (some a0)), (1, pR a1), (5, pI a5), (6, pI a6)] [] := by
  unfold fX16_answer_L244 at h
  refine g_iconst X (pc := 244) (v := 1) dX16_answer_244 (by decide) ?_
  refine g_goto X (pc := 245) (tgt := 249) dX16_answer_245 (by decide) ?_
  exact wX16_answer_L249 X hE hn fu   a0 a1 a5 a6 (1 : Int32) M h
theorem wX16_answer_L204 {x : GX} {n0 sl0 : Nat} (X : Cx x cX16_answer RX16 none n0 sl0 8 181) {out : Mm} (hE : Ends x n0 sl0 none out) (hn : xn x = 10) (fu : Nat)   (a0 : Nat) (a1 : Option Nat) (a5 : Int32) (a6 : Int32)  (M : Mm) (h : fX16_answer_L204 fu  a0 a1 a5 a6 M = some out) : Gw x M 204 [(0, pR (some a0)), (1, pR a1), (5, pI a5), (6, pI a6)] [] := by
  unfold fX16_answer_L204 at h
  refine g_aload_n X (pc := 204) 0 rfl rfl dX16_answer_204 ?_
  obtain ⟨v1, ev1, h⟩ := bd h
  refine g_getI X (pc := 205) fk_16_43 rfl rfl ev1 tb_1857 dX16_answer_205 ?_
  refine g_sipush X (pc := 208) (v := 400) dX16_answer_208 (by decide) ?_
  refine g_icmp_eq X (pc := 211) (tgt := 244) dX16_answer_211 (by decide) (fun hc => ?_) (fun hc => ?_)
  · have h := (if_pos hc).symm.trans h
    exact wX16_answer_L244 X hE hn fu   a0 a1 a5 a6 M h
  · have h := (if_neg hc).symm.trans h
    refine g_aload_n X (pc := 214) 0 rfl rfl dX16_answer_214 ?_
    obtain ⟨v2, ev2, h⟩ := bd h
    refine g_getI X (pc := 215) fk_16_43 rfl rfl ev2 tb_1857 dX16_answer_215 ?_
    refine g_sipush X (pc := 218) (v := 413) dX16_answer_218 (by decide) ?_
    refine g_icmp_eq X (pc := 221) (tgt := 244) dX16_answer_221 (by decide) (fun hc => ?_) (fun hc => ?_)
    · have h := (if_pos hc).symm.trans h
      exact wX16_answer_L244 X hE hn fu   a0 a1 a5 a6 M h
    · have h := (if_neg hc).symm.trans h
      refine g_aload_n X (pc := 224) 0 rfl rfl dX16_answer_224 ?_
      obtain ⟨v3, ev3, h⟩ := bd h
      refine g_getI X (pc := 225) fk_16_43 rfl rfl ev3 tb_1857 dX16_answer_225 ?_
      refine g_sipush X (pc := 228) (v := 500) dX16_answer_228 (by decide) ?_
      refine g_icmp_eq X (pc := 231) (tgt := 244) dX16_answer_231 (by decide) (fun hc => ?_) (fun hc => ?_)
      · have h := (if_pos hc).symm.trans h
        exact wX16_answer_L244 X hE hn fu   a0 a1 a5 a6 M h
      · have h := (if_neg hc).symm.trans h
        refine g_aload_n X (pc := 234) 0 rfl rfl dX16_answer_234 ?_
        obtain ⟨v4, ev4, h⟩ := bd h
        refine g_getI X (pc := 235) fk_16_43 rfl rfl ev4 tb_1857 dX16_answer_235 ?_
        refine g_sipush X (pc := 238) (v := 501) dX16_answer_238 (by decide) ?_
        refine g_icmp_ne X (pc := 241) (tgt := 248) dX16_answer_241 (by decide) (fun hc => ?_) (fun hc => ?_)
        · have h := (if_neg hc).symm.trans h
          refine g_iconst X (pc := 248) (v := 0) dX16_answer_248 (by decide) ?_
          exact wX16_answer_L249 X hE hn fu   a0 a1 a5 a6 (0 : Int32) M h
        · have h := (if_pos hc).symm.trans h
          exact wX16_answer_L244 X hE hn fu   a0 a1 a5 a6 M h
theorem wX16_answer_L183 {x : GX} {n0 sl0 : Nat} (X : Cx x cX16_answer RX16 none n0 sl0 8 181) {out : Mm} (hE : Ends x n0 sl0 none out) (hn : xn x = 10) (fu : Nat)   (a0 : Nat) (a1 : Option Nat) (a4 : Int32) (a5 : Int32) (a6 : Int32)  (M : Mm) (h : fX16_answer_L183 fu  a0 a1 a4 a5 a6 M = some out) : Gw x M 183 [(0, pR (some a0)), (1, pR a1), (4, pI a4), (5, pI a5), (6, pI a6)] [] := by
  unfold fX16_answer_L183 at h
  refine g_iload X (pc := 183) 2 rfl dX16_answer_183 ?_
  refine g_if_ne X (pc := 185) (tgt := 198) dX16_answer_185 (by decide) (fun hc => ?_) (fun hc => ?_)
  · have h := (if_neg hc).symm.trans h
    refine g_aload_n X (pc := 198) 0 rfl rfl dX16_answer_198 ?_
    obtain ⟨q1, eq1, h⟩ := bd h
    obtain ⟨v3, M2, eM2, h⟩ := b2d h
    refine g_callV X (pc := 199) (M' := M2) (ro := some (pI v3)) (c := 16) rfl (by decide) (as := []) (as' := []) (st := []) eq1 (ctX16_chosen _ _ _ _ _ _ fu q1  M _ eM2) tb_2402 tb_2399 tb_2401 ts_130 tb_8 ⟨rfl, hyX16_chosen⟩ rfl rfl ⟨by decide, by decide⟩ (Nat.le_of_ble_eq_true rfl) dX16_answer_199 ?_
    refine g_istore X (pc := 202) [(6, pI v3), (0, pR (some a0)), (1, pR a1), (4, pI a4), (5, pI a5)] (lt_n hn (by decide)) rfl dX16_answer_202 ?_
    refine g_sub [1, 2, 4, 0] [(0, pR (some a0)), (1, pR a1), (5, pI a5), (6, pI v3)] rfl ?_
    exact wX16_answer_L204 X hE hn fu   a0 a1 a5 v3 M2 h
  · have h := (if_pos hc).symm.trans h
    refine g_aload_n X (pc := 188) 0 rfl rfl dX16_answer_188 ?_
    refine g_sipush X (pc := 189) (v := 400) dX16_answer_189 (by decide) ?_
    obtain ⟨M4, eM4, h⟩ := bd h
    refine g_putI X (pc := 192) fk_16_43 rfl rfl rfl eM4 tb_1857 (Or.inl rfl) dX16_answer_192 ?_
    refine g_goto X (pc := 195) (tgt := 204) dX16_answer_195 (by decide) ?_
    refine g_sub [0, 1, 3, 4] [(0, pR (some a0)), (1, pR a1), (5, pI a5), (6, pI a6)] rfl ?_
    exact wX16_answer_L204 X hE hn fu   a0 a1 a5 a6 M4 h
theorem wX16_answer_L180 {x : GX} {n0 sl0 : Nat} (X : Cx x cX16_answer RX16 none n0 sl0 8 181) {out : Mm} (hE : Ends x n0 sl0 none out) (hn : xn x = 10) (fu : Nat) (k127 : Nat → Option Nat → Int32 → Int32 → Int32 → Int32 → Mm → Option (Mm)) (hk127 : ∀ (b0 : Nat) (b1 : Option Nat) (b3 : Int32) (b4 : Int32) (b5 : Int32) (b6 : Int32)  (M : Mm), k127 b0 b1 b3 b4 b5 b6 M = some out → Gw x M 127 [(0, pR (some b0)), (1, pR b1), (3, pI b3), (4, pI b4), (5, pI b5), (6, pI b6)] []) (a0 : Nat) (a1 : Option Nat) (a3 : Int32) (a4 : Int32) (a5 : Int32) (a6 : Int32)  (M : Mm) (h : fX16_answer_L180 fu k127 a0 a1 a3 a4 a5 a6 M = some out) : Gw x M 180 [(0, pR (some a0)), (1, pR a1), (3, pI a3), (4, pI a4), (5, pI a5), (6, pI a6)] [] := by
  unfold fX16_answer_L180 at h
  refine g_goto X (pc := 180) (tgt := 127) dX16_answer_180 (by decide) ?_
  exact hk127 a0 a1 a3 a4 a5 a6 M h
theorem wX16_answer_L127 {x : GX} {n0 sl0 : Nat} (X : Cx x cX16_answer RX16 none n0 sl0 8 181) {out : Mm} (hE : Ends x n0 sl0 none out) (hn : xn x = 10) (fu : Nat)   : ∀ (n : Nat) (a0 : Nat) (a1 : Option Nat) (a3 : Int32) (a4 : Int32) (a5 : Int32) (a6 : Int32)  (M : Mm), fX16_answer_L127 fu  n a0 a1 a3 a4 a5 a6 M = some out → Gw x M 127 [(0, pR (some a0)), (1, pR a1), (3, pI a3), (4, pI a4), (5, pI a5), (6, pI a6)] [] := by
  intro n
  induction n with
  | zero =>
    intro a0 a1 a3 a4 a5 a6 M h
    have h : (none : Option (Mm)) = some out := h
    cases h
  | succ n ih =>
    intro a0 a1 a3 a4 a5 a6 M h
    rw [fX16_answer_L127] at h
    refine g_iload X (pc := 127) 3 rfl dX16_answer_127 ?_
    refine g_if_eq X (pc := 129) (tgt := 183) dX16_answer_129 (by decide) (fun hc => ?_) (fun hc => ?_)
    · have h := (if_pos hc).symm.trans h
      refine g_sub [0, 1, 3, 4, 5] [(0, pR (some a0)), (1, pR a1), (4, pI a4), (5, pI a5), (6, pI a6)] rfl ?_
      exact wX16_answer_L183 X hE hn fu   a0 a1 a4 a5 a6 M h
    · have h := (if_neg hc).symm.trans h
      refine g_aload_n X (pc := 132) 0 rfl rfl dX16_answer_132 ?_
      obtain ⟨v1, ev1, h⟩ := bd h
      refine g_getI X (pc := 133) fk_16_42 rfl rfl ev1 tb_1856 dX16_answer_133 ?_
      refine g_iload_n X (pc := 136) 2 rfl rfl dX16_answer_136 ?_
      refine g_iconst X (pc := 137) (v := 1) dX16_answer_137 (by decide) ?_
      refine g_iadd X (pc := 138) dX16_answer_138 ?_
      refine g_icmp_le X (pc := 139) (tgt := 183) dX16_answer_139 (by decide) (fun hc => ?_) (fun hc => ?_)
      · have h := (if_pos hc).symm.trans h
        refine g_sub [0, 1, 3, 4, 5] [(0, pR (some a0)), (1, pR a1), (4, pI a4), (5, pI a5), (6, pI a6)] rfl ?_
        exact wX16_answer_L183 X hE hn fu   a0 a1 a4 a5 a6 M h
      · have h := (if_neg hc).symm.trans h
        refine g_iload_n X (pc := 142) 2 rfl rfl dX16_answer_142 ?_
        refine g_iconst X (pc := 143) (v := 1) dX16_answer_143 (by decide) ?_
        refine g_iadd X (pc := 144) dX16_answer_144 ?_
        refine g_istore X (pc := 145) [(7, pI (a3 + (1 : Int32))), (0, pR (some a0)), (1, pR a1), (3, pI a3), (4, pI a4), (5, pI a5), (6, pI a6)] (lt_n hn (by decide)) rfl dX16_answer_145 ?_
        refine g_aload_n X (pc := 147) 1 rfl rfl dX16_answer_147 ?_
        refine g_iload X (pc := 148) 0 rfl dX16_answer_148 ?_
        obtain ⟨q2, eq2, h⟩ := bd h
        obtain ⟨v4, M3, eM3, h⟩ := b2d h
        refine g_callV X (pc := 150) (M' := M3) (ro := some (pI v4)) (c := 16) rfl (by decide) (as := [pI (a3 + (1 : Int32))]) (as' := [pI (a3 + (1 : Int32))]) (st := []) eq2 (ctX16_lineEnd _ _ _ _ _ _ fu q2 (a3 + (1 : Int32)) M _ eM3) tb_2340 tb_2337 tb_2339 ts_121 tb_8 ⟨rfl, hyX16_lineEnd⟩ rfl rfl ⟨by decide, by decide⟩ (Nat.le_of_ble_eq_true rfl) dX16_answer_150 ?_
        refine g_istore_n X (pc := 153) [(3, pI v4), (7, pI (a3 + (1 : Int32))), (0, pR (some a0)), (1, pR a1), (4, pI a4), (5, pI a5), (6, pI a6)] rfl (lt_n hn (by decide)) rfl dX16_answer_153 ?_
        refine g_aload_n X (pc := 154) 2 rfl rfl dX16_answer_154 ?_
        refine g_iload X (pc := 155) 1 rfl dX16_answer_155 ?_
        refine g_iload_n X (pc := 157) 0 rfl rfl dX16_answer_157 ?_
        obtain ⟨q5, eq5, h⟩ := bd h
        obtain ⟨v7, M6, eM6, h⟩ := b2d h
        refine g_callV X (pc := 158) (M' := M6) (ro := some (pI v7)) (c := 16) rfl (by decide) (as := [pI (a3 + (1 : Int32)), pI v4]) (as' := [pI v4, pI (a3 + (1 : Int32))]) (st := []) eq5 (ctX16_shown _ _ _ _ _ _ fu q5 (a3 + (1 : Int32)) v4 M3 _ eM6) tb_2344 tb_2341 tb_2343 ts_122 tb_8 ⟨rfl, hyX16_shown⟩ rfl rfl ⟨by decide, by decide⟩ (Nat.le_of_ble_eq_true rfl) dX16_answer_158 ?_
        refine g_istore X (pc := 161) [(8, pI v7), (3, pI v4), (7, pI (a3 + (1 : Int32))), (0, pR (some a0)), (1, pR a1), (4, pI a4), (5, pI a5), (6, pI a6)] (lt_n hn (by decide)) rfl dX16_answer_161 ?_
        refine g_iload X (pc := 163) 0 rfl dX16_answer_163 ?_
        refine g_iload X (pc := 165) 2 rfl dX16_answer_165 ?_
        refine g_icmp_le X (pc := 167) (tgt := 180) dX16_answer_167 (by decide) (fun hc => ?_) (fun hc => ?_)
        · have h := (if_pos hc).symm.trans h
          refine g_sub [3, 4, 1, 5, 6, 7] [(0, pR (some a0)), (1, pR a1), (3, pI v4), (4, pI a4), (5, pI a5), (6, pI a6)] rfl ?_
          exact wX16_answer_L180 X hE hn fu (fun b0 b1 b3 b4 b5 b6 M => fX16_answer_L127 fu  n b0 b1 b3 b4 b5 b6 M) ih a0 a1 v4 a4 a5 a6 M6 h
        · have h := (if_neg hc).symm.trans h
          refine g_aload_n X (pc := 170) 3 rfl rfl dX16_answer_170 ?_
          refine g_iload X (pc := 171) 2 rfl dX16_answer_171 ?_
          refine g_iload X (pc := 173) 0 rfl dX16_answer_173 ?_
          obtain ⟨q8, eq8, h⟩ := bd h
          obtain ⟨v10, M9, eM9, h⟩ := b2d h
          refine g_callV X (pc := 175) (M' := M9) (ro := some (pI v10)) (c := 16) rfl (by decide) (as := [pI (a3 + (1 : Int32)), pI v7]) (as' := [pI v7, pI (a3 + (1 : Int32))]) (st := []) eq8 (ctX16_field _ _ _ _ _ _ fu q8 (a3 + (1 : Int32)) v7 M6 _ eM9) tb_2366 tb_2363 tb_2365 ts_126 tb_8 ⟨rfl, hyX16_field⟩ rfl rfl ⟨by decide, by decide⟩ (Nat.le_of_ble_eq_true rfl) dX16_answer_175 ?_
          refine g_istore X (pc := 178) [(4, pI v10), (8, pI v7), (3, pI v4), (7, pI (a3 + (1 : Int32))), (0, pR (some a0)), (1, pR a1), (5, pI a5), (6, pI a6)] (lt_n hn (by decide)) rfl dX16_answer_178 ?_
          refine g_sub [4, 5, 2, 0, 6, 7] [(0, pR (some a0)), (1, pR a1), (3, pI v4), (4, pI v10), (5, pI a5), (6, pI a6)] rfl ?_
          exact wX16_answer_L180 X hE hn fu (fun b0 b1 b3 b4 b5 b6 M => fX16_answer_L127 fu  n b0 b1 b3 b4 b5 b6 M) ih a0 a1 v4 v10 a5 a6 M9 h
theorem wX16_answer_L7 {x : GX} {n0 sl0 : Nat} (X : Cx x cX16_answer RX16 none n0 sl0 8 181) {out : Mm} (hE : Ends x n0 sl0 none out) (hn : xn x = 10) (fu : Nat)   : ∀ (n : Nat) (a0 : Nat) (a1 : Option Nat) (a2 : Int32) (a3 : Int32)  (M : Mm), fX16_answer_L7 fu  n a0 a1 a2 a3 M = some out → Gw x M 7 [(0, pR (some a0)), (1, pR a1), (2, pI a2), (3, pI a3)] [] := by
  intro n
  induction n with
  | zero =>
    intro a0 a1 a2 a3 M h
    have h : (none : Option (Mm)) = some out := h
    cases h
  | succ n ih =>
    intro a0 a1 a2 a3 M h
    rw [fX16_answer_L7] at h
    refine g_iload_n X (pc := 7) 3 rfl rfl dX16_answer_7 ?_
    refine g_iload_n X (pc := 8) 2 rfl rfl dX16_answer_8 ?_
    refine g_icmp_ge X (pc := 9) (tgt := 30) dX16_answer_9 (by decide) (fun hc => ?_) (fun hc => ?_)
    · have h := (if_pos hc).symm.trans h
      refine g_aload_n X (pc := 30) 0 rfl rfl dX16_answer_30 ?_
      refine g_aload_n X (pc := 31) 1 rfl rfl dX16_answer_31 ?_
      refine g_iload_n X (pc := 32) 2 rfl rfl dX16_answer_32 ?_
      obtain ⟨q1, eq1, h⟩ := bd h
      obtain ⟨M2, eM2, h⟩ := bd h
      refine g_callV X (pc := 33) (M' := M2) (ro := none) (c := 16) rfl (by decide) (as := [pR a1, pI a2]) (as' := [pI a2, pR a1]) (st := []) eq1 (ctX16_take _ _ _ _ _ _ fu q1 a1 a2 M _ eM2) tb_2321 tb_2318 tb_2320 ts_117 tb_8 ⟨rfl, hyX16_take⟩ rfl rfl ⟨by decide, by decide⟩ (Nat.le_of_ble_eq_true rfl) dX16_answer_33 ?_
      refine g_aload_n X (pc := 36) 0 rfl rfl dX16_answer_36 ?_
      refine g_iconst X (pc := 37) (v := 0) dX16_answer_37 (by decide) ?_
      obtain ⟨M3, eM3, h⟩ := bd h
      refine g_putI X (pc := 38) fk_16_43 rfl rfl rfl eM3 tb_1857 (Or.inl rfl) dX16_answer_38 ?_
      refine g_aload_n X (pc := 41) 0 rfl rfl dX16_answer_41 ?_
      refine g_iconst X (pc := 42) (v := 0) dX16_answer_42 (by decide) ?_
      obtain ⟨M4, eM4, h⟩ := bd h
      refine g_putZ X (pc := 43) fk_16_44 rfl rfl rfl eM4 tb_1858 (Or.inl rfl) dX16_answer_43 ?_
      refine g_aload_n X (pc := 46) 0 rfl rfl dX16_answer_46 ?_
      refine g_iconst X (pc := 47) (v := 0) dX16_answer_47 (by decide) ?_
      obtain ⟨M5, eM5, h⟩ := bd h
      refine g_putZ X (pc := 48) fk_16_45 rfl rfl rfl eM5 tb_1859 (Or.inl rfl) dX16_answer_48 ?_
      refine g_aload_n X (pc := 51) 0 rfl rfl dX16_answer_51 ?_
      refine g_iconst X (pc := 52) (v := 0) dX16_answer_52 (by decide) ?_
      obtain ⟨M6, eM6, h⟩ := bd h
      refine g_putZ X (pc := 53) fk_16_46 rfl rfl rfl eM6 tb_1860 (Or.inl rfl) dX16_answer_53 ?_
      refine g_aload_n X (pc := 56) 0 rfl rfl dX16_answer_56 ?_
      refine g_iconst X (pc := 57) (v := 0) dX16_answer_57 (by decide) ?_
      obtain ⟨M7, eM7, h⟩ := bd h
      refine g_putZ X (pc := 58) fk_16_47 rfl rfl rfl eM7 tb_1861 (Or.inl rfl) dX16_answer_58 ?_
      refine g_aload_n X (pc := 61) 0 rfl rfl dX16_answer_61 ?_
      refine g_iconst X (pc := 62) (v := 0) dX16_answer_62 (by decide) ?_
      obtain ⟨M8, eM8, h⟩ := bd h
      refine g_putI X (pc := 63) fk_16_48 rfl rfl rfl eM8 tb_1862 (Or.inl rfl) dX16_answer_63 ?_
      refine g_aload_n X (pc := 66) 0 rfl rfl dX16_answer_66 ?_
      refine g_iconst X (pc := 67) (v := 0) dX16_answer_67 (by decide) ?_
      obtain ⟨M9, eM9, h⟩ := bd h
      refine g_putI X (pc := 68) fk_16_49 rfl rfl rfl eM9 tb_1863 (Or.inl rfl) dX16_answer_68 ?_
      refine g_aload_n X (pc := 71) 0 rfl rfl dX16_answer_71 ?_
      refine g_iconst X (pc := 72) (v := 0) dX16_answer_72 (by decide) ?_
      obtain ⟨M10, eM10, h⟩ := bd h
      refine g_putI X (pc := 73) fk_16_50 rfl rfl rfl eM10 tb_1864 (Or.inl rfl) dX16_answer_73 ?_
      refine g_aload_n X (pc := 76) 0 rfl rfl dX16_answer_76 ?_
      refine g_iconst X (pc := 77) (v := 0) dX16_answer_77 (by decide) ?_
      obtain ⟨M11, eM11, h⟩ := bd h
      refine g_putI X (pc := 78) fk_16_51 rfl rfl rfl eM11 tb_1865 (Or.inl rfl) dX16_answer_78 ?_
      refine g_aload_n X (pc := 81) 0 rfl rfl dX16_answer_81 ?_
      refine g_iconst X (pc := 82) (v := 0) dX16_answer_82 (by decide) ?_
      obtain ⟨M12, eM12, h⟩ := bd h
      refine g_putZ X (pc := 83) fk_16_52 rfl rfl rfl eM12 tb_1866 (Or.inl rfl) dX16_answer_83 ?_
      refine g_aload_n X (pc := 86) 0 rfl rfl dX16_answer_86 ?_
      refine g_iconst X (pc := 87) (v := 0) dX16_answer_87 (by decide) ?_
      obtain ⟨M13, eM13, h⟩ := bd h
      refine g_putZ X (pc := 88) fk_16_53 rfl rfl rfl eM13 tb_1867 (Or.inl rfl) dX16_answer_88 ?_
      refine g_aload_n X (pc := 91) 0 rfl rfl dX16_answer_91 ?_
      refine g_iconst X (pc := 92) (v := 0) dX16_answer_92 (by decide) ?_
      obtain ⟨M14, eM14, h⟩ := bd h
      refine g_putZ X (pc := 93) fk_16_54 rfl rfl rfl eM14 tb_1868 (Or.inl rfl) dX16_answer_93 ?_
      refine g_aload_n X (pc := 96) 0 rfl rfl dX16_answer_96 ?_
      refine g_iconst X (pc := 97) (v := 0) dX16_answer_97 (by decide) ?_
      obtain ⟨M15, eM15, h⟩ := bd h
      refine g_putZ X (pc := 98) fk_16_55 rfl rfl rfl eM15 tb_1869 (Or.inl rfl) dX16_answer_98 ?_
      refine g_aload_n X (pc := 101) 0 rfl rfl dX16_answer_101 ?_
      refine g_iconst X (pc := 102) (v := 0) dX16_answer_102 (by decide) ?_
      obtain ⟨q16, eq16, h⟩ := bd h
      obtain ⟨v18, M17, eM17, h⟩ := b2d h
      refine g_callV X (pc := 103) (M' := M17) (ro := some (pI v18)) (c := 16) rfl (by decide) (as := [pI (0 : Int32)]) (as' := [pI (0 : Int32)]) (st := []) eq16 (ctX16_lineEnd _ _ _ _ _ _ fu q16 (0 : Int32) M15 _ eM17) tb_2340 tb_2337 tb_2339 ts_121 tb_8 ⟨rfl, hyX16_lineEnd⟩ rfl rfl ⟨by decide, by decide⟩ (Nat.le_of_ble_eq_true rfl) dX16_answer_103 ?_
      refine g_istore_n X (pc := 106) [(3, pI v18), (0, pR (some a0)), (1, pR a1), (2, pI a2)] rfl (lt_n hn (by decide)) rfl dX16_answer_106 ?_
      refine g_aload_n X (pc := 107) 1 rfl rfl dX16_answer_107 ?_
      refine g_iconst X (pc := 108) (v := 0) dX16_answer_108 (by decide) ?_
      refine g_aload_n X (pc := 109) 1 rfl rfl dX16_answer_109 ?_
      refine g_iconst X (pc := 110) (v := 0) dX16_answer_110 (by decide) ?_
      refine g_iload_n X (pc := 111) 0 rfl rfl dX16_answer_111 ?_
      obtain ⟨q19, eq19, h⟩ := bd h
      obtain ⟨v21, M20, eM20, h⟩ := b2d h
      refine g_callV X (pc := 112) (M' := M20) (ro := some (pI v21)) (c := 16) rfl (by decide) (as := [pI (0 : Int32), pI v18]) (as' := [pI v18, pI (0 : Int32)]) (st := [pI (0 : Int32), pR (some a0)]) eq19 (ctX16_shown _ _ _ _ _ _ fu q19 (0 : Int32) v18 M17 _ eM20) tb_2344 tb_2341 tb_2343 ts_122 tb_8 ⟨rfl, hyX16_shown⟩ rfl rfl ⟨by decide, by decide⟩ (Nat.le_of_ble_eq_true rfl) dX16_answer_112 ?_
      obtain ⟨q22, eq22, h⟩ := bd h
      obtain ⟨v24, M23, eM23, h⟩ := b2d h
      refine g_callV X (pc := 115) (M' := M23) (ro := some (pI v24)) (c := 16) rfl (by decide) (as := [pI (0 : Int32), pI v21]) (as' := [pI v21, pI (0 : Int32)]) (st := []) eq22 (ctX16_requestLine _ _ _ _ _ _ fu q22 (0 : Int32) v21 M20 _ eM23) tb_2348 tb_2345 tb_2347 ts_123 tb_8 ⟨rfl, hyX16_requestLine⟩ rfl rfl ⟨by decide, by decide⟩ (Nat.le_of_ble_eq_true rfl) dX16_answer_115 ?_
      refine g_istore X (pc := 118) [(4, pI v24), (3, pI v18), (0, pR (some a0)), (1, pR a1), (2, pI a2)] (lt_n hn (by decide)) rfl dX16_answer_118 ?_
      refine g_iload X (pc := 120) 0 rfl dX16_answer_120 ?_
      refine g_istore X (pc := 122) [(5, pI v24), (4, pI v24), (3, pI v18), (0, pR (some a0)), (1, pR a1), (2, pI a2)] (lt_n hn (by decide)) rfl dX16_answer_122 ?_
      refine g_iconst X (pc := 124) (v := (-1)) dX16_answer_124 (by decide) ?_
      refine g_istore X (pc := 125) [(6, pI (-1 : Int32)), (5, pI v24), (4, pI v24), (3, pI v18), (0, pR (some a0)), (1, pR a1), (2, pI a2)] (lt_n hn (by decide)) rfl dX16_answer_125 ?_
      refine g_sub [4, 5, 3, 2, 1, 0] [(0, pR (some a0)), (1, pR a1), (3, pI v18), (4, pI v24), (5, pI v24), (6, pI (-1 : Int32))] rfl ?_
      exact wX16_answer_L127 X hE hn fu   fu a0 a1 v18 v24 v24 (-1 : Int32) M23 h
    · have h := (if_neg hc).symm.trans h
      refine g_aload_n X (pc := 12) 0 rfl rfl dX16_answer_12 ?_
      obtain ⟨v25, ev25, h⟩ := bd h
      refine g_getR X (pc := 13) fk_16_41 rfl rfl ev25 tb_1855 dX16_answer_13 ?_
      refine g_iload_n X (pc := 16) 3 rfl rfl dX16_answer_16 ?_
      refine g_aload_n X (pc := 17) 1 rfl rfl dX16_answer_17 ?_
      obtain ⟨v26, ev26, h⟩ := bd h
      refine g_getR X (pc := 18) fk_12_32 rfl rfl ev26 tb_1618 dX16_answer_18 ?_
      refine g_iload_n X (pc := 21) 3 rfl rfl dX16_answer_21 ?_
      obtain ⟨v27, ev27, h⟩ := bd h
      refine g_baload X (pc := 22) ev27 dX16_answer_22 ?_
      obtain ⟨M28, eM28, h⟩ := bd h
      refine g_bastore X (pc := 23) eM28 dX16_answer_23 ?_
      refine g_iinc X (pc := 24) 3 [(3, pI (a3 + (1 : Int32))), (0, pR (some a0)), (1, pR a1), (2, pI a2)] rfl (iinc_e (by decide)) (lt_n hn (by decide)) rfl dX16_answer_24 ?_
      refine g_goto X (pc := 27) (tgt := 7) dX16_answer_27 (by decide) ?_
      refine g_sub [1, 2, 3, 0] [(0, pR (some a0)), (1, pR a1), (2, pI a2), (3, pI (a3 + (1 : Int32)))] rfl ?_
      exact ih a0 a1 a2 (a3 + (1 : Int32)) M28 h
theorem wX16_answer {x : GX} {n0 sl0 : Nat} (X : Cx x cX16_answer RX16 none n0 sl0 8 181) {out : Mm} (hE : Ends x n0 sl0 none out) (hn : xn x = 10) (fu : Nat)   (a0 : Nat) (a1 : Option Nat) (a2 : Int32)  (M : Mm) (h : fX16_answer fu  a0 a1 a2 M = some out) : Gw x M 0 [(0, pR (some a0)), (1, pR a1), (2, pI a2)] [] := by
  unfold fX16_answer at h
  refine g_aload_n X (pc := 0) 0 rfl rfl dX16_answer_0 ?_
  refine g_iload_n X (pc := 1) 2 rfl rfl dX16_answer_1 ?_
  obtain ⟨M1, eM1, h⟩ := bd h
  refine g_putI X (pc := 2) fk_16_42 rfl rfl rfl eM1 tb_1856 (Or.inl rfl) dX16_answer_2 ?_
  refine g_iconst X (pc := 5) (v := 0) dX16_answer_5 (by decide) ?_
  refine g_istore_n X (pc := 6) [(3, pI (0 : Int32)), (0, pR (some a0)), (1, pR a1), (2, pI a2)] rfl (lt_n hn (by decide)) rfl dX16_answer_6 ?_
  refine g_sub [1, 2, 3, 0] [(0, pR (some a0)), (1, pR a1), (2, pI a2), (3, pI (0 : Int32))] rfl ?_
  exact wX16_answer_L7 X hE hn fu   fu a0 a1 a2 (0 : Int32) M1 h
theorem hyX16_answer : yX16_answer.cls ≠ "java/lang/invoke/MethodHandle" ∧ yX16_answer.cls ≠ "java/lang/invoke/VarHandle" ∧ (parseMethodDescriptor yX16_answer.desc).map (fun d => d.parameters.length) = some 2 := ⟨by decide +kernel, by decide +kernel, by decide +kernel⟩
theorem ctX16_answer (l : Launch) (E : Nat → Nat) (D : va_G) (dA : Nat → ClassId) (lo : Nat) (H0 : Heap) (fu : Nat) (a0 : Nat) (a1 : Option Nat) (a2 : Int32) (M : Mm) (out : Mm) (h : fX16_answer fu a0 a1 a2 M = some out) : Ct l E D dA lo H0 yX16_answer cX16_answer 10 none 8 181 [pR (some a0), pR a1, pI a2] M none out := by
  refine ct_of (by decide +kernel) (Nat.le_of_ble_eq_true rfl) ?_
  intro x hl he hd ha ho hh hn hin X hE
  exact wX16_answer X hE hn fu a0 a1 a2 M h
/-! WebHostModel.refuse(LWebHostModel$Connection;)V -/
def fX16_refuse (fu : Nat)  (a0 : Nat) (a1 : Option Nat)  (M : Mm) : Option (Mm) :=
    (rc M 12 a1).bind fun q1 =>
    b2 (fX12_held fu q1  M) fun v3 M2 =>
    (rc M2 16 (some a0)).bind fun q4 =>
    (fX16_take fu q4 a1 v3 M2).bind fun M5 =>
    (pZ M5 16 1068 (some a0) (0 : Int32)).bind fun M6 =>
    (pF M6 16 1067 (some a0) (431 : Int32)).bind fun M7 =>
    (rc M7 16 (some a0)).bind fun q8 =>
    (fX16_make fu q8 a1 (-1 : Int32) (1 : Int32) M7).bind fun M9 =>
    some M9
theorem dX16_refuse_0 : decode cX16_refuse 0 = .ok (.aload_n 0, 1) := by decide +kernel
theorem dX16_refuse_1 : decode cX16_refuse 1 = .ok (.aload_n 1, 1) := by decide +kernel
theorem dX16_refuse_2 : decode cX16_refuse 2 = .ok (.aload_n 1, 1) := by decide +kernel
theorem dX16_refuse_3 : decode cX16_refuse 3 = .ok (.invokevirtual 612, 3) := by decide +kernel
theorem dX16_refuse_6 : decode cX16_refuse 6 = .ok (.invokevirtual 615, 3) := by decide +kernel
theorem dX16_refuse_9 : decode cX16_refuse 9 = .ok (.aload_n 0, 1) := by decide +kernel
theorem dX16_refuse_10 : decode cX16_refuse 10 = .ok (.iconst 0, 1) := by decide +kernel
theorem dX16_refuse_11 : decode cX16_refuse 11 = .ok (.putfield 634, 3) := by decide +kernel
theorem dX16_refuse_14 : decode cX16_refuse 14 = .ok (.aload_n 0, 1) := by decide +kernel
theorem dX16_refuse_15 : decode cX16_refuse 15 = .ok (.sipush 431, 3) := by decide +kernel
theorem dX16_refuse_18 : decode cX16_refuse 18 = .ok (.putfield 637, 3) := by decide +kernel
theorem dX16_refuse_21 : decode cX16_refuse 21 = .ok (.aload_n 0, 1) := by decide +kernel
theorem dX16_refuse_22 : decode cX16_refuse 22 = .ok (.aload_n 1, 1) := by decide +kernel
theorem dX16_refuse_23 : decode cX16_refuse 23 = .ok (.iconst (-1), 1) := by decide +kernel
theorem dX16_refuse_24 : decode cX16_refuse 24 = .ok (.iconst 1, 1) := by decide +kernel
theorem dX16_refuse_25 : decode cX16_refuse 25 = .ok (.invokevirtual 640, 3) := by decide +kernel
theorem dX16_refuse_28 : decode cX16_refuse 28 = .ok (.return_, 1) := by decide +kernel
theorem wX16_refuse {x : GX} {n0 sl0 : Nat} (X : Cx x cX16_refuse RX16 none n0 sl0 8 176) {out : Mm} (hE : Ends x n0 sl0 none out) (hn : xn x = 2) (fu : Nat)   (a0 : Nat) (a1 : Option Nat)  (M : Mm) (h : fX16_refuse fu  a0 a1 M = some out) : Gw x M 0 [(0, pR (some a0)), (1, pR a1)] [] := by
  unfold fX16_refuse at h
  refine g_aload_n X (pc := 0) 0 rfl rfl dX16_refuse_0 ?_
  refine g_aload_n X (pc := 1) 1 rfl rfl dX16_refuse_1 ?_
  refine g_aload_n X (pc := 2) 1 rfl rfl dX16_refuse_2 ?_
  obtain ⟨q1, eq1, h⟩ := bd h
  obtain ⟨v3, M2, eM2, h⟩ := b2d h
  refine g_callV X (pc := 3) (M' := M2) (ro := some (pI v3)) (c := 12) rfl (by decide) (as := []) (as' := []) (st := [pR a1, pR (some a0)]) eq1 (ctX12_held _ _ _ _ _ _ fu q1  M _ eM2) tb_2112 tb_2317 tb_2110 tb_2111 tb_9 ⟨rfl, hyX12_held⟩ rfl rfl ⟨by decide, by decide⟩ (Nat.le_of_ble_eq_true rfl) dX16_refuse_3 ?_
  obtain ⟨q4, eq4, h⟩ := bd h
  obtain ⟨M5, eM5, h⟩ := bd h
  refine g_callV X (pc := 6) (M' := M5) (ro := none) (c := 16) rfl (by decide) (as := [pR a1, pI v3]) (as' := [pI v3, pR a1]) (st := []) eq4 (ctX16_take _ _ _ _ _ _ fu q4 a1 v3 M2 _ eM5) tb_2321 tb_2318 tb_2320 ts_117 tb_8 ⟨rfl, hyX16_take⟩ rfl rfl ⟨by decide, by decide⟩ (Nat.le_of_ble_eq_true rfl) dX16_refuse_6 ?_
  refine g_aload_n X (pc := 9) 0 rfl rfl dX16_refuse_9 ?_
  refine g_iconst X (pc := 10) (v := 0) dX16_refuse_10 (by decide) ?_
  obtain ⟨M6, eM6, h⟩ := bd h
  refine g_putZ X (pc := 11) fk_16_44 rfl rfl rfl eM6 tb_1858 (Or.inl rfl) dX16_refuse_11 ?_
  refine g_aload_n X (pc := 14) 0 rfl rfl dX16_refuse_14 ?_
  refine g_sipush X (pc := 15) (v := 431) dX16_refuse_15 (by decide) ?_
  obtain ⟨M7, eM7, h⟩ := bd h
  refine g_putI X (pc := 18) fk_16_43 rfl rfl rfl eM7 tb_1857 (Or.inl rfl) dX16_refuse_18 ?_
  refine g_aload_n X (pc := 21) 0 rfl rfl dX16_refuse_21 ?_
  refine g_aload_n X (pc := 22) 1 rfl rfl dX16_refuse_22 ?_
  refine g_iconst X (pc := 23) (v := (-1)) dX16_refuse_23 (by decide) ?_
  refine g_iconst X (pc := 24) (v := 1) dX16_refuse_24 (by decide) ?_
  obtain ⟨q8, eq8, h⟩ := bd h
  obtain ⟨M9, eM9, h⟩ := bd h
  refine g_callV X (pc := 25) (M' := M9) (ro := none) (c := 16) rfl (by decide) (as := [pR a1, pI (-1 : Int32), pI (1 : Int32)]) (as' := [pI (1 : Int32), pI (-1 : Int32), pR a1]) (st := []) eq8 (ctX16_make _ _ _ _ _ _ fu q8 a1 (-1 : Int32) (1 : Int32) M7 _ eM9) tb_2426 tb_2423 tb_2425 ts_134 tb_8 ⟨rfl, hyX16_make⟩ rfl rfl ⟨by decide, by decide⟩ (Nat.le_of_ble_eq_true rfl) dX16_refuse_25 ?_
  obtain rfl := Option.some.inj h
  exact g_return X hE dX16_refuse_28
theorem hyX16_refuse : yX16_refuse.cls ≠ "java/lang/invoke/MethodHandle" ∧ yX16_refuse.cls ≠ "java/lang/invoke/VarHandle" ∧ (parseMethodDescriptor yX16_refuse.desc).map (fun d => d.parameters.length) = some 1 := ⟨by decide +kernel, by decide +kernel, by decide +kernel⟩
theorem ctX16_refuse (l : Launch) (E : Nat → Nat) (D : va_G) (dA : Nat → ClassId) (lo : Nat) (H0 : Heap) (fu : Nat) (a0 : Nat) (a1 : Option Nat) (M : Mm) (out : Mm) (h : fX16_refuse fu a0 a1 M = some out) : Ct l E D dA lo H0 yX16_refuse cX16_refuse 2 none 8 176 [pR (some a0), pR a1] M none out := by
  refine ct_of (by decide +kernel) (Nat.le_of_ble_eq_true rfl) ?_
  intro x hl he hd ha ho hh hn hin X hE
  exact wX16_refuse X hE hn fu a0 a1 M h
/-! WebHostModel.oneRequest(LWebHostModel$Connection;)Z -/
def fX16_oneRequest_L76 (fu : Nat)  (a0 : Nat) (a1 : Option Nat) (s0 : Int32) (M : Mm) : Option (Int32 × Mm) :=
    if s0 ≤ 0 then (
    (rc M 12 a1).bind fun q1 =>
    b2 (fX12_held fu q1  M) fun v3 M2 =>
    if v3 = (4096 : Int32) then (
    (rc M2 16 (some a0)).bind fun q6 =>
    (fX16_refuse fu q6 a1 M2).bind fun M7 =>
    rN .boolean (0 : Int32) M7)
    else (
    (gI M2 12 768 a1).bind fun v4 =>
    if v4 = (7 : Int32) then (
    (pZ M2 12 798 a1 (1 : Int32)).bind fun M5 =>
    rN .boolean (0 : Int32) M5)
    else (
    rN .boolean (0 : Int32) M2)))
    else (
    (rc M 16 (some a0)).bind fun q8 =>
    (fX16_answer fu q8 a1 s0 M).bind fun M9 =>
    rN .boolean (0 : Int32) M9)
def fX16_oneRequest_L60 (fu : Nat)  (a0 : Nat) (a1 : Option Nat)  (M : Mm) : Option (Int32 × Mm) :=
    (gI M 12 806 a1).bind fun v1 =>
    if v1 = 0 then (
    (rc M 16 (some a0)).bind fun q2 =>
    b2 (fX16_headBytes fu q2 a1 M) fun v4 M3 =>
    fX16_oneRequest_L76 fu  a0 a1 v4 M3)
    else (
    fX16_oneRequest_L76 fu  a0 a1 (0 : Int32) M)
def fX16_oneRequest_L54 (fu : Nat) (k0 : Nat → Option Nat → Mm → Option (Int32 × Mm)) (a0 : Nat) (a1 : Option Nat) (s0 : Option Nat) (s1 : Option Nat) (s2 : Int32) (M : Mm) : Option (Int32 × Mm) :=
    (rc M 16 s0).bind fun q1 =>
    (fX16_take fu q1 s1 s2 M).bind fun M2 =>
    k0 a0 a1 M2
def fX16_oneRequest_L37 (fu : Nat) (k0 : Nat → Option Nat → Mm → Option (Int32 × Mm)) (a0 : Nat) (a1 : Option Nat)  (M : Mm) : Option (Int32 × Mm) :=
    b2 (fX16_byteAt fu  a1 (0 : Int32) M) fun v2 M1 =>
    if v2 = (10 : Int32) then (
    fX16_oneRequest_L54 fu k0 a0 a1 (some a0) a1 (1 : Int32) M1)
    else (
    fX16_oneRequest_L54 fu k0 a0 a1 (some a0) a1 (2 : Int32) M1)
def fX16_oneRequest_H (fu : Nat)  : Nat → Nat → Option Nat → Mm → Option (Int32 × Mm)
  | 0, _, _, _ => none
  | n + 1, a0, a1, M =>
    (gI M 12 806 a1).bind fun v1 =>
    if v1 = 0 then (
    b2 (fX16_byteAt fu  a1 (0 : Int32) M) fun v3 M2 =>
    if v3 = (10 : Int32) then (
    fX16_oneRequest_L37 fu (fun b0 b1 M => fX16_oneRequest_H fu  n b0 b1 M) a0 a1 M2)
    else (
    b2 (fX16_byteAt fu  a1 (0 : Int32) M2) fun v5 M4 =>
    if v5 = (13 : Int32) then (
    b2 (fX16_byteAt fu  a1 (1 : Int32) M4) fun v7 M6 =>
    if v7 = (10 : Int32) then (
    fX16_oneRequest_L37 fu (fun b0 b1 M => fX16_oneRequest_H fu  n b0 b1 M) a0 a1 M6)
    else (
    fX16_oneRequest_L60 fu  a0 a1 M6))
    else (
    fX16_oneRequest_L60 fu  a0 a1 M4)))
    else (
    fX16_oneRequest_L60 fu  a0 a1 M)
def fX16_oneRequest (fu : Nat) (a0 : Nat) (a1 : Option Nat) (M : Mm) : Option (Int32 × Mm) :=
    fX16_oneRequest_H fu fu a0 a1 M
theorem dX16_oneRequest_0 : decode cX16_oneRequest 0 = .ok (.aload_n 1, 1) := by decide +kernel
theorem dX16_oneRequest_1 : decode cX16_oneRequest 1 = .ok (.getfield 475, 3) := by decide +kernel
theorem dX16_oneRequest_4 : decode cX16_oneRequest 4 = .ok (.ifCond .ne 56, 3) := by decide +kernel
theorem dX16_oneRequest_7 : decode cX16_oneRequest 7 = .ok (.aload_n 1, 1) := by decide +kernel
theorem dX16_oneRequest_8 : decode cX16_oneRequest 8 = .ok (.iconst 0, 1) := by decide +kernel
theorem dX16_oneRequest_9 : decode cX16_oneRequest 9 = .ok (.invokestatic 621, 3) := by decide +kernel
theorem dX16_oneRequest_12 : decode cX16_oneRequest 12 = .ok (.bipush 10, 2) := by decide +kernel
theorem dX16_oneRequest_14 : decode cX16_oneRequest 14 = .ok (.if_icmp .eq 23, 3) := by decide +kernel
theorem dX16_oneRequest_17 : decode cX16_oneRequest 17 = .ok (.aload_n 1, 1) := by decide +kernel
theorem dX16_oneRequest_18 : decode cX16_oneRequest 18 = .ok (.iconst 0, 1) := by decide +kernel
theorem dX16_oneRequest_19 : decode cX16_oneRequest 19 = .ok (.invokestatic 621, 3) := by decide +kernel
theorem dX16_oneRequest_22 : decode cX16_oneRequest 22 = .ok (.bipush 13, 2) := by decide +kernel
theorem dX16_oneRequest_24 : decode cX16_oneRequest 24 = .ok (.if_icmp .ne 36, 3) := by decide +kernel
theorem dX16_oneRequest_27 : decode cX16_oneRequest 27 = .ok (.aload_n 1, 1) := by decide +kernel
theorem dX16_oneRequest_28 : decode cX16_oneRequest 28 = .ok (.iconst 1, 1) := by decide +kernel
theorem dX16_oneRequest_29 : decode cX16_oneRequest 29 = .ok (.invokestatic 621, 3) := by decide +kernel
theorem dX16_oneRequest_32 : decode cX16_oneRequest 32 = .ok (.bipush 10, 2) := by decide +kernel
theorem dX16_oneRequest_34 : decode cX16_oneRequest 34 = .ok (.if_icmp .ne 26, 3) := by decide +kernel
theorem dX16_oneRequest_37 : decode cX16_oneRequest 37 = .ok (.aload_n 0, 1) := by decide +kernel
theorem dX16_oneRequest_38 : decode cX16_oneRequest 38 = .ok (.aload_n 1, 1) := by decide +kernel
theorem dX16_oneRequest_39 : decode cX16_oneRequest 39 = .ok (.aload_n 1, 1) := by decide +kernel
theorem dX16_oneRequest_40 : decode cX16_oneRequest 40 = .ok (.iconst 0, 1) := by decide +kernel
theorem dX16_oneRequest_41 : decode cX16_oneRequest 41 = .ok (.invokestatic 621, 3) := by decide +kernel
theorem dX16_oneRequest_44 : decode cX16_oneRequest 44 = .ok (.bipush 10, 2) := by decide +kernel
theorem dX16_oneRequest_46 : decode cX16_oneRequest 46 = .ok (.if_icmp .ne 7, 3) := by decide +kernel
theorem dX16_oneRequest_49 : decode cX16_oneRequest 49 = .ok (.iconst 1, 1) := by decide +kernel
theorem dX16_oneRequest_50 : decode cX16_oneRequest 50 = .ok (.goto 4, 3) := by decide +kernel
theorem dX16_oneRequest_53 : decode cX16_oneRequest 53 = .ok (.iconst 2, 1) := by decide +kernel
theorem dX16_oneRequest_54 : decode cX16_oneRequest 54 = .ok (.invokevirtual 615, 3) := by decide +kernel
theorem dX16_oneRequest_57 : decode cX16_oneRequest 57 = .ok (.goto (-57), 3) := by decide +kernel
theorem dX16_oneRequest_60 : decode cX16_oneRequest 60 = .ok (.aload_n 1, 1) := by decide +kernel
theorem dX16_oneRequest_61 : decode cX16_oneRequest 61 = .ok (.getfield 475, 3) := by decide +kernel
theorem dX16_oneRequest_64 : decode cX16_oneRequest 64 = .ok (.ifCond .ne 11, 3) := by decide +kernel
theorem dX16_oneRequest_67 : decode cX16_oneRequest 67 = .ok (.aload_n 0, 1) := by decide +kernel
theorem dX16_oneRequest_68 : decode cX16_oneRequest 68 = .ok (.aload_n 1, 1) := by decide +kernel
theorem dX16_oneRequest_69 : decode cX16_oneRequest 69 = .ok (.invokevirtual 624, 3) := by decide +kernel
theorem dX16_oneRequest_72 : decode cX16_oneRequest 72 = .ok (.goto 4, 3) := by decide +kernel
theorem dX16_oneRequest_75 : decode cX16_oneRequest 75 = .ok (.iconst 0, 1) := by decide +kernel
theorem dX16_oneRequest_76 : decode cX16_oneRequest 76 = .ok (.istore_n 2, 1) := by decide +kernel
theorem dX16_oneRequest_77 : decode cX16_oneRequest 77 = .ok (.iload_n 2, 1) := by decide +kernel
theorem dX16_oneRequest_78 : decode cX16_oneRequest 78 = .ok (.ifCond .le 11, 3) := by decide +kernel
theorem dX16_oneRequest_81 : decode cX16_oneRequest 81 = .ok (.aload_n 0, 1) := by decide +kernel
theorem dX16_oneRequest_82 : decode cX16_oneRequest 82 = .ok (.aload_n 1, 1) := by decide +kernel
theorem dX16_oneRequest_83 : decode cX16_oneRequest 83 = .ok (.iload_n 2, 1) := by decide +kernel
theorem dX16_oneRequest_84 : decode cX16_oneRequest 84 = .ok (.invokevirtual 628, 3) := by decide +kernel
theorem dX16_oneRequest_87 : decode cX16_oneRequest 87 = .ok (.iconst 0, 1) := by decide +kernel
theorem dX16_oneRequest_88 : decode cX16_oneRequest 88 = .ok (.ireturn, 1) := by decide +kernel
theorem dX16_oneRequest_89 : decode cX16_oneRequest 89 = .ok (.aload_n 1, 1) := by decide +kernel
theorem dX16_oneRequest_90 : decode cX16_oneRequest 90 = .ok (.invokevirtual 612, 3) := by decide +kernel
theorem dX16_oneRequest_93 : decode cX16_oneRequest 93 = .ok (.sipush 4096, 3) := by decide +kernel
theorem dX16_oneRequest_96 : decode cX16_oneRequest 96 = .ok (.if_icmp .ne 10, 3) := by decide +kernel
theorem dX16_oneRequest_99 : decode cX16_oneRequest 99 = .ok (.aload_n 0, 1) := by decide +kernel
theorem dX16_oneRequest_100 : decode cX16_oneRequest 100 = .ok (.aload_n 1, 1) := by decide +kernel
theorem dX16_oneRequest_101 : decode cX16_oneRequest 101 = .ok (.invokevirtual 631, 3) := by decide +kernel
theorem dX16_oneRequest_104 : decode cX16_oneRequest 104 = .ok (.iconst 0, 1) := by decide +kernel
theorem dX16_oneRequest_105 : decode cX16_oneRequest 105 = .ok (.ireturn, 1) := by decide +kernel
theorem dX16_oneRequest_106 : decode cX16_oneRequest 106 = .ok (.aload_n 1, 1) := by decide +kernel
theorem dX16_oneRequest_107 : decode cX16_oneRequest 107 = .ok (.getfield 152, 3) := by decide +kernel
theorem dX16_oneRequest_110 : decode cX16_oneRequest 110 = .ok (.bipush 7, 2) := by decide +kernel
theorem dX16_oneRequest_112 : decode cX16_oneRequest 112 = .ok (.if_icmp .ne 8, 3) := by decide +kernel
theorem dX16_oneRequest_115 : decode cX16_oneRequest 115 = .ok (.aload_n 1, 1) := by decide +kernel
theorem dX16_oneRequest_116 : decode cX16_oneRequest 116 = .ok (.iconst 1, 1) := by decide +kernel
theorem dX16_oneRequest_117 : decode cX16_oneRequest 117 = .ok (.putfield 418, 3) := by decide +kernel
theorem dX16_oneRequest_120 : decode cX16_oneRequest 120 = .ok (.iconst 0, 1) := by decide +kernel
theorem dX16_oneRequest_121 : decode cX16_oneRequest 121 = .ok (.ireturn, 1) := by decide +kernel
theorem wX16_oneRequest_L76 {x : GX} {n0 sl0 : Nat} (X : Cx x cX16_oneRequest RX16 (some .boolean) n0 sl0 9 210) {out : Int32 × Mm} (hE : Ends x n0 sl0 (some (pI out.1)) out.2) (hn : xn x = 3) (fu : Nat)   (a0 : Nat) (a1 : Option Nat) (s0 : Int32) (M : Mm) (h : fX16_oneRequest_L76 fu  a0 a1 s0 M = some out) : Gw x M 76 [(0, pR (some a0)), (1, pR a1)] [pI s0] := by
  unfold fX16_oneRequest_L76 at h
  refine g_istore_n X (pc := 76) [(2, pI s0), (0, pR (some a0)), (1, pR a1)] rfl (lt_n hn (by decide)) rfl dX16_oneRequest_76 ?_
  refine g_iload_n X (pc := 77) 0 rfl rfl dX16_oneRequest_77 ?_
  refine g_if_le X (pc := 78) (tgt := 89) dX16_oneRequest_78 (by decide) (fun hc => ?_) (fun hc => ?_)
  · have h := (if_pos hc).symm.trans h
    refine g_aload_n X (pc := 89) 2 rfl rfl dX16_oneRequest_89 ?_
    obtain ⟨q1, eq1, h⟩ := bd h
    obtain ⟨v3, M2, eM2, h⟩ := b2d h
    refine g_callV X (pc := 90) (M' := M2) (ro := some (pI v3)) (c := 12) rfl (by decide) (as := []) (as' := []) (st := []) eq1 (ctX12_held _ _ _ _ _ _ fu q1  M _ eM2) tb_2112 tb_2317 tb_2110 tb_2111 tb_9 ⟨rfl, hyX12_held⟩ rfl rfl ⟨by decide, by decide⟩ (Nat.le_of_ble_eq_true rfl) dX16_oneRequest_90 ?_
    refine g_sipush X (pc := 93) (v := 4096) dX16_oneRequest_93 (by decide) ?_
    refine g_icmp_ne X (pc := 96) (tgt := 106) dX16_oneRequest_96 (by decide) (fun hc => ?_) (fun hc => ?_)
    · have h := (if_neg hc).symm.trans h
      refine g_aload_n X (pc := 106) 2 rfl rfl dX16_oneRequest_106 ?_
      obtain ⟨v4, ev4, h⟩ := bd h
      refine g_getI X (pc := 107) fk_12_0 rfl rfl ev4 tb_1580 dX16_oneRequest_107 ?_
      refine g_bipush X (pc := 110) (v := 7) dX16_oneRequest_110 (by decide) ?_
      refine g_icmp_ne X (pc := 112) (tgt := 120) dX16_oneRequest_112 (by decide) (fun hc => ?_) (fun hc => ?_)
      · have h := (if_neg hc).symm.trans h
        refine g_iconst X (pc := 120) (v := 0) dX16_oneRequest_120 (by decide) ?_
        obtain ⟨hz, rfl⟩ := rN_some h
        exact g_nreturn X rfl hz hE dX16_oneRequest_121
      · have h := (if_pos hc).symm.trans h
        refine g_aload_n X (pc := 115) 2 rfl rfl dX16_oneRequest_115 ?_
        refine g_iconst X (pc := 116) (v := 1) dX16_oneRequest_116 (by decide) ?_
        obtain ⟨M5, eM5, h⟩ := bd h
        refine g_putZ X (pc := 117) fk_12_30 rfl rfl rfl eM5 tb_1615 (Or.inl rfl) dX16_oneRequest_117 ?_
        refine g_iconst X (pc := 120) (v := 0) dX16_oneRequest_120 (by decide) ?_
        obtain ⟨hz, rfl⟩ := rN_some h
        exact g_nreturn X rfl hz hE dX16_oneRequest_121
    · have h := (if_pos hc).symm.trans h
      refine g_aload_n X (pc := 99) 1 rfl rfl dX16_oneRequest_99 ?_
      refine g_aload_n X (pc := 100) 2 rfl rfl dX16_oneRequest_100 ?_
      obtain ⟨q6, eq6, h⟩ := bd h
      obtain ⟨M7, eM7, h⟩ := bd h
      refine g_callV X (pc := 101) (M' := M7) (ro := none) (c := 16) rfl (by decide) (as := [pR a1]) (as' := [pR a1]) (st := []) eq6 (ctX16_refuse _ _ _ _ _ _ fu q6 a1 M2 _ eM7) tb_2483 tb_2480 tb_2482 ts_141 tb_8 ⟨rfl, hyX16_refuse⟩ rfl rfl ⟨by decide, by decide⟩ (Nat.le_of_ble_eq_true rfl) dX16_oneRequest_101 ?_
      refine g_iconst X (pc := 104) (v := 0) dX16_oneRequest_104 (by decide) ?_
      obtain ⟨hz, rfl⟩ := rN_some h
      exact g_nreturn X rfl hz hE dX16_oneRequest_105
  · have h := (if_neg hc).symm.trans h
    refine g_aload_n X (pc := 81) 1 rfl rfl dX16_oneRequest_81 ?_
    refine g_aload_n X (pc := 82) 2 rfl rfl dX16_oneRequest_82 ?_
    refine g_iload_n X (pc := 83) 0 rfl rfl dX16_oneRequest_83 ?_
    obtain ⟨q8, eq8, h⟩ := bd h
    obtain ⟨M9, eM9, h⟩ := bd h
    refine g_callV X (pc := 84) (M' := M9) (ro := none) (c := 16) rfl (by decide) (as := [pR a1, pI s0]) (as' := [pI s0, pR a1]) (st := []) eq8 (ctX16_answer _ _ _ _ _ _ fu q8 a1 s0 M _ eM9) tb_2336 tb_2333 tb_2335 ts_120 tb_8 ⟨rfl, hyX16_answer⟩ rfl rfl ⟨by decide, by decide⟩ (Nat.le_of_ble_eq_true rfl) dX16_oneRequest_84 ?_
    refine g_iconst X (pc := 87) (v := 0) dX16_oneRequest_87 (by decide) ?_
    obtain ⟨hz, rfl⟩ := rN_some h
    exact g_nreturn X rfl hz hE dX16_oneRequest_88
theorem wX16_oneRequest_L60 {x : GX} {n0 sl0 : Nat} (X : Cx x cX16_oneRequest RX16 (some .boolean) n0 sl0 9 210) {out : Int32 × Mm} (hE : Ends x n0 sl0 (some (pI out.1)) out.2) (hn : xn x = 3) (fu : Nat)   (a0 : Nat) (a1 : Option Nat)  (M : Mm) (h : fX16_oneRequest_L60 fu  a0 a1 M = some out) : Gw x M 60 [(0, pR (some a0)), (1, pR a1)] [] := by
  unfold fX16_oneRequest_L60 at h
  refine g_aload_n X (pc := 60) 1 rfl rfl dX16_oneRequest_60 ?_
  obtain ⟨v1, ev1, h⟩ := bd h
  refine g_getI X (pc := 61) fk_12_38 rfl rfl ev1 tb_1627 dX16_oneRequest_61 ?_
  refine g_if_ne X (pc := 64) (tgt := 75) dX16_oneRequest_64 (by decide) (fun hc => ?_) (fun hc => ?_)
  · have h := (if_neg hc).symm.trans h
    refine g_iconst X (pc := 75) (v := 0) dX16_oneRequest_75 (by decide) ?_
    exact wX16_oneRequest_L76 X hE hn fu   a0 a1 (0 : Int32) M h
  · have h := (if_pos hc).symm.trans h
    refine g_aload_n X (pc := 67) 0 rfl rfl dX16_oneRequest_67 ?_
    refine g_aload_n X (pc := 68) 1 rfl rfl dX16_oneRequest_68 ?_
    obtain ⟨q2, eq2, h⟩ := bd h
    obtain ⟨v4, M3, eM3, h⟩ := b2d h
    refine g_callV X (pc := 69) (M' := M3) (ro := some (pI v4)) (c := 16) rfl (by decide) (as := [pR a1]) (as' := [pR a1]) (st := []) eq2 (ctX16_headBytes _ _ _ _ _ _ fu q2 a1 M _ eM3) tb_2332 tb_2329 tb_2331 ts_119 tb_8 ⟨rfl, hyX16_headBytes⟩ rfl rfl ⟨by decide, by decide⟩ (Nat.le_of_ble_eq_true rfl) dX16_oneRequest_69 ?_
    refine g_goto X (pc := 72) (tgt := 76) dX16_oneRequest_72 (by decide) ?_
    exact wX16_oneRequest_L76 X hE hn fu   a0 a1 v4 M3 h
theorem wX16_oneRequest_L54 {x : GX} {n0 sl0 : Nat} (X : Cx x cX16_oneRequest RX16 (some .boolean) n0 sl0 9 210) {out : Int32 × Mm} (hE : Ends x n0 sl0 (some (pI out.1)) out.2) (hn : xn x = 3) (fu : Nat) (k0 : Nat → Option Nat → Mm → Option (Int32 × Mm)) (hk0 : ∀ (b0 : Nat) (b1 : Option Nat)  (M : Mm), k0 b0 b1 M = some out → Gw x M 0 [(0, pR (some b0)), (1, pR b1)] []) (a0 : Nat) (a1 : Option Nat) (s0 : Option Nat) (s1 : Option Nat) (s2 : Int32) (M : Mm) (h : fX16_oneRequest_L54 fu k0 a0 a1 s0 s1 s2 M = some out) : Gw x M 54 [(0, pR (some a0)), (1, pR a1)] [pI s2, pR s1, pR s0] := by
  unfold fX16_oneRequest_L54 at h
  obtain ⟨q1, eq1, h⟩ := bd h
  obtain ⟨M2, eM2, h⟩ := bd h
  refine g_callV X (pc := 54) (M' := M2) (ro := none) (c := 16) rfl (by decide) (as := [pR s1, pI s2]) (as' := [pI s2, pR s1]) (st := []) eq1 (ctX16_take _ _ _ _ _ _ fu q1 s1 s2 M _ eM2) tb_2321 tb_2318 tb_2320 ts_117 tb_8 ⟨rfl, hyX16_take⟩ rfl rfl ⟨by decide, by decide⟩ (Nat.le_of_ble_eq_true rfl) dX16_oneRequest_54 ?_
  refine g_goto X (pc := 57) (tgt := 0) dX16_oneRequest_57 (by decide) ?_
  exact hk0 a0 a1 M2 h
theorem wX16_oneRequest_L37 {x : GX} {n0 sl0 : Nat} (X : Cx x cX16_oneRequest RX16 (some .boolean) n0 sl0 9 210) {out : Int32 × Mm} (hE : Ends x n0 sl0 (some (pI out.1)) out.2) (hn : xn x = 3) (fu : Nat) (k0 : Nat → Option Nat → Mm → Option (Int32 × Mm)) (hk0 : ∀ (b0 : Nat) (b1 : Option Nat)  (M : Mm), k0 b0 b1 M = some out → Gw x M 0 [(0, pR (some b0)), (1, pR b1)] []) (a0 : Nat) (a1 : Option Nat)  (M : Mm) (h : fX16_oneRequest_L37 fu k0 a0 a1 M = some out) : Gw x M 37 [(0, pR (some a0)), (1, pR a1)] [] := by
  unfold fX16_oneRequest_L37 at h
  refine g_aload_n X (pc := 37) 0 rfl rfl dX16_oneRequest_37 ?_
  refine g_aload_n X (pc := 38) 1 rfl rfl dX16_oneRequest_38 ?_
  refine g_aload_n X (pc := 39) 1 rfl rfl dX16_oneRequest_39 ?_
  refine g_iconst X (pc := 40) (v := 0) dX16_oneRequest_40 (by decide) ?_
  obtain ⟨v2, M1, eM1, h⟩ := b2d h
  refine g_callS X (pc := 41) (M' := M1) (ro := some (pI v2)) (as := [pR a1, pI (0 : Int32)]) (as' := [pI (0 : Int32), pR a1]) (st := [pR a1, pR (some a0)]) (ctX16_byteAt _ _ _ _ _ _ fu  a1 (0 : Int32) M _ eM1) tb_2328 tb_2326 tb_2327 tb_8 hyX16_byteAt rfl rfl ⟨by decide, by decide⟩ (Nat.le_of_ble_eq_true rfl) dX16_oneRequest_41 ?_
  refine g_bipush X (pc := 44) (v := 10) dX16_oneRequest_44 (by decide) ?_
  refine g_icmp_ne X (pc := 46) (tgt := 53) dX16_oneRequest_46 (by decide) (fun hc => ?_) (fun hc => ?_)
  · have h := (if_neg hc).symm.trans h
    refine g_iconst X (pc := 53) (v := 2) dX16_oneRequest_53 (by decide) ?_
    exact wX16_oneRequest_L54 X hE hn fu k0 hk0 a0 a1 (some a0) a1 (2 : Int32) M1 h
  · have h := (if_pos hc).symm.trans h
    refine g_iconst X (pc := 49) (v := 1) dX16_oneRequest_49 (by decide) ?_
    refine g_goto X (pc := 50) (tgt := 54) dX16_oneRequest_50 (by decide) ?_
    exact wX16_oneRequest_L54 X hE hn fu k0 hk0 a0 a1 (some a0) a1 (1 : Int32) M1 h
theorem wX16_oneRequest_H {x : GX} {n0 sl0 : Nat} (X : Cx x cX16_oneRequest RX16 (some .boolean) n0 sl0 9 210) {out : Int32 × Mm} (hE : Ends x n0 sl0 (some (pI out.1)) out.2) (hn : xn x = 3) (fu : Nat)   : ∀ (n : Nat) (a0 : Nat) (a1 : Option Nat)  (M : Mm), fX16_oneRequest_H fu  n a0 a1 M = some out → Gw x M 0 [(0, pR (some a0)), (1, pR a1)] [] := by
  intro n
  induction n with
  | zero =>
    intro a0 a1 M h
    have h : (none : Option (Int32 × Mm)) = some out := h
    cases h
  | succ n ih =>
    intro a0 a1 M h
    rw [fX16_oneRequest_H] at h
    refine g_aload_n X (pc := 0) 1 rfl rfl dX16_oneRequest_0 ?_
    obtain ⟨v1, ev1, h⟩ := bd h
    refine g_getI X (pc := 1) fk_12_38 rfl rfl ev1 tb_1627 dX16_oneRequest_1 ?_
    refine g_if_ne X (pc := 4) (tgt := 60) dX16_oneRequest_4 (by decide) (fun hc => ?_) (fun hc => ?_)
    · have h := (if_neg hc).symm.trans h
      exact wX16_oneRequest_L60 X hE hn fu   a0 a1 M h
    · have h := (if_pos hc).symm.trans h
      refine g_aload_n X (pc := 7) 1 rfl rfl dX16_oneRequest_7 ?_
      refine g_iconst X (pc := 8) (v := 0) dX16_oneRequest_8 (by decide) ?_
      obtain ⟨v3, M2, eM2, h⟩ := b2d h
      refine g_callS X (pc := 9) (M' := M2) (ro := some (pI v3)) (as := [pR a1, pI (0 : Int32)]) (as' := [pI (0 : Int32), pR a1]) (st := []) (ctX16_byteAt _ _ _ _ _ _ fu  a1 (0 : Int32) M _ eM2) tb_2328 tb_2326 tb_2327 tb_8 hyX16_byteAt rfl rfl ⟨by decide, by decide⟩ (Nat.le_of_ble_eq_true rfl) dX16_oneRequest_9 ?_
      refine g_bipush X (pc := 12) (v := 10) dX16_oneRequest_12 (by decide) ?_
      refine g_icmp_eq X (pc := 14) (tgt := 37) dX16_oneRequest_14 (by decide) (fun hc => ?_) (fun hc => ?_)
      · have h := (if_pos hc).symm.trans h
        exact wX16_oneRequest_L37 X hE hn fu (fun b0 b1 M => fX16_oneRequest_H fu  n b0 b1 M) ih a0 a1 M2 h
      · have h := (if_neg hc).symm.trans h
        refine g_aload_n X (pc := 17) 1 rfl rfl dX16_oneRequest_17 ?_
        refine g_iconst X (pc := 18) (v := 0) dX16_oneRequest_18 (by decide) ?_
        obtain ⟨v5, M4, eM4, h⟩ := b2d h
        refine g_callS X (pc := 19) (M' := M4) (ro := some (pI v5)) (as := [pR a1, pI (0 : Int32)]) (as' := [pI (0 : Int32), pR a1]) (st := []) (ctX16_byteAt _ _ _ _ _ _ fu  a1 (0 : Int32) M2 _ eM4) tb_2328 tb_2326 tb_2327 tb_8 hyX16_byteAt rfl rfl ⟨by decide, by decide⟩ (Nat.le_of_ble_eq_true rfl) dX16_oneRequest_19 ?_
        refine g_bipush X (pc := 22) (v := 13) dX16_oneRequest_22 (by decide) ?_
        refine g_icmp_ne X (pc := 24) (tgt := 60) dX16_oneRequest_24 (by decide) (fun hc => ?_) (fun hc => ?_)
        · have h := (if_neg hc).symm.trans h
          exact wX16_oneRequest_L60 X hE hn fu   a0 a1 M4 h
        · have h := (if_pos hc).symm.trans h
          refine g_aload_n X (pc := 27) 1 rfl rfl dX16_oneRequest_27 ?_
          refine g_iconst X (pc := 28) (v := 1) dX16_oneRequest_28 (by decide) ?_
          obtain ⟨v7, M6, eM6, h⟩ := b2d h
          refine g_callS X (pc := 29) (M' := M6) (ro := some (pI v7)) (as := [pR a1, pI (1 : Int32)]) (as' := [pI (1 : Int32), pR a1]) (st := []) (ctX16_byteAt _ _ _ _ _ _ fu  a1 (1 : Int32) M4 _ eM6) tb_2328 tb_2326 tb_2327 tb_8 hyX16_byteAt rfl rfl ⟨by decide, by decide⟩ (Nat.le_of_ble_eq_true rfl) dX16_oneRequest_29 ?_
          refine g_bipush X (pc := 32) (v := 10) dX16_oneRequest_32 (by decide) ?_
          refine g_icmp_ne X (pc := 34) (tgt := 60) dX16_oneRequest_34 (by decide) (fun hc => ?_) (fun hc => ?_)
          · have h := (if_neg hc).symm.trans h
            exact wX16_oneRequest_L60 X hE hn fu   a0 a1 M6 h
          · have h := (if_pos hc).symm.trans h
            exact wX16_oneRequest_L37 X hE hn fu (fun b0 b1 M => fX16_oneRequest_H fu  n b0 b1 M) ih a0 a1 M6 h
theorem wX16_oneRequest {x : GX} {n0 sl0 : Nat} (X : Cx x cX16_oneRequest RX16 (some .boolean) n0 sl0 9 210) {out : Int32 × Mm} (hE : Ends x n0 sl0 (some (pI out.1)) out.2) (hn : xn x = 3) (fu : Nat) (a0 : Nat) (a1 : Option Nat) (M : Mm) (h : fX16_oneRequest fu a0 a1 M = some out) : Gw x M 0 [(0, pR (some a0)), (1, pR a1)] [] := by
  unfold fX16_oneRequest at h
  exact wX16_oneRequest_H X hE hn fu fu a0 a1 M h
theorem hyX16_oneRequest : yX16_oneRequest.cls ≠ "java/lang/invoke/MethodHandle" ∧ yX16_oneRequest.cls ≠ "java/lang/invoke/VarHandle" ∧ (parseMethodDescriptor yX16_oneRequest.desc).map (fun d => d.parameters.length) = some 1 := ⟨by decide +kernel, by decide +kernel, by decide +kernel⟩
theorem ctX16_oneRequest (l : Launch) (E : Nat → Nat) (D : va_G) (dA : Nat → ClassId) (lo : Nat) (H0 : Heap) (fu : Nat) (a0 : Nat) (a1 : Option Nat) (M : Mm) (out : Int32 × Mm) (h : fX16_oneRequest fu a0 a1 M = some out) : Ct l E D dA lo H0 yX16_oneRequest cX16_oneRequest 3 (some .boolean) 9 210 [pR (some a0), pR a1] M (some (pI out.1)) out.2 := by
  refine ct_of (by decide +kernel) (Nat.le_of_ble_eq_true rfl) ?_
  intro x hl he hd ha ho hh hn hin X hE
  exact wX16_oneRequest X hE hn fu a0 a1 M h
/-! WebHostModel.requests(LWebHostModel$Connection;)V -/
def fX16_requests_L109 (fu : Nat) (k2 : Nat → Option Nat → Int32 → Mm → Option (Mm)) (a0 : Nat) (a1 : Option Nat) (s0 : Int32) (M : Mm) : Option (Mm) :=
    k2 a0 a1 s0 M
def fX16_requests_L108 (fu : Nat) (k2 : Nat → Option Nat → Int32 → Mm → Option (Mm)) (a0 : Nat) (a1 : Option Nat)  (M : Mm) : Option (Mm) :=
    fX16_requests_L109 fu k2 a0 a1 (0 : Int32) M
def fX16_requests_L89 (fu : Nat) (k2 : Nat → Option Nat → Int32 → Mm → Option (Mm)) (a0 : Nat) (a1 : Option Nat) (s0 : Int32) (M : Mm) : Option (Mm) :=
    if s0 = 0 then (
    fX16_requests_L108 fu k2 a0 a1 M)
    else (
    (rc M 16 (some a0)).bind fun q1 =>
    b2 (fX16_oneRequest fu q1 a1 M) fun v3 M2 =>
    if v3 = 0 then (
    fX16_requests_L108 fu k2 a0 a1 M2)
    else (
    fX16_requests_L109 fu k2 a0 a1 (1 : Int32) M2))
def fX16_requests_L88 (fu : Nat) (k2 : Nat → Option Nat → Int32 → Mm → Option (Mm)) (a0 : Nat) (a1 : Option Nat)  (M : Mm) : Option (Mm) :=
    fX16_requests_L89 fu k2 a0 a1 (0 : Int32) M
def fX16_requests_L55 (fu : Nat) (k2 : Nat → Option Nat → Int32 → Mm → Option (Mm)) (a0 : Nat) (a1 : Option Nat)  (M : Mm) : Option (Mm) :=
    (gI M 12 798 a1).bind fun v1 =>
    if v1 = 0 then (
    (gI M 12 773 a1).bind fun v2 =>
    (rc M 12 a1).bind fun q3 =>
    b2 (fX12_left fu q3 v2 M) fun v5 M4 =>
    if v5 = 0 then (
    (gI M4 12 773 a1).bind fun v6 =>
    (gI M4 12 772 a1).bind fun v7 =>
    if v6 = v7 then (
    fX16_requests_L89 fu k2 a0 a1 (1 : Int32) M4)
    else (
    fX16_requests_L88 fu k2 a0 a1 M4))
    else (
    fX16_requests_L88 fu k2 a0 a1 M4))
    else (
    fX16_requests_L88 fu k2 a0 a1 M)
def fX16_requests_L38 (fu : Nat) (k2 : Nat → Option Nat → Int32 → Mm → Option (Mm)) (a0 : Nat) (a1 : Option Nat)  (M : Mm) : Option (Mm) :=
    (gI M 12 768 a1).bind fun v1 =>
    if v1 = (2 : Int32) then (
    fX16_requests_L55 fu k2 a0 a1 M)
    else (
    (gI M 12 768 a1).bind fun v2 =>
    if v2 = (7 : Int32) then (
    fX16_requests_L55 fu k2 a0 a1 M)
    else (
    fX16_requests_L88 fu k2 a0 a1 M))
def fX16_requests_L2 (fu : Nat)  : Nat → Nat → Option Nat → Int32 → Mm → Option (Mm)
  | 0, _, _, _, _ => none
  | n + 1, a0, a1, a2, M =>
    if a2 = 0 then (
    some M)
    else (
    (gI M 12 806 a1).bind fun v1 =>
    (rc M 12 a1).bind fun q2 =>
    b2 (fX12_held fu q2  M) fun v4 M3 =>
    if (jmin v1 v4) ≤ 0 then (
    fX16_requests_L38 fu (fun b0 b1 b2 M => fX16_requests_L2 fu  n b0 b1 b2 M) a0 a1 M3)
    else (
    (gI M3 12 806 a1).bind fun v5 =>
    (pF M3 12 806 a1 (v5 - (jmin v1 v4))).bind fun M6 =>
    (rc M6 16 (some a0)).bind fun q7 =>
    (fX16_take fu q7 a1 (jmin v1 v4) M6).bind fun M8 =>
    fX16_requests_L38 fu (fun b0 b1 b2 M => fX16_requests_L2 fu  n b0 b1 b2 M) a0 a1 M8))
def fX16_requests (fu : Nat)  (a0 : Nat) (a1 : Option Nat)  (M : Mm) : Option (Mm) :=
    fX16_requests_L2 fu  fu a0 a1 (1 : Int32) M
theorem dX16_requests_0 : decode cX16_requests 0 = .ok (.iconst 1, 1) := by decide +kernel
theorem dX16_requests_1 : decode cX16_requests 1 = .ok (.istore_n 2, 1) := by decide +kernel
theorem dX16_requests_2 : decode cX16_requests 2 = .ok (.iload_n 2, 1) := by decide +kernel
theorem dX16_requests_3 : decode cX16_requests 3 = .ok (.ifCond .eq 110, 3) := by decide +kernel
theorem dX16_requests_6 : decode cX16_requests 6 = .ok (.aload_n 1, 1) := by decide +kernel
theorem dX16_requests_7 : decode cX16_requests 7 = .ok (.getfield 475, 3) := by decide +kernel
theorem dX16_requests_10 : decode cX16_requests 10 = .ok (.aload_n 1, 1) := by decide +kernel
theorem dX16_requests_11 : decode cX16_requests 11 = .ok (.invokevirtual 612, 3) := by decide +kernel
theorem dX16_requests_14 : decode cX16_requests 14 = .ok (.invokestatic 411, 3) := by decide +kernel
theorem dX16_requests_17 : decode cX16_requests 17 = .ok (.istore_n 3, 1) := by decide +kernel
theorem dX16_requests_18 : decode cX16_requests 18 = .ok (.iload_n 3, 1) := by decide +kernel
theorem dX16_requests_19 : decode cX16_requests 19 = .ok (.ifCond .le 19, 3) := by decide +kernel
theorem dX16_requests_22 : decode cX16_requests 22 = .ok (.aload_n 1, 1) := by decide +kernel
theorem dX16_requests_23 : decode cX16_requests 23 = .ok (.aload_n 1, 1) := by decide +kernel
theorem dX16_requests_24 : decode cX16_requests 24 = .ok (.getfield 475, 3) := by decide +kernel
theorem dX16_requests_27 : decode cX16_requests 27 = .ok (.iload_n 3, 1) := by decide +kernel
theorem dX16_requests_28 : decode cX16_requests 28 = .ok (.isub, 1) := by decide +kernel
theorem dX16_requests_29 : decode cX16_requests 29 = .ok (.putfield 475, 3) := by decide +kernel
theorem dX16_requests_32 : decode cX16_requests 32 = .ok (.aload_n 0, 1) := by decide +kernel
theorem dX16_requests_33 : decode cX16_requests 33 = .ok (.aload_n 1, 1) := by decide +kernel
theorem dX16_requests_34 : decode cX16_requests 34 = .ok (.iload_n 3, 1) := by decide +kernel
theorem dX16_requests_35 : decode cX16_requests 35 = .ok (.invokevirtual 615, 3) := by decide +kernel
theorem dX16_requests_38 : decode cX16_requests 38 = .ok (.aload_n 1, 1) := by decide +kernel
theorem dX16_requests_39 : decode cX16_requests 39 = .ok (.getfield 152, 3) := by decide +kernel
theorem dX16_requests_42 : decode cX16_requests 42 = .ok (.iconst 2, 1) := by decide +kernel
theorem dX16_requests_43 : decode cX16_requests 43 = .ok (.if_icmp .eq 12, 3) := by decide +kernel
theorem dX16_requests_46 : decode cX16_requests 46 = .ok (.aload_n 1, 1) := by decide +kernel
theorem dX16_requests_47 : decode cX16_requests 47 = .ok (.getfield 152, 3) := by decide +kernel
theorem dX16_requests_50 : decode cX16_requests 50 = .ok (.bipush 7, 2) := by decide +kernel
theorem dX16_requests_52 : decode cX16_requests 52 = .ok (.if_icmp .ne 36, 3) := by decide +kernel
theorem dX16_requests_55 : decode cX16_requests 55 = .ok (.aload_n 1, 1) := by decide +kernel
theorem dX16_requests_56 : decode cX16_requests 56 = .ok (.getfield 418, 3) := by decide +kernel
theorem dX16_requests_59 : decode cX16_requests 59 = .ok (.ifCond .ne 29, 3) := by decide +kernel
theorem dX16_requests_62 : decode cX16_requests 62 = .ok (.aload_n 1, 1) := by decide +kernel
theorem dX16_requests_63 : decode cX16_requests 63 = .ok (.aload_n 1, 1) := by decide +kernel
theorem dX16_requests_64 : decode cX16_requests 64 = .ok (.getfield 345, 3) := by decide +kernel
theorem dX16_requests_67 : decode cX16_requests 67 = .ok (.invokevirtual 425, 3) := by decide +kernel
theorem dX16_requests_70 : decode cX16_requests 70 = .ok (.ifCond .ne 18, 3) := by decide +kernel
theorem dX16_requests_73 : decode cX16_requests 73 = .ok (.aload_n 1, 1) := by decide +kernel
theorem dX16_requests_74 : decode cX16_requests 74 = .ok (.getfield 345, 3) := by decide +kernel
theorem dX16_requests_77 : decode cX16_requests 77 = .ok (.aload_n 1, 1) := by decide +kernel
theorem dX16_requests_78 : decode cX16_requests 78 = .ok (.getfield 428, 3) := by decide +kernel
theorem dX16_requests_81 : decode cX16_requests 81 = .ok (.if_icmp .ne 7, 3) := by decide +kernel
theorem dX16_requests_84 : decode cX16_requests 84 = .ok (.iconst 1, 1) := by decide +kernel
theorem dX16_requests_85 : decode cX16_requests 85 = .ok (.goto 4, 3) := by decide +kernel
theorem dX16_requests_88 : decode cX16_requests 88 = .ok (.iconst 0, 1) := by decide +kernel
theorem dX16_requests_89 : decode cX16_requests 89 = .ok (.istore 4, 2) := by decide +kernel
theorem dX16_requests_91 : decode cX16_requests 91 = .ok (.iload 4, 2) := by decide +kernel
theorem dX16_requests_93 : decode cX16_requests 93 = .ok (.ifCond .eq 15, 3) := by decide +kernel
theorem dX16_requests_96 : decode cX16_requests 96 = .ok (.aload_n 0, 1) := by decide +kernel
theorem dX16_requests_97 : decode cX16_requests 97 = .ok (.aload_n 1, 1) := by decide +kernel
theorem dX16_requests_98 : decode cX16_requests 98 = .ok (.invokevirtual 618, 3) := by decide +kernel
theorem dX16_requests_101 : decode cX16_requests 101 = .ok (.ifCond .eq 7, 3) := by decide +kernel
theorem dX16_requests_104 : decode cX16_requests 104 = .ok (.iconst 1, 1) := by decide +kernel
theorem dX16_requests_105 : decode cX16_requests 105 = .ok (.goto 4, 3) := by decide +kernel
theorem dX16_requests_108 : decode cX16_requests 108 = .ok (.iconst 0, 1) := by decide +kernel
theorem dX16_requests_109 : decode cX16_requests 109 = .ok (.istore_n 2, 1) := by decide +kernel
theorem dX16_requests_110 : decode cX16_requests 110 = .ok (.goto (-108), 3) := by decide +kernel
theorem dX16_requests_113 : decode cX16_requests 113 = .ok (.return_, 1) := by decide +kernel
theorem wX16_requests_L109 {x : GX} {n0 sl0 : Nat} (X : Cx x cX16_requests RX16 none n0 sl0 10 232) {out : Mm} (hE : Ends x n0 sl0 none out) (hn : xn x = 5) (fu : Nat) (k2 : Nat → Option Nat → Int32 → Mm → Option (Mm)) (hk2 : ∀ (b0 : Nat) (b1 : Option Nat) (b2 : Int32)  (M : Mm), k2 b0 b1 b2 M = some out → Gw x M 2 [(0, pR (some b0)), (1, pR b1), (2, pI b2)] []) (a0 : Nat) (a1 : Option Nat) (s0 : Int32) (M : Mm) (h : fX16_requests_L109 fu k2 a0 a1 s0 M = some out) : Gw x M 109 [(0, pR (some a0)), (1, pR a1)] [pI s0] := by
  unfold fX16_requests_L109 at h
  refine g_istore_n X (pc := 109) [(2, pI s0), (0, pR (some a0)), (1, pR a1)] rfl (lt_n hn (by decide)) rfl dX16_requests_109 ?_
  refine g_goto X (pc := 110) (tgt := 2) dX16_requests_110 (by decide) ?_
  refine g_sub [1, 2, 0] [(0, pR (some a0)), (1, pR a1), (2, pI s0)] rfl ?_
  exact hk2 a0 a1 s0 M h
theorem wX16_requests_L108 {x : GX} {n0 sl0 : Nat} (X : Cx x cX16_requests RX16 none n0 sl0 10 232) {out : Mm} (hE : Ends x n0 sl0 none out) (hn : xn x = 5) (fu : Nat) (k2 : Nat → Option Nat → Int32 → Mm → Option (Mm)) (hk2 : ∀ (b0 : Nat) (b1 : Option Nat) (b2 : Int32)  (M : Mm), k2 b0 b1 b2 M = some out → Gw x M 2 [(0, pR (some b0)), (1, pR b1), (2, pI b2)] []) (a0 : Nat) (a1 : Option Nat)  (M : Mm) (h : fX16_requests_L108 fu k2 a0 a1 M = some out) : Gw x M 108 [(0, pR (some a0)), (1, pR a1)] [] := by
  unfold fX16_requests_L108 at h
  refine g_iconst X (pc := 108) (v := 0) dX16_requests_108 (by decide) ?_
  exact wX16_requests_L109 X hE hn fu k2 hk2 a0 a1 (0 : Int32) M h
theorem wX16_requests_L89 {x : GX} {n0 sl0 : Nat} (X : Cx x cX16_requests RX16 none n0 sl0 10 232) {out : Mm} (hE : Ends x n0 sl0 none out) (hn : xn x = 5) (fu : Nat) (k2 : Nat → Option Nat → Int32 → Mm → Option (Mm)) (hk2 : ∀ (b0 : Nat) (b1 : Option Nat) (b2 : Int32)  (M : Mm), k2 b0 b1 b2 M = some out → Gw x M 2 [(0, pR (some b0)), (1, pR b1), (2, pI b2)] []) (a0 : Nat) (a1 : Option Nat) (s0 : Int32) (M : Mm) (h : fX16_requests_L89 fu k2 a0 a1 s0 M = some out) : Gw x M 89 [(0, pR (some a0)), (1, pR a1)] [pI s0] := by
  unfold fX16_requests_L89 at h
  refine g_istore X (pc := 89) [(4, pI s0), (0, pR (some a0)), (1, pR a1)] (lt_n hn (by decide)) rfl dX16_requests_89 ?_
  refine g_iload X (pc := 91) 0 rfl dX16_requests_91 ?_
  refine g_if_eq X (pc := 93) (tgt := 108) dX16_requests_93 (by decide) (fun hc => ?_) (fun hc => ?_)
  · have h := (if_pos hc).symm.trans h
    refine g_sub [1, 2] [(0, pR (some a0)), (1, pR a1)] rfl ?_
    exact wX16_requests_L108 X hE hn fu k2 hk2 a0 a1 M h
  · have h := (if_neg hc).symm.trans h
    refine g_aload_n X (pc := 96) 1 rfl rfl dX16_requests_96 ?_
    refine g_aload_n X (pc := 97) 2 rfl rfl dX16_requests_97 ?_
    obtain ⟨q1, eq1, h⟩ := bd h
    obtain ⟨v3, M2, eM2, h⟩ := b2d h
    refine g_callV X (pc := 98) (M' := M2) (ro := some (pI v3)) (c := 16) rfl (by decide) (as := [pR a1]) (as' := [pR a1]) (st := []) eq1 (ctX16_oneRequest _ _ _ _ _ _ fu q1 a1 M _ eM2) tb_2325 tb_2322 tb_2324 ts_118 tb_8 ⟨rfl, hyX16_oneRequest⟩ rfl rfl ⟨by decide, by decide⟩ (Nat.le_of_ble_eq_true rfl) dX16_requests_98 ?_
    refine g_if_eq X (pc := 101) (tgt := 108) dX16_requests_101 (by decide) (fun hc => ?_) (fun hc => ?_)
    · have h := (if_pos hc).symm.trans h
      refine g_sub [1, 2] [(0, pR (some a0)), (1, pR a1)] rfl ?_
      exact wX16_requests_L108 X hE hn fu k2 hk2 a0 a1 M2 h
    · have h := (if_neg hc).symm.trans h
      refine g_iconst X (pc := 104) (v := 1) dX16_requests_104 (by decide) ?_
      refine g_goto X (pc := 105) (tgt := 109) dX16_requests_105 (by decide) ?_
      refine g_sub [1, 2] [(0, pR (some a0)), (1, pR a1)] rfl ?_
      exact wX16_requests_L109 X hE hn fu k2 hk2 a0 a1 (1 : Int32) M2 h
theorem wX16_requests_L88 {x : GX} {n0 sl0 : Nat} (X : Cx x cX16_requests RX16 none n0 sl0 10 232) {out : Mm} (hE : Ends x n0 sl0 none out) (hn : xn x = 5) (fu : Nat) (k2 : Nat → Option Nat → Int32 → Mm → Option (Mm)) (hk2 : ∀ (b0 : Nat) (b1 : Option Nat) (b2 : Int32)  (M : Mm), k2 b0 b1 b2 M = some out → Gw x M 2 [(0, pR (some b0)), (1, pR b1), (2, pI b2)] []) (a0 : Nat) (a1 : Option Nat)  (M : Mm) (h : fX16_requests_L88 fu k2 a0 a1 M = some out) : Gw x M 88 [(0, pR (some a0)), (1, pR a1)] [] := by
  unfold fX16_requests_L88 at h
  refine g_iconst X (pc := 88) (v := 0) dX16_requests_88 (by decide) ?_
  exact wX16_requests_L89 X hE hn fu k2 hk2 a0 a1 (0 : Int32) M h
theorem wX16_requests_L55 {x : GX} {n0 sl0 : Nat} (X : Cx x cX16_requests RX16 none n0 sl0 10 232) {out : Mm} (hE : Ends x n0 sl0 none out) (hn : xn x = 5) (fu : Nat) (k2 : Nat → Option Nat → Int32 → Mm → Option (Mm)) (hk2 : ∀ (b0 : Nat) (b1 : Option Nat) (b2 : Int32)  (M : Mm), k2 b0 b1 b2 M = some out → Gw x M 2 [(0, pR (some b0)), (1, pR b1), (2, pI b2)] []) (a0 : Nat) (a1 : Option Nat)  (M : Mm) (h : fX16_requests_L55 fu k2 a0 a1 M = some out) : Gw x M 55 [(0, pR (some a0)), (1, pR a1)] [] := by
  unfold fX16_requests_L55 at h
  refine g_aload_n X (pc := 55) 1 rfl rfl dX16_requests_55 ?_
  obtain ⟨v1, ev1, h⟩ := bd h
  refine g_getI X (pc := 56) fk_12_30 rfl rfl ev1 tb_1615 dX16_requests_56 ?_
  refine g_if_ne X (pc := 59) (tgt := 88) dX16_requests_59 (by decide) (fun hc => ?_) (fun hc => ?_)
  · have h := (if_neg hc).symm.trans h
    exact wX16_requests_L88 X hE hn fu k2 hk2 a0 a1 M h
  · have h := (if_pos hc).symm.trans h
    refine g_aload_n X (pc := 62) 1 rfl rfl dX16_requests_62 ?_
    refine g_aload_n X (pc := 63) 1 rfl rfl dX16_requests_63 ?_
    obtain ⟨v2, ev2, h⟩ := bd h
    refine g_getI X (pc := 64) fk_12_5 rfl rfl ev2 tb_1585 dX16_requests_64 ?_
    obtain ⟨q3, eq3, h⟩ := bd h
    obtain ⟨v5, M4, eM4, h⟩ := b2d h
    refine g_callV X (pc := 67) (M' := M4) (ro := some (pI v5)) (c := 12) rfl (by decide) (as := [pI v2]) (as' := [pI v2]) (st := []) eq3 (ctX12_left _ _ _ _ _ _ fu q3 v2 M _ eM4) tb_2070 tb_2067 tb_2068 tb_2069 tb_9 ⟨rfl, hyX12_left⟩ rfl rfl ⟨by decide, by decide⟩ (Nat.le_of_ble_eq_true rfl) dX16_requests_67 ?_
    refine g_if_ne X (pc := 70) (tgt := 88) dX16_requests_70 (by decide) (fun hc => ?_) (fun hc => ?_)
    · have h := (if_neg hc).symm.trans h
      exact wX16_requests_L88 X hE hn fu k2 hk2 a0 a1 M4 h
    · have h := (if_pos hc).symm.trans h
      refine g_aload_n X (pc := 73) 1 rfl rfl dX16_requests_73 ?_
      obtain ⟨v6, ev6, h⟩ := bd h
      refine g_getI X (pc := 74) fk_12_5 rfl rfl ev6 tb_1585 dX16_requests_74 ?_
      refine g_aload_n X (pc := 77) 1 rfl rfl dX16_requests_77 ?_
      obtain ⟨v7, ev7, h⟩ := bd h
      refine g_getI X (pc := 78) fk_12_4 rfl rfl ev7 tb_1584 dX16_requests_78 ?_
      refine g_icmp_ne X (pc := 81) (tgt := 88) dX16_requests_81 (by decide) (fun hc => ?_) (fun hc => ?_)
      · have h := (if_neg hc).symm.trans h
        exact wX16_requests_L88 X hE hn fu k2 hk2 a0 a1 M4 h
      · have h := (if_pos hc).symm.trans h
        refine g_iconst X (pc := 84) (v := 1) dX16_requests_84 (by decide) ?_
        refine g_goto X (pc := 85) (tgt := 89) dX16_requests_85 (by decide) ?_
        exact wX16_requests_L89 X hE hn fu k2 hk2 a0 a1 (1 : Int32) M4 h
theorem wX16_requests_L38 {x : GX} {n0 sl0 : Nat} (X : Cx x cX16_requests RX16 none n0 sl0 10 232) {out : Mm} (hE : Ends x n0 sl0 none out) (hn : xn x = 5) (fu : Nat) (k2 : Nat → Option Nat → Int32 → Mm → Option (Mm)) (hk2 : ∀ (b0 : Nat) (b1 : Option Nat) (b2 : Int32)  (M : Mm), k2 b0 b1 b2 M = some out → Gw x M 2 [(0, pR (some b0)), (1, pR b1), (2, pI b2)] []) (a0 : Nat) (a1 : Option Nat)  (M : Mm) (h : fX16_requests_L38 fu k2 a0 a1 M = some out) : Gw x M 38 [(0, pR (some a0)), (1, pR a1)] [] := by
  unfold fX16_requests_L38 at h
  refine g_aload_n X (pc := 38) 1 rfl rfl dX16_requests_38 ?_
  obtain ⟨v1, ev1, h⟩ := bd h
  refine g_getI X (pc := 39) fk_12_0 rfl rfl ev1 tb_1580 dX16_requests_39 ?_
  refine g_iconst X (pc := 42) (v := 2) dX16_requests_42 (by decide) ?_
  refine g_icmp_eq X (pc := 43) (tgt := 55) dX16_requests_43 (by decide) (fun hc => ?_) (fun hc => ?_)
  · have h := (if_pos hc).symm.trans h
    exact wX16_requests_L55 X hE hn fu k2 hk2 a0 a1 M h
  · have h := (if_neg hc).symm.trans h
    refine g_aload_n X (pc := 46) 1 rfl rfl dX16_requests_46 ?_
    obtain ⟨v2, ev2, h⟩ := bd h
    refine g_getI X (pc := 47) fk_12_0 rfl rfl ev2 tb_1580 dX16_requests_47 ?_
    refine g_bipush X (pc := 50) (v := 7) dX16_requests_50 (by decide) ?_
    refine g_icmp_ne X (pc := 52) (tgt := 88) dX16_requests_52 (by decide) (fun hc => ?_) (fun hc => ?_)
    · have h := (if_neg hc).symm.trans h
      exact wX16_requests_L88 X hE hn fu k2 hk2 a0 a1 M h
    · have h := (if_pos hc).symm.trans h
      exact wX16_requests_L55 X hE hn fu k2 hk2 a0 a1 M h
theorem wX16_requests_L2 {x : GX} {n0 sl0 : Nat} (X : Cx x cX16_requests RX16 none n0 sl0 10 232) {out : Mm} (hE : Ends x n0 sl0 none out) (hn : xn x = 5) (fu : Nat)   : ∀ (n : Nat) (a0 : Nat) (a1 : Option Nat) (a2 : Int32)  (M : Mm), fX16_requests_L2 fu  n a0 a1 a2 M = some out → Gw x M 2 [(0, pR (some a0)), (1, pR a1), (2, pI a2)] [] := by
  intro n
  induction n with
  | zero =>
    intro a0 a1 a2 M h
    have h : (none : Option (Mm)) = some out := h
    cases h
  | succ n ih =>
    intro a0 a1 a2 M h
    rw [fX16_requests_L2] at h
    refine g_iload_n X (pc := 2) 2 rfl rfl dX16_requests_2 ?_
    refine g_if_eq X (pc := 3) (tgt := 113) dX16_requests_3 (by decide) (fun hc => ?_) (fun hc => ?_)
    · have h := (if_pos hc).symm.trans h
      obtain rfl := Option.some.inj h
      exact g_return X hE dX16_requests_113
    · have h := (if_neg hc).symm.trans h
      refine g_aload_n X (pc := 6) 1 rfl rfl dX16_requests_6 ?_
      obtain ⟨v1, ev1, h⟩ := bd h
      refine g_getI X (pc := 7) fk_12_38 rfl rfl ev1 tb_1627 dX16_requests_7 ?_
      refine g_aload_n X (pc := 10) 1 rfl rfl dX16_requests_10 ?_
      obtain ⟨q2, eq2, h⟩ := bd h
      obtain ⟨v4, M3, eM3, h⟩ := b2d h
      refine g_callV X (pc := 11) (M' := M3) (ro := some (pI v4)) (c := 12) rfl (by decide) (as := []) (as' := []) (st := [pI v1]) eq2 (ctX12_held _ _ _ _ _ _ fu q2  M _ eM3) tb_2112 tb_2317 tb_2110 tb_2111 tb_9 ⟨rfl, hyX12_held⟩ rfl rfl ⟨by decide, by decide⟩ (Nat.le_of_ble_eq_true rfl) dX16_requests_11 ?_
      refine g_mmin X (pc := 14) tb_2155 tb_348 tb_13 tb_349 ⟨by decide, Nat.le_of_ble_eq_true rfl⟩ dX16_requests_14 ?_
      refine g_istore_n X (pc := 17) [(3, pI (jmin v1 v4)), (0, pR (some a0)), (1, pR a1), (2, pI a2)] rfl (lt_n hn (by decide)) rfl dX16_requests_17 ?_
      refine g_iload_n X (pc := 18) 0 rfl rfl dX16_requests_18 ?_
      refine g_if_le X (pc := 19) (tgt := 38) dX16_requests_19 (by decide) (fun hc => ?_) (fun hc => ?_)
      · have h := (if_pos hc).symm.trans h
        refine g_sub [1, 2] [(0, pR (some a0)), (1, pR a1)] rfl ?_
        exact wX16_requests_L38 X hE hn fu (fun b0 b1 b2 M => fX16_requests_L2 fu  n b0 b1 b2 M) ih a0 a1 M3 h
      · have h := (if_neg hc).symm.trans h
        refine g_aload_n X (pc := 22) 2 rfl rfl dX16_requests_22 ?_
        refine g_aload_n X (pc := 23) 2 rfl rfl dX16_requests_23 ?_
        obtain ⟨v5, ev5, h⟩ := bd h
        refine g_getI X (pc := 24) fk_12_38 rfl rfl ev5 tb_1627 dX16_requests_24 ?_
        refine g_iload_n X (pc := 27) 0 rfl rfl dX16_requests_27 ?_
        refine g_isub X (pc := 28) dX16_requests_28 ?_
        obtain ⟨M6, eM6, h⟩ := bd h
        refine g_putI X (pc := 29) fk_12_38 rfl rfl rfl eM6 tb_1627 (Or.inl rfl) dX16_requests_29 ?_
        refine g_aload_n X (pc := 32) 1 rfl rfl dX16_requests_32 ?_
        refine g_aload_n X (pc := 33) 2 rfl rfl dX16_requests_33 ?_
        refine g_iload_n X (pc := 34) 0 rfl rfl dX16_requests_34 ?_
        obtain ⟨q7, eq7, h⟩ := bd h
        obtain ⟨M8, eM8, h⟩ := bd h
        refine g_callV X (pc := 35) (M' := M8) (ro := none) (c := 16) rfl (by decide) (as := [pR a1, pI (jmin v1 v4)]) (as' := [pI (jmin v1 v4), pR a1]) (st := []) eq7 (ctX16_take _ _ _ _ _ _ fu q7 a1 (jmin v1 v4) M6 _ eM8) tb_2321 tb_2318 tb_2320 ts_117 tb_8 ⟨rfl, hyX16_take⟩ rfl rfl ⟨by decide, by decide⟩ (Nat.le_of_ble_eq_true rfl) dX16_requests_35 ?_
        refine g_sub [1, 2] [(0, pR (some a0)), (1, pR a1)] rfl ?_
        exact wX16_requests_L38 X hE hn fu (fun b0 b1 b2 M => fX16_requests_L2 fu  n b0 b1 b2 M) ih a0 a1 M8 h
theorem wX16_requests {x : GX} {n0 sl0 : Nat} (X : Cx x cX16_requests RX16 none n0 sl0 10 232) {out : Mm} (hE : Ends x n0 sl0 none out) (hn : xn x = 5) (fu : Nat)   (a0 : Nat) (a1 : Option Nat)  (M : Mm) (h : fX16_requests fu  a0 a1 M = some out) : Gw x M 0 [(0, pR (some a0)), (1, pR a1)] [] := by
  unfold fX16_requests at h
  refine g_iconst X (pc := 0) (v := 1) dX16_requests_0 (by decide) ?_
  refine g_istore_n X (pc := 1) [(2, pI (1 : Int32)), (0, pR (some a0)), (1, pR a1)] rfl (lt_n hn (by decide)) rfl dX16_requests_1 ?_
  refine g_sub [1, 2, 0] [(0, pR (some a0)), (1, pR a1), (2, pI (1 : Int32))] rfl ?_
  exact wX16_requests_L2 X hE hn fu   fu a0 a1 (1 : Int32) M h
theorem hyX16_requests : yX16_requests.cls ≠ "java/lang/invoke/MethodHandle" ∧ yX16_requests.cls ≠ "java/lang/invoke/VarHandle" ∧ (parseMethodDescriptor yX16_requests.desc).map (fun d => d.parameters.length) = some 1 := ⟨by decide +kernel, by decide +kernel, by decide +kernel⟩
theorem ctX16_requests (l : Launch) (E : Nat → Nat) (D : va_G) (dA : Nat → ClassId) (lo : Nat) (H0 : Heap) (fu : Nat) (a0 : Nat) (a1 : Option Nat) (M : Mm) (out : Mm) (h : fX16_requests fu a0 a1 M = some out) : Ct l E D dA lo H0 yX16_requests cX16_requests 5 none 10 232 [pR (some a0), pR a1] M none out := by
  refine ct_of (by decide +kernel) (Nat.le_of_ble_eq_true rfl) ?_
  intro x hl he hd ha ho hh hn hin X hE
  exact wX16_requests X hE hn fu a0 a1 M h
/-! WebHostModel.dataWithin(LWebHostModel$Connection;I)I -/
def fX16_dataWithin (fu : Nat)  (a0 : Option Nat) (a1 : Int32)  (M : Mm) : Option (Int32 × Mm) :=
    (rc M 12 a0).bind fun q1 =>
    b2 (fX12_behind fu q1  M) fun v3 M2 =>
    (gI M2 12 773 a0).bind fun v4 =>
    (gI M2 12 778 a0).bind fun v5 =>
    some ((jmax (0 : Int32) (jmin (jmin v5 (v3 - v4)) a1)), M2)
theorem dX16_dataWithin_0 : decode cX16_dataWithin 0 = .ok (.aload_n 0, 1) := by decide +kernel
theorem dX16_dataWithin_1 : decode cX16_dataWithin 1 = .ok (.invokevirtual 402, 3) := by decide +kernel
theorem dX16_dataWithin_4 : decode cX16_dataWithin 4 = .ok (.aload_n 0, 1) := by decide +kernel
theorem dX16_dataWithin_5 : decode cX16_dataWithin 5 = .ok (.getfield 345, 3) := by decide +kernel
theorem dX16_dataWithin_8 : decode cX16_dataWithin 8 = .ok (.isub, 1) := by decide +kernel
theorem dX16_dataWithin_9 : decode cX16_dataWithin 9 = .ok (.istore_n 2, 1) := by decide +kernel
theorem dX16_dataWithin_10 : decode cX16_dataWithin 10 = .ok (.iconst 0, 1) := by decide +kernel
theorem dX16_dataWithin_11 : decode cX16_dataWithin 11 = .ok (.aload_n 0, 1) := by decide +kernel
theorem dX16_dataWithin_12 : decode cX16_dataWithin 12 = .ok (.getfield 405, 3) := by decide +kernel
theorem dX16_dataWithin_15 : decode cX16_dataWithin 15 = .ok (.iload_n 2, 1) := by decide +kernel
theorem dX16_dataWithin_16 : decode cX16_dataWithin 16 = .ok (.invokestatic 411, 3) := by decide +kernel
theorem dX16_dataWithin_19 : decode cX16_dataWithin 19 = .ok (.iload_n 1, 1) := by decide +kernel
theorem dX16_dataWithin_20 : decode cX16_dataWithin 20 = .ok (.invokestatic 411, 3) := by decide +kernel
theorem dX16_dataWithin_23 : decode cX16_dataWithin 23 = .ok (.invokestatic 164, 3) := by decide +kernel
theorem dX16_dataWithin_26 : decode cX16_dataWithin 26 = .ok (.ireturn, 1) := by decide +kernel
theorem wX16_dataWithin {x : GX} {n0 sl0 : Nat} (X : Cx x cX16_dataWithin RX16 (some .int) n0 sl0 1 20) {out : Int32 × Mm} (hE : Ends x n0 sl0 (some (pI out.1)) out.2) (hn : xn x = 3) (fu : Nat)   (a0 : Option Nat) (a1 : Int32)  (M : Mm) (h : fX16_dataWithin fu  a0 a1 M = some out) : Gw x M 0 [(0, pR a0), (1, pI a1)] [] := by
  unfold fX16_dataWithin at h
  refine g_aload_n X (pc := 0) 0 rfl rfl dX16_dataWithin_0 ?_
  obtain ⟨q1, eq1, h⟩ := bd h
  obtain ⟨v3, M2, eM2, h⟩ := b2d h
  refine g_callV X (pc := 1) (M' := M2) (ro := some (pI v3)) (c := 12) rfl (by decide) (as := []) (as' := []) (st := []) eq1 (ctX12_behind _ _ _ _ _ _ fu q1  M _ eM2) tb_2074 tb_2182 tb_2072 tb_2073 tb_9 ⟨rfl, hyX12_behind⟩ rfl rfl ⟨by decide, by decide⟩ (Nat.le_of_ble_eq_true rfl) dX16_dataWithin_1 ?_
  refine g_aload_n X (pc := 4) 0 rfl rfl dX16_dataWithin_4 ?_
  obtain ⟨v4, ev4, h⟩ := bd h
  refine g_getI X (pc := 5) fk_12_5 rfl rfl ev4 tb_1585 dX16_dataWithin_5 ?_
  refine g_isub X (pc := 8) dX16_dataWithin_8 ?_
  refine g_istore_n X (pc := 9) [(2, pI (v3 - v4)), (0, pR a0), (1, pI a1)] rfl (lt_n hn (by decide)) rfl dX16_dataWithin_9 ?_
  refine g_iconst X (pc := 10) (v := 0) dX16_dataWithin_10 (by decide) ?_
  refine g_aload_n X (pc := 11) 1 rfl rfl dX16_dataWithin_11 ?_
  obtain ⟨v5, ev5, h⟩ := bd h
  refine g_getI X (pc := 12) fk_12_10 rfl rfl ev5 tb_1590 dX16_dataWithin_12 ?_
  refine g_iload_n X (pc := 15) 0 rfl rfl dX16_dataWithin_15 ?_
  refine g_mmin X (pc := 16) tb_2155 tb_348 tb_13 tb_349 ⟨by decide, Nat.le_of_ble_eq_true rfl⟩ dX16_dataWithin_16 ?_
  refine g_iload_n X (pc := 19) 2 rfl rfl dX16_dataWithin_19 ?_
  refine g_mmin X (pc := 20) tb_2155 tb_348 tb_13 tb_349 ⟨by decide, Nat.le_of_ble_eq_true rfl⟩ dX16_dataWithin_20 ?_
  refine g_mmax X (pc := 23) tb_2100 tb_405 tb_13 tb_406 ⟨by decide, Nat.le_of_ble_eq_true rfl⟩ dX16_dataWithin_23 ?_
  obtain rfl := Option.some.inj h
  exact g_ireturn X hE dX16_dataWithin_26
theorem hyX16_dataWithin : yX16_dataWithin.cls ≠ "java/lang/invoke/MethodHandle" ∧ yX16_dataWithin.cls ≠ "java/lang/invoke/VarHandle" ∧ (parseMethodDescriptor yX16_dataWithin.desc).map (fun d => d.parameters.length) = some 2 := ⟨by decide +kernel, by decide +kernel, by decide +kernel⟩
theorem ctX16_dataWithin (l : Launch) (E : Nat → Nat) (D : va_G) (dA : Nat → ClassId) (lo : Nat) (H0 : Heap) (fu : Nat) (a0 : Option Nat) (a1 : Int32) (M : Mm) (out : Int32 × Mm) (h : fX16_dataWithin fu a0 a1 M = some out) : Ct l E D dA lo H0 yX16_dataWithin cX16_dataWithin 3 (some .int) 1 20 [pR a0, pI a1] M (some (pI out.1)) out.2 := by
  refine ct_of (by decide +kernel) (Nat.le_of_ble_eq_true rfl) ?_
  intro x hl he hd ha ho hh hn hin X hE
  exact wX16_dataWithin X hE hn fu a0 a1 M h
/-! WebHostModel.one(LWebHostModel$Connection;I)V -/
def fX16_one_L69 (fu : Nat)  (a1 : Option Nat) (s0 : Option Nat) (s1 : Int32) (s2 : Int32) (M : Mm) : Option (Mm) :=
    (pF M 12 773 s0 (s1 + s2)).bind fun M1 =>
    (gI M1 12 774 a1).bind fun v2 =>
    (gI M1 12 773 a1).bind fun v3 =>
    b2 (fX16_before fu  v2 v3 M1) fun v5 M4 =>
    if v5 = 0 then (
    some M4)
    else (
    (gI M4 12 773 a1).bind fun v6 =>
    (pF M4 12 774 a1 v6).bind fun M7 =>
    some M7)
def fX16_one_L36 (fu : Nat)  (a0 : Nat) (a1 : Option Nat) (a3 : Int32) (s0 : Int32) (M : Mm) : Option (Mm) :=
    (gI M 12 773 a1).bind fun v1 =>
    (rc M 16 (some a0)).bind fun q2 =>
    (fX16_dataOut fu q2 a1 v1 a3 s0 M).bind fun M3 =>
    if s0 = 0 then (
    fX16_one_L69 fu  a1 a1 (v1 + a3) (0 : Int32) M3)
    else (
    fX16_one_L69 fu  a1 a1 (v1 + a3) (1 : Int32) M3)
def fX16_one_L35 (fu : Nat)  (a0 : Nat) (a1 : Option Nat) (a3 : Int32)  (M : Mm) : Option (Mm) :=
    fX16_one_L36 fu  a0 a1 a3 (0 : Int32) M
def fX16_one (fu : Nat)  (a0 : Nat) (a1 : Option Nat) (a2 : Int32)  (M : Mm) : Option (Mm) :=
    b2 (fX16_dataWithin fu  a1 a2 M) fun v2 M1 =>
    (gI M1 12 798 a1).bind fun v3 =>
    if v3 = 0 then (
    fX16_one_L35 fu  a0 a1 v2 M1)
    else (
    (gI M1 12 773 a1).bind fun v4 =>
    (rc M1 12 a1).bind fun q5 =>
    b2 (fX12_behind fu q5  M1) fun v7 M6 =>
    if (v4 + v2) = v7 then (
    if a2 ≤ v2 then (
    fX16_one_L35 fu  a0 a1 v2 M6)
    else (
    fX16_one_L36 fu  a0 a1 v2 (1 : Int32) M6))
    else (
    fX16_one_L35 fu  a0 a1 v2 M6))
theorem dX16_one_0 : decode cX16_one 0 = .ok (.aload_n 1, 1) := by decide +kernel
theorem dX16_one_1 : decode cX16_one 1 = .ok (.iload_n 2, 1) := by decide +kernel
theorem dX16_one_2 : decode cX16_one 2 = .ok (.invokestatic 414, 3) := by decide +kernel
theorem dX16_one_5 : decode cX16_one 5 = .ok (.istore_n 3, 1) := by decide +kernel
theorem dX16_one_6 : decode cX16_one 6 = .ok (.aload_n 1, 1) := by decide +kernel
theorem dX16_one_7 : decode cX16_one 7 = .ok (.getfield 418, 3) := by decide +kernel
theorem dX16_one_10 : decode cX16_one 10 = .ok (.ifCond .eq 25, 3) := by decide +kernel
theorem dX16_one_13 : decode cX16_one 13 = .ok (.aload_n 1, 1) := by decide +kernel
theorem dX16_one_14 : decode cX16_one 14 = .ok (.getfield 345, 3) := by decide +kernel
theorem dX16_one_17 : decode cX16_one 17 = .ok (.iload_n 3, 1) := by decide +kernel
theorem dX16_one_18 : decode cX16_one 18 = .ok (.iadd, 1) := by decide +kernel
theorem dX16_one_19 : decode cX16_one 19 = .ok (.aload_n 1, 1) := by decide +kernel
theorem dX16_one_20 : decode cX16_one 20 = .ok (.invokevirtual 402, 3) := by decide +kernel
theorem dX16_one_23 : decode cX16_one 23 = .ok (.if_icmp .ne 12, 3) := by decide +kernel
theorem dX16_one_26 : decode cX16_one 26 = .ok (.iload_n 3, 1) := by decide +kernel
theorem dX16_one_27 : decode cX16_one 27 = .ok (.iload_n 2, 1) := by decide +kernel
theorem dX16_one_28 : decode cX16_one 28 = .ok (.if_icmp .ge 7, 3) := by decide +kernel
theorem dX16_one_31 : decode cX16_one 31 = .ok (.iconst 1, 1) := by decide +kernel
theorem dX16_one_32 : decode cX16_one 32 = .ok (.goto 4, 3) := by decide +kernel
theorem dX16_one_35 : decode cX16_one 35 = .ok (.iconst 0, 1) := by decide +kernel
theorem dX16_one_36 : decode cX16_one 36 = .ok (.istore 4, 2) := by decide +kernel
theorem dX16_one_38 : decode cX16_one 38 = .ok (.aload_n 1, 1) := by decide +kernel
theorem dX16_one_39 : decode cX16_one 39 = .ok (.getfield 345, 3) := by decide +kernel
theorem dX16_one_42 : decode cX16_one 42 = .ok (.istore 5, 2) := by decide +kernel
theorem dX16_one_44 : decode cX16_one 44 = .ok (.aload_n 0, 1) := by decide +kernel
theorem dX16_one_45 : decode cX16_one 45 = .ok (.aload_n 1, 1) := by decide +kernel
theorem dX16_one_46 : decode cX16_one 46 = .ok (.iload 5, 2) := by decide +kernel
theorem dX16_one_48 : decode cX16_one 48 = .ok (.iload_n 3, 1) := by decide +kernel
theorem dX16_one_49 : decode cX16_one 49 = .ok (.iload 4, 2) := by decide +kernel
theorem dX16_one_51 : decode cX16_one 51 = .ok (.invokevirtual 421, 3) := by decide +kernel
theorem dX16_one_54 : decode cX16_one 54 = .ok (.aload_n 1, 1) := by decide +kernel
theorem dX16_one_55 : decode cX16_one 55 = .ok (.iload 5, 2) := by decide +kernel
theorem dX16_one_57 : decode cX16_one 57 = .ok (.iload_n 3, 1) := by decide +kernel
theorem dX16_one_58 : decode cX16_one 58 = .ok (.iadd, 1) := by decide +kernel
theorem dX16_one_59 : decode cX16_one 59 = .ok (.iload 4, 2) := by decide +kernel
theorem dX16_one_61 : decode cX16_one 61 = .ok (.ifCond .eq 7, 3) := by decide +kernel
theorem dX16_one_64 : decode cX16_one 64 = .ok (.iconst 1, 1) := by decide +kernel
theorem dX16_one_65 : decode cX16_one 65 = .ok (.goto 4, 3) := by decide +kernel
theorem dX16_one_68 : decode cX16_one 68 = .ok (.iconst 0, 1) := by decide +kernel
theorem dX16_one_69 : decode cX16_one 69 = .ok (.iadd, 1) := by decide +kernel
theorem dX16_one_70 : decode cX16_one 70 = .ok (.putfield 345, 3) := by decide +kernel
theorem dX16_one_73 : decode cX16_one 73 = .ok (.aload_n 1, 1) := by decide +kernel
theorem dX16_one_74 : decode cX16_one 74 = .ok (.getfield 361, 3) := by decide +kernel
theorem dX16_one_77 : decode cX16_one 77 = .ok (.aload_n 1, 1) := by decide +kernel
theorem dX16_one_78 : decode cX16_one 78 = .ok (.getfield 345, 3) := by decide +kernel
theorem dX16_one_81 : decode cX16_one 81 = .ok (.invokestatic 363, 3) := by decide +kernel
theorem dX16_one_84 : decode cX16_one 84 = .ok (.ifCond .eq 11, 3) := by decide +kernel
theorem dX16_one_87 : decode cX16_one 87 = .ok (.aload_n 1, 1) := by decide +kernel
theorem dX16_one_88 : decode cX16_one 88 = .ok (.aload_n 1, 1) := by decide +kernel
theorem dX16_one_89 : decode cX16_one 89 = .ok (.getfield 345, 3) := by decide +kernel
theorem dX16_one_92 : decode cX16_one 92 = .ok (.putfield 361, 3) := by decide +kernel
theorem dX16_one_95 : decode cX16_one 95 = .ok (.return_, 1) := by decide +kernel
theorem wX16_one_L69 {x : GX} {n0 sl0 : Nat} (X : Cx x cX16_one RX16 none n0 sl0 7 181) {out : Mm} (hE : Ends x n0 sl0 none out) (hn : xn x = 6) (fu : Nat)   (a1 : Option Nat) (s0 : Option Nat) (s1 : Int32) (s2 : Int32) (M : Mm) (h : fX16_one_L69 fu  a1 s0 s1 s2 M = some out) : Gw x M 69 [(1, pR a1)] [pI s2, pI s1, pR s0] := by
  unfold fX16_one_L69 at h
  refine g_iadd X (pc := 69) dX16_one_69 ?_
  obtain ⟨M1, eM1, h⟩ := bd h
  refine g_putI X (pc := 70) fk_12_5 rfl rfl rfl eM1 tb_1585 (Or.inl rfl) dX16_one_70 ?_
  refine g_aload_n X (pc := 73) 0 rfl rfl dX16_one_73 ?_
  obtain ⟨v2, ev2, h⟩ := bd h
  refine g_getI X (pc := 74) fk_12_6 rfl rfl ev2 tb_1586 dX16_one_74 ?_
  refine g_aload_n X (pc := 77) 0 rfl rfl dX16_one_77 ?_
  obtain ⟨v3, ev3, h⟩ := bd h
  refine g_getI X (pc := 78) fk_12_5 rfl rfl ev3 tb_1585 dX16_one_78 ?_
  obtain ⟨v5, M4, eM4, h⟩ := b2d h
  refine g_callS X (pc := 81) (M' := M4) (ro := some (pI v5)) (as := [pI v2, pI v3]) (as' := [pI v3, pI v2]) (st := []) (ctX16_before _ _ _ _ _ _ fu  v2 v3 M1 _ eM4) tb_2170 tb_2168 tb_2169 tb_8 hyX16_before rfl rfl ⟨by decide, by decide⟩ (Nat.le_of_ble_eq_true rfl) dX16_one_81 ?_
  refine g_if_eq X (pc := 84) (tgt := 95) dX16_one_84 (by decide) (fun hc => ?_) (fun hc => ?_)
  · have h := (if_pos hc).symm.trans h
    obtain rfl := Option.some.inj h
    exact g_return X hE dX16_one_95
  · have h := (if_neg hc).symm.trans h
    refine g_aload_n X (pc := 87) 0 rfl rfl dX16_one_87 ?_
    refine g_aload_n X (pc := 88) 0 rfl rfl dX16_one_88 ?_
    obtain ⟨v6, ev6, h⟩ := bd h
    refine g_getI X (pc := 89) fk_12_5 rfl rfl ev6 tb_1585 dX16_one_89 ?_
    obtain ⟨M7, eM7, h⟩ := bd h
    refine g_putI X (pc := 92) fk_12_6 rfl rfl rfl eM7 tb_1586 (Or.inl rfl) dX16_one_92 ?_
    obtain rfl := Option.some.inj h
    exact g_return X hE dX16_one_95
theorem wX16_one_L36 {x : GX} {n0 sl0 : Nat} (X : Cx x cX16_one RX16 none n0 sl0 7 181) {out : Mm} (hE : Ends x n0 sl0 none out) (hn : xn x = 6) (fu : Nat)   (a0 : Nat) (a1 : Option Nat) (a3 : Int32) (s0 : Int32) (M : Mm) (h : fX16_one_L36 fu  a0 a1 a3 s0 M = some out) : Gw x M 36 [(0, pR (some a0)), (1, pR a1), (3, pI a3)] [pI s0] := by
  unfold fX16_one_L36 at h
  refine g_istore X (pc := 36) [(4, pI s0), (0, pR (some a0)), (1, pR a1), (3, pI a3)] (lt_n hn (by decide)) rfl dX16_one_36 ?_
  refine g_aload_n X (pc := 38) 2 rfl rfl dX16_one_38 ?_
  obtain ⟨v1, ev1, h⟩ := bd h
  refine g_getI X (pc := 39) fk_12_5 rfl rfl ev1 tb_1585 dX16_one_39 ?_
  refine g_istore X (pc := 42) [(5, pI v1), (4, pI s0), (0, pR (some a0)), (1, pR a1), (3, pI a3)] (lt_n hn (by decide)) rfl dX16_one_42 ?_
  refine g_aload_n X (pc := 44) 2 rfl rfl dX16_one_44 ?_
  refine g_aload_n X (pc := 45) 3 rfl rfl dX16_one_45 ?_
  refine g_iload X (pc := 46) 0 rfl dX16_one_46 ?_
  refine g_iload_n X (pc := 48) 4 rfl rfl dX16_one_48 ?_
  refine g_iload X (pc := 49) 1 rfl dX16_one_49 ?_
  obtain ⟨q2, eq2, h⟩ := bd h
  obtain ⟨M3, eM3, h⟩ := bd h
  refine g_callV X (pc := 51) (M' := M3) (ro := none) (c := 16) rfl (by decide) (as := [pR a1, pI v1, pI a3, pI s0]) (as' := [pI s0, pI a3, pI v1, pR a1]) (st := []) eq2 (ctX16_dataOut _ _ _ _ _ _ fu q2 a1 v1 a3 s0 M _ eM3) tb_2186 tb_2183 tb_2185 ts_88 tb_8 ⟨rfl, hyX16_dataOut⟩ rfl rfl ⟨by decide, by decide⟩ (Nat.le_of_ble_eq_true rfl) dX16_one_51 ?_
  refine g_aload_n X (pc := 54) 3 rfl rfl dX16_one_54 ?_
  refine g_iload X (pc := 55) 0 rfl dX16_one_55 ?_
  refine g_iload_n X (pc := 57) 4 rfl rfl dX16_one_57 ?_
  refine g_iadd X (pc := 58) dX16_one_58 ?_
  refine g_iload X (pc := 59) 1 rfl dX16_one_59 ?_
  refine g_if_eq X (pc := 61) (tgt := 68) dX16_one_61 (by decide) (fun hc => ?_) (fun hc => ?_)
  · have h := (if_pos hc).symm.trans h
    refine g_iconst X (pc := 68) (v := 0) dX16_one_68 (by decide) ?_
    refine g_sub [3] [(1, pR a1)] rfl ?_
    exact wX16_one_L69 X hE hn fu   a1 a1 (v1 + a3) (0 : Int32) M3 h
  · have h := (if_neg hc).symm.trans h
    refine g_iconst X (pc := 64) (v := 1) dX16_one_64 (by decide) ?_
    refine g_goto X (pc := 65) (tgt := 69) dX16_one_65 (by decide) ?_
    refine g_sub [3] [(1, pR a1)] rfl ?_
    exact wX16_one_L69 X hE hn fu   a1 a1 (v1 + a3) (1 : Int32) M3 h
theorem wX16_one_L35 {x : GX} {n0 sl0 : Nat} (X : Cx x cX16_one RX16 none n0 sl0 7 181) {out : Mm} (hE : Ends x n0 sl0 none out) (hn : xn x = 6) (fu : Nat)   (a0 : Nat) (a1 : Option Nat) (a3 : Int32)  (M : Mm) (h : fX16_one_L35 fu  a0 a1 a3 M = some out) : Gw x M 35 [(0, pR (some a0)), (1, pR a1), (3, pI a3)] [] := by
  unfold fX16_one_L35 at h
  refine g_iconst X (pc := 35) (v := 0) dX16_one_35 (by decide) ?_
  exact wX16_one_L36 X hE hn fu   a0 a1 a3 (0 : Int32) M h
theorem wX16_one {x : GX} {n0 sl0 : Nat} (X : Cx x cX16_one RX16 none n0 sl0 7 181) {out : Mm} (hE : Ends x n0 sl0 none out) (hn : xn x = 6) (fu : Nat)   (a0 : Nat) (a1 : Option Nat) (a2 : Int32)  (M : Mm) (h : fX16_one fu  a0 a1 a2 M = some out) : Gw x M 0 [(0, pR (some a0)), (1, pR a1), (2, pI a2)] [] := by
  unfold fX16_one at h
  refine g_aload_n X (pc := 0) 1 rfl rfl dX16_one_0 ?_
  refine g_iload_n X (pc := 1) 2 rfl rfl dX16_one_1 ?_
  obtain ⟨v2, M1, eM1, h⟩ := b2d h
  refine g_callS X (pc := 2) (M' := M1) (ro := some (pI v2)) (as := [pR a1, pI a2]) (as' := [pI a2, pR a1]) (st := []) (ctX16_dataWithin _ _ _ _ _ _ fu  a1 a2 M _ eM1) tb_2181 tb_2179 tb_2180 tb_8 hyX16_dataWithin rfl rfl ⟨by decide, by decide⟩ (Nat.le_of_ble_eq_true rfl) dX16_one_2 ?_
  refine g_istore_n X (pc := 5) [(3, pI v2), (0, pR (some a0)), (1, pR a1), (2, pI a2)] rfl (lt_n hn (by decide)) rfl dX16_one_5 ?_
  refine g_aload_n X (pc := 6) 2 rfl rfl dX16_one_6 ?_
  obtain ⟨v3, ev3, h⟩ := bd h
  refine g_getI X (pc := 7) fk_12_30 rfl rfl ev3 tb_1615 dX16_one_7 ?_
  refine g_if_eq X (pc := 10) (tgt := 35) dX16_one_10 (by decide) (fun hc => ?_) (fun hc => ?_)
  · have h := (if_pos hc).symm.trans h
    refine g_sub [1, 2, 0] [(0, pR (some a0)), (1, pR a1), (3, pI v2)] rfl ?_
    exact wX16_one_L35 X hE hn fu   a0 a1 v2 M1 h
  · have h := (if_neg hc).symm.trans h
    refine g_aload_n X (pc := 13) 2 rfl rfl dX16_one_13 ?_
    obtain ⟨v4, ev4, h⟩ := bd h
    refine g_getI X (pc := 14) fk_12_5 rfl rfl ev4 tb_1585 dX16_one_14 ?_
    refine g_iload_n X (pc := 17) 0 rfl rfl dX16_one_17 ?_
    refine g_iadd X (pc := 18) dX16_one_18 ?_
    refine g_aload_n X (pc := 19) 2 rfl rfl dX16_one_19 ?_
    obtain ⟨q5, eq5, h⟩ := bd h
    obtain ⟨v7, M6, eM6, h⟩ := b2d h
    refine g_callV X (pc := 20) (M' := M6) (ro := some (pI v7)) (c := 12) rfl (by decide) (as := []) (as' := []) (st := [pI (v4 + v2)]) eq5 (ctX12_behind _ _ _ _ _ _ fu q5  M1 _ eM6) tb_2074 tb_2182 tb_2072 tb_2073 tb_9 ⟨rfl, hyX12_behind⟩ rfl rfl ⟨by decide, by decide⟩ (Nat.le_of_ble_eq_true rfl) dX16_one_20 ?_
    refine g_icmp_ne X (pc := 23) (tgt := 35) dX16_one_23 (by decide) (fun hc => ?_) (fun hc => ?_)
    · have h := (if_neg hc).symm.trans h
      refine g_sub [1, 2, 0] [(0, pR (some a0)), (1, pR a1), (3, pI v2)] rfl ?_
      exact wX16_one_L35 X hE hn fu   a0 a1 v2 M6 h
    · have h := (if_pos hc).symm.trans h
      refine g_iload_n X (pc := 26) 0 rfl rfl dX16_one_26 ?_
      refine g_iload_n X (pc := 27) 3 rfl rfl dX16_one_27 ?_
      refine g_icmp_ge X (pc := 28) (tgt := 35) dX16_one_28 (by decide) (fun hc => ?_) (fun hc => ?_)
      · have h := (if_pos hc).symm.trans h
        refine g_sub [1, 2, 0] [(0, pR (some a0)), (1, pR a1), (3, pI v2)] rfl ?_
        exact wX16_one_L35 X hE hn fu   a0 a1 v2 M6 h
      · have h := (if_neg hc).symm.trans h
        refine g_iconst X (pc := 31) (v := 1) dX16_one_31 (by decide) ?_
        refine g_goto X (pc := 32) (tgt := 36) dX16_one_32 (by decide) ?_
        refine g_sub [1, 2, 0] [(0, pR (some a0)), (1, pR a1), (3, pI v2)] rfl ?_
        exact wX16_one_L36 X hE hn fu   a0 a1 v2 (1 : Int32) M6 h
theorem hyX16_one : yX16_one.cls ≠ "java/lang/invoke/MethodHandle" ∧ yX16_one.cls ≠ "java/lang/invoke/VarHandle" ∧ (parseMethodDescriptor yX16_one.desc).map (fun d => d.parameters.length) = some 2 := ⟨by decide +kernel, by decide +kernel, by decide +kernel⟩
theorem ctX16_one (l : Launch) (E : Nat → Nat) (D : va_G) (dA : Nat → ClassId) (lo : Nat) (H0 : Heap) (fu : Nat) (a0 : Nat) (a1 : Option Nat) (a2 : Int32) (M : Mm) (out : Mm) (h : fX16_one fu a0 a1 a2 M = some out) : Ct l E D dA lo H0 yX16_one cX16_one 6 none 7 181 [pR (some a0), pR a1, pI a2] M none out := by
  refine ct_of (by decide +kernel) (Nat.le_of_ble_eq_true rfl) ?_
  intro x hl he hd ha ho hh hn hin X hE
  exact wX16_one X hE hn fu a0 a1 a2 M h
