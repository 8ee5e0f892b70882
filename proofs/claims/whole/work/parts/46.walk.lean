/-! ===== walks of methods, printed by a program of ours ===== -/
/-! WebHostModel.sendAll(LWebHostModel$Connection;)V -/
def fX16_sendAll_L172 (fu : Nat) (k17 : Nat → Option Nat → Int32 → Mm → Option (Mm)) (a0 : Nat) (a1 : Option Nat) (s0 : Int32) (M : Mm) : Option (Mm) :=
    k17 a0 a1 s0 M
def fX16_sendAll_L171 (fu : Nat) (k17 : Nat → Option Nat → Int32 → Mm → Option (Mm)) (a0 : Nat) (a1 : Option Nat)  (M : Mm) : Option (Mm) :=
    fX16_sendAll_L172 fu k17 a0 a1 (0 : Int32) M
def fX16_sendAll_L152 (fu : Nat) (k17 : Nat → Option Nat → Int32 → Mm → Option (Mm)) (a0 : Nat) (a1 : Option Nat) (a2 : Int32)  (M : Mm) : Option (Mm) :=
    if a2 = 0 then (
    fX16_sendAll_L171 fu k17 a0 a1 M)
    else (
    (gI M 12 773 a1).bind fun v1 =>
    (rc M 12 a1).bind fun q2 =>
    b2 (fX12_left fu q2 v1 M) fun v4 M3 =>
    if v4 ≤ 0 then (
    fX16_sendAll_L171 fu k17 a0 a1 M3)
    else (
    fX16_sendAll_L172 fu k17 a0 a1 (1 : Int32) M3))
def fX16_sendAll_L140 (fu : Nat) (k17 : Nat → Option Nat → Int32 → Mm → Option (Mm)) (a0 : Nat) (a1 : Option Nat) (a4 : Int32) (s0 : Int32) (M : Mm) : Option (Mm) :=
    if s0 = 0 then (
    fX16_sendAll_L152 fu k17 a0 a1 s0 M)
    else (
    (rc M 16 (some a0)).bind fun q1 =>
    (fX16_one fu q1 a1 a4 M).bind fun M2 =>
    fX16_sendAll_L152 fu k17 a0 a1 s0 M2)
def fX16_sendAll_L139 (fu : Nat) (k17 : Nat → Option Nat → Int32 → Mm → Option (Mm)) (a0 : Nat) (a1 : Option Nat) (a4 : Int32)  (M : Mm) : Option (Mm) :=
    fX16_sendAll_L140 fu k17 a0 a1 a4 (0 : Int32) M
def fX16_sendAll_L135 (fu : Nat) (k17 : Nat → Option Nat → Int32 → Mm → Option (Mm)) (a0 : Nat) (a1 : Option Nat) (a4 : Int32)  (M : Mm) : Option (Mm) :=
    fX16_sendAll_L140 fu k17 a0 a1 a4 (1 : Int32) M
def fX16_sendAll_L101 (fu : Nat) (k17 : Nat → Option Nat → Int32 → Mm → Option (Mm)) (a0 : Nat) (a1 : Option Nat) (a3 : Int32) (a4 : Int32) (a5 : Int32) (s0 : Int32) (s1 : Int32) (M : Mm) : Option (Mm) :=
    if (s0 + s1) ≤ 0 then (
    fX16_sendAll_L139 fu k17 a0 a1 a4 M)
    else (
    (gI M 12 778 a1).bind fun v1 =>
    if a5 = v1 then (
    fX16_sendAll_L135 fu k17 a0 a1 a4 M)
    else (
    (gI M 12 773 a1).bind fun v2 =>
    (rc M 12 a1).bind fun q3 =>
    b2 (fX12_left fu q3 v2 M) fun v5 M4 =>
    if (s0 + s1) = v5 then (
    fX16_sendAll_L135 fu k17 a0 a1 a4 M4)
    else (
    if a3 = 0 then (
    fX16_sendAll_L135 fu k17 a0 a1 a4 M4)
    else (
    fX16_sendAll_L139 fu k17 a0 a1 a4 M4))))
def fX16_sendAll_L87 (fu : Nat) (k17 : Nat → Option Nat → Int32 → Mm → Option (Mm)) (a0 : Nat) (a1 : Option Nat) (a3 : Int32) (a4 : Int32) (a5 : Int32) (s0 : Int32) (M : Mm) : Option (Mm) :=
    if s0 = 0 then (
    fX16_sendAll_L101 fu k17 a0 a1 a3 a4 a5 a5 (0 : Int32) M)
    else (
    fX16_sendAll_L101 fu k17 a0 a1 a3 a4 a5 a5 (1 : Int32) M)
def fX16_sendAll_L86 (fu : Nat) (k17 : Nat → Option Nat → Int32 → Mm → Option (Mm)) (a0 : Nat) (a1 : Option Nat) (a3 : Int32) (a4 : Int32) (a5 : Int32)  (M : Mm) : Option (Mm) :=
    fX16_sendAll_L87 fu k17 a0 a1 a3 a4 a5 (0 : Int32) M
def fX16_sendAll_L17 (fu : Nat)  : Nat → Nat → Option Nat → Int32 → Mm → Option (Mm)
  | 0, _, _, _, _ => none
  | n + 1, a0, a1, a2, M =>
    if a2 = 0 then (
    (gI M 12 773 a1).bind fun v1 =>
    (rc M 12 a1).bind fun q2 =>
    b2 (fX12_left fu q2 v1 M) fun v4 M3 =>
    if v4 ≤ 0 then (
    some M3)
    else (
    (gI M3 12 773 a1).bind fun v5 =>
    (gI M3 12 772 a1).bind fun v6 =>
    if v5 = v6 then (
    (gI M3 12 775 a1).bind fun v7 =>
    if v7 = 0 then (
    (gI M3 12 789 a1).bind fun v8 =>
    if v8 = 0 then (
    (rc M3 16 (some a0)).bind fun q9 =>
    (fX16_timerSet fu q9 a1 M3).bind fun M10 =>
    some M10)
    else (
    some M3))
    else (
    some M3))
    else (
    some M3)))
    else (
    (gI M 12 773 a1).bind fun v11 =>
    (gI M 12 772 a1).bind fun v12 =>
    (gI M 12 779 a1).bind fun v13 =>
    (gI M 12 775 a1).bind fun v14 =>
    b2 (fX16_dataWithin fu  a1 ((jmin v13 v14) - (v11 - v12)) M) fun v16 M15 =>
    (gI M15 12 798 a1).bind fun v17 =>
    if v17 = 0 then (
    fX16_sendAll_L86 fu (fun b0 b1 b2 M => fX16_sendAll_L17 fu  n b0 b1 b2 M) a0 a1 (v11 - v12) ((jmin v13 v14) - (v11 - v12)) v16 M15)
    else (
    (gI M15 12 773 a1).bind fun v18 =>
    (rc M15 12 a1).bind fun q19 =>
    b2 (fX12_behind fu q19  M15) fun v21 M20 =>
    if (v18 + v16) = v21 then (
    if ((jmin v13 v14) - (v11 - v12)) ≤ v16 then (
    fX16_sendAll_L86 fu (fun b0 b1 b2 M => fX16_sendAll_L17 fu  n b0 b1 b2 M) a0 a1 (v11 - v12) ((jmin v13 v14) - (v11 - v12)) v16 M20)
    else (
    fX16_sendAll_L87 fu (fun b0 b1 b2 M => fX16_sendAll_L17 fu  n b0 b1 b2 M) a0 a1 (v11 - v12) ((jmin v13 v14) - (v11 - v12)) v16 (1 : Int32) M20))
    else (
    fX16_sendAll_L86 fu (fun b0 b1 b2 M => fX16_sendAll_L17 fu  n b0 b1 b2 M) a0 a1 (v11 - v12) ((jmin v13 v14) - (v11 - v12)) v16 M20)))
def fX16_sendAll_L16 (fu : Nat)  (a0 : Nat) (a1 : Option Nat) (s0 : Int32) (M : Mm) : Option (Mm) :=
    fX16_sendAll_L17 fu  fu a0 a1 s0 M
def fX16_sendAll (fu : Nat)  (a0 : Nat) (a1 : Option Nat)  (M : Mm) : Option (Mm) :=
    (gI M 12 773 a1).bind fun v1 =>
    (rc M 12 a1).bind fun q2 =>
    b2 (fX12_left fu q2 v1 M) fun v4 M3 =>
    if v4 ≤ 0 then (
    fX16_sendAll_L16 fu  a0 a1 (0 : Int32) M3)
    else (
    fX16_sendAll_L16 fu  a0 a1 (1 : Int32) M3)
theorem dX16_sendAll_0 : decode cX16_sendAll 0 = .ok (.aload_n 1, 1) := by decide +kernel
theorem dX16_sendAll_1 : decode cX16_sendAll 1 = .ok (.aload_n 1, 1) := by decide +kernel
theorem dX16_sendAll_2 : decode cX16_sendAll 2 = .ok (.getfield 345, 3) := by decide +kernel
theorem dX16_sendAll_5 : decode cX16_sendAll 5 = .ok (.invokevirtual 425, 3) := by decide +kernel
theorem dX16_sendAll_8 : decode cX16_sendAll 8 = .ok (.ifCond .le 7, 3) := by decide +kernel
theorem dX16_sendAll_11 : decode cX16_sendAll 11 = .ok (.iconst 1, 1) := by decide +kernel
theorem dX16_sendAll_12 : decode cX16_sendAll 12 = .ok (.goto 4, 3) := by decide +kernel
theorem dX16_sendAll_15 : decode cX16_sendAll 15 = .ok (.iconst 0, 1) := by decide +kernel
theorem dX16_sendAll_16 : decode cX16_sendAll 16 = .ok (.istore_n 2, 1) := by decide +kernel
theorem dX16_sendAll_17 : decode cX16_sendAll 17 = .ok (.iload_n 2, 1) := by decide +kernel
theorem dX16_sendAll_18 : decode cX16_sendAll 18 = .ok (.ifCond .eq 158, 3) := by decide +kernel
theorem dX16_sendAll_21 : decode cX16_sendAll 21 = .ok (.aload_n 1, 1) := by decide +kernel
theorem dX16_sendAll_22 : decode cX16_sendAll 22 = .ok (.getfield 345, 3) := by decide +kernel
theorem dX16_sendAll_25 : decode cX16_sendAll 25 = .ok (.aload_n 1, 1) := by decide +kernel
theorem dX16_sendAll_26 : decode cX16_sendAll 26 = .ok (.getfield 428, 3) := by decide +kernel
theorem dX16_sendAll_29 : decode cX16_sendAll 29 = .ok (.isub, 1) := by decide +kernel
theorem dX16_sendAll_30 : decode cX16_sendAll 30 = .ok (.istore_n 3, 1) := by decide +kernel
theorem dX16_sendAll_31 : decode cX16_sendAll 31 = .ok (.aload_n 1, 1) := by decide +kernel
theorem dX16_sendAll_32 : decode cX16_sendAll 32 = .ok (.getfield 431, 3) := by decide +kernel
theorem dX16_sendAll_35 : decode cX16_sendAll 35 = .ok (.aload_n 1, 1) := by decide +kernel
theorem dX16_sendAll_36 : decode cX16_sendAll 36 = .ok (.getfield 434, 3) := by decide +kernel
theorem dX16_sendAll_39 : decode cX16_sendAll 39 = .ok (.invokestatic 411, 3) := by decide +kernel
theorem dX16_sendAll_42 : decode cX16_sendAll 42 = .ok (.iload_n 3, 1) := by decide +kernel
theorem dX16_sendAll_43 : decode cX16_sendAll 43 = .ok (.isub, 1) := by decide +kernel
theorem dX16_sendAll_44 : decode cX16_sendAll 44 = .ok (.istore 4, 2) := by decide +kernel
theorem dX16_sendAll_46 : decode cX16_sendAll 46 = .ok (.aload_n 1, 1) := by decide +kernel
theorem dX16_sendAll_47 : decode cX16_sendAll 47 = .ok (.iload 4, 2) := by decide +kernel
theorem dX16_sendAll_49 : decode cX16_sendAll 49 = .ok (.invokestatic 414, 3) := by decide +kernel
theorem dX16_sendAll_52 : decode cX16_sendAll 52 = .ok (.istore 5, 2) := by decide +kernel
theorem dX16_sendAll_54 : decode cX16_sendAll 54 = .ok (.aload_n 1, 1) := by decide +kernel
theorem dX16_sendAll_55 : decode cX16_sendAll 55 = .ok (.getfield 418, 3) := by decide +kernel
theorem dX16_sendAll_58 : decode cX16_sendAll 58 = .ok (.ifCond .eq 28, 3) := by decide +kernel
theorem dX16_sendAll_61 : decode cX16_sendAll 61 = .ok (.aload_n 1, 1) := by decide +kernel
theorem dX16_sendAll_62 : decode cX16_sendAll 62 = .ok (.getfield 345, 3) := by decide +kernel
theorem dX16_sendAll_65 : decode cX16_sendAll 65 = .ok (.iload 5, 2) := by decide +kernel
theorem dX16_sendAll_67 : decode cX16_sendAll 67 = .ok (.iadd, 1) := by decide +kernel
theorem dX16_sendAll_68 : decode cX16_sendAll 68 = .ok (.aload_n 1, 1) := by decide +kernel
theorem dX16_sendAll_69 : decode cX16_sendAll 69 = .ok (.invokevirtual 402, 3) := by decide +kernel
theorem dX16_sendAll_72 : decode cX16_sendAll 72 = .ok (.if_icmp .ne 14, 3) := by decide +kernel
theorem dX16_sendAll_75 : decode cX16_sendAll 75 = .ok (.iload 5, 2) := by decide +kernel
theorem dX16_sendAll_77 : decode cX16_sendAll 77 = .ok (.iload 4, 2) := by decide +kernel
theorem dX16_sendAll_79 : decode cX16_sendAll 79 = .ok (.if_icmp .ge 7, 3) := by decide +kernel
theorem dX16_sendAll_82 : decode cX16_sendAll 82 = .ok (.iconst 1, 1) := by decide +kernel
theorem dX16_sendAll_83 : decode cX16_sendAll 83 = .ok (.goto 4, 3) := by decide +kernel
theorem dX16_sendAll_86 : decode cX16_sendAll 86 = .ok (.iconst 0, 1) := by decide +kernel
theorem dX16_sendAll_87 : decode cX16_sendAll 87 = .ok (.istore 6, 2) := by decide +kernel
theorem dX16_sendAll_89 : decode cX16_sendAll 89 = .ok (.iload 5, 2) := by decide +kernel
theorem dX16_sendAll_91 : decode cX16_sendAll 91 = .ok (.iload 6, 2) := by decide +kernel
theorem dX16_sendAll_93 : decode cX16_sendAll 93 = .ok (.ifCond .eq 7, 3) := by decide +kernel
theorem dX16_sendAll_96 : decode cX16_sendAll 96 = .ok (.iconst 1, 1) := by decide +kernel
theorem dX16_sendAll_97 : decode cX16_sendAll 97 = .ok (.goto 4, 3) := by decide +kernel
theorem dX16_sendAll_100 : decode cX16_sendAll 100 = .ok (.iconst 0, 1) := by decide +kernel
theorem dX16_sendAll_101 : decode cX16_sendAll 101 = .ok (.iadd, 1) := by decide +kernel
theorem dX16_sendAll_102 : decode cX16_sendAll 102 = .ok (.istore 7, 2) := by decide +kernel
theorem dX16_sendAll_104 : decode cX16_sendAll 104 = .ok (.iload 7, 2) := by decide +kernel
theorem dX16_sendAll_106 : decode cX16_sendAll 106 = .ok (.ifCond .le 33, 3) := by decide +kernel
theorem dX16_sendAll_109 : decode cX16_sendAll 109 = .ok (.iload 5, 2) := by decide +kernel
theorem dX16_sendAll_111 : decode cX16_sendAll 111 = .ok (.aload_n 1, 1) := by decide +kernel
theorem dX16_sendAll_112 : decode cX16_sendAll 112 = .ok (.getfield 405, 3) := by decide +kernel
theorem dX16_sendAll_115 : decode cX16_sendAll 115 = .ok (.if_icmp .eq 20, 3) := by decide +kernel
theorem dX16_sendAll_118 : decode cX16_sendAll 118 = .ok (.iload 7, 2) := by decide +kernel
theorem dX16_sendAll_120 : decode cX16_sendAll 120 = .ok (.aload_n 1, 1) := by decide +kernel
theorem dX16_sendAll_121 : decode cX16_sendAll 121 = .ok (.aload_n 1, 1) := by decide +kernel
theorem dX16_sendAll_122 : decode cX16_sendAll 122 = .ok (.getfield 345, 3) := by decide +kernel
theorem dX16_sendAll_125 : decode cX16_sendAll 125 = .ok (.invokevirtual 425, 3) := by decide +kernel
theorem dX16_sendAll_128 : decode cX16_sendAll 128 = .ok (.if_icmp .eq 7, 3) := by decide +kernel
theorem dX16_sendAll_131 : decode cX16_sendAll 131 = .ok (.iload_n 3, 1) := by decide +kernel
theorem dX16_sendAll_132 : decode cX16_sendAll 132 = .ok (.ifCond .ne 7, 3) := by decide +kernel
theorem dX16_sendAll_135 : decode cX16_sendAll 135 = .ok (.iconst 1, 1) := by decide +kernel
theorem dX16_sendAll_136 : decode cX16_sendAll 136 = .ok (.goto 4, 3) := by decide +kernel
theorem dX16_sendAll_139 : decode cX16_sendAll 139 = .ok (.iconst 0, 1) := by decide +kernel
theorem dX16_sendAll_140 : decode cX16_sendAll 140 = .ok (.istore_n 2, 1) := by decide +kernel
theorem dX16_sendAll_141 : decode cX16_sendAll 141 = .ok (.iload_n 2, 1) := by decide +kernel
theorem dX16_sendAll_142 : decode cX16_sendAll 142 = .ok (.ifCond .eq 10, 3) := by decide +kernel
theorem dX16_sendAll_145 : decode cX16_sendAll 145 = .ok (.aload_n 0, 1) := by decide +kernel
theorem dX16_sendAll_146 : decode cX16_sendAll 146 = .ok (.aload_n 1, 1) := by decide +kernel
theorem dX16_sendAll_147 : decode cX16_sendAll 147 = .ok (.iload 4, 2) := by decide +kernel
theorem dX16_sendAll_149 : decode cX16_sendAll 149 = .ok (.invokevirtual 435, 3) := by decide +kernel
theorem dX16_sendAll_152 : decode cX16_sendAll 152 = .ok (.iload_n 2, 1) := by decide +kernel
theorem dX16_sendAll_153 : decode cX16_sendAll 153 = .ok (.ifCond .eq 18, 3) := by decide +kernel
theorem dX16_sendAll_156 : decode cX16_sendAll 156 = .ok (.aload_n 1, 1) := by decide +kernel
theorem dX16_sendAll_157 : decode cX16_sendAll 157 = .ok (.aload_n 1, 1) := by decide +kernel
theorem dX16_sendAll_158 : decode cX16_sendAll 158 = .ok (.getfield 345, 3) := by decide +kernel
theorem dX16_sendAll_161 : decode cX16_sendAll 161 = .ok (.invokevirtual 425, 3) := by decide +kernel
theorem dX16_sendAll_164 : decode cX16_sendAll 164 = .ok (.ifCond .le 7, 3) := by decide +kernel
theorem dX16_sendAll_167 : decode cX16_sendAll 167 = .ok (.iconst 1, 1) := by decide +kernel
theorem dX16_sendAll_168 : decode cX16_sendAll 168 = .ok (.goto 4, 3) := by decide +kernel
theorem dX16_sendAll_171 : decode cX16_sendAll 171 = .ok (.iconst 0, 1) := by decide +kernel
theorem dX16_sendAll_172 : decode cX16_sendAll 172 = .ok (.istore_n 2, 1) := by decide +kernel
theorem dX16_sendAll_173 : decode cX16_sendAll 173 = .ok (.goto (-156), 3) := by decide +kernel
theorem dX16_sendAll_176 : decode cX16_sendAll 176 = .ok (.aload_n 1, 1) := by decide +kernel
theorem dX16_sendAll_177 : decode cX16_sendAll 177 = .ok (.aload_n 1, 1) := by decide +kernel
theorem dX16_sendAll_178 : decode cX16_sendAll 178 = .ok (.getfield 345, 3) := by decide +kernel
theorem dX16_sendAll_181 : decode cX16_sendAll 181 = .ok (.invokevirtual 425, 3) := by decide +kernel
theorem dX16_sendAll_184 : decode cX16_sendAll 184 = .ok (.ifCond .le 33, 3) := by decide +kernel
theorem dX16_sendAll_187 : decode cX16_sendAll 187 = .ok (.aload_n 1, 1) := by decide +kernel
theorem dX16_sendAll_188 : decode cX16_sendAll 188 = .ok (.getfield 345, 3) := by decide +kernel
theorem dX16_sendAll_191 : decode cX16_sendAll 191 = .ok (.aload_n 1, 1) := by decide +kernel
theorem dX16_sendAll_192 : decode cX16_sendAll 192 = .ok (.getfield 428, 3) := by decide +kernel
theorem dX16_sendAll_195 : decode cX16_sendAll 195 = .ok (.if_icmp .ne 22, 3) := by decide +kernel
theorem dX16_sendAll_198 : decode cX16_sendAll 198 = .ok (.aload_n 1, 1) := by decide +kernel
theorem dX16_sendAll_199 : decode cX16_sendAll 199 = .ok (.getfield 434, 3) := by decide +kernel
theorem dX16_sendAll_202 : decode cX16_sendAll 202 = .ok (.ifCond .ne 15, 3) := by decide +kernel
theorem dX16_sendAll_205 : decode cX16_sendAll 205 = .ok (.aload_n 1, 1) := by decide +kernel
theorem dX16_sendAll_206 : decode cX16_sendAll 206 = .ok (.getfield 376, 3) := by decide +kernel
theorem dX16_sendAll_209 : decode cX16_sendAll 209 = .ok (.ifCond .ne 8, 3) := by decide +kernel
theorem dX16_sendAll_212 : decode cX16_sendAll 212 = .ok (.aload_n 0, 1) := by decide +kernel
theorem dX16_sendAll_213 : decode cX16_sendAll 213 = .ok (.aload_n 1, 1) := by decide +kernel
theorem dX16_sendAll_214 : decode cX16_sendAll 214 = .ok (.invokevirtual 379, 3) := by decide +kernel
theorem dX16_sendAll_217 : decode cX16_sendAll 217 = .ok (.return_, 1) := by decide +kernel
theorem wX16_sendAll_L172 {x : GX} {n0 sl0 : Nat} (X : Cx x cX16_sendAll RX16 none n0 sl0 8 206) {out : Mm} (hE : Ends x n0 sl0 none out) (hn : xn x = 8) (fu : Nat) (k17 : Nat → Option Nat → Int32 → Mm → Option (Mm)) (hk17 : ∀ (b0 : Nat) (b1 : Option Nat) (b2 : Int32)  (M : Mm), k17 b0 b1 b2 M = some out → Gw x M 17 [(0, pR (some b0)), (1, pR b1), (2, pI b2)] []) (a0 : Nat) (a1 : Option Nat) (s0 : Int32) (M : Mm) (h : fX16_sendAll_L172 fu k17 a0 a1 s0 M = some out) : Gw x M 172 [(0, pR (some a0)), (1, pR a1)] [pI s0] := by
  unfold fX16_sendAll_L172 at h
  refine g_istore_n X (pc := 172) [(2, pI s0), (0, pR (some a0)), (1, pR a1)] rfl (lt_n hn (by decide)) rfl dX16_sendAll_172 ?_
  refine g_goto X (pc := 173) (tgt := 17) dX16_sendAll_173 (by decide) ?_
  refine g_sub [1, 2, 0] [(0, pR (some a0)), (1, pR a1), (2, pI s0)] rfl ?_
  exact hk17 a0 a1 s0 M h
theorem wX16_sendAll_L171 {x : GX} {n0 sl0 : Nat} (X : Cx x cX16_sendAll RX16 none n0 sl0 8 206) {out : Mm} (hE : Ends x n0 sl0 none out) (hn : xn x = 8) (fu : Nat) (k17 : Nat → Option Nat → Int32 → Mm → Option (Mm)) (hk17 : ∀ (b0 : Nat) (b1 : Option Nat) (b2 : Int32)  (M : Mm), k17 b0 b1 b2 M = some out → Gw x M 17 [(0, pR (some b0)), (1, pR b1), (2, pI b2)] []) (a0 : Nat) (a1 : Option Nat)  (M : Mm) (h : fX16_sendAll_L171 fu k17 a0 a1 M = some out) : Gw x M 171 [(0, pR (some a0)), (1, pR a1)] [] := by
  unfold fX16_sendAll_L171 at h
  refine g_iconst X (pc := 171) (v := 0) dX16_sendAll_171 (by decide) ?_
  exact wX16_sendAll_L172 X hE hn fu k17 hk17 a0 a1 (0 : Int32) M h
theorem wX16_sendAll_L152 {x : GX} {n0 sl0 : Nat} (X : Cx x cX16_sendAll RX16 none n0 sl0 8 206) {out : Mm} (hE : Ends x n0 sl0 none out) (hn : xn x = 8) (fu : Nat) (k17 : Nat → Option Nat → Int32 → Mm → Option (Mm)) (hk17 : ∀ (b0 : Nat) (b1 : Option Nat) (b2 : Int32)  (M : Mm), k17 b0 b1 b2 M = some out → Gw x M 17 [(0, pR (some b0)), (1, pR b1), (2, pI b2)] []) (a0 : Nat) (a1 : Option Nat) (a2 : Int32)  (M : Mm) (h : fX16_sendAll_L152 fu k17 a0 a1 a2 M = some out) : Gw x M 152 [(0, pR (some a0)), (1, pR a1), (2, pI a2)] [] := by
  unfold fX16_sendAll_L152 at h
  refine g_iload_n X (pc := 152) 2 rfl rfl dX16_sendAll_152 ?_
  refine g_if_eq X (pc := 153) (tgt := 171) dX16_sendAll_153 (by decide) (fun hc => ?_) (fun hc => ?_)
  · have h := (if_pos hc).symm.trans h
    refine g_sub [0, 1] [(0, pR (some a0)), (1, pR a1)] rfl ?_
    exact wX16_sendAll_L171 X hE hn fu k17 hk17 a0 a1 M h
  · have h := (if_neg hc).symm.trans h
    refine g_aload_n X (pc := 156) 1 rfl rfl dX16_sendAll_156 ?_
    refine g_aload_n X (pc := 157) 1 rfl rfl dX16_sendAll_157 ?_
    obtain ⟨v1, ev1, h⟩ := bd h
    refine g_getI X (pc := 158) fk_12_5 rfl rfl ev1 tb_1585 dX16_sendAll_158 ?_
    obtain ⟨q2, eq2, h⟩ := bd h
    obtain ⟨v4, M3, eM3, h⟩ := b2d h
    refine g_callV X (pc := 161) (M' := M3) (ro := some (pI v4)) (c := 12) rfl (by decide) (as := [pI v1]) (as' := [pI v1]) (st := []) eq2 (ctX12_left _ _ _ _ _ _ fu q2 v1 M _ eM3) tb_2070 tb_2067 tb_2068 tb_2069 tb_9 ⟨rfl, hyX12_left⟩ rfl rfl ⟨by decide, by decide⟩ (Nat.le_of_ble_eq_true rfl) dX16_sendAll_161 ?_
    refine g_if_le X (pc := 164) (tgt := 171) dX16_sendAll_164 (by decide) (fun hc => ?_) (fun hc => ?_)
    · have h := (if_pos hc).symm.trans h
      refine g_sub [0, 1] [(0, pR (some a0)), (1, pR a1)] rfl ?_
      exact wX16_sendAll_L171 X hE hn fu k17 hk17 a0 a1 M3 h
    · have h := (if_neg hc).symm.trans h
      refine g_iconst X (pc := 167) (v := 1) dX16_sendAll_167 (by decide) ?_
      refine g_goto X (pc := 168) (tgt := 172) dX16_sendAll_168 (by decide) ?_
      refine g_sub [0, 1] [(0, pR (some a0)), (1, pR a1)] rfl ?_
      exact wX16_sendAll_L172 X hE hn fu k17 hk17 a0 a1 (1 : Int32) M3 h
theorem wX16_sendAll_L140 {x : GX} {n0 sl0 : Nat} (X : Cx x cX16_sendAll RX16 none n0 sl0 8 206) {out : Mm} (hE : Ends x n0 sl0 none out) (hn : xn x = 8) (fu : Nat) (k17 : Nat → Option Nat → Int32 → Mm → Option (Mm)) (hk17 : ∀ (b0 : Nat) (b1 : Option Nat) (b2 : Int32)  (M : Mm), k17 b0 b1 b2 M = some out → Gw x M 17 [(0, pR (some b0)), (1, pR b1), (2, pI b2)] []) (a0 : Nat) (a1 : Option Nat) (a4 : Int32) (s0 : Int32) (M : Mm) (h : fX16_sendAll_L140 fu k17 a0 a1 a4 s0 M = some out) : Gw x M 140 [(0, pR (some a0)), (1, pR a1), (4, pI a4)] [pI s0] := by
  unfold fX16_sendAll_L140 at h
  refine g_istore_n X (pc := 140) [(2, pI s0), (0, pR (some a0)), (1, pR a1), (4, pI a4)] rfl (lt_n hn (by decide)) rfl dX16_sendAll_140 ?_
  refine g_iload_n X (pc := 141) 0 rfl rfl dX16_sendAll_141 ?_
  refine g_if_eq X (pc := 142) (tgt := 152) dX16_sendAll_142 (by decide) (fun hc => ?_) (fun hc => ?_)
  · have h := (if_pos hc).symm.trans h
    refine g_sub [1, 2, 0] [(0, pR (some a0)), (1, pR a1), (2, pI s0)] rfl ?_
    exact wX16_sendAll_L152 X hE hn fu k17 hk17 a0 a1 s0 M h
  · have h := (if_neg hc).symm.trans h
    refine g_aload_n X (pc := 145) 1 rfl rfl dX16_sendAll_145 ?_
    refine g_aload_n X (pc := 146) 2 rfl rfl dX16_sendAll_146 ?_
    refine g_iload X (pc := 147) 3 rfl dX16_sendAll_147 ?_
    obtain ⟨q1, eq1, h⟩ := bd h
    obtain ⟨M2, eM2, h⟩ := bd h
    refine g_callV X (pc := 149) (M' := M2) (ro := none) (c := 16) rfl (by decide) (as := [pR a1, pI a4]) (as' := [pI a4, pR a1]) (st := []) eq1 (ctX16_one _ _ _ _ _ _ fu q1 a1 a4 M _ eM2) tb_2178 tb_2175 tb_2177 ts_87 tb_8 ⟨rfl, hyX16_one⟩ rfl rfl ⟨by decide, by decide⟩ (Nat.le_of_ble_eq_true rfl) dX16_sendAll_149 ?_
    refine g_sub [1, 2, 0] [(0, pR (some a0)), (1, pR a1), (2, pI s0)] rfl ?_
    exact wX16_sendAll_L152 X hE hn fu k17 hk17 a0 a1 s0 M2 h
theorem wX16_sendAll_L139 {x : GX} {n0 sl0 : Nat} (X : Cx x cX16_sendAll RX16 none n0 sl0 8 206) {out : Mm} (hE : Ends x n0 sl0 none out) (hn : xn x = 8) (fu : Nat) (k17 : Nat → Option Nat → Int32 → Mm → Option (Mm)) (hk17 : ∀ (b0 : Nat) (b1 : Option Nat) (b2 : Int32)  (M : Mm), k17 b0 b1 b2 M = some out → Gw x M 17 [(0, pR (some b0)), (1, pR b1), (2, pI b2)] []) (a0 : Nat) (a1 : Option Nat) (a4 : Int32)  (M : Mm) (h : fX16_sendAll_L139 fu k17 a0 a1 a4 M = some out) : Gw x M 139 [(0, pR (some a0)), (1, pR a1), (4, pI a4)] [] := by
  unfold fX16_sendAll_L139 at h
  refine g_iconst X (pc := 139) (v := 0) dX16_sendAll_139 (by decide) ?_
  exact wX16_sendAll_L140 X hE hn fu k17 hk17 a0 a1 a4 (0 : Int32) M h
theorem wX16_sendAll_L135 {x : GX} {n0 sl0 : Nat} (X : Cx x cX16_sendAll RX16 none n0 sl0 8 206) {out : Mm} (hE : Ends x n0 sl0 none out) (hn : xn x = 8) (fu : Nat) (k17 : Nat → Option Nat → Int32 → Mm → Option (Mm)) (hk17 : ∀ (b0 : Nat) (b1 : Option Nat) (b2 : Int32)  (M : Mm), k17 b0 b1 b2 M = some out → Gw x M 17 [(0, pR (some b0)), (1, pR b1), (2, pI b2)] []) (a0 : Nat) (a1 : Option Nat) (a4 : Int32)  (M : Mm) (h : fX16_sendAll_L135 fu k17 a0 a1 a4 M = some out) : Gw x M 135 [(0, pR (some a0)), (1, pR a1), (4, pI a4)] [] := by
  unfold fX16_sendAll_L135 at h
  refine g_iconst X (pc := 135) (v := 1) dX16_sendAll_135 (by decide) ?_
  refine g_goto X (pc := 136) (tgt := 140) dX16_sendAll_136 (by decide) ?_
  exact wX16_sendAll_L140 X hE hn fu k17 hk17 a0 a1 a4 (1 : Int32) M h
theorem wX16_sendAll_L101 {x : GX} {n0 sl0 : Nat} (X : Cx x cX16_sendAll RX16 none n0 sl0 8 206) {out : Mm} (hE : Ends x n0 sl0 none out) (hn : xn x = 8) (fu : Nat) (k17 : Nat → Option Nat → Int32 → Mm → Option (Mm)) (hk17 : ∀ (b0 : Nat) (b1 : Option Nat) (b2 : Int32)  (M : Mm), k17 b0 b1 b2 M = some out → Gw x M 17 [(0, pR (some b0)), (1, pR b1), (2, pI b2)] []) (a0 : Nat) (a1 : Option Nat) (a3 : Int32) (a4 : Int32) (a5 : Int32) (s0 : Int32) (s1 : Int32) (M : Mm) (h : fX16_sendAll_L101 fu k17 a0 a1 a3 a4 a5 s0 s1 M = some out) : Gw x M 101 [(0, pR (some a0)), (1, pR a1), (3, pI a3), (4, pI a4), (5, pI a5)] [pI s1, pI s0] := by
  unfold fX16_sendAll_L101 at h
  refine g_iadd X (pc := 101) dX16_sendAll_101 ?_
  refine g_istore X (pc := 102) [(7, pI (s0 + s1)), (0, pR (some a0)), (1, pR a1), (3, pI a3), (4, pI a4), (5, pI a5)] (lt_n hn (by decide)) rfl dX16_sendAll_102 ?_
  refine g_iload X (pc := 104) 0 rfl dX16_sendAll_104 ?_
  refine g_if_le X (pc := 106) (tgt := 139) dX16_sendAll_106 (by decide) (fun hc => ?_) (fun hc => ?_)
  · have h := (if_pos hc).symm.trans h
    refine g_sub [1, 2, 4] [(0, pR (some a0)), (1, pR a1), (4, pI a4)] rfl ?_
    exact wX16_sendAll_L139 X hE hn fu k17 hk17 a0 a1 a4 M h
  · have h := (if_neg hc).symm.trans h
    refine g_iload X (pc := 109) 5 rfl dX16_sendAll_109 ?_
    refine g_aload_n X (pc := 111) 2 rfl rfl dX16_sendAll_111 ?_
    obtain ⟨v1, ev1, h⟩ := bd h
    refine g_getI X (pc := 112) fk_12_10 rfl rfl ev1 tb_1590 dX16_sendAll_112 ?_
    refine g_icmp_eq X (pc := 115) (tgt := 135) dX16_sendAll_115 (by decide) (fun hc => ?_) (fun hc => ?_)
    · have h := (if_pos hc).symm.trans h
      refine g_sub [1, 2, 4] [(0, pR (some a0)), (1, pR a1), (4, pI a4)] rfl ?_
      exact wX16_sendAll_L135 X hE hn fu k17 hk17 a0 a1 a4 M h
    · have h := (if_neg hc).symm.trans h
      refine g_iload X (pc := 118) 0 rfl dX16_sendAll_118 ?_
      refine g_aload_n X (pc := 120) 2 rfl rfl dX16_sendAll_120 ?_
      refine g_aload_n X (pc := 121) 2 rfl rfl dX16_sendAll_121 ?_
      obtain ⟨v2, ev2, h⟩ := bd h
      refine g_getI X (pc := 122) fk_12_5 rfl rfl ev2 tb_1585 dX16_sendAll_122 ?_
      obtain ⟨q3, eq3, h⟩ := bd h
      obtain ⟨v5, M4, eM4, h⟩ := b2d h
      refine g_callV X (pc := 125) (M' := M4) (ro := some (pI v5)) (c := 12) rfl (by decide) (as := [pI v2]) (as' := [pI v2]) (st := [pI (s0 + s1)]) eq3 (ctX12_left _ _ _ _ _ _ fu q3 v2 M _ eM4) tb_2070 tb_2067 tb_2068 tb_2069 tb_9 ⟨rfl, hyX12_left⟩ rfl rfl ⟨by decide, by decide⟩ (Nat.le_of_ble_eq_true rfl) dX16_sendAll_125 ?_
      refine g_icmp_eq X (pc := 128) (tgt := 135) dX16_sendAll_128 (by decide) (fun hc => ?_) (fun hc => ?_)
      · have h := (if_pos hc).symm.trans h
        refine g_sub [1, 2, 4] [(0, pR (some a0)), (1, pR a1), (4, pI a4)] rfl ?_
        exact wX16_sendAll_L135 X hE hn fu k17 hk17 a0 a1 a4 M4 h
      · have h := (if_neg hc).symm.trans h
        refine g_iload_n X (pc := 131) 3 rfl rfl dX16_sendAll_131 ?_
        refine g_if_ne X (pc := 132) (tgt := 139) dX16_sendAll_132 (by decide) (fun hc => ?_) (fun hc => ?_)
        · have h := (if_neg hc).symm.trans h
          refine g_sub [1, 2, 4] [(0, pR (some a0)), (1, pR a1), (4, pI a4)] rfl ?_
          exact wX16_sendAll_L139 X hE hn fu k17 hk17 a0 a1 a4 M4 h
        · have h := (if_pos hc).symm.trans h
          refine g_sub [1, 2, 4] [(0, pR (some a0)), (1, pR a1), (4, pI a4)] rfl ?_
          exact wX16_sendAll_L135 X hE hn fu k17 hk17 a0 a1 a4 M4 h
theorem wX16_sendAll_L87 {x : GX} {n0 sl0 : Nat} (X : Cx x cX16_sendAll RX16 none n0 sl0 8 206) {out : Mm} (hE : Ends x n0 sl0 none out) (hn : xn x = 8) (fu : Nat) (k17 : Nat → Option Nat → Int32 → Mm → Option (Mm)) (hk17 : ∀ (b0 : Nat) (b1 : Option Nat) (b2 : Int32)  (M : Mm), k17 b0 b1 b2 M = some out → Gw x M 17 [(0, pR (some b0)), (1, pR b1), (2, pI b2)] []) (a0 : Nat) (a1 : Option Nat) (a3 : Int32) (a4 : Int32) (a5 : Int32) (s0 : Int32) (M : Mm) (h : fX16_sendAll_L87 fu k17 a0 a1 a3 a4 a5 s0 M = some out) : Gw x M 87 [(0, pR (some a0)), (1, pR a1), (3, pI a3), (4, pI a4), (5, pI a5)] [pI s0] := by
  unfold fX16_sendAll_L87 at h
  refine g_istore X (pc := 87) [(6, pI s0), (0, pR (some a0)), (1, pR a1), (3, pI a3), (4, pI a4), (5, pI a5)] (lt_n hn (by decide)) rfl dX16_sendAll_87 ?_
  refine g_iload X (pc := 89) 5 rfl dX16_sendAll_89 ?_
  refine g_iload X (pc := 91) 0 rfl dX16_sendAll_91 ?_
  refine g_if_eq X (pc := 93) (tgt := 100) dX16_sendAll_93 (by decide) (fun hc => ?_) (fun hc => ?_)
  · have h := (if_pos hc).symm.trans h
    refine g_iconst X (pc := 100) (v := 0) dX16_sendAll_100 (by decide) ?_
    refine g_sub [1, 2, 3, 4, 5] [(0, pR (some a0)), (1, pR a1), (3, pI a3), (4, pI a4), (5, pI a5)] rfl ?_
    exact wX16_sendAll_L101 X hE hn fu k17 hk17 a0 a1 a3 a4 a5 a5 (0 : Int32) M h
  · have h := (if_neg hc).symm.trans h
    refine g_iconst X (pc := 96) (v := 1) dX16_sendAll_96 (by decide) ?_
    refine g_goto X (pc := 97) (tgt := 101) dX16_sendAll_97 (by decide) ?_
    refine g_sub [1, 2, 3, 4, 5] [(0, pR (some a0)), (1, pR a1), (3, pI a3), (4, pI a4), (5, pI a5)] rfl ?_
    exact wX16_sendAll_L101 X hE hn fu k17 hk17 a0 a1 a3 a4 a5 a5 (1 : Int32) M h
theorem wX16_sendAll_L86 {x : GX} {n0 sl0 : Nat} (X : Cx x cX16_sendAll RX16 none n0 sl0 8 206) {out : Mm} (hE : Ends x n0 sl0 none out) (hn : xn x = 8) (fu : Nat) (k17 : Nat → Option Nat → Int32 → Mm → Option (Mm)) (hk17 : ∀ (b0 : Nat) (b1 : Option Nat) (b2 : Int32)  (M : Mm), k17 b0 b1 b2 M = some out → Gw x M 17 [(0, pR (some b0)), (1, pR b1), (2, pI b2)] []) (a0 : Nat) (a1 : Option Nat) (a3 : Int32) (a4 : Int32) (a5 : Int32)  (M : Mm) (h : fX16_sendAll_L86 fu k17 a0 a1 a3 a4 a5 M = some out) : Gw x M 86 [(0, pR (some a0)), (1, pR a1), (3, pI a3), (4, pI a4), (5, pI a5)] [] := by
  unfold fX16_sendAll_L86 at h
  refine g_iconst X (pc := 86) (v := 0) dX16_sendAll_86 (by decide) ?_
  exact wX16_sendAll_L87 X hE hn fu k17 hk17 a0 a1 a3 a4 a5 (0 : Int32) M h
theorem wX16_sendAll_L17 {x : GX} {n0 sl0 : Nat} (X : Cx x cX16_sendAll RX16 none n0 sl0 8 206) {out : Mm} (hE : Ends x n0 sl0 none out) (hn : xn x = 8) (fu : Nat)   : ∀ (n : Nat) (a0 : Nat) (a1 : Option Nat) (a2 : Int32)  (M : Mm), fX16_sendAll_L17 fu  n a0 a1 a2 M = some out → Gw x M 17 [(0, pR (some a0)), (1, pR a1), (2, pI a2)] [] := by
  intro n
  induction n with
  | zero =>
    intro a0 a1 a2 M h
    have h : (none : Option (Mm)) = some out := h
    cases h
  | succ n ih =>
    intro a0 a1 a2 M h
    rw [fX16_sendAll_L17] at h
    refine g_iload_n X (pc := 17) 2 rfl rfl dX16_sendAll_17 ?_
    refine g_if_eq X (pc := 18) (tgt := 176) dX16_sendAll_18 (by decide) (fun hc => ?_) (fun hc => ?_)
    · have h := (if_pos hc).symm.trans h
      refine g_aload_n X (pc := 176) 1 rfl rfl dX16_sendAll_176 ?_
      refine g_aload_n X (pc := 177) 1 rfl rfl dX16_sendAll_177 ?_
      obtain ⟨v1, ev1, h⟩ := bd h
      refine g_getI X (pc := 178) fk_12_5 rfl rfl ev1 tb_1585 dX16_sendAll_178 ?_
      obtain ⟨q2, eq2, h⟩ := bd h
      obtain ⟨v4, M3, eM3, h⟩ := b2d h
      refine g_callV X (pc := 181) (M' := M3) (ro := some (pI v4)) (c := 12) rfl (by decide) (as := [pI v1]) (as' := [pI v1]) (st := []) eq2 (ctX12_left _ _ _ _ _ _ fu q2 v1 M _ eM3) tb_2070 tb_2067 tb_2068 tb_2069 tb_9 ⟨rfl, hyX12_left⟩ rfl rfl ⟨by decide, by decide⟩ (Nat.le_of_ble_eq_true rfl) dX16_sendAll_181 ?_
      refine g_if_le X (pc := 184) (tgt := 217) dX16_sendAll_184 (by decide) (fun hc => ?_) (fun hc => ?_)
      · have h := (if_pos hc).symm.trans h
        obtain rfl := Option.some.inj h
        exact g_return X hE dX16_sendAll_217
      · have h := (if_neg hc).symm.trans h
        refine g_aload_n X (pc := 187) 1 rfl rfl dX16_sendAll_187 ?_
        obtain ⟨v5, ev5, h⟩ := bd h
        refine g_getI X (pc := 188) fk_12_5 rfl rfl ev5 tb_1585 dX16_sendAll_188 ?_
        refine g_aload_n X (pc := 191) 1 rfl rfl dX16_sendAll_191 ?_
        obtain ⟨v6, ev6, h⟩ := bd h
        refine g_getI X (pc := 192) fk_12_4 rfl rfl ev6 tb_1584 dX16_sendAll_192 ?_
        refine g_icmp_ne X (pc := 195) (tgt := 217) dX16_sendAll_195 (by decide) (fun hc => ?_) (fun hc => ?_)
        · have h := (if_neg hc).symm.trans h
          obtain rfl := Option.some.inj h
          exact g_return X hE dX16_sendAll_217
        · have h := (if_pos hc).symm.trans h
          refine g_aload_n X (pc := 198) 1 rfl rfl dX16_sendAll_198 ?_
          obtain ⟨v7, ev7, h⟩ := bd h
          refine g_getI X (pc := 199) fk_12_7 rfl rfl ev7 tb_1587 dX16_sendAll_199 ?_
          refine g_if_ne X (pc := 202) (tgt := 217) dX16_sendAll_202 (by decide) (fun hc => ?_) (fun hc => ?_)
          · have h := (if_neg hc).symm.trans h
            obtain rfl := Option.some.inj h
            exact g_return X hE dX16_sendAll_217
          · have h := (if_pos hc).symm.trans h
            refine g_aload_n X (pc := 205) 1 rfl rfl dX16_sendAll_205 ?_
            obtain ⟨v8, ev8, h⟩ := bd h
            refine g_getI X (pc := 206) fk_12_21 rfl rfl ev8 tb_1601 dX16_sendAll_206 ?_
            refine g_if_ne X (pc := 209) (tgt := 217) dX16_sendAll_209 (by decide) (fun hc => ?_) (fun hc => ?_)
            · have h := (if_neg hc).symm.trans h
              obtain rfl := Option.some.inj h
              exact g_return X hE dX16_sendAll_217
            · have h := (if_pos hc).symm.trans h
              refine g_aload_n X (pc := 212) 0 rfl rfl dX16_sendAll_212 ?_
              refine g_aload_n X (pc := 213) 1 rfl rfl dX16_sendAll_213 ?_
              obtain ⟨q9, eq9, h⟩ := bd h
              obtain ⟨M10, eM10, h⟩ := bd h
              refine g_callV X (pc := 214) (M' := M10) (ro := none) (c := 16) rfl (by decide) (as := [pR a1]) (as' := [pR a1]) (st := []) eq9 (ctX16_timerSet _ _ _ _ _ _ fu q9 a1 M3 _ eM10) tb_2174 tb_2171 tb_2173 ts_86 tb_8 ⟨rfl, hyX16_timerSet⟩ rfl rfl ⟨by decide, by decide⟩ (Nat.le_of_ble_eq_true rfl) dX16_sendAll_214 ?_
              obtain rfl := Option.some.inj h
              exact g_return X hE dX16_sendAll_217
    · have h := (if_neg hc).symm.trans h
      refine g_aload_n X (pc := 21) 1 rfl rfl dX16_sendAll_21 ?_
      obtain ⟨v11, ev11, h⟩ := bd h
      refine g_getI X (pc := 22) fk_12_5 rfl rfl ev11 tb_1585 dX16_sendAll_22 ?_
      refine g_aload_n X (pc := 25) 1 rfl rfl dX16_sendAll_25 ?_
      obtain ⟨v12, ev12, h⟩ := bd h
      refine g_getI X (pc := 26) fk_12_4 rfl rfl ev12 tb_1584 dX16_sendAll_26 ?_
      refine g_isub X (pc := 29) dX16_sendAll_29 ?_
      refine g_istore_n X (pc := 30) [(3, pI (v11 - v12)), (0, pR (some a0)), (1, pR a1), (2, pI a2)] rfl (lt_n hn (by decide)) rfl dX16_sendAll_30 ?_
      refine g_aload_n X (pc := 31) 2 rfl rfl dX16_sendAll_31 ?_
      obtain ⟨v13, ev13, h⟩ := bd h
      refine g_getI X (pc := 32) fk_12_11 rfl rfl ev13 tb_1591 dX16_sendAll_32 ?_
      refine g_aload_n X (pc := 35) 2 rfl rfl dX16_sendAll_35 ?_
      obtain ⟨v14, ev14, h⟩ := bd h
      refine g_getI X (pc := 36) fk_12_7 rfl rfl ev14 tb_1587 dX16_sendAll_36 ?_
      refine g_mmin X (pc := 39) tb_2155 tb_348 tb_13 tb_349 ⟨by decide, Nat.le_of_ble_eq_true rfl⟩ dX16_sendAll_39 ?_
      refine g_iload_n X (pc := 42) 0 rfl rfl dX16_sendAll_42 ?_
      refine g_isub X (pc := 43) dX16_sendAll_43 ?_
      refine g_istore X (pc := 44) [(4, pI ((jmin v13 v14) - (v11 - v12))), (3, pI (v11 - v12)), (0, pR (some a0)), (1, pR a1), (2, pI a2)] (lt_n hn (by decide)) rfl dX16_sendAll_44 ?_
      refine g_aload_n X (pc := 46) 3 rfl rfl dX16_sendAll_46 ?_
      refine g_iload X (pc := 47) 0 rfl dX16_sendAll_47 ?_
      obtain ⟨v16, M15, eM15, h⟩ := b2d h
      refine g_callS X (pc := 49) (M' := M15) (ro := some (pI v16)) (as := [pR a1, pI ((jmin v13 v14) - (v11 - v12))]) (as' := [pI ((jmin v13 v14) - (v11 - v12)), pR a1]) (st := []) (ctX16_dataWithin _ _ _ _ _ _ fu  a1 ((jmin v13 v14) - (v11 - v12)) M _ eM15) tb_2181 tb_2179 tb_2180 tb_8 hyX16_dataWithin rfl rfl ⟨by decide, by decide⟩ (Nat.le_of_ble_eq_true rfl) dX16_sendAll_49 ?_
      refine g_istore X (pc := 52) [(5, pI v16), (4, pI ((jmin v13 v14) - (v11 - v12))), (3, pI (v11 - v12)), (0, pR (some a0)), (1, pR a1), (2, pI a2)] (lt_n hn (by decide)) rfl dX16_sendAll_52 ?_
      refine g_aload_n X (pc := 54) 4 rfl rfl dX16_sendAll_54 ?_
      obtain ⟨v17, ev17, h⟩ := bd h
      refine g_getI X (pc := 55) fk_12_30 rfl rfl ev17 tb_1615 dX16_sendAll_55 ?_
      refine g_if_eq X (pc := 58) (tgt := 86) dX16_sendAll_58 (by decide) (fun hc => ?_) (fun hc => ?_)
      · have h := (if_pos hc).symm.trans h
        refine g_sub [3, 4, 2, 1, 0] [(0, pR (some a0)), (1, pR a1), (3, pI (v11 - v12)), (4, pI ((jmin v13 v14) - (v11 - v12))), (5, pI v16)] rfl ?_
        exact wX16_sendAll_L86 X hE hn fu (fun b0 b1 b2 M => fX16_sendAll_L17 fu  n b0 b1 b2 M) ih a0 a1 (v11 - v12) ((jmin v13 v14) - (v11 - v12)) v16 M15 h
      · have h := (if_neg hc).symm.trans h
        refine g_aload_n X (pc := 61) 4 rfl rfl dX16_sendAll_61 ?_
        obtain ⟨v18, ev18, h⟩ := bd h
        refine g_getI X (pc := 62) fk_12_5 rfl rfl ev18 tb_1585 dX16_sendAll_62 ?_
        refine g_iload X (pc := 65) 0 rfl dX16_sendAll_65 ?_
        refine g_iadd X (pc := 67) dX16_sendAll_67 ?_
        refine g_aload_n X (pc := 68) 4 rfl rfl dX16_sendAll_68 ?_
        obtain ⟨q19, eq19, h⟩ := bd h
        obtain ⟨v21, M20, eM20, h⟩ := b2d h
        refine g_callV X (pc := 69) (M' := M20) (ro := some (pI v21)) (c := 12) rfl (by decide) (as := []) (as' := []) (st := [pI (v18 + v16)]) eq19 (ctX12_behind _ _ _ _ _ _ fu q19  M15 _ eM20) tb_2074 tb_2182 tb_2072 tb_2073 tb_9 ⟨rfl, hyX12_behind⟩ rfl rfl ⟨by decide, by decide⟩ (Nat.le_of_ble_eq_true rfl) dX16_sendAll_69 ?_
        refine g_icmp_ne X (pc := 72) (tgt := 86) dX16_sendAll_72 (by decide) (fun hc => ?_) (fun hc => ?_)
        · have h := (if_neg hc).symm.trans h
          refine g_sub [3, 4, 2, 1, 0] [(0, pR (some a0)), (1, pR a1), (3, pI (v11 - v12)), (4, pI ((jmin v13 v14) - (v11 - v12))), (5, pI v16)] rfl ?_
          exact wX16_sendAll_L86 X hE hn fu (fun b0 b1 b2 M => fX16_sendAll_L17 fu  n b0 b1 b2 M) ih a0 a1 (v11 - v12) ((jmin v13 v14) - (v11 - v12)) v16 M20 h
        · have h := (if_pos hc).symm.trans h
          refine g_iload X (pc := 75) 0 rfl dX16_sendAll_75 ?_
          refine g_iload X (pc := 77) 1 rfl dX16_sendAll_77 ?_
          refine g_icmp_ge X (pc := 79) (tgt := 86) dX16_sendAll_79 (by decide) (fun hc => ?_) (fun hc => ?_)
          · have h := (if_pos hc).symm.trans h
            refine g_sub [3, 4, 2, 1, 0] [(0, pR (some a0)), (1, pR a1), (3, pI (v11 - v12)), (4, pI ((jmin v13 v14) - (v11 - v12))), (5, pI v16)] rfl ?_
            exact wX16_sendAll_L86 X hE hn fu (fun b0 b1 b2 M => fX16_sendAll_L17 fu  n b0 b1 b2 M) ih a0 a1 (v11 - v12) ((jmin v13 v14) - (v11 - v12)) v16 M20 h
          · have h := (if_neg hc).symm.trans h
            refine g_iconst X (pc := 82) (v := 1) dX16_sendAll_82 (by decide) ?_
            refine g_goto X (pc := 83) (tgt := 87) dX16_sendAll_83 (by decide) ?_
            refine g_sub [3, 4, 2, 1, 0] [(0, pR (some a0)), (1, pR a1), (3, pI (v11 - v12)), (4, pI ((jmin v13 v14) - (v11 - v12))), (5, pI v16)] rfl ?_
            exact wX16_sendAll_L87 X hE hn fu (fun b0 b1 b2 M => fX16_sendAll_L17 fu  n b0 b1 b2 M) ih a0 a1 (v11 - v12) ((jmin v13 v14) - (v11 - v12)) v16 (1 : Int32) M20 h
theorem wX16_sendAll_L16 {x : GX} {n0 sl0 : Nat} (X : Cx x cX16_sendAll RX16 none n0 sl0 8 206) {out : Mm} (hE : Ends x n0 sl0 none out) (hn : xn x = 8) (fu : Nat)   (a0 : Nat) (a1 : Option Nat) (s0 : Int32) (M : Mm) (h : fX16_sendAll_L16 fu  a0 a1 s0 M = some out) : Gw x M 16 [(0, pR (some a0)), (1, pR a1)] [pI s0] := by
  unfold fX16_sendAll_L16 at h
  refine g_istore_n X (pc := 16) [(2, pI s0), (0, pR (some a0)), (1, pR a1)] rfl (lt_n hn (by decide)) rfl dX16_sendAll_16 ?_
  refine g_sub [1, 2, 0] [(0, pR (some a0)), (1, pR a1), (2, pI s0)] rfl ?_
  exact wX16_sendAll_L17 X hE hn fu   fu a0 a1 s0 M h
theorem wX16_sendAll {x : GX} {n0 sl0 : Nat} (X : Cx x cX16_sendAll RX16 none n0 sl0 8 206) {out : Mm} (hE : Ends x n0 sl0 none out) (hn : xn x = 8) (fu : Nat)   (a0 : Nat) (a1 : Option Nat)  (M : Mm) (h : fX16_sendAll fu  a0 a1 M = some out) : Gw x M 0 [(0, pR (some a0)), (1, pR a1)] [] := by
  unfold fX16_sendAll at h
  refine g_aload_n X (pc := 0) 1 rfl rfl dX16_sendAll_0 ?_
  refine g_aload_n X (pc := 1) 1 rfl rfl dX16_sendAll_1 ?_
  obtain ⟨v1, ev1, h⟩ := bd h
  refine g_getI X (pc := 2) fk_12_5 rfl rfl ev1 tb_1585 dX16_sendAll_2 ?_
  obtain ⟨q2, eq2, h⟩ := bd h
  obtain ⟨v4, M3, eM3, h⟩ := b2d h
  refine g_callV X (pc := 5) (M' := M3) (ro := some (pI v4)) (c := 12) rfl (by decide) (as := [pI v1]) (as' := [pI v1]) (st := []) eq2 (ctX12_left _ _ _ _ _ _ fu q2 v1 M _ eM3) tb_2070 tb_2067 tb_2068 tb_2069 tb_9 ⟨rfl, hyX12_left⟩ rfl rfl ⟨by decide, by decide⟩ (Nat.le_of_ble_eq_true rfl) dX16_sendAll_5 ?_
  refine g_if_le X (pc := 8) (tgt := 15) dX16_sendAll_8 (by decide) (fun hc => ?_) (fun hc => ?_)
  · have h := (if_pos hc).symm.trans h
    refine g_iconst X (pc := 15) (v := 0) dX16_sendAll_15 (by decide) ?_
    exact wX16_sendAll_L16 X hE hn fu   a0 a1 (0 : Int32) M3 h
  · have h := (if_neg hc).symm.trans h
    refine g_iconst X (pc := 11) (v := 1) dX16_sendAll_11 (by decide) ?_
    refine g_goto X (pc := 12) (tgt := 16) dX16_sendAll_12 (by decide) ?_
    exact wX16_sendAll_L16 X hE hn fu   a0 a1 (1 : Int32) M3 h
theorem hyX16_sendAll : yX16_sendAll.cls ≠ "java/lang/invoke/MethodHandle" ∧ yX16_sendAll.cls ≠ "java/lang/invoke/VarHandle" ∧ (parseMethodDescriptor yX16_sendAll.desc).map (fun d => d.parameters.length) = some 1 := ⟨by decide +kernel, by decide +kernel, by decide +kernel⟩
theorem ctX16_sendAll (l : Launch) (E : Nat → Nat) (D : va_G) (dA : Nat → ClassId) (lo : Nat) (H0 : Heap) (fu : Nat) (a0 : Nat) (a1 : Option Nat) (M : Mm) (out : Mm) (h : fX16_sendAll fu a0 a1 M = some out) : Ct l E D dA lo H0 yX16_sendAll cX16_sendAll 8 none 8 206 [pR (some a0), pR a1] M none out := by
  refine ct_of (by decide +kernel) (Nat.le_of_ble_eq_true rfl) ?_
  intro x hl he hd ha ho hh hn hin X hE
  exact wX16_sendAll X hE hn fu a0 a1 M h
/-! WebHostModel.segment(LWebHostModel$Connection;)V -/
def fX16_segment_L128 (fu : Nat)  (a0 : Nat) (a1 : Option Nat)  (M : Mm) : Option (Mm) :=
    (rc M 16 (some a0)).bind fun q1 =>
    (fX16_requests fu q1 a1 M).bind fun M2 =>
    (rc M2 16 (some a0)).bind fun q3 =>
    (fX16_sendAll fu q3 a1 M2).bind fun M4 =>
    (gI M4 12 807 a1).bind fun v5 =>
    if v5 = 0 then (
    some M4)
    else (
    (rc M4 16 (some a0)).bind fun q6 =>
    (fX16_acknowledge fu q6 a1 M4).bind fun M7 =>
    some M7)
def fX16_segment (fu : Nat)  (a0 : Nat) (a1 : Option Nat)  (M : Mm) : Option (Mm) :=
    (rc M 16 (some a0)).bind fun q1 =>
    b2 (fX16_isAcceptable fu q1 a1 M) fun v3 M2 =>
    if v3 = 0 then (
    (rc M2 16 (some a0)).bind fun q30 =>
    b2 (fX16_is fu q30 (4 : Int32) M2) fun v32 M31 =>
    if v32 = 0 then (
    (rc M31 16 (some a0)).bind fun q33 =>
    (fX16_acknowledge fu q33 a1 M31).bind fun M34 =>
    (gI M34 12 768 a1).bind fun v35 =>
    if v35 = (6 : Int32) then (
    (rc M34 16 (some a0)).bind fun q36 =>
    b2 (fX16_is fu q36 (1 : Int32) M34) fun v38 M37 =>
    if v38 = 0 then (
    some M37)
    else (
    (gI M37 16 1034 (some a0)).bind fun v39 =>
    (pF M37 12 813 a1 v39).bind fun M40 =>
    some M40))
    else (
    some M34))
    else (
    some M31))
    else (
    (rc M2 16 (some a0)).bind fun q4 =>
    b2 (fX16_is fu q4 (4 : Int32) M2) fun v6 M5 =>
    if v6 = 0 then (
    (rc M5 16 (some a0)).bind fun q7 =>
    b2 (fX16_is fu q7 (2 : Int32) M5) fun v9 M8 =>
    if v9 = 0 then (
    (rc M8 16 (some a0)).bind fun q10 =>
    b2 (fX16_is fu q10 (16 : Int32) M8) fun v12 M11 =>
    if v12 = 0 then (
    some M11)
    else (
    (rc M11 16 (some a0)).bind fun q13 =>
    b2 (fX16_acknowledgement fu q13 a1 M11) fun v15 M14 =>
    if v15 = 0 then (
    some M14)
    else (
    (rc M14 16 (some a0)).bind fun q16 =>
    (fX16_arrived fu q16 a1 M14).bind fun M17 =>
    (gI M17 12 768 a1).bind fun v18 =>
    if v18 = (6 : Int32) then (
    (rc M17 16 (some a0)).bind fun q19 =>
    b2 (fX16_is fu q19 (1 : Int32) M17) fun v21 M20 =>
    if v21 = 0 then (
    fX16_segment_L128 fu  a0 a1 M20)
    else (
    (gI M20 16 1034 (some a0)).bind fun v22 =>
    (pF M20 12 813 a1 v22).bind fun M23 =>
    fX16_segment_L128 fu  a0 a1 M23))
    else (
    fX16_segment_L128 fu  a0 a1 M17))))
    else (
    (rc M8 16 (some a0)).bind fun q24 =>
    (fX16_reset fu q24  M8).bind fun M25 =>
    (rc M25 16 (some a0)).bind fun q26 =>
    (fX16_gone fu q26 a1 M25).bind fun M27 =>
    some M27))
    else (
    (rc M5 16 (some a0)).bind fun q28 =>
    (fX16_gone fu q28 a1 M5).bind fun M29 =>
    some M29))
theorem dX16_segment_0 : decode cX16_segment 0 = .ok (.aload_n 0, 1) := by decide +kernel
theorem dX16_segment_1 : decode cX16_segment 1 = .ok (.aload_n 1, 1) := by decide +kernel
theorem dX16_segment_2 : decode cX16_segment 2 = .ok (.invokevirtual 492, 3) := by decide +kernel
theorem dX16_segment_5 : decode cX16_segment 5 = .ok (.ifCond .ne 43, 3) := by decide +kernel
theorem dX16_segment_8 : decode cX16_segment 8 = .ok (.aload_n 0, 1) := by decide +kernel
theorem dX16_segment_9 : decode cX16_segment 9 = .ok (.iconst 4, 1) := by decide +kernel
theorem dX16_segment_10 : decode cX16_segment 10 = .ok (.invokevirtual 325, 3) := by decide +kernel
theorem dX16_segment_13 : decode cX16_segment 13 = .ok (.ifCond .eq 4, 3) := by decide +kernel
theorem dX16_segment_16 : decode cX16_segment 16 = .ok (.return_, 1) := by decide +kernel
theorem dX16_segment_17 : decode cX16_segment 17 = .ok (.aload_n 0, 1) := by decide +kernel
theorem dX16_segment_18 : decode cX16_segment 18 = .ok (.aload_n 1, 1) := by decide +kernel
theorem dX16_segment_19 : decode cX16_segment 19 = .ok (.invokevirtual 496, 3) := by decide +kernel
theorem dX16_segment_22 : decode cX16_segment 22 = .ok (.aload_n 1, 1) := by decide +kernel
theorem dX16_segment_23 : decode cX16_segment 23 = .ok (.getfield 152, 3) := by decide +kernel
theorem dX16_segment_26 : decode cX16_segment 26 = .ok (.bipush 6, 2) := by decide +kernel
theorem dX16_segment_28 : decode cX16_segment 28 = .ok (.if_icmp .ne 19, 3) := by decide +kernel
theorem dX16_segment_31 : decode cX16_segment 31 = .ok (.aload_n 0, 1) := by decide +kernel
theorem dX16_segment_32 : decode cX16_segment 32 = .ok (.iconst 1, 1) := by decide +kernel
theorem dX16_segment_33 : decode cX16_segment 33 = .ok (.invokevirtual 325, 3) := by decide +kernel
theorem dX16_segment_36 : decode cX16_segment 36 = .ok (.ifCond .eq 11, 3) := by decide +kernel
theorem dX16_segment_39 : decode cX16_segment 39 = .ok (.aload_n 1, 1) := by decide +kernel
theorem dX16_segment_40 : decode cX16_segment 40 = .ok (.aload_n 0, 1) := by decide +kernel
theorem dX16_segment_41 : decode cX16_segment 41 = .ok (.getfield 134, 3) := by decide +kernel
theorem dX16_segment_44 : decode cX16_segment 44 = .ok (.putfield 499, 3) := by decide +kernel
theorem dX16_segment_47 : decode cX16_segment 47 = .ok (.return_, 1) := by decide +kernel
theorem dX16_segment_48 : decode cX16_segment 48 = .ok (.aload_n 0, 1) := by decide +kernel
theorem dX16_segment_49 : decode cX16_segment 49 = .ok (.iconst 4, 1) := by decide +kernel
theorem dX16_segment_50 : decode cX16_segment 50 = .ok (.invokevirtual 325, 3) := by decide +kernel
theorem dX16_segment_53 : decode cX16_segment 53 = .ok (.ifCond .eq 9, 3) := by decide +kernel
theorem dX16_segment_56 : decode cX16_segment 56 = .ok (.aload_n 0, 1) := by decide +kernel
theorem dX16_segment_57 : decode cX16_segment 57 = .ok (.aload_n 1, 1) := by decide +kernel
theorem dX16_segment_58 : decode cX16_segment 58 = .ok (.invokevirtual 502, 3) := by decide +kernel
theorem dX16_segment_61 : decode cX16_segment 61 = .ok (.return_, 1) := by decide +kernel
theorem dX16_segment_62 : decode cX16_segment 62 = .ok (.aload_n 0, 1) := by decide +kernel
theorem dX16_segment_63 : decode cX16_segment 63 = .ok (.iconst 2, 1) := by decide +kernel
theorem dX16_segment_64 : decode cX16_segment 64 = .ok (.invokevirtual 325, 3) := by decide +kernel
theorem dX16_segment_67 : decode cX16_segment 67 = .ok (.ifCond .eq 13, 3) := by decide +kernel
theorem dX16_segment_70 : decode cX16_segment 70 = .ok (.aload_n 0, 1) := by decide +kernel
theorem dX16_segment_71 : decode cX16_segment 71 = .ok (.invokevirtual 438, 3) := by decide +kernel
theorem dX16_segment_74 : decode cX16_segment 74 = .ok (.aload_n 0, 1) := by decide +kernel
theorem dX16_segment_75 : decode cX16_segment 75 = .ok (.aload_n 1, 1) := by decide +kernel
theorem dX16_segment_76 : decode cX16_segment 76 = .ok (.invokevirtual 502, 3) := by decide +kernel
theorem dX16_segment_79 : decode cX16_segment 79 = .ok (.return_, 1) := by decide +kernel
theorem dX16_segment_80 : decode cX16_segment 80 = .ok (.aload_n 0, 1) := by decide +kernel
theorem dX16_segment_81 : decode cX16_segment 81 = .ok (.bipush 16, 2) := by decide +kernel
theorem dX16_segment_83 : decode cX16_segment 83 = .ok (.invokevirtual 325, 3) := by decide +kernel
theorem dX16_segment_86 : decode cX16_segment 86 = .ok (.ifCond .eq 11, 3) := by decide +kernel
theorem dX16_segment_89 : decode cX16_segment 89 = .ok (.aload_n 0, 1) := by decide +kernel
theorem dX16_segment_90 : decode cX16_segment 90 = .ok (.aload_n 1, 1) := by decide +kernel
theorem dX16_segment_91 : decode cX16_segment 91 = .ok (.invokevirtual 505, 3) := by decide +kernel
theorem dX16_segment_94 : decode cX16_segment 94 = .ok (.ifCond .ne 4, 3) := by decide +kernel
theorem dX16_segment_97 : decode cX16_segment 97 = .ok (.return_, 1) := by decide +kernel
theorem dX16_segment_98 : decode cX16_segment 98 = .ok (.aload_n 0, 1) := by decide +kernel
theorem dX16_segment_99 : decode cX16_segment 99 = .ok (.aload_n 1, 1) := by decide +kernel
theorem dX16_segment_100 : decode cX16_segment 100 = .ok (.invokevirtual 508, 3) := by decide +kernel
theorem dX16_segment_103 : decode cX16_segment 103 = .ok (.aload_n 1, 1) := by decide +kernel
theorem dX16_segment_104 : decode cX16_segment 104 = .ok (.getfield 152, 3) := by decide +kernel
theorem dX16_segment_107 : decode cX16_segment 107 = .ok (.bipush 6, 2) := by decide +kernel
theorem dX16_segment_109 : decode cX16_segment 109 = .ok (.if_icmp .ne 19, 3) := by decide +kernel
theorem dX16_segment_112 : decode cX16_segment 112 = .ok (.aload_n 0, 1) := by decide +kernel
theorem dX16_segment_113 : decode cX16_segment 113 = .ok (.iconst 1, 1) := by decide +kernel
theorem dX16_segment_114 : decode cX16_segment 114 = .ok (.invokevirtual 325, 3) := by decide +kernel
theorem dX16_segment_117 : decode cX16_segment 117 = .ok (.ifCond .eq 11, 3) := by decide +kernel
theorem dX16_segment_120 : decode cX16_segment 120 = .ok (.aload_n 1, 1) := by decide +kernel
theorem dX16_segment_121 : decode cX16_segment 121 = .ok (.aload_n 0, 1) := by decide +kernel
theorem dX16_segment_122 : decode cX16_segment 122 = .ok (.getfield 134, 3) := by decide +kernel
theorem dX16_segment_125 : decode cX16_segment 125 = .ok (.putfield 499, 3) := by decide +kernel
theorem dX16_segment_128 : decode cX16_segment 128 = .ok (.aload_n 0, 1) := by decide +kernel
theorem dX16_segment_129 : decode cX16_segment 129 = .ok (.aload_n 1, 1) := by decide +kernel
theorem dX16_segment_130 : decode cX16_segment 130 = .ok (.invokevirtual 511, 3) := by decide +kernel
theorem dX16_segment_133 : decode cX16_segment 133 = .ok (.aload_n 0, 1) := by decide +kernel
theorem dX16_segment_134 : decode cX16_segment 134 = .ok (.aload_n 1, 1) := by decide +kernel
theorem dX16_segment_135 : decode cX16_segment 135 = .ok (.invokevirtual 514, 3) := by decide +kernel
theorem dX16_segment_138 : decode cX16_segment 138 = .ok (.aload_n 1, 1) := by decide +kernel
theorem dX16_segment_139 : decode cX16_segment 139 = .ok (.getfield 336, 3) := by decide +kernel
theorem dX16_segment_142 : decode cX16_segment 142 = .ok (.ifCond .eq 8, 3) := by decide +kernel
theorem dX16_segment_145 : decode cX16_segment 145 = .ok (.aload_n 0, 1) := by decide +kernel
theorem dX16_segment_146 : decode cX16_segment 146 = .ok (.aload_n 1, 1) := by decide +kernel
theorem dX16_segment_147 : decode cX16_segment 147 = .ok (.invokevirtual 496, 3) := by decide +kernel
theorem dX16_segment_150 : decode cX16_segment 150 = .ok (.return_, 1) := by decide +kernel
theorem wX16_segment_L128 {x : GX} {n0 sl0 : Nat} (X : Cx x cX16_segment RX16 none n0 sl0 11 256) {out : Mm} (hE : Ends x n0 sl0 none out) (hn : xn x = 2) (fu : Nat)   (a0 : Nat) (a1 : Option Nat)  (M : Mm) (h : fX16_segment_L128 fu  a0 a1 M = some out) : Gw x M 128 [(0, pR (some a0)), (1, pR a1)] [] := by
  unfold fX16_segment_L128 at h
  refine g_aload_n X (pc := 128) 0 rfl rfl dX16_segment_128 ?_
  refine g_aload_n X (pc := 129) 1 rfl rfl dX16_segment_129 ?_
  obtain ⟨q1, eq1, h⟩ := bd h
  obtain ⟨M2, eM2, h⟩ := bd h
  refine g_callV X (pc := 130) (M' := M2) (ro := none) (c := 16) rfl (by decide) (as := [pR a1]) (as' := [pR a1]) (st := []) eq1 (ctX16_requests _ _ _ _ _ _ fu q1 a1 M _ eM2) tb_2316 tb_2313 tb_2315 ts_116 tb_8 ⟨rfl, hyX16_requests⟩ rfl rfl ⟨by decide, by decide⟩ (Nat.le_of_ble_eq_true rfl) dX16_segment_130 ?_
  refine g_aload_n X (pc := 133) 0 rfl rfl dX16_segment_133 ?_
  refine g_aload_n X (pc := 134) 1 rfl rfl dX16_segment_134 ?_
  obtain ⟨q3, eq3, h⟩ := bd h
  obtain ⟨M4, eM4, h⟩ := bd h
  refine g_callV X (pc := 135) (M' := M4) (ro := none) (c := 16) rfl (by decide) (as := [pR a1]) (as' := [pR a1]) (st := []) eq3 (ctX16_sendAll _ _ _ _ _ _ fu q3 a1 M2 _ eM4) tb_2198 tb_2195 tb_2197 ts_91 tb_8 ⟨rfl, hyX16_sendAll⟩ rfl rfl ⟨by decide, by decide⟩ (Nat.le_of_ble_eq_true rfl) dX16_segment_135 ?_
  refine g_aload_n X (pc := 138) 1 rfl rfl dX16_segment_138 ?_
  obtain ⟨v5, ev5, h⟩ := bd h
  refine g_getI X (pc := 139) fk_12_39 rfl rfl ev5 tb_1628 dX16_segment_139 ?_
  refine g_if_eq X (pc := 142) (tgt := 150) dX16_segment_142 (by decide) (fun hc => ?_) (fun hc => ?_)
  · have h := (if_pos hc).symm.trans h
    obtain rfl := Option.some.inj h
    exact g_return X hE dX16_segment_150
  · have h := (if_neg hc).symm.trans h
    refine g_aload_n X (pc := 145) 0 rfl rfl dX16_segment_145 ?_
    refine g_aload_n X (pc := 146) 1 rfl rfl dX16_segment_146 ?_
    obtain ⟨q6, eq6, h⟩ := bd h
    obtain ⟨M7, eM7, h⟩ := bd h
    refine g_callV X (pc := 147) (M' := M7) (ro := none) (c := 16) rfl (by decide) (as := [pR a1]) (as' := [pR a1]) (st := []) eq6 (ctX16_acknowledge _ _ _ _ _ _ fu q6 a1 M4 _ eM7) tb_2278 tb_2275 tb_2277 ts_110 tb_8 ⟨rfl, hyX16_acknowledge⟩ rfl rfl ⟨by decide, by decide⟩ (Nat.le_of_ble_eq_true rfl) dX16_segment_147 ?_
    obtain rfl := Option.some.inj h
    exact g_return X hE dX16_segment_150
theorem wX16_segment {x : GX} {n0 sl0 : Nat} (X : Cx x cX16_segment RX16 none n0 sl0 11 256) {out : Mm} (hE : Ends x n0 sl0 none out) (hn : xn x = 2) (fu : Nat)   (a0 : Nat) (a1 : Option Nat)  (M : Mm) (h : fX16_segment fu  a0 a1 M = some out) : Gw x M 0 [(0, pR (some a0)), (1, pR a1)] [] := by
  unfold fX16_segment at h
  refine g_aload_n X (pc := 0) 0 rfl rfl dX16_segment_0 ?_
  refine g_aload_n X (pc := 1) 1 rfl rfl dX16_segment_1 ?_
  obtain ⟨q1, eq1, h⟩ := bd h
  obtain ⟨v3, M2, eM2, h⟩ := b2d h
  refine g_callV X (pc := 2) (M' := M2) (ro := some (pI v3)) (c := 16) rfl (by decide) (as := [pR a1]) (as' := [pR a1]) (st := []) eq1 (ctX16_isAcceptable _ _ _ _ _ _ fu q1 a1 M _ eM2) tb_2271 tb_2268 tb_2270 ts_109 tb_8 ⟨rfl, hyX16_isAcceptable⟩ rfl rfl ⟨by decide, by decide⟩ (Nat.le_of_ble_eq_true rfl) dX16_segment_2 ?_
  refine g_if_ne X (pc := 5) (tgt := 48) dX16_segment_5 (by decide) (fun hc => ?_) (fun hc => ?_)
  · have h := (if_neg hc).symm.trans h
    refine g_aload_n X (pc := 48) 0 rfl rfl dX16_segment_48 ?_
    refine g_iconst X (pc := 49) (v := 4) dX16_segment_49 (by decide) ?_
    obtain ⟨q4, eq4, h⟩ := bd h
    obtain ⟨v6, M5, eM5, h⟩ := b2d h
    refine g_callV X (pc := 50) (M' := M5) (ro := some (pI v6)) (c := 16) rfl (by decide) (as := [pI (4 : Int32)]) (as' := [pI (4 : Int32)]) (st := []) eq4 (ctX16_is _ _ _ _ _ _ fu q4 (4 : Int32) M2 _ eM5) tb_2250 tb_2247 tb_2249 ts_104 tb_8 ⟨rfl, hyX16_is⟩ rfl rfl ⟨by decide, by decide⟩ (Nat.le_of_ble_eq_true rfl) dX16_segment_50 ?_
    refine g_if_eq X (pc := 53) (tgt := 62) dX16_segment_53 (by decide) (fun hc => ?_) (fun hc => ?_)
    · have h := (if_pos hc).symm.trans h
      refine g_aload_n X (pc := 62) 0 rfl rfl dX16_segment_62 ?_
      refine g_iconst X (pc := 63) (v := 2) dX16_segment_63 (by decide) ?_
      obtain ⟨q7, eq7, h⟩ := bd h
      obtain ⟨v9, M8, eM8, h⟩ := b2d h
      refine g_callV X (pc := 64) (M' := M8) (ro := some (pI v9)) (c := 16) rfl (by decide) (as := [pI (2 : Int32)]) (as' := [pI (2 : Int32)]) (st := []) eq7 (ctX16_is _ _ _ _ _ _ fu q7 (2 : Int32) M5 _ eM8) tb_2250 tb_2247 tb_2249 ts_104 tb_8 ⟨rfl, hyX16_is⟩ rfl rfl ⟨by decide, by decide⟩ (Nat.le_of_ble_eq_true rfl) dX16_segment_64 ?_
      refine g_if_eq X (pc := 67) (tgt := 80) dX16_segment_67 (by decide) (fun hc => ?_) (fun hc => ?_)
      · have h := (if_pos hc).symm.trans h
        refine g_aload_n X (pc := 80) 0 rfl rfl dX16_segment_80 ?_
        refine g_bipush X (pc := 81) (v := 16) dX16_segment_81 (by decide) ?_
        obtain ⟨q10, eq10, h⟩ := bd h
        obtain ⟨v12, M11, eM11, h⟩ := b2d h
        refine g_callV X (pc := 83) (M' := M11) (ro := some (pI v12)) (c := 16) rfl (by decide) (as := [pI (16 : Int32)]) (as' := [pI (16 : Int32)]) (st := []) eq10 (ctX16_is _ _ _ _ _ _ fu q10 (16 : Int32) M8 _ eM11) tb_2250 tb_2247 tb_2249 ts_104 tb_8 ⟨rfl, hyX16_is⟩ rfl rfl ⟨by decide, by decide⟩ (Nat.le_of_ble_eq_true rfl) dX16_segment_83 ?_
        refine g_if_eq X (pc := 86) (tgt := 97) dX16_segment_86 (by decide) (fun hc => ?_) (fun hc => ?_)
        · have h := (if_pos hc).symm.trans h
          obtain rfl := Option.some.inj h
          exact g_return X hE dX16_segment_97
        · have h := (if_neg hc).symm.trans h
          refine g_aload_n X (pc := 89) 0 rfl rfl dX16_segment_89 ?_
          refine g_aload_n X (pc := 90) 1 rfl rfl dX16_segment_90 ?_
          obtain ⟨q13, eq13, h⟩ := bd h
          obtain ⟨v15, M14, eM14, h⟩ := b2d h
          refine g_callV X (pc := 91) (M' := M14) (ro := some (pI v15)) (c := 16) rfl (by decide) (as := [pR a1]) (as' := [pR a1]) (st := []) eq13 (ctX16_acknowledgement _ _ _ _ _ _ fu q13 a1 M11 _ eM14) tb_2282 tb_2279 tb_2281 ts_111 tb_8 ⟨rfl, hyX16_acknowledgement⟩ rfl rfl ⟨by decide, by decide⟩ (Nat.le_of_ble_eq_true rfl) dX16_segment_91 ?_
          refine g_if_ne X (pc := 94) (tgt := 98) dX16_segment_94 (by decide) (fun hc => ?_) (fun hc => ?_)
          · have h := (if_neg hc).symm.trans h
            refine g_aload_n X (pc := 98) 0 rfl rfl dX16_segment_98 ?_
            refine g_aload_n X (pc := 99) 1 rfl rfl dX16_segment_99 ?_
            obtain ⟨q16, eq16, h⟩ := bd h
            obtain ⟨M17, eM17, h⟩ := bd h
            refine g_callV X (pc := 100) (M' := M17) (ro := none) (c := 16) rfl (by decide) (as := [pR a1]) (as' := [pR a1]) (st := []) eq16 (ctX16_arrived _ _ _ _ _ _ fu q16 a1 M14 _ eM17) tb_2309 tb_2306 tb_2308 ts_115 tb_8 ⟨rfl, hyX16_arrived⟩ rfl rfl ⟨by decide, by decide⟩ (Nat.le_of_ble_eq_true rfl) dX16_segment_100 ?_
            refine g_aload_n X (pc := 103) 1 rfl rfl dX16_segment_103 ?_
            obtain ⟨v18, ev18, h⟩ := bd h
            refine g_getI X (pc := 104) fk_12_0 rfl rfl ev18 tb_1580 dX16_segment_104 ?_
            refine g_bipush X (pc := 107) (v := 6) dX16_segment_107 (by decide) ?_
            refine g_icmp_ne X (pc := 109) (tgt := 128) dX16_segment_109 (by decide) (fun hc => ?_) (fun hc => ?_)
            · have h := (if_neg hc).symm.trans h
              exact wX16_segment_L128 X hE hn fu   a0 a1 M17 h
            · have h := (if_pos hc).symm.trans h
              refine g_aload_n X (pc := 112) 0 rfl rfl dX16_segment_112 ?_
              refine g_iconst X (pc := 113) (v := 1) dX16_segment_113 (by decide) ?_
              obtain ⟨q19, eq19, h⟩ := bd h
              obtain ⟨v21, M20, eM20, h⟩ := b2d h
              refine g_callV X (pc := 114) (M' := M20) (ro := some (pI v21)) (c := 16) rfl (by decide) (as := [pI (1 : Int32)]) (as' := [pI (1 : Int32)]) (st := []) eq19 (ctX16_is _ _ _ _ _ _ fu q19 (1 : Int32) M17 _ eM20) tb_2250 tb_2247 tb_2249 ts_104 tb_8 ⟨rfl, hyX16_is⟩ rfl rfl ⟨by decide, by decide⟩ (Nat.le_of_ble_eq_true rfl) dX16_segment_114 ?_
              refine g_if_eq X (pc := 117) (tgt := 128) dX16_segment_117 (by decide) (fun hc => ?_) (fun hc => ?_)
              · have h := (if_pos hc).symm.trans h
                exact wX16_segment_L128 X hE hn fu   a0 a1 M20 h
              · have h := (if_neg hc).symm.trans h
                refine g_aload_n X (pc := 120) 1 rfl rfl dX16_segment_120 ?_
                refine g_aload_n X (pc := 121) 0 rfl rfl dX16_segment_121 ?_
                obtain ⟨v22, ev22, h⟩ := bd h
                refine g_getI X (pc := 122) fk_16_10 rfl rfl ev22 tb_1824 dX16_segment_122 ?_
                obtain ⟨M23, eM23, h⟩ := bd h
                refine g_putI X (pc := 125) fk_12_45 rfl rfl rfl eM23 tb_1635 (Or.inl rfl) dX16_segment_125 ?_
                exact wX16_segment_L128 X hE hn fu   a0 a1 M23 h
          · have h := (if_pos hc).symm.trans h
            obtain rfl := Option.some.inj h
            exact g_return X hE dX16_segment_97
      · have h := (if_neg hc).symm.trans h
        refine g_aload_n X (pc := 70) 0 rfl rfl dX16_segment_70 ?_
        obtain ⟨q24, eq24, h⟩ := bd h
        obtain ⟨M25, eM25, h⟩ := bd h
        refine g_callV X (pc := 71) (M' := M25) (ro := none) (c := 16) rfl (by decide) (as := []) (as' := []) (st := []) eq24 (ctX16_reset _ _ _ _ _ _ fu q24  M8 _ eM25) tb_2254 tb_2251 tb_2253 ts_105 tb_8 ⟨rfl, hyX16_reset⟩ rfl rfl ⟨by decide, by decide⟩ (Nat.le_of_ble_eq_true rfl) dX16_segment_71 ?_
        refine g_aload_n X (pc := 74) 0 rfl rfl dX16_segment_74 ?_
        refine g_aload_n X (pc := 75) 1 rfl rfl dX16_segment_75 ?_
        obtain ⟨q26, eq26, h⟩ := bd h
        obtain ⟨M27, eM27, h⟩ := bd h
        refine g_callV X (pc := 76) (M' := M27) (ro := none) (c := 16) rfl (by decide) (as := [pR a1]) (as' := [pR a1]) (st := []) eq26 (ctX16_gone _ _ _ _ _ _ fu q26 a1 M25 _ eM27) tb_2154 tb_2151 tb_2153 ts_82 tb_8 ⟨rfl, hyX16_gone⟩ rfl rfl ⟨by decide, by decide⟩ (Nat.le_of_ble_eq_true rfl) dX16_segment_76 ?_
        obtain rfl := Option.some.inj h
        exact g_return X hE dX16_segment_79
    · have h := (if_neg hc).symm.trans h
      refine g_aload_n X (pc := 56) 0 rfl rfl dX16_segment_56 ?_
      refine g_aload_n X (pc := 57) 1 rfl rfl dX16_segment_57 ?_
      obtain ⟨q28, eq28, h⟩ := bd h
      obtain ⟨M29, eM29, h⟩ := bd h
      refine g_callV X (pc := 58) (M' := M29) (ro := none) (c := 16) rfl (by decide) (as := [pR a1]) (as' := [pR a1]) (st := []) eq28 (ctX16_gone _ _ _ _ _ _ fu q28 a1 M5 _ eM29) tb_2154 tb_2151 tb_2153 ts_82 tb_8 ⟨rfl, hyX16_gone⟩ rfl rfl ⟨by decide, by decide⟩ (Nat.le_of_ble_eq_true rfl) dX16_segment_58 ?_
      obtain rfl := Option.some.inj h
      exact g_return X hE dX16_segment_61
  · have h := (if_pos hc).symm.trans h
    refine g_aload_n X (pc := 8) 0 rfl rfl dX16_segment_8 ?_
    refine g_iconst X (pc := 9) (v := 4) dX16_segment_9 (by decide) ?_
    obtain ⟨q30, eq30, h⟩ := bd h
    obtain ⟨v32, M31, eM31, h⟩ := b2d h
    refine g_callV X (pc := 10) (M' := M31) (ro := some (pI v32)) (c := 16) rfl (by decide) (as := [pI (4 : Int32)]) (as' := [pI (4 : Int32)]) (st := []) eq30 (ctX16_is _ _ _ _ _ _ fu q30 (4 : Int32) M2 _ eM31) tb_2250 tb_2247 tb_2249 ts_104 tb_8 ⟨rfl, hyX16_is⟩ rfl rfl ⟨by decide, by decide⟩ (Nat.le_of_ble_eq_true rfl) dX16_segment_10 ?_
    refine g_if_eq X (pc := 13) (tgt := 17) dX16_segment_13 (by decide) (fun hc => ?_) (fun hc => ?_)
    · have h := (if_pos hc).symm.trans h
      refine g_aload_n X (pc := 17) 0 rfl rfl dX16_segment_17 ?_
      refine g_aload_n X (pc := 18) 1 rfl rfl dX16_segment_18 ?_
      obtain ⟨q33, eq33, h⟩ := bd h
      obtain ⟨M34, eM34, h⟩ := bd h
      refine g_callV X (pc := 19) (M' := M34) (ro := none) (c := 16) rfl (by decide) (as := [pR a1]) (as' := [pR a1]) (st := []) eq33 (ctX16_acknowledge _ _ _ _ _ _ fu q33 a1 M31 _ eM34) tb_2278 tb_2275 tb_2277 ts_110 tb_8 ⟨rfl, hyX16_acknowledge⟩ rfl rfl ⟨by decide, by decide⟩ (Nat.le_of_ble_eq_true rfl) dX16_segment_19 ?_
      refine g_aload_n X (pc := 22) 1 rfl rfl dX16_segment_22 ?_
      obtain ⟨v35, ev35, h⟩ := bd h
      refine g_getI X (pc := 23) fk_12_0 rfl rfl ev35 tb_1580 dX16_segment_23 ?_
      refine g_bipush X (pc := 26) (v := 6) dX16_segment_26 (by decide) ?_
      refine g_icmp_ne X (pc := 28) (tgt := 47) dX16_segment_28 (by decide) (fun hc => ?_) (fun hc => ?_)
      · have h := (if_neg hc).symm.trans h
        obtain rfl := Option.some.inj h
        exact g_return X hE dX16_segment_47
      · have h := (if_pos hc).symm.trans h
        refine g_aload_n X (pc := 31) 0 rfl rfl dX16_segment_31 ?_
        refine g_iconst X (pc := 32) (v := 1) dX16_segment_32 (by decide) ?_
        obtain ⟨q36, eq36, h⟩ := bd h
        obtain ⟨v38, M37, eM37, h⟩ := b2d h
        refine g_callV X (pc := 33) (M' := M37) (ro := some (pI v38)) (c := 16) rfl (by decide) (as := [pI (1 : Int32)]) (as' := [pI (1 : Int32)]) (st := []) eq36 (ctX16_is _ _ _ _ _ _ fu q36 (1 : Int32) M34 _ eM37) tb_2250 tb_2247 tb_2249 ts_104 tb_8 ⟨rfl, hyX16_is⟩ rfl rfl ⟨by decide, by decide⟩ (Nat.le_of_ble_eq_true rfl) dX16_segment_33 ?_
        refine g_if_eq X (pc := 36) (tgt := 47) dX16_segment_36 (by decide) (fun hc => ?_) (fun hc => ?_)
        · have h := (if_pos hc).symm.trans h
          obtain rfl := Option.some.inj h
          exact g_return X hE dX16_segment_47
        · have h := (if_neg hc).symm.trans h
          refine g_aload_n X (pc := 39) 1 rfl rfl dX16_segment_39 ?_
          refine g_aload_n X (pc := 40) 0 rfl rfl dX16_segment_40 ?_
          obtain ⟨v39, ev39, h⟩ := bd h
          refine g_getI X (pc := 41) fk_16_10 rfl rfl ev39 tb_1824 dX16_segment_41 ?_
          obtain ⟨M40, eM40, h⟩ := bd h
          refine g_putI X (pc := 44) fk_12_45 rfl rfl rfl eM40 tb_1635 (Or.inl rfl) dX16_segment_44 ?_
          obtain rfl := Option.some.inj h
          exact g_return X hE dX16_segment_47
    · have h := (if_neg hc).symm.trans h
      obtain rfl := Option.some.inj h
      exact g_return X hE dX16_segment_16
theorem hyX16_segment : yX16_segment.cls ≠ "java/lang/invoke/MethodHandle" ∧ yX16_segment.cls ≠ "java/lang/invoke/VarHandle" ∧ (parseMethodDescriptor yX16_segment.desc).map (fun d => d.parameters.length) = some 1 := ⟨by decide +kernel, by decide +kernel, by decide +kernel⟩
theorem ctX16_segment (l : Launch) (E : Nat → Nat) (D : va_G) (dA : Nat → ClassId) (lo : Nat) (H0 : Heap) (fu : Nat) (a0 : Nat) (a1 : Option Nat) (M : Mm) (out : Mm) (h : fX16_segment fu a0 a1 M = some out) : Ct l E D dA lo H0 yX16_segment cX16_segment 2 none 11 256 [pR (some a0), pR a1] M none out := by
  refine ct_of (by decide +kernel) (Nat.le_of_ble_eq_true rfl) ?_
  intro x hl he hd ha ho hh hn hin X hE
  exact wX16_segment X hE hn fu a0 a1 M h
/-! WebHostModel.tcp(I)V -/
def fX16_tcp_L218 (fu : Nat)  (a0 : Nat) (a2 : Option Nat)  (M : Mm) : Option (Mm) :=
    if a2 = none then (
    (rc M 16 (some a0)).bind fun q3 =>
    (fX16_alone fu q3  M).bind fun M4 =>
    some M4)
    else (
    (rc M 16 (some a0)).bind fun q1 =>
    (fX16_segment fu q1 a2 M).bind fun M2 =>
    some M2)
def fX16_tcp_L212 (fu : Nat) (k154 : Nat → Option Nat → Int32 → Mm → Option (Mm)) (a0 : Nat) (a2 : Option Nat) (a3 : Int32)  (M : Mm) : Option (Mm) :=
    k154 a0 a2 (a3 + (1 : Int32)) M
def fX16_tcp_L154 (fu : Nat)  : Nat → Nat → Option Nat → Int32 → Mm → Option (Mm)
  | 0, _, _, _, _ => none
  | n + 1, a0, a2, a3, M =>
    if (16 : Int32) ≤ a3 then (
    fX16_tcp_L218 fu  a0 a2 M)
    else (
    (gI M 16 1057 (some a0)).bind fun v1 =>
    if v1 = (80 : Int32) then (
    (gR M 16 1055 (some a0)).bind fun v2 =>
    (gB M 122 v2 a3).bind fun v3 =>
    (gI M 12 768 v3).bind fun v4 =>
    if v4 = 0 then (
    fX16_tcp_L212 fu (fun b0 b2 b3 M => fX16_tcp_L154 fu  n b0 b2 b3 M) a0 a2 a3 M)
    else (
    (gI M 12 769 v3).bind fun v5 =>
    (gI M 16 1054 (some a0)).bind fun v6 =>
    if v5 = v6 then (
    (gI M 12 770 v3).bind fun v7 =>
    (gI M 16 1056 (some a0)).bind fun v8 =>
    if v7 = v8 then (
    fX16_tcp_L212 fu (fun b0 b2 b3 M => fX16_tcp_L154 fu  n b0 b2 b3 M) a0 v3 a3 M)
    else (
    fX16_tcp_L212 fu (fun b0 b2 b3 M => fX16_tcp_L154 fu  n b0 b2 b3 M) a0 a2 a3 M))
    else (
    fX16_tcp_L212 fu (fun b0 b2 b3 M => fX16_tcp_L154 fu  n b0 b2 b3 M) a0 a2 a3 M)))
    else (
    fX16_tcp_L218 fu  a0 a2 M))
def fX16_tcp (fu : Nat)  (a0 : Nat) (a1 : Int32)  (M : Mm) : Option (Mm) :=
    if (20 : Int32) ≤ a1 then (
    (gR M 16 1053 (some a0)).bind fun v1 =>
    (gA M 100 v1 (12 : Int32)).bind fun v2 =>
    (pF M 16 1064 (some a0) (((v2 >>> ((4 : Int32) &&& 31)) &&& (15 : Int32)) * (4 : Int32))).bind fun M3 =>
    (gI M3 16 1064 (some a0)).bind fun v4 =>
    if v4 < (20 : Int32) then (
    some M3)
    else (
    (gI M3 16 1064 (some a0)).bind fun v5 =>
    if a1 < v5 then (
    some M3)
    else (
    (gR M3 16 1053 (some a0)).bind fun v6 =>
    (gI M3 16 1054 (some a0)).bind fun v7 =>
    (gI M3 16 1029 (some a0)).bind fun v8 =>
    (rc M3 16 (some a0)).bind fun q9 =>
    b2 (fX16_pseudo fu q9 v7 v8 a1 M3) fun v11 M10 =>
    b2 (fX16_added fu  v6 (0 : Int32) a1 v11 M10) fun v13 M12 =>
    b2 (fX16_sixteen fu  v13 M12) fun v15 M14 =>
    if v15 = 0 then (
    (rc M14 16 (some a0)).bind fun q16 =>
    b2 (fX16_half fu q16 (0 : Int32) M14) fun v18 M17 =>
    (pF M17 16 1056 (some a0) v18).bind fun M19 =>
    (rc M19 16 (some a0)).bind fun q20 =>
    b2 (fX16_half fu q20 (2 : Int32) M19) fun v22 M21 =>
    (pF M21 16 1057 (some a0) v22).bind fun M23 =>
    (rc M23 16 (some a0)).bind fun q24 =>
    b2 (fX16_wholeWord fu q24 (4 : Int32) M23) fun v26 M25 =>
    (pF M25 16 1058 (some a0) v26).bind fun M27 =>
    (rc M27 16 (some a0)).bind fun q28 =>
    b2 (fX16_wholeWord fu q28 (8 : Int32) M27) fun v30 M29 =>
    (pF M29 16 1059 (some a0) v30).bind fun M31 =>
    (gR M31 16 1053 (some a0)).bind fun v32 =>
    (gA M31 100 v32 (13 : Int32)).bind fun v33 =>
    (pF M31 16 1060 (some a0) (v33 &&& (31 : Int32))).bind fun M34 =>
    (rc M34 16 (some a0)).bind fun q35 =>
    b2 (fX16_half fu q35 (14 : Int32) M34) fun v37 M36 =>
    (pF M36 16 1061 (some a0) v37).bind fun M38 =>
    (gI M38 16 1064 (some a0)).bind fun v39 =>
    (pF M38 16 1062 (some a0) v39).bind fun M40 =>
    (gI M40 16 1064 (some a0)).bind fun v41 =>
    (pF M40 16 1063 (some a0) (a1 - v41)).bind fun M42 =>
    fX16_tcp_L154 fu  fu a0 none (0 : Int32) M42)
    else (
    some M14))))
    else (
    some M)
theorem dX16_tcp_0 : decode cX16_tcp 0 = .ok (.iload_n 1, 1) := by decide +kernel
theorem dX16_tcp_1 : decode cX16_tcp 1 = .ok (.bipush 20, 2) := by decide +kernel
theorem dX16_tcp_3 : decode cX16_tcp 3 = .ok (.if_icmp .ge 4, 3) := by decide +kernel
theorem dX16_tcp_6 : decode cX16_tcp 6 = .ok (.return_, 1) := by decide +kernel
theorem dX16_tcp_7 : decode cX16_tcp 7 = .ok (.aload_n 0, 1) := by decide +kernel
theorem dX16_tcp_8 : decode cX16_tcp 8 = .ok (.aload_n 0, 1) := by decide +kernel
theorem dX16_tcp_9 : decode cX16_tcp 9 = .ok (.getfield 65, 3) := by decide +kernel
theorem dX16_tcp_12 : decode cX16_tcp 12 = .ok (.bipush 12, 2) := by decide +kernel
theorem dX16_tcp_14 : decode cX16_tcp 14 = .ok (.baload, 1) := by decide +kernel
theorem dX16_tcp_15 : decode cX16_tcp 15 = .ok (.iconst 4, 1) := by decide +kernel
theorem dX16_tcp_16 : decode cX16_tcp 16 = .ok (.ishr, 1) := by decide +kernel
theorem dX16_tcp_17 : decode cX16_tcp 17 = .ok (.bipush 15, 2) := by decide +kernel
theorem dX16_tcp_19 : decode cX16_tcp 19 = .ok (.iand, 1) := by decide +kernel
theorem dX16_tcp_20 : decode cX16_tcp 20 = .ok (.iconst 4, 1) := by decide +kernel
theorem dX16_tcp_21 : decode cX16_tcp 21 = .ok (.imul, 1) := by decide +kernel
theorem dX16_tcp_22 : decode cX16_tcp 22 = .ok (.putfield 282, 3) := by decide +kernel
theorem dX16_tcp_25 : decode cX16_tcp 25 = .ok (.aload_n 0, 1) := by decide +kernel
theorem dX16_tcp_26 : decode cX16_tcp 26 = .ok (.getfield 282, 3) := by decide +kernel
theorem dX16_tcp_29 : decode cX16_tcp 29 = .ok (.bipush 20, 2) := by decide +kernel
theorem dX16_tcp_31 : decode cX16_tcp 31 = .ok (.if_icmp .lt 39, 3) := by decide +kernel
theorem dX16_tcp_34 : decode cX16_tcp 34 = .ok (.aload_n 0, 1) := by decide +kernel
theorem dX16_tcp_35 : decode cX16_tcp 35 = .ok (.getfield 282, 3) := by decide +kernel
theorem dX16_tcp_38 : decode cX16_tcp 38 = .ok (.iload_n 1, 1) := by decide +kernel
theorem dX16_tcp_39 : decode cX16_tcp 39 = .ok (.if_icmp .gt 31, 3) := by decide +kernel
theorem dX16_tcp_42 : decode cX16_tcp 42 = .ok (.aload_n 0, 1) := by decide +kernel
theorem dX16_tcp_43 : decode cX16_tcp 43 = .ok (.getfield 65, 3) := by decide +kernel
theorem dX16_tcp_46 : decode cX16_tcp 46 = .ok (.iconst 0, 1) := by decide +kernel
theorem dX16_tcp_47 : decode cX16_tcp 47 = .ok (.iload_n 1, 1) := by decide +kernel
theorem dX16_tcp_48 : decode cX16_tcp 48 = .ok (.aload_n 0, 1) := by decide +kernel
theorem dX16_tcp_49 : decode cX16_tcp 49 = .ok (.aload_n 0, 1) := by decide +kernel
theorem dX16_tcp_50 : decode cX16_tcp 50 = .ok (.getfield 240, 3) := by decide +kernel
theorem dX16_tcp_53 : decode cX16_tcp 53 = .ok (.aload_n 0, 1) := by decide +kernel
theorem dX16_tcp_54 : decode cX16_tcp 54 = .ok (.getfield 119, 3) := by decide +kernel
theorem dX16_tcp_57 : decode cX16_tcp 57 = .ok (.iload_n 1, 1) := by decide +kernel
theorem dX16_tcp_58 : decode cX16_tcp 58 = .ok (.invokevirtual 285, 3) := by decide +kernel
theorem dX16_tcp_61 : decode cX16_tcp 61 = .ok (.invokestatic 216, 3) := by decide +kernel
theorem dX16_tcp_64 : decode cX16_tcp 64 = .ok (.invokestatic 220, 3) := by decide +kernel
theorem dX16_tcp_67 : decode cX16_tcp 67 = .ok (.ifCond .eq 4, 3) := by decide +kernel
theorem dX16_tcp_70 : decode cX16_tcp 70 = .ok (.return_, 1) := by decide +kernel
theorem dX16_tcp_71 : decode cX16_tcp 71 = .ok (.aload_n 0, 1) := by decide +kernel
theorem dX16_tcp_72 : decode cX16_tcp 72 = .ok (.aload_n 0, 1) := by decide +kernel
theorem dX16_tcp_73 : decode cX16_tcp 73 = .ok (.iconst 0, 1) := by decide +kernel
theorem dX16_tcp_74 : decode cX16_tcp 74 = .ok (.invokevirtual 277, 3) := by decide +kernel
theorem dX16_tcp_77 : decode cX16_tcp 77 = .ok (.putfield 289, 3) := by decide +kernel
theorem dX16_tcp_80 : decode cX16_tcp 80 = .ok (.aload_n 0, 1) := by decide +kernel
theorem dX16_tcp_81 : decode cX16_tcp 81 = .ok (.aload_n 0, 1) := by decide +kernel
theorem dX16_tcp_82 : decode cX16_tcp 82 = .ok (.iconst 2, 1) := by decide +kernel
theorem dX16_tcp_83 : decode cX16_tcp 83 = .ok (.invokevirtual 277, 3) := by decide +kernel
theorem dX16_tcp_86 : decode cX16_tcp 86 = .ok (.putfield 292, 3) := by decide +kernel
theorem dX16_tcp_89 : decode cX16_tcp 89 = .ok (.aload_n 0, 1) := by decide +kernel
theorem dX16_tcp_90 : decode cX16_tcp 90 = .ok (.aload_n 0, 1) := by decide +kernel
theorem dX16_tcp_91 : decode cX16_tcp 91 = .ok (.iconst 4, 1) := by decide +kernel
theorem dX16_tcp_92 : decode cX16_tcp 92 = .ok (.invokevirtual 295, 3) := by decide +kernel
theorem dX16_tcp_95 : decode cX16_tcp 95 = .ok (.putfield 298, 3) := by decide +kernel
theorem dX16_tcp_98 : decode cX16_tcp 98 = .ok (.aload_n 0, 1) := by decide +kernel
theorem dX16_tcp_99 : decode cX16_tcp 99 = .ok (.aload_n 0, 1) := by decide +kernel
theorem dX16_tcp_100 : decode cX16_tcp 100 = .ok (.bipush 8, 2) := by decide +kernel
theorem dX16_tcp_102 : decode cX16_tcp 102 = .ok (.invokevirtual 295, 3) := by decide +kernel
theorem dX16_tcp_105 : decode cX16_tcp 105 = .ok (.putfield 299, 3) := by decide +kernel
theorem dX16_tcp_108 : decode cX16_tcp 108 = .ok (.aload_n 0, 1) := by decide +kernel
theorem dX16_tcp_109 : decode cX16_tcp 109 = .ok (.aload_n 0, 1) := by decide +kernel
theorem dX16_tcp_110 : decode cX16_tcp 110 = .ok (.getfield 65, 3) := by decide +kernel
theorem dX16_tcp_113 : decode cX16_tcp 113 = .ok (.bipush 13, 2) := by decide +kernel
theorem dX16_tcp_115 : decode cX16_tcp 115 = .ok (.baload, 1) := by decide +kernel
theorem dX16_tcp_116 : decode cX16_tcp 116 = .ok (.bipush 31, 2) := by decide +kernel
theorem dX16_tcp_118 : decode cX16_tcp 118 = .ok (.iand, 1) := by decide +kernel
theorem dX16_tcp_119 : decode cX16_tcp 119 = .ok (.putfield 302, 3) := by decide +kernel
theorem dX16_tcp_122 : decode cX16_tcp 122 = .ok (.aload_n 0, 1) := by decide +kernel
theorem dX16_tcp_123 : decode cX16_tcp 123 = .ok (.aload_n 0, 1) := by decide +kernel
theorem dX16_tcp_124 : decode cX16_tcp 124 = .ok (.bipush 14, 2) := by decide +kernel
theorem dX16_tcp_126 : decode cX16_tcp 126 = .ok (.invokevirtual 277, 3) := by decide +kernel
theorem dX16_tcp_129 : decode cX16_tcp 129 = .ok (.putfield 305, 3) := by decide +kernel
theorem dX16_tcp_132 : decode cX16_tcp 132 = .ok (.aload_n 0, 1) := by decide +kernel
theorem dX16_tcp_133 : decode cX16_tcp 133 = .ok (.aload_n 0, 1) := by decide +kernel
theorem dX16_tcp_134 : decode cX16_tcp 134 = .ok (.getfield 282, 3) := by decide +kernel
theorem dX16_tcp_137 : decode cX16_tcp 137 = .ok (.putfield 308, 3) := by decide +kernel
theorem dX16_tcp_140 : decode cX16_tcp 140 = .ok (.aload_n 0, 1) := by decide +kernel
theorem dX16_tcp_141 : decode cX16_tcp 141 = .ok (.iload_n 1, 1) := by decide +kernel
theorem dX16_tcp_142 : decode cX16_tcp 142 = .ok (.aload_n 0, 1) := by decide +kernel
theorem dX16_tcp_143 : decode cX16_tcp 143 = .ok (.getfield 282, 3) := by decide +kernel
theorem dX16_tcp_146 : decode cX16_tcp 146 = .ok (.isub, 1) := by decide +kernel
theorem dX16_tcp_147 : decode cX16_tcp 147 = .ok (.putfield 311, 3) := by decide +kernel
theorem dX16_tcp_150 : decode cX16_tcp 150 = .ok (.aconst_null, 1) := by decide +kernel
theorem dX16_tcp_151 : decode cX16_tcp 151 = .ok (.astore_n 2, 1) := by decide +kernel
theorem dX16_tcp_152 : decode cX16_tcp 152 = .ok (.iconst 0, 1) := by decide +kernel
theorem dX16_tcp_153 : decode cX16_tcp 153 = .ok (.istore_n 3, 1) := by decide +kernel
theorem dX16_tcp_154 : decode cX16_tcp 154 = .ok (.iload_n 3, 1) := by decide +kernel
theorem dX16_tcp_155 : decode cX16_tcp 155 = .ok (.bipush 16, 2) := by decide +kernel
theorem dX16_tcp_157 : decode cX16_tcp 157 = .ok (.if_icmp .ge 61, 3) := by decide +kernel
theorem dX16_tcp_160 : decode cX16_tcp 160 = .ok (.aload_n 0, 1) := by decide +kernel
theorem dX16_tcp_161 : decode cX16_tcp 161 = .ok (.getfield 292, 3) := by decide +kernel
theorem dX16_tcp_164 : decode cX16_tcp 164 = .ok (.bipush 80, 2) := by decide +kernel
theorem dX16_tcp_166 : decode cX16_tcp 166 = .ok (.if_icmp .ne 52, 3) := by decide +kernel
theorem dX16_tcp_169 : decode cX16_tcp 169 = .ok (.aload_n 0, 1) := by decide +kernel
theorem dX16_tcp_170 : decode cX16_tcp 170 = .ok (.getfield 70, 3) := by decide +kernel
theorem dX16_tcp_173 : decode cX16_tcp 173 = .ok (.iload_n 3, 1) := by decide +kernel
theorem dX16_tcp_174 : decode cX16_tcp 174 = .ok (.aaload, 1) := by decide +kernel
theorem dX16_tcp_175 : decode cX16_tcp 175 = .ok (.astore 4, 2) := by decide +kernel
theorem dX16_tcp_177 : decode cX16_tcp 177 = .ok (.aload 4, 2) := by decide +kernel
theorem dX16_tcp_179 : decode cX16_tcp 179 = .ok (.getfield 152, 3) := by decide +kernel
theorem dX16_tcp_182 : decode cX16_tcp 182 = .ok (.ifCond .eq 30, 3) := by decide +kernel
theorem dX16_tcp_185 : decode cX16_tcp 185 = .ok (.aload 4, 2) := by decide +kernel
theorem dX16_tcp_187 : decode cX16_tcp 187 = .ok (.getfield 314, 3) := by decide +kernel
theorem dX16_tcp_190 : decode cX16_tcp 190 = .ok (.aload_n 0, 1) := by decide +kernel
theorem dX16_tcp_191 : decode cX16_tcp 191 = .ok (.getfield 240, 3) := by decide +kernel
theorem dX16_tcp_194 : decode cX16_tcp 194 = .ok (.if_icmp .ne 18, 3) := by decide +kernel
theorem dX16_tcp_197 : decode cX16_tcp 197 = .ok (.aload 4, 2) := by decide +kernel
theorem dX16_tcp_199 : decode cX16_tcp 199 = .ok (.getfield 315, 3) := by decide +kernel
theorem dX16_tcp_202 : decode cX16_tcp 202 = .ok (.aload_n 0, 1) := by decide +kernel
theorem dX16_tcp_203 : decode cX16_tcp 203 = .ok (.getfield 289, 3) := by decide +kernel
theorem dX16_tcp_206 : decode cX16_tcp 206 = .ok (.if_icmp .ne 6, 3) := by decide +kernel
theorem dX16_tcp_209 : decode cX16_tcp 209 = .ok (.aload 4, 2) := by decide +kernel
theorem dX16_tcp_211 : decode cX16_tcp 211 = .ok (.astore_n 2, 1) := by decide +kernel
theorem dX16_tcp_212 : decode cX16_tcp 212 = .ok (.iinc 3 1, 3) := by decide +kernel
theorem dX16_tcp_215 : decode cX16_tcp 215 = .ok (.goto (-61), 3) := by decide +kernel
theorem dX16_tcp_218 : decode cX16_tcp 218 = .ok (.aload_n 2, 1) := by decide +kernel
theorem dX16_tcp_219 : decode cX16_tcp 219 = .ok (.ifnonnull 10, 3) := by decide +kernel
theorem dX16_tcp_222 : decode cX16_tcp 222 = .ok (.aload_n 0, 1) := by decide +kernel
theorem dX16_tcp_223 : decode cX16_tcp 223 = .ok (.invokevirtual 318, 3) := by decide +kernel
theorem dX16_tcp_226 : decode cX16_tcp 226 = .ok (.goto 8, 3) := by decide +kernel
theorem dX16_tcp_229 : decode cX16_tcp 229 = .ok (.aload_n 0, 1) := by decide +kernel
theorem dX16_tcp_230 : decode cX16_tcp 230 = .ok (.aload_n 2, 1) := by decide +kernel
theorem dX16_tcp_231 : decode cX16_tcp 231 = .ok (.invokevirtual 321, 3) := by decide +kernel
theorem dX16_tcp_234 : decode cX16_tcp 234 = .ok (.return_, 1) := by decide +kernel
theorem wX16_tcp_L218 {x : GX} {n0 sl0 : Nat} (X : Cx x cX16_tcp RX16 none n0 sl0 12 277) {out : Mm} (hE : Ends x n0 sl0 none out) (hn : xn x = 5) (fu : Nat)   (a0 : Nat) (a2 : Option Nat)  (M : Mm) (h : fX16_tcp_L218 fu  a0 a2 M = some out) : Gw x M 218 [(0, pR (some a0)), (2, pR a2)] [] := by
  unfold fX16_tcp_L218 at h
  refine g_aload_n X (pc := 218) 1 rfl rfl dX16_tcp_218 ?_
  refine g_ifnonnull X (pc := 219) (tgt := 229) dX16_tcp_219 (by decide) (fun hc => ?_) (fun hc => ?_)
  · have h := (if_neg hc).symm.trans h
    refine g_aload_n X (pc := 229) 0 rfl rfl dX16_tcp_229 ?_
    refine g_aload_n X (pc := 230) 1 rfl rfl dX16_tcp_230 ?_
    obtain ⟨q1, eq1, h⟩ := bd h
    obtain ⟨M2, eM2, h⟩ := bd h
    refine g_callV X (pc := 231) (M' := M2) (ro := none) (c := 16) rfl (by decide) (as := [pR a2]) (as' := [pR a2]) (st := []) eq1 (ctX16_segment _ _ _ _ _ _ fu q1 a2 M _ eM2) tb_2267 tb_2264 tb_2266 ts_108 tb_8 ⟨rfl, hyX16_segment⟩ rfl rfl ⟨by decide, by decide⟩ (Nat.le_of_ble_eq_true rfl) dX16_tcp_231 ?_
    obtain rfl := Option.some.inj h
    exact g_return X hE dX16_tcp_234
  · have h := (if_pos hc).symm.trans h
    refine g_aload_n X (pc := 222) 0 rfl rfl dX16_tcp_222 ?_
    obtain ⟨q3, eq3, h⟩ := bd h
    obtain ⟨M4, eM4, h⟩ := bd h
    refine g_callV X (pc := 223) (M' := M4) (ro := none) (c := 16) rfl (by decide) (as := []) (as' := []) (st := []) eq3 (ctX16_alone _ _ _ _ _ _ fu q3  M _ eM4) tb_2246 tb_2243 tb_2245 ts_103 tb_8 ⟨rfl, hyX16_alone⟩ rfl rfl ⟨by decide, by decide⟩ (Nat.le_of_ble_eq_true rfl) dX16_tcp_223 ?_
    refine g_goto X (pc := 226) (tgt := 234) dX16_tcp_226 (by decide) ?_
    obtain rfl := Option.some.inj h
    exact g_return X hE dX16_tcp_234
theorem wX16_tcp_L212 {x : GX} {n0 sl0 : Nat} (X : Cx x cX16_tcp RX16 none n0 sl0 12 277) {out : Mm} (hE : Ends x n0 sl0 none out) (hn : xn x = 5) (fu : Nat) (k154 : Nat → Option Nat → Int32 → Mm → Option (Mm)) (hk154 : ∀ (b0 : Nat) (b2 : Option Nat) (b3 : Int32)  (M : Mm), k154 b0 b2 b3 M = some out → Gw x M 154 [(0, pR (some b0)), (2, pR b2), (3, pI b3)] []) (a0 : Nat) (a2 : Option Nat) (a3 : Int32)  (M : Mm) (h : fX16_tcp_L212 fu k154 a0 a2 a3 M = some out) : Gw x M 212 [(0, pR (some a0)), (2, pR a2), (3, pI a3)] [] := by
  unfold fX16_tcp_L212 at h
  refine g_iinc X (pc := 212) 2 [(3, pI (a3 + (1 : Int32))), (0, pR (some a0)), (2, pR a2)] rfl (iinc_e (by decide)) (lt_n hn (by decide)) rfl dX16_tcp_212 ?_
  refine g_goto X (pc := 215) (tgt := 154) dX16_tcp_215 (by decide) ?_
  refine g_sub [1, 2, 0] [(0, pR (some a0)), (2, pR a2), (3, pI (a3 + (1 : Int32)))] rfl ?_
  exact hk154 a0 a2 (a3 + (1 : Int32)) M h
theorem wX16_tcp_L154 {x : GX} {n0 sl0 : Nat} (X : Cx x cX16_tcp RX16 none n0 sl0 12 277) {out : Mm} (hE : Ends x n0 sl0 none out) (hn : xn x = 5) (fu : Nat)   : ∀ (n : Nat) (a0 : Nat) (a2 : Option Nat) (a3 : Int32)  (M : Mm), fX16_tcp_L154 fu  n a0 a2 a3 M = some out → Gw x M 154 [(0, pR (some a0)), (2, pR a2), (3, pI a3)] [] := by
  intro n
  induction n with
  | zero =>
    intro a0 a2 a3 M h
    have h : (none : Option (Mm)) = some out := h
    cases h
  | succ n ih =>
    intro a0 a2 a3 M h
    rw [fX16_tcp_L154] at h
    refine g_iload_n X (pc := 154) 2 rfl rfl dX16_tcp_154 ?_
    refine g_bipush X (pc := 155) (v := 16) dX16_tcp_155 (by decide) ?_
    refine g_icmp_ge X (pc := 157) (tgt := 218) dX16_tcp_157 (by decide) (fun hc => ?_) (fun hc => ?_)
    · have h := (if_pos hc).symm.trans h
      refine g_sub [0, 1] [(0, pR (some a0)), (2, pR a2)] rfl ?_
      exact wX16_tcp_L218 X hE hn fu   a0 a2 M h
    · have h := (if_neg hc).symm.trans h
      refine g_aload_n X (pc := 160) 0 rfl rfl dX16_tcp_160 ?_
      obtain ⟨v1, ev1, h⟩ := bd h
      refine g_getI X (pc := 161) fk_16_33 rfl rfl ev1 tb_1847 dX16_tcp_161 ?_
      refine g_bipush X (pc := 164) (v := 80) dX16_tcp_164 (by decide) ?_
      refine g_icmp_ne X (pc := 166) (tgt := 218) dX16_tcp_166 (by decide) (fun hc => ?_) (fun hc => ?_)
      · have h := (if_neg hc).symm.trans h
        refine g_sub [0, 1] [(0, pR (some a0)), (2, pR a2)] rfl ?_
        exact wX16_tcp_L218 X hE hn fu   a0 a2 M h
      · have h := (if_pos hc).symm.trans h
        refine g_aload_n X (pc := 169) 0 rfl rfl dX16_tcp_169 ?_
        obtain ⟨v2, ev2, h⟩ := bd h
        refine g_getR X (pc := 170) fk_16_31 rfl rfl ev2 tb_1845 dX16_tcp_170 ?_
        refine g_iload_n X (pc := 173) 2 rfl rfl dX16_tcp_173 ?_
        obtain ⟨v3, ev3, h⟩ := bd h
        refine g_aaload X (pc := 174) (k := 9) rfl rfl (by decide) ev3 dX16_tcp_174 ?_
        refine g_astore X (pc := 175) [(4, pR v3), (0, pR (some a0)), (2, pR a2), (3, pI a3)] (lt_n hn (by decide)) rfl dX16_tcp_175 ?_
        refine g_aload X (pc := 177) 0 rfl dX16_tcp_177 ?_
        obtain ⟨v4, ev4, h⟩ := bd h
        refine g_getI X (pc := 179) fk_12_0 rfl rfl ev4 tb_1580 dX16_tcp_179 ?_
        refine g_if_eq X (pc := 182) (tgt := 212) dX16_tcp_182 (by decide) (fun hc => ?_) (fun hc => ?_)
        · have h := (if_pos hc).symm.trans h
          refine g_sub [1, 2, 3] [(0, pR (some a0)), (2, pR a2), (3, pI a3)] rfl ?_
          exact wX16_tcp_L212 X hE hn fu (fun b0 b2 b3 M => fX16_tcp_L154 fu  n b0 b2 b3 M) ih a0 a2 a3 M h
        · have h := (if_neg hc).symm.trans h
          refine g_aload X (pc := 185) 0 rfl dX16_tcp_185 ?_
          obtain ⟨v5, ev5, h⟩ := bd h
          refine g_getI X (pc := 187) fk_12_1 rfl rfl ev5 tb_1581 dX16_tcp_187 ?_
          refine g_aload_n X (pc := 190) 1 rfl rfl dX16_tcp_190 ?_
          obtain ⟨v6, ev6, h⟩ := bd h
          refine g_getI X (pc := 191) fk_16_30 rfl rfl ev6 tb_1844 dX16_tcp_191 ?_
          refine g_icmp_ne X (pc := 194) (tgt := 212) dX16_tcp_194 (by decide) (fun hc => ?_) (fun hc => ?_)
          · have h := (if_neg hc).symm.trans h
            refine g_sub [1, 2, 3] [(0, pR (some a0)), (2, pR a2), (3, pI a3)] rfl ?_
            exact wX16_tcp_L212 X hE hn fu (fun b0 b2 b3 M => fX16_tcp_L154 fu  n b0 b2 b3 M) ih a0 a2 a3 M h
          · have h := (if_pos hc).symm.trans h
            refine g_aload X (pc := 197) 0 rfl dX16_tcp_197 ?_
            obtain ⟨v7, ev7, h⟩ := bd h
            refine g_getI X (pc := 199) fk_12_2 rfl rfl ev7 tb_1582 dX16_tcp_199 ?_
            refine g_aload_n X (pc := 202) 1 rfl rfl dX16_tcp_202 ?_
            obtain ⟨v8, ev8, h⟩ := bd h
            refine g_getI X (pc := 203) fk_16_32 rfl rfl ev8 tb_1846 dX16_tcp_203 ?_
            refine g_icmp_ne X (pc := 206) (tgt := 212) dX16_tcp_206 (by decide) (fun hc => ?_) (fun hc => ?_)
            · have h := (if_neg hc).symm.trans h
              refine g_sub [1, 2, 3] [(0, pR (some a0)), (2, pR a2), (3, pI a3)] rfl ?_
              exact wX16_tcp_L212 X hE hn fu (fun b0 b2 b3 M => fX16_tcp_L154 fu  n b0 b2 b3 M) ih a0 a2 a3 M h
            · have h := (if_pos hc).symm.trans h
              refine g_aload X (pc := 209) 0 rfl dX16_tcp_209 ?_
              refine g_astore_n X (pc := 211) [(2, pR v3), (4, pR v3), (0, pR (some a0)), (3, pI a3)] rfl (lt_n hn (by decide)) rfl dX16_tcp_211 ?_
              refine g_sub [2, 0, 3] [(0, pR (some a0)), (2, pR v3), (3, pI a3)] rfl ?_
              exact wX16_tcp_L212 X hE hn fu (fun b0 b2 b3 M => fX16_tcp_L154 fu  n b0 b2 b3 M) ih a0 v3 a3 M h
theorem wX16_tcp {x : GX} {n0 sl0 : Nat} (X : Cx x cX16_tcp RX16 none n0 sl0 12 277) {out : Mm} (hE : Ends x n0 sl0 none out) (hn : xn x = 5) (fu : Nat)   (a0 : Nat) (a1 : Int32)  (M : Mm) (h : fX16_tcp fu  a0 a1 M = some out) : Gw x M 0 [(0, pR (some a0)), (1, pI a1)] [] := by
  unfold fX16_tcp at h
  refine g_iload_n X (pc := 0) 1 rfl rfl dX16_tcp_0 ?_
  refine g_bipush X (pc := 1) (v := 20) dX16_tcp_1 (by decide) ?_
  refine g_icmp_ge X (pc := 3) (tgt := 7) dX16_tcp_3 (by decide) (fun hc => ?_) (fun hc => ?_)
  · have h := (if_pos hc).symm.trans h
    refine g_aload_n X (pc := 7) 0 rfl rfl dX16_tcp_7 ?_
    refine g_aload_n X (pc := 8) 0 rfl rfl dX16_tcp_8 ?_
    obtain ⟨v1, ev1, h⟩ := bd h
    refine g_getR X (pc := 9) fk_16_29 rfl rfl ev1 tb_1843 dX16_tcp_9 ?_
    refine g_bipush X (pc := 12) (v := 12) dX16_tcp_12 (by decide) ?_
    obtain ⟨v2, ev2, h⟩ := bd h
    refine g_baload X (pc := 14) ev2 dX16_tcp_14 ?_
    refine g_iconst X (pc := 15) (v := 4) dX16_tcp_15 (by decide) ?_
    refine g_ishr X (pc := 16) dX16_tcp_16 ?_
    refine g_bipush X (pc := 17) (v := 15) dX16_tcp_17 (by decide) ?_
    refine g_iand X (pc := 19) dX16_tcp_19 ?_
    refine g_iconst X (pc := 20) (v := 4) dX16_tcp_20 (by decide) ?_
    refine g_imul X (pc := 21) dX16_tcp_21 ?_
    obtain ⟨M3, eM3, h⟩ := bd h
    refine g_putI X (pc := 22) fk_16_40 rfl rfl rfl eM3 tb_1854 (Or.inl rfl) dX16_tcp_22 ?_
    refine g_aload_n X (pc := 25) 0 rfl rfl dX16_tcp_25 ?_
    obtain ⟨v4, ev4, h⟩ := bd h
    refine g_getI X (pc := 26) fk_16_40 rfl rfl ev4 tb_1854 dX16_tcp_26 ?_
    refine g_bipush X (pc := 29) (v := 20) dX16_tcp_29 (by decide) ?_
    refine g_icmp_lt X (pc := 31) (tgt := 70) dX16_tcp_31 (by decide) (fun hc => ?_) (fun hc => ?_)
    · have h := (if_pos hc).symm.trans h
      obtain rfl := Option.some.inj h
      exact g_return X hE dX16_tcp_70
    · have h := (if_neg hc).symm.trans h
      refine g_aload_n X (pc := 34) 0 rfl rfl dX16_tcp_34 ?_
      obtain ⟨v5, ev5, h⟩ := bd h
      refine g_getI X (pc := 35) fk_16_40 rfl rfl ev5 tb_1854 dX16_tcp_35 ?_
      refine g_iload_n X (pc := 38) 1 rfl rfl dX16_tcp_38 ?_
      refine g_icmp_gt X (pc := 39) (tgt := 70) dX16_tcp_39 (by decide) (fun hc => ?_) (fun hc => ?_)
      · have h := (if_pos hc).symm.trans h
        obtain rfl := Option.some.inj h
        exact g_return X hE dX16_tcp_70
      · have h := (if_neg hc).symm.trans h
        refine g_aload_n X (pc := 42) 0 rfl rfl dX16_tcp_42 ?_
        obtain ⟨v6, ev6, h⟩ := bd h
        refine g_getR X (pc := 43) fk_16_29 rfl rfl ev6 tb_1843 dX16_tcp_43 ?_
        refine g_iconst X (pc := 46) (v := 0) dX16_tcp_46 (by decide) ?_
        refine g_iload_n X (pc := 47) 1 rfl rfl dX16_tcp_47 ?_
        refine g_aload_n X (pc := 48) 0 rfl rfl dX16_tcp_48 ?_
        refine g_aload_n X (pc := 49) 0 rfl rfl dX16_tcp_49 ?_
        obtain ⟨v7, ev7, h⟩ := bd h
        refine g_getI X (pc := 50) fk_16_30 rfl rfl ev7 tb_1844 dX16_tcp_50 ?_
        refine g_aload_n X (pc := 53) 0 rfl rfl dX16_tcp_53 ?_
        obtain ⟨v8, ev8, h⟩ := bd h
        refine g_getI X (pc := 54) fk_16_5 rfl rfl ev8 tb_1819 dX16_tcp_54 ?_
        refine g_iload_n X (pc := 57) 1 rfl rfl dX16_tcp_57 ?_
        obtain ⟨q9, eq9, h⟩ := bd h
        obtain ⟨v11, M10, eM10, h⟩ := b2d h
        refine g_callV X (pc := 58) (M' := M10) (ro := some (pL v11)) (c := 16) rfl (by decide) (as := [pI v7, pI v8, pI a1]) (as' := [pI a1, pI v8, pI v7]) (st := [pI a1, pI (0 : Int32), pR v6]) eq9 (ctX16_pseudo _ _ _ _ _ _ fu q9 v7 v8 a1 M3 _ eM10) tb_2121 tb_2118 tb_2120 ts_76 tb_8 ⟨rfl, hyX16_pseudo⟩ rfl rfl ⟨by decide, by decide⟩ (Nat.le_of_ble_eq_true rfl) dX16_tcp_58 ?_
        obtain ⟨v13, M12, eM12, h⟩ := b2d h
        refine g_callS X (pc := 61) (M' := M12) (ro := some (pL v13)) (as := [pR v6, pI (0 : Int32), pI a1, pL v11]) (as' := [pL v11, pI a1, pI (0 : Int32), pR v6]) (st := []) (ctX16_added _ _ _ _ _ _ fu  v6 (0 : Int32) a1 v11 M10 _ eM12) tb_2125 tb_2123 tb_2124 tb_8 hyX16_added rfl rfl ⟨by decide, by decide⟩ (Nat.le_of_ble_eq_true rfl) dX16_tcp_61 ?_
        obtain ⟨v15, M14, eM14, h⟩ := b2d h
        refine g_callS X (pc := 64) (M' := M14) (ro := some (pI v15)) (as := [pL v13]) (as' := [pL v13]) (st := []) (ctX16_sixteen _ _ _ _ _ _ fu  v13 M12 _ eM14) tb_2128 tb_2126 tb_2127 tb_8 hyX16_sixteen rfl rfl ⟨by decide, by decide⟩ (Nat.le_of_ble_eq_true rfl) dX16_tcp_64 ?_
        refine g_if_eq X (pc := 67) (tgt := 71) dX16_tcp_67 (by decide) (fun hc => ?_) (fun hc => ?_)
        · have h := (if_pos hc).symm.trans h
          refine g_aload_n X (pc := 71) 0 rfl rfl dX16_tcp_71 ?_
          refine g_aload_n X (pc := 72) 0 rfl rfl dX16_tcp_72 ?_
          refine g_iconst X (pc := 73) (v := 0) dX16_tcp_73 (by decide) ?_
          obtain ⟨q16, eq16, h⟩ := bd h
          obtain ⟨v18, M17, eM17, h⟩ := b2d h
          refine g_callV X (pc := 74) (M' := M17) (ro := some (pI v18)) (c := 16) rfl (by decide) (as := [pI (0 : Int32)]) (as' := [pI (0 : Int32)]) (st := [pR (some a0)]) eq16 (ctX16_half _ _ _ _ _ _ fu q16 (0 : Int32) M14 _ eM17) tb_2238 tb_2235 tb_2237 ts_101 tb_8 ⟨rfl, hyX16_half⟩ rfl rfl ⟨by decide, by decide⟩ (Nat.le_of_ble_eq_true rfl) dX16_tcp_74 ?_
          obtain ⟨M19, eM19, h⟩ := bd h
          refine g_putI X (pc := 77) fk_16_32 rfl rfl rfl eM19 tb_1846 (Or.inl rfl) dX16_tcp_77 ?_
          refine g_aload_n X (pc := 80) 0 rfl rfl dX16_tcp_80 ?_
          refine g_aload_n X (pc := 81) 0 rfl rfl dX16_tcp_81 ?_
          refine g_iconst X (pc := 82) (v := 2) dX16_tcp_82 (by decide) ?_
          obtain ⟨q20, eq20, h⟩ := bd h
          obtain ⟨v22, M21, eM21, h⟩ := b2d h
          refine g_callV X (pc := 83) (M' := M21) (ro := some (pI v22)) (c := 16) rfl (by decide) (as := [pI (2 : Int32)]) (as' := [pI (2 : Int32)]) (st := [pR (some a0)]) eq20 (ctX16_half _ _ _ _ _ _ fu q20 (2 : Int32) M19 _ eM21) tb_2238 tb_2235 tb_2237 ts_101 tb_8 ⟨rfl, hyX16_half⟩ rfl rfl ⟨by decide, by decide⟩ (Nat.le_of_ble_eq_true rfl) dX16_tcp_83 ?_
          obtain ⟨M23, eM23, h⟩ := bd h
          refine g_putI X (pc := 86) fk_16_33 rfl rfl rfl eM23 tb_1847 (Or.inl rfl) dX16_tcp_86 ?_
          refine g_aload_n X (pc := 89) 0 rfl rfl dX16_tcp_89 ?_
          refine g_aload_n X (pc := 90) 0 rfl rfl dX16_tcp_90 ?_
          refine g_iconst X (pc := 91) (v := 4) dX16_tcp_91 (by decide) ?_
          obtain ⟨q24, eq24, h⟩ := bd h
          obtain ⟨v26, M25, eM25, h⟩ := b2d h
          refine g_callV X (pc := 92) (M' := M25) (ro := some (pI v26)) (c := 16) rfl (by decide) (as := [pI (4 : Int32)]) (as' := [pI (4 : Int32)]) (st := [pR (some a0)]) eq24 (ctX16_wholeWord _ _ _ _ _ _ fu q24 (4 : Int32) M23 _ eM25) tb_2242 tb_2239 tb_2241 ts_102 tb_8 ⟨rfl, hyX16_wholeWord⟩ rfl rfl ⟨by decide, by decide⟩ (Nat.le_of_ble_eq_true rfl) dX16_tcp_92 ?_
          obtain ⟨M27, eM27, h⟩ := bd h
          refine g_putI X (pc := 95) fk_16_34 rfl rfl rfl eM27 tb_1848 (Or.inl rfl) dX16_tcp_95 ?_
          refine g_aload_n X (pc := 98) 0 rfl rfl dX16_tcp_98 ?_
          refine g_aload_n X (pc := 99) 0 rfl rfl dX16_tcp_99 ?_
          refine g_bipush X (pc := 100) (v := 8) dX16_tcp_100 (by decide) ?_
          obtain ⟨q28, eq28, h⟩ := bd h
          obtain ⟨v30, M29, eM29, h⟩ := b2d h
          refine g_callV X (pc := 102) (M' := M29) (ro := some (pI v30)) (c := 16) rfl (by decide) (as := [pI (8 : Int32)]) (as' := [pI (8 : Int32)]) (st := [pR (some a0)]) eq28 (ctX16_wholeWord _ _ _ _ _ _ fu q28 (8 : Int32) M27 _ eM29) tb_2242 tb_2239 tb_2241 ts_102 tb_8 ⟨rfl, hyX16_wholeWord⟩ rfl rfl ⟨by decide, by decide⟩ (Nat.le_of_ble_eq_true rfl) dX16_tcp_102 ?_
          obtain ⟨M31, eM31, h⟩ := bd h
          refine g_putI X (pc := 105) fk_16_35 rfl rfl rfl eM31 tb_1849 (Or.inl rfl) dX16_tcp_105 ?_
          refine g_aload_n X (pc := 108) 0 rfl rfl dX16_tcp_108 ?_
          refine g_aload_n X (pc := 109) 0 rfl rfl dX16_tcp_109 ?_
          obtain ⟨v32, ev32, h⟩ := bd h
          refine g_getR X (pc := 110) fk_16_29 rfl rfl ev32 tb_1843 dX16_tcp_110 ?_
          refine g_bipush X (pc := 113) (v := 13) dX16_tcp_113 (by decide) ?_
          obtain ⟨v33, ev33, h⟩ := bd h
          refine g_baload X (pc := 115) ev33 dX16_tcp_115 ?_
          refine g_bipush X (pc := 116) (v := 31) dX16_tcp_116 (by decide) ?_
          refine g_iand X (pc := 118) dX16_tcp_118 ?_
          obtain ⟨M34, eM34, h⟩ := bd h
          refine g_putI X (pc := 119) fk_16_36 rfl rfl rfl eM34 tb_1850 (Or.inl rfl) dX16_tcp_119 ?_
          refine g_aload_n X (pc := 122) 0 rfl rfl dX16_tcp_122 ?_
          refine g_aload_n X (pc := 123) 0 rfl rfl dX16_tcp_123 ?_
          refine g_bipush X (pc := 124) (v := 14) dX16_tcp_124 (by decide) ?_
          obtain ⟨q35, eq35, h⟩ := bd h
          obtain ⟨v37, M36, eM36, h⟩ := b2d h
          refine g_callV X (pc := 126) (M' := M36) (ro := some (pI v37)) (c := 16) rfl (by decide) (as := [pI (14 : Int32)]) (as' := [pI (14 : Int32)]) (st := [pR (some a0)]) eq35 (ctX16_half _ _ _ _ _ _ fu q35 (14 : Int32) M34 _ eM36) tb_2238 tb_2235 tb_2237 ts_101 tb_8 ⟨rfl, hyX16_half⟩ rfl rfl ⟨by decide, by decide⟩ (Nat.le_of_ble_eq_true rfl) dX16_tcp_126 ?_
          obtain ⟨M38, eM38, h⟩ := bd h
          refine g_putI X (pc := 129) fk_16_37 rfl rfl rfl eM38 tb_1851 (Or.inl rfl) dX16_tcp_129 ?_
          refine g_aload_n X (pc := 132) 0 rfl rfl dX16_tcp_132 ?_
          refine g_aload_n X (pc := 133) 0 rfl rfl dX16_tcp_133 ?_
          obtain ⟨v39, ev39, h⟩ := bd h
          refine g_getI X (pc := 134) fk_16_40 rfl rfl ev39 tb_1854 dX16_tcp_134 ?_
          obtain ⟨M40, eM40, h⟩ := bd h
          refine g_putI X (pc := 137) fk_16_38 rfl rfl rfl eM40 tb_1852 (Or.inl rfl) dX16_tcp_137 ?_
          refine g_aload_n X (pc := 140) 0 rfl rfl dX16_tcp_140 ?_
          refine g_iload_n X (pc := 141) 1 rfl rfl dX16_tcp_141 ?_
          refine g_aload_n X (pc := 142) 0 rfl rfl dX16_tcp_142 ?_
          obtain ⟨v41, ev41, h⟩ := bd h
          refine g_getI X (pc := 143) fk_16_40 rfl rfl ev41 tb_1854 dX16_tcp_143 ?_
          refine g_isub X (pc := 146) dX16_tcp_146 ?_
          obtain ⟨M42, eM42, h⟩ := bd h
          refine g_putI X (pc := 147) fk_16_39 rfl rfl rfl eM42 tb_1853 (Or.inl rfl) dX16_tcp_147 ?_
          refine g_null X (pc := 150) dX16_tcp_150 ?_
          refine g_astore_n X (pc := 151) [(2, pR none), (0, pR (some a0)), (1, pI a1)] rfl (lt_n hn (by decide)) rfl dX16_tcp_151 ?_
          refine g_iconst X (pc := 152) (v := 0) dX16_tcp_152 (by decide) ?_
          refine g_istore_n X (pc := 153) [(3, pI (0 : Int32)), (2, pR none), (0, pR (some a0)), (1, pI a1)] rfl (lt_n hn (by decide)) rfl dX16_tcp_153 ?_
          refine g_sub [2, 1, 0] [(0, pR (some a0)), (2, pR none), (3, pI (0 : Int32))] rfl ?_
          exact wX16_tcp_L154 X hE hn fu   fu a0 none (0 : Int32) M42 h
        · have h := (if_neg hc).symm.trans h
          obtain rfl := Option.some.inj h
          exact g_return X hE dX16_tcp_70
  · have h := (if_neg hc).symm.trans h
    obtain rfl := Option.some.inj h
    exact g_return X hE dX16_tcp_6
theorem hyX16_tcp : yX16_tcp.cls ≠ "java/lang/invoke/MethodHandle" ∧ yX16_tcp.cls ≠ "java/lang/invoke/VarHandle" ∧ (parseMethodDescriptor yX16_tcp.desc).map (fun d => d.parameters.length) = some 1 := ⟨by decide +kernel, by decide +kernel, by decide +kernel⟩
theorem ctX16_tcp (l : Launch) (E : Nat → Nat) (D : va_G) (dA : Nat → ClassId) (lo : Nat) (H0 : Heap) (fu : Nat) (a0 : Nat) (a1 : Int32) (M : Mm) (out : Mm) (h : fX16_tcp fu a0 a1 M = some out) : Ct l E D dA lo H0 yX16_tcp cX16_tcp 5 none 12 277 [pR (some a0), pI a1] M none out := by
  refine ct_of (by decide +kernel) (Nat.le_of_ble_eq_true rfl) ?_
  intro x hl he hd ha ho hh hn hin X hE
  exact wX16_tcp X hE hn fu a0 a1 M h
/-! WebHostModel.taken(II)V -/
def fX16_taken (fu : Nat)  (a0 : Nat) (a1 : Int32) (a2 : Int32)  (M : Mm) : Option (Mm) :=
    if a1 = (1 : Int32) then (
    (rc M 16 (some a0)).bind fun q3 =>
    (fX16_echo fu q3 a2 M).bind fun M4 =>
    some M4)
    else (
    if a1 = (6 : Int32) then (
    (rc M 16 (some a0)).bind fun q1 =>
    (fX16_tcp fu q1 a2 M).bind fun M2 =>
    some M2)
    else (
    some M))
theorem dX16_taken_0 : decode cX16_taken 0 = .ok (.iload_n 1, 1) := by decide +kernel
theorem dX16_taken_1 : decode cX16_taken 1 = .ok (.iconst 1, 1) := by decide +kernel
theorem dX16_taken_2 : decode cX16_taken 2 = .ok (.if_icmp .ne 11, 3) := by decide +kernel
theorem dX16_taken_5 : decode cX16_taken 5 = .ok (.aload_n 0, 1) := by decide +kernel
theorem dX16_taken_6 : decode cX16_taken 6 = .ok (.iload_n 2, 1) := by decide +kernel
theorem dX16_taken_7 : decode cX16_taken 7 = .ok (.invokevirtual 268, 3) := by decide +kernel
theorem dX16_taken_10 : decode cX16_taken 10 = .ok (.goto 14, 3) := by decide +kernel
theorem dX16_taken_13 : decode cX16_taken 13 = .ok (.iload_n 1, 1) := by decide +kernel
theorem dX16_taken_14 : decode cX16_taken 14 = .ok (.bipush 6, 2) := by decide +kernel
theorem dX16_taken_16 : decode cX16_taken 16 = .ok (.if_icmp .ne 8, 3) := by decide +kernel
theorem dX16_taken_19 : decode cX16_taken 19 = .ok (.aload_n 0, 1) := by decide +kernel
theorem dX16_taken_20 : decode cX16_taken 20 = .ok (.iload_n 2, 1) := by decide +kernel
theorem dX16_taken_21 : decode cX16_taken 21 = .ok (.invokevirtual 271, 3) := by decide +kernel
theorem dX16_taken_24 : decode cX16_taken 24 = .ok (.return_, 1) := by decide +kernel
theorem wX16_taken {x : GX} {n0 sl0 : Nat} (X : Cx x cX16_taken RX16 none n0 sl0 13 301) {out : Mm} (hE : Ends x n0 sl0 none out) (hn : xn x = 3) (fu : Nat)   (a0 : Nat) (a1 : Int32) (a2 : Int32)  (M : Mm) (h : fX16_taken fu  a0 a1 a2 M = some out) : Gw x M 0 [(0, pR (some a0)), (1, pI a1), (2, pI a2)] [] := by
  unfold fX16_taken at h
  refine g_iload_n X (pc := 0) 1 rfl rfl dX16_taken_0 ?_
  refine g_iconst X (pc := 1) (v := 1) dX16_taken_1 (by decide) ?_
  refine g_icmp_ne X (pc := 2) (tgt := 13) dX16_taken_2 (by decide) (fun hc => ?_) (fun hc => ?_)
  · have h := (if_neg hc).symm.trans h
    refine g_iload_n X (pc := 13) 1 rfl rfl dX16_taken_13 ?_
    refine g_bipush X (pc := 14) (v := 6) dX16_taken_14 (by decide) ?_
    refine g_icmp_ne X (pc := 16) (tgt := 24) dX16_taken_16 (by decide) (fun hc => ?_) (fun hc => ?_)
    · have h := (if_neg hc).symm.trans h
      obtain rfl := Option.some.inj h
      exact g_return X hE dX16_taken_24
    · have h := (if_pos hc).symm.trans h
      refine g_aload_n X (pc := 19) 0 rfl rfl dX16_taken_19 ?_
      refine g_iload_n X (pc := 20) 2 rfl rfl dX16_taken_20 ?_
      obtain ⟨q1, eq1, h⟩ := bd h
      obtain ⟨M2, eM2, h⟩ := bd h
      refine g_callV X (pc := 21) (M' := M2) (ro := none) (c := 16) rfl (by decide) (as := [pI a2]) (as' := [pI a2]) (st := []) eq1 (ctX16_tcp _ _ _ _ _ _ fu q1 a2 M _ eM2) tb_2234 tb_2231 tb_2233 ts_100 tb_8 ⟨rfl, hyX16_tcp⟩ rfl rfl ⟨by decide, by decide⟩ (Nat.le_of_ble_eq_true rfl) dX16_taken_21 ?_
      obtain rfl := Option.some.inj h
      exact g_return X hE dX16_taken_24
  · have h := (if_pos hc).symm.trans h
    refine g_aload_n X (pc := 5) 0 rfl rfl dX16_taken_5 ?_
    refine g_iload_n X (pc := 6) 2 rfl rfl dX16_taken_6 ?_
    obtain ⟨q3, eq3, h⟩ := bd h
    obtain ⟨M4, eM4, h⟩ := bd h
    refine g_callV X (pc := 7) (M' := M4) (ro := none) (c := 16) rfl (by decide) (as := [pI a2]) (as' := [pI a2]) (st := []) eq3 (ctX16_echo _ _ _ _ _ _ fu q3 a2 M _ eM4) tb_2230 tb_2227 tb_2229 ts_99 tb_8 ⟨rfl, hyX16_echo⟩ rfl rfl ⟨by decide, by decide⟩ (Nat.le_of_ble_eq_true rfl) dX16_taken_7 ?_
    refine g_goto X (pc := 10) (tgt := 24) dX16_taken_10 (by decide) ?_
    obtain rfl := Option.some.inj h
    exact g_return X hE dX16_taken_24
theorem hyX16_taken : yX16_taken.cls ≠ "java/lang/invoke/MethodHandle" ∧ yX16_taken.cls ≠ "java/lang/invoke/VarHandle" ∧ (parseMethodDescriptor yX16_taken.desc).map (fun d => d.parameters.length) = some 2 := ⟨by decide +kernel, by decide +kernel, by decide +kernel⟩
theorem ctX16_taken (l : Launch) (E : Nat → Nat) (D : va_G) (dA : Nat → ClassId) (lo : Nat) (H0 : Heap) (fu : Nat) (a0 : Nat) (a1 : Int32) (a2 : Int32) (M : Mm) (out : Mm) (h : fX16_taken fu a0 a1 a2 M = some out) : Ct l E D dA lo H0 yX16_taken cX16_taken 3 none 13 301 [pR (some a0), pI a1, pI a2] M none out := by
  refine ct_of (by decide +kernel) (Nat.le_of_ble_eq_true rfl) ?_
  intro x hl he hd ha ho hh hn hin X hE
  exact wX16_taken X hE hn fu a0 a1 a2 M h
