/-! ===== walks of methods, printed by a program of ours ===== -/
/-! WebHostModel.fragment(IIIIIZ)V -/
def fX16_fragment_L422 (fu : Nat)  : Nat → Nat → Int32 → Int32 → Option Nat → Int32 → Mm → Option (Mm)
  | 0, _, _, _, _, _, _ => none
  | n + 1, a0, a1, a2, a8, a12, M =>
    (gI M 13 836 a8).bind fun v1 =>
    if v1 ≤ a12 then (
    (pF M 16 1054 (some a0) a1).bind fun M2 =>
    (gI M2 13 836 a8).bind fun v3 =>
    (rc M2 16 (some a0)).bind fun q4 =>
    (fX16_taken fu q4 a2 v3 M2).bind fun M5 =>
    some M5)
    else (
    (gR M 16 1053 (some a0)).bind fun v6 =>
    (gR M 13 839 a8).bind fun v7 =>
    (gA M 100 v7 a12).bind fun v8 =>
    (pA M 100 v6 a12 (Int8.toInt32 (Int32.toInt8 v8))).bind fun M9 =>
    fX16_fragment_L422 fu  n a0 a1 a2 a8 (a12 + (1 : Int32)) M9)
def fX16_fragment_L375 (fu : Nat)  : Nat → Nat → Int32 → Int32 → Option Nat → Int32 → Mm → Option (Mm)
  | 0, _, _, _, _, _, _ => none
  | n + 1, a0, a1, a2, a8, a12, M =>
    (gI M 13 836 a8).bind fun v1 =>
    if v1 ≤ a12 then (
    (pZ M 13 832 a8 (0 : Int32)).bind fun M2 =>
    (gR M2 16 1041 (some a0)).bind fun v3 =>
    (gA M2 101 v3 (1 : Int32)).bind fun v4 =>
    (pA M2 101 v3 (1 : Int32) (v4 + (1 : Int32))).bind fun M5 =>
    fX16_fragment_L422 fu  fu a0 a1 a2 a8 (0 : Int32) M5)
    else (
    (gR M 13 840 a8).bind fun v6 =>
    (gA M 102 v6 a12).bind fun v7 =>
    if v7 = 0 then (
    some M)
    else (
    fX16_fragment_L375 fu  n a0 a1 a2 a8 (a12 + (1 : Int32)) M))
def fX16_fragment_L357 (fu : Nat) (k306 : Nat → Int32 → Int32 → Int32 → Int32 → Int32 → Option Nat → Int32 → Mm → Option (Mm)) (a0 : Nat) (a1 : Int32) (a2 : Int32) (a3 : Int32) (a4 : Int32) (a5 : Int32) (a8 : Option Nat) (a12 : Int32)  (M : Mm) : Option (Mm) :=
    k306 a0 a1 a2 a3 a4 a5 a8 (a12 + (1 : Int32)) M
def fX16_fragment_L306 (fu : Nat)  : Nat → Nat → Int32 → Int32 → Int32 → Int32 → Int32 → Option Nat → Int32 → Mm → Option (Mm)
  | 0, _, _, _, _, _, _, _, _, _ => none
  | n + 1, a0, a1, a2, a3, a4, a5, a8, a12, M =>
    if a5 ≤ a12 then (
    (gI M 13 836 a8).bind fun v1 =>
    if 0 ≤ v1 then (
    fX16_fragment_L375 fu  fu a0 a1 a2 a8 (0 : Int32) M)
    else (
    some M))
    else (
    (gR M 13 840 a8).bind fun v2 =>
    (gA M 102 v2 (a3 + a12)).bind fun v3 =>
    if v3 = 0 then (
    (gR M 13 840 a8).bind fun v4 =>
    (pA M 102 v4 (a3 + a12) ((1 : Int32) &&& 1)).bind fun M5 =>
    (gR M5 13 839 a8).bind fun v6 =>
    (gR M5 16 1024 (some a0)).bind fun v7 =>
    (gA M5 100 v7 (a4 + a12)).bind fun v8 =>
    (pA M5 100 v6 (a3 + a12) (Int8.toInt32 (Int32.toInt8 v8))).bind fun M9 =>
    fX16_fragment_L357 fu (fun b0 b1 b2 b3 b4 b5 b8 b12 M => fX16_fragment_L306 fu  n b0 b1 b2 b3 b4 b5 b8 b12 M) a0 a1 a2 a3 a4 a5 a8 a12 M9)
    else (
    fX16_fragment_L357 fu (fun b0 b1 b2 b3 b4 b5 b8 b12 M => fX16_fragment_L306 fu  n b0 b1 b2 b3 b4 b5 b8 b12 M) a0 a1 a2 a3 a4 a5 a8 a12 M))
def fX16_fragment_L303 (fu : Nat)  (a0 : Nat) (a1 : Int32) (a2 : Int32) (a3 : Int32) (a4 : Int32) (a5 : Int32) (a8 : Option Nat)  (M : Mm) : Option (Mm) :=
    fX16_fragment_L306 fu  fu a0 a1 a2 a3 a4 a5 a8 (0 : Int32) M
def fX16_fragment_L279 (fu : Nat)  (a0 : Nat) (a1 : Int32) (a2 : Int32) (a3 : Int32) (a4 : Int32) (a5 : Int32) (a6 : Int32) (a8 : Option Nat) (a10 : Int32) (a11 : Int32)  (M : Mm) : Option (Mm) :=
    if a11 = 0 then (
    if a6 = 0 then (
    (pF M 13 836 a8 a10).bind fun M1 =>
    fX16_fragment_L303 fu  a0 a1 a2 a3 a4 a5 a8 M1)
    else (
    fX16_fragment_L303 fu  a0 a1 a2 a3 a4 a5 a8 M))
    else (
    (pZ M 13 832 a8 (0 : Int32)).bind fun M2 =>
    some M2)
def fX16_fragment_L271 (fu : Nat) (k242 : Nat → Int32 → Int32 → Int32 → Int32 → Int32 → Int32 → Option Nat → Int32 → Int32 → Int32 → Mm → Option (Mm)) (a0 : Nat) (a1 : Int32) (a2 : Int32) (a3 : Int32) (a4 : Int32) (a5 : Int32) (a6 : Int32) (a8 : Option Nat) (a10 : Int32) (a12 : Int32) (s0 : Int32) (M : Mm) : Option (Mm) :=
    k242 a0 a1 a2 a3 a4 a5 a6 a8 a10 s0 (a12 + (1 : Int32)) M
def fX16_fragment_L266 (fu : Nat) (k242 : Nat → Int32 → Int32 → Int32 → Int32 → Int32 → Int32 → Option Nat → Int32 → Int32 → Int32 → Mm → Option (Mm)) (a0 : Nat) (a1 : Int32) (a2 : Int32) (a3 : Int32) (a4 : Int32) (a5 : Int32) (a6 : Int32) (a8 : Option Nat) (a10 : Int32) (a12 : Int32)  (M : Mm) : Option (Mm) :=
    fX16_fragment_L271 fu k242 a0 a1 a2 a3 a4 a5 a6 a8 a10 a12 (1 : Int32) M
def fX16_fragment_L242 (fu : Nat)  : Nat → Nat → Int32 → Int32 → Int32 → Int32 → Int32 → Int32 → Option Nat → Int32 → Int32 → Int32 → Mm → Option (Mm)
  | 0, _, _, _, _, _, _, _, _, _, _, _, _ => none
  | n + 1, a0, a1, a2, a3, a4, a5, a6, a8, a10, a11, a12, M =>
    if (4096 : Int32) ≤ a12 then (
    fX16_fragment_L279 fu  a0 a1 a2 a3 a4 a5 a6 a8 a10 a11 M)
    else (
    if a11 = 0 then (
    (gR M 13 840 a8).bind fun v1 =>
    (gA M 102 v1 a12).bind fun v2 =>
    if v2 = 0 then (
    fX16_fragment_L271 fu (fun b0 b1 b2 b3 b4 b5 b6 b8 b10 b11 b12 M => fX16_fragment_L242 fu  n b0 b1 b2 b3 b4 b5 b6 b8 b10 b11 b12 M) a0 a1 a2 a3 a4 a5 a6 a8 a10 a12 (0 : Int32) M)
    else (
    fX16_fragment_L266 fu (fun b0 b1 b2 b3 b4 b5 b6 b8 b10 b11 b12 M => fX16_fragment_L242 fu  n b0 b1 b2 b3 b4 b5 b6 b8 b10 b11 b12 M) a0 a1 a2 a3 a4 a5 a6 a8 a10 a12 M))
    else (
    fX16_fragment_L266 fu (fun b0 b1 b2 b3 b4 b5 b6 b8 b10 b11 b12 M => fX16_fragment_L242 fu  n b0 b1 b2 b3 b4 b5 b6 b8 b10 b11 b12 M) a0 a1 a2 a3 a4 a5 a6 a8 a10 a12 M))
def fX16_fragment_L231 (fu : Nat)  (a0 : Nat) (a1 : Int32) (a2 : Int32) (a3 : Int32) (a4 : Int32) (a5 : Int32) (a6 : Int32) (a8 : Option Nat) (a10 : Int32) (s0 : Int32) (M : Mm) : Option (Mm) :=
    if a6 = 0 then (
    fX16_fragment_L242 fu  fu a0 a1 a2 a3 a4 a5 a6 a8 a10 s0 a10 M)
    else (
    fX16_fragment_L279 fu  a0 a1 a2 a3 a4 a5 a6 a8 a10 s0 M)
def fX16_fragment_L230 (fu : Nat)  (a0 : Nat) (a1 : Int32) (a2 : Int32) (a3 : Int32) (a4 : Int32) (a5 : Int32) (a6 : Int32) (a8 : Option Nat) (a10 : Int32)  (M : Mm) : Option (Mm) :=
    fX16_fragment_L231 fu  a0 a1 a2 a3 a4 a5 a6 a8 a10 (0 : Int32) M
def fX16_fragment_L226 (fu : Nat)  (a0 : Nat) (a1 : Int32) (a2 : Int32) (a3 : Int32) (a4 : Int32) (a5 : Int32) (a6 : Int32) (a8 : Option Nat) (a10 : Int32)  (M : Mm) : Option (Mm) :=
    fX16_fragment_L231 fu  a0 a1 a2 a3 a4 a5 a6 a8 a10 (1 : Int32) M
def fX16_fragment_L184 (fu : Nat)  (a0 : Nat) (a1 : Int32) (a2 : Int32) (a3 : Int32) (a4 : Int32) (a5 : Int32) (a6 : Int32) (a8 : Option Nat)  (M : Mm) : Option (Mm) :=
    (gI M 13 836 a8).bind fun v1 =>
    if v1 < 0 then (
    fX16_fragment_L230 fu  a0 a1 a2 a3 a4 a5 a6 a8 (a3 + a5) M)
    else (
    if a6 = 0 then (
    (gI M 13 836 a8).bind fun v2 =>
    if (a3 + a5) = v2 then (
    fX16_fragment_L230 fu  a0 a1 a2 a3 a4 a5 a6 a8 (a3 + a5) M)
    else (
    fX16_fragment_L226 fu  a0 a1 a2 a3 a4 a5 a6 a8 (a3 + a5) M))
    else (
    (gI M 13 836 a8).bind fun v3 =>
    if (a3 + a5) ≤ v3 then (
    fX16_fragment_L230 fu  a0 a1 a2 a3 a4 a5 a6 a8 (a3 + a5) M)
    else (
    fX16_fragment_L226 fu  a0 a1 a2 a3 a4 a5 a6 a8 (a3 + a5) M)))
def fX16_fragment_L161 (fu : Nat)  : Nat → Nat → Int32 → Int32 → Int32 → Int32 → Int32 → Int32 → Option Nat → Int32 → Mm → Option (Mm)
  | 0, _, _, _, _, _, _, _, _, _, _ => none
  | n + 1, a0, a1, a2, a3, a4, a5, a6, a8, a10, M =>
    if (4096 : Int32) ≤ a10 then (
    fX16_fragment_L184 fu  a0 a1 a2 a3 a4 a5 a6 a8 M)
    else (
    (gR M 13 840 a8).bind fun v1 =>
    (pA M 102 v1 a10 ((0 : Int32) &&& 1)).bind fun M2 =>
    fX16_fragment_L161 fu  n a0 a1 a2 a3 a4 a5 a6 a8 (a10 + (1 : Int32)) M2)
def fX16_fragment_L78 (fu : Nat) (k17 : Nat → Int32 → Int32 → Int32 → Int32 → Int32 → Int32 → Int32 → Option Nat → Option Nat → Int32 → Mm → Option (Mm)) (a0 : Nat) (a1 : Int32) (a2 : Int32) (a3 : Int32) (a4 : Int32) (a5 : Int32) (a6 : Int32) (a7 : Int32) (a8 : Option Nat) (a9 : Option Nat) (a10 : Int32)  (M : Mm) : Option (Mm) :=
    k17 a0 a1 a2 a3 a4 a5 a6 a7 a8 a9 (a10 + (-1 : Int32)) M
def fX16_fragment_L17 (fu : Nat)  : Nat → Nat → Int32 → Int32 → Int32 → Int32 → Int32 → Int32 → Int32 → Option Nat → Option Nat → Int32 → Mm → Option (Mm)
  | 0, _, _, _, _, _, _, _, _, _, _, _, _ => none
  | n + 1, a0, a1, a2, a3, a4, a5, a6, a7, a8, a9, a10, M =>
    if a10 < 0 then (
    if a8 = none then (
    if a9 = none then (
    some M)
    else (
    (pZ M 13 832 a9 (1 : Int32)).bind fun M1 =>
    (pF M1 13 833 a9 a1).bind fun M2 =>
    (pF M2 13 834 a9 a7).bind fun M3 =>
    (pF M3 13 835 a9 a2).bind fun M4 =>
    (pF M4 13 836 a9 (-1 : Int32)).bind fun M5 =>
    (gI M5 16 1034 (some a0)).bind fun v6 =>
    (pF M5 13 837 a9 v6).bind fun M7 =>
    (gI M7 16 1049 (some a0)).bind fun v8 =>
    (pF M7 16 1049 (some a0) (v8 + (1 : Int32))).bind fun M9 =>
    (gI M9 16 1049 (some a0)).bind fun v10 =>
    (pF M9 13 838 a9 v10).bind fun M11 =>
    fX16_fragment_L161 fu  fu a0 a1 a2 a3 a4 a5 a6 a9 (0 : Int32) M11))
    else (
    fX16_fragment_L184 fu  a0 a1 a2 a3 a4 a5 a6 a8 M))
    else (
    (gR M 16 1052 (some a0)).bind fun v12 =>
    (gB M 123 v12 a10).bind fun v13 =>
    (gI M 13 832 v13).bind fun v14 =>
    if v14 = 0 then (
    fX16_fragment_L78 fu (fun b0 b1 b2 b3 b4 b5 b6 b7 b8 b9 b10 M => fX16_fragment_L17 fu  n b0 b1 b2 b3 b4 b5 b6 b7 b8 b9 b10 M) a0 a1 a2 a3 a4 a5 a6 a7 a8 v13 a10 M)
    else (
    (gI M 13 833 v13).bind fun v15 =>
    if v15 = a1 then (
    (gI M 13 834 v13).bind fun v16 =>
    if v16 = a7 then (
    (gI M 13 835 v13).bind fun v17 =>
    if v17 = a2 then (
    fX16_fragment_L78 fu (fun b0 b1 b2 b3 b4 b5 b6 b7 b8 b9 b10 M => fX16_fragment_L17 fu  n b0 b1 b2 b3 b4 b5 b6 b7 b8 b9 b10 M) a0 a1 a2 a3 a4 a5 a6 a7 v13 a9 a10 M)
    else (
    fX16_fragment_L78 fu (fun b0 b1 b2 b3 b4 b5 b6 b7 b8 b9 b10 M => fX16_fragment_L17 fu  n b0 b1 b2 b3 b4 b5 b6 b7 b8 b9 b10 M) a0 a1 a2 a3 a4 a5 a6 a7 a8 a9 a10 M))
    else (
    fX16_fragment_L78 fu (fun b0 b1 b2 b3 b4 b5 b6 b7 b8 b9 b10 M => fX16_fragment_L17 fu  n b0 b1 b2 b3 b4 b5 b6 b7 b8 b9 b10 M) a0 a1 a2 a3 a4 a5 a6 a7 a8 a9 a10 M))
    else (
    fX16_fragment_L78 fu (fun b0 b1 b2 b3 b4 b5 b6 b7 b8 b9 b10 M => fX16_fragment_L17 fu  n b0 b1 b2 b3 b4 b5 b6 b7 b8 b9 b10 M) a0 a1 a2 a3 a4 a5 a6 a7 a8 a9 a10 M)))
def fX16_fragment (fu : Nat)  (a0 : Nat) (a1 : Int32) (a2 : Int32) (a3 : Int32) (a4 : Int32) (a5 : Int32) (a6 : Int32)  (M : Mm) : Option (Mm) :=
    (rc M 16 (some a0)).bind fun q1 =>
    b2 (fX16_trayHalf fu q1 (18 : Int32) M) fun v3 M2 =>
    fX16_fragment_L17 fu  fu a0 a1 a2 a3 a4 a5 a6 v3 none none (3 : Int32) M2
theorem dX16_fragment_0 : decode cX16_fragment 0 = .ok (.aload_n 0, 1) := by decide +kernel
theorem dX16_fragment_1 : decode cX16_fragment 1 = .ok (.bipush 18, 2) := by decide +kernel
theorem dX16_fragment_3 : decode cX16_fragment 3 = .ok (.invokevirtual 210, 3) := by decide +kernel
theorem dX16_fragment_6 : decode cX16_fragment 6 = .ok (.istore 7, 2) := by decide +kernel
theorem dX16_fragment_8 : decode cX16_fragment 8 = .ok (.aconst_null, 1) := by decide +kernel
theorem dX16_fragment_9 : decode cX16_fragment 9 = .ok (.astore 8, 2) := by decide +kernel
theorem dX16_fragment_11 : decode cX16_fragment 11 = .ok (.aconst_null, 1) := by decide +kernel
theorem dX16_fragment_12 : decode cX16_fragment 12 = .ok (.astore 9, 2) := by decide +kernel
theorem dX16_fragment_14 : decode cX16_fragment 14 = .ok (.iconst 3, 1) := by decide +kernel
theorem dX16_fragment_15 : decode cX16_fragment 15 = .ok (.istore 10, 2) := by decide +kernel
theorem dX16_fragment_17 : decode cX16_fragment 17 = .ok (.iload 10, 2) := by decide +kernel
theorem dX16_fragment_19 : decode cX16_fragment 19 = .ok (.ifCond .lt 65, 3) := by decide +kernel
theorem dX16_fragment_22 : decode cX16_fragment 22 = .ok (.aload_n 0, 1) := by decide +kernel
theorem dX16_fragment_23 : decode cX16_fragment 23 = .ok (.getfield 61, 3) := by decide +kernel
theorem dX16_fragment_26 : decode cX16_fragment 26 = .ok (.iload 10, 2) := by decide +kernel
theorem dX16_fragment_28 : decode cX16_fragment 28 = .ok (.aaload, 1) := by decide +kernel
theorem dX16_fragment_29 : decode cX16_fragment 29 = .ok (.astore 11, 2) := by decide +kernel
theorem dX16_fragment_31 : decode cX16_fragment 31 = .ok (.aload 11, 2) := by decide +kernel
theorem dX16_fragment_33 : decode cX16_fragment 33 = .ok (.getfield 159, 3) := by decide +kernel
theorem dX16_fragment_36 : decode cX16_fragment 36 = .ok (.ifCond .ne 10, 3) := by decide +kernel
theorem dX16_fragment_39 : decode cX16_fragment 39 = .ok (.aload 11, 2) := by decide +kernel
theorem dX16_fragment_41 : decode cX16_fragment 41 = .ok (.astore 9, 2) := by decide +kernel
theorem dX16_fragment_43 : decode cX16_fragment 43 = .ok (.goto 35, 3) := by decide +kernel
theorem dX16_fragment_46 : decode cX16_fragment 46 = .ok (.aload 11, 2) := by decide +kernel
theorem dX16_fragment_48 : decode cX16_fragment 48 = .ok (.getfield 251, 3) := by decide +kernel
theorem dX16_fragment_51 : decode cX16_fragment 51 = .ok (.iload_n 1, 1) := by decide +kernel
theorem dX16_fragment_52 : decode cX16_fragment 52 = .ok (.if_icmp .ne 26, 3) := by decide +kernel
theorem dX16_fragment_55 : decode cX16_fragment 55 = .ok (.aload 11, 2) := by decide +kernel
theorem dX16_fragment_57 : decode cX16_fragment 57 = .ok (.getfield 252, 3) := by decide +kernel
theorem dX16_fragment_60 : decode cX16_fragment 60 = .ok (.iload 7, 2) := by decide +kernel
theorem dX16_fragment_62 : decode cX16_fragment 62 = .ok (.if_icmp .ne 16, 3) := by decide +kernel
theorem dX16_fragment_65 : decode cX16_fragment 65 = .ok (.aload 11, 2) := by decide +kernel
theorem dX16_fragment_67 : decode cX16_fragment 67 = .ok (.getfield 253, 3) := by decide +kernel
theorem dX16_fragment_70 : decode cX16_fragment 70 = .ok (.iload_n 2, 1) := by decide +kernel
theorem dX16_fragment_71 : decode cX16_fragment 71 = .ok (.if_icmp .ne 7, 3) := by decide +kernel
theorem dX16_fragment_74 : decode cX16_fragment 74 = .ok (.aload 11, 2) := by decide +kernel
theorem dX16_fragment_76 : decode cX16_fragment 76 = .ok (.astore 8, 2) := by decide +kernel
theorem dX16_fragment_78 : decode cX16_fragment 78 = .ok (.iinc 10 (-1), 3) := by decide +kernel
theorem dX16_fragment_81 : decode cX16_fragment 81 = .ok (.goto (-64), 3) := by decide +kernel
theorem dX16_fragment_84 : decode cX16_fragment 84 = .ok (.aload 8, 2) := by decide +kernel
theorem dX16_fragment_86 : decode cX16_fragment 86 = .ok (.ifnonnull 98, 3) := by decide +kernel
theorem dX16_fragment_89 : decode cX16_fragment 89 = .ok (.aload 9, 2) := by decide +kernel
theorem dX16_fragment_91 : decode cX16_fragment 91 = .ok (.ifnonnull 4, 3) := by decide +kernel
theorem dX16_fragment_94 : decode cX16_fragment 94 = .ok (.return_, 1) := by decide +kernel
theorem dX16_fragment_95 : decode cX16_fragment 95 = .ok (.aload 9, 2) := by decide +kernel
theorem dX16_fragment_97 : decode cX16_fragment 97 = .ok (.astore 8, 2) := by decide +kernel
theorem dX16_fragment_99 : decode cX16_fragment 99 = .ok (.aload 8, 2) := by decide +kernel
theorem dX16_fragment_101 : decode cX16_fragment 101 = .ok (.iconst 1, 1) := by decide +kernel
theorem dX16_fragment_102 : decode cX16_fragment 102 = .ok (.putfield 159, 3) := by decide +kernel
theorem dX16_fragment_105 : decode cX16_fragment 105 = .ok (.aload 8, 2) := by decide +kernel
theorem dX16_fragment_107 : decode cX16_fragment 107 = .ok (.iload_n 1, 1) := by decide +kernel
theorem dX16_fragment_108 : decode cX16_fragment 108 = .ok (.putfield 251, 3) := by decide +kernel
theorem dX16_fragment_111 : decode cX16_fragment 111 = .ok (.aload 8, 2) := by decide +kernel
theorem dX16_fragment_113 : decode cX16_fragment 113 = .ok (.iload 7, 2) := by decide +kernel
theorem dX16_fragment_115 : decode cX16_fragment 115 = .ok (.putfield 252, 3) := by decide +kernel
theorem dX16_fragment_118 : decode cX16_fragment 118 = .ok (.aload 8, 2) := by decide +kernel
theorem dX16_fragment_120 : decode cX16_fragment 120 = .ok (.iload_n 2, 1) := by decide +kernel
theorem dX16_fragment_121 : decode cX16_fragment 121 = .ok (.putfield 253, 3) := by decide +kernel
theorem dX16_fragment_124 : decode cX16_fragment 124 = .ok (.aload 8, 2) := by decide +kernel
theorem dX16_fragment_126 : decode cX16_fragment 126 = .ok (.iconst (-1), 1) := by decide +kernel
theorem dX16_fragment_127 : decode cX16_fragment 127 = .ok (.putfield 256, 3) := by decide +kernel
theorem dX16_fragment_130 : decode cX16_fragment 130 = .ok (.aload 8, 2) := by decide +kernel
theorem dX16_fragment_132 : decode cX16_fragment 132 = .ok (.aload_n 0, 1) := by decide +kernel
theorem dX16_fragment_133 : decode cX16_fragment 133 = .ok (.getfield 134, 3) := by decide +kernel
theorem dX16_fragment_136 : decode cX16_fragment 136 = .ok (.putfield 259, 3) := by decide +kernel
theorem dX16_fragment_139 : decode cX16_fragment 139 = .ok (.aload_n 0, 1) := by decide +kernel
theorem dX16_fragment_140 : decode cX16_fragment 140 = .ok (.dup, 1) := by decide +kernel
theorem dX16_fragment_141 : decode cX16_fragment 141 = .ok (.getfield 149, 3) := by decide +kernel
theorem dX16_fragment_144 : decode cX16_fragment 144 = .ok (.iconst 1, 1) := by decide +kernel
theorem dX16_fragment_145 : decode cX16_fragment 145 = .ok (.iadd, 1) := by decide +kernel
theorem dX16_fragment_146 : decode cX16_fragment 146 = .ok (.putfield 149, 3) := by decide +kernel
theorem dX16_fragment_149 : decode cX16_fragment 149 = .ok (.aload 8, 2) := by decide +kernel
theorem dX16_fragment_151 : decode cX16_fragment 151 = .ok (.aload_n 0, 1) := by decide +kernel
theorem dX16_fragment_152 : decode cX16_fragment 152 = .ok (.getfield 149, 3) := by decide +kernel
theorem dX16_fragment_155 : decode cX16_fragment 155 = .ok (.putfield 262, 3) := by decide +kernel
theorem dX16_fragment_158 : decode cX16_fragment 158 = .ok (.iconst 0, 1) := by decide +kernel
theorem dX16_fragment_159 : decode cX16_fragment 159 = .ok (.istore 10, 2) := by decide +kernel
theorem dX16_fragment_161 : decode cX16_fragment 161 = .ok (.iload 10, 2) := by decide +kernel
theorem dX16_fragment_163 : decode cX16_fragment 163 = .ok (.sipush 4096, 3) := by decide +kernel
theorem dX16_fragment_166 : decode cX16_fragment 166 = .ok (.if_icmp .ge 18, 3) := by decide +kernel
theorem dX16_fragment_169 : decode cX16_fragment 169 = .ok (.aload 8, 2) := by decide +kernel
theorem dX16_fragment_171 : decode cX16_fragment 171 = .ok (.getfield 263, 3) := by decide +kernel
theorem dX16_fragment_174 : decode cX16_fragment 174 = .ok (.iload 10, 2) := by decide +kernel
theorem dX16_fragment_176 : decode cX16_fragment 176 = .ok (.iconst 0, 1) := by decide +kernel
theorem dX16_fragment_177 : decode cX16_fragment 177 = .ok (.bastore, 1) := by decide +kernel
theorem dX16_fragment_178 : decode cX16_fragment 178 = .ok (.iinc 10 1, 3) := by decide +kernel
theorem dX16_fragment_181 : decode cX16_fragment 181 = .ok (.goto (-20), 3) := by decide +kernel
theorem dX16_fragment_184 : decode cX16_fragment 184 = .ok (.iload_n 3, 1) := by decide +kernel
theorem dX16_fragment_185 : decode cX16_fragment 185 = .ok (.iload 5, 2) := by decide +kernel
theorem dX16_fragment_187 : decode cX16_fragment 187 = .ok (.iadd, 1) := by decide +kernel
theorem dX16_fragment_188 : decode cX16_fragment 188 = .ok (.istore 10, 2) := by decide +kernel
theorem dX16_fragment_190 : decode cX16_fragment 190 = .ok (.aload 8, 2) := by decide +kernel
theorem dX16_fragment_192 : decode cX16_fragment 192 = .ok (.getfield 256, 3) := by decide +kernel
theorem dX16_fragment_195 : decode cX16_fragment 195 = .ok (.ifCond .lt 35, 3) := by decide +kernel
theorem dX16_fragment_198 : decode cX16_fragment 198 = .ok (.iload 6, 2) := by decide +kernel
theorem dX16_fragment_200 : decode cX16_fragment 200 = .ok (.ifCond .eq 16, 3) := by decide +kernel
theorem dX16_fragment_203 : decode cX16_fragment 203 = .ok (.iload 10, 2) := by decide +kernel
theorem dX16_fragment_205 : decode cX16_fragment 205 = .ok (.aload 8, 2) := by decide +kernel
theorem dX16_fragment_207 : decode cX16_fragment 207 = .ok (.getfield 256, 3) := by decide +kernel
theorem dX16_fragment_210 : decode cX16_fragment 210 = .ok (.if_icmp .le 20, 3) := by decide +kernel
theorem dX16_fragment_213 : decode cX16_fragment 213 = .ok (.goto 13, 3) := by decide +kernel
theorem dX16_fragment_216 : decode cX16_fragment 216 = .ok (.iload 10, 2) := by decide +kernel
theorem dX16_fragment_218 : decode cX16_fragment 218 = .ok (.aload 8, 2) := by decide +kernel
theorem dX16_fragment_220 : decode cX16_fragment 220 = .ok (.getfield 256, 3) := by decide +kernel
theorem dX16_fragment_223 : decode cX16_fragment 223 = .ok (.if_icmp .eq 7, 3) := by decide +kernel
theorem dX16_fragment_226 : decode cX16_fragment 226 = .ok (.iconst 1, 1) := by decide +kernel
theorem dX16_fragment_227 : decode cX16_fragment 227 = .ok (.goto 4, 3) := by decide +kernel
theorem dX16_fragment_230 : decode cX16_fragment 230 = .ok (.iconst 0, 1) := by decide +kernel
theorem dX16_fragment_231 : decode cX16_fragment 231 = .ok (.istore 11, 2) := by decide +kernel
theorem dX16_fragment_233 : decode cX16_fragment 233 = .ok (.iload 6, 2) := by decide +kernel
theorem dX16_fragment_235 : decode cX16_fragment 235 = .ok (.ifCond .ne 44, 3) := by decide +kernel
theorem dX16_fragment_238 : decode cX16_fragment 238 = .ok (.iload 10, 2) := by decide +kernel
theorem dX16_fragment_240 : decode cX16_fragment 240 = .ok (.istore 12, 2) := by decide +kernel
theorem dX16_fragment_242 : decode cX16_fragment 242 = .ok (.iload 12, 2) := by decide +kernel
theorem dX16_fragment_244 : decode cX16_fragment 244 = .ok (.sipush 4096, 3) := by decide +kernel
theorem dX16_fragment_247 : decode cX16_fragment 247 = .ok (.if_icmp .ge 32, 3) := by decide +kernel
theorem dX16_fragment_250 : decode cX16_fragment 250 = .ok (.iload 11, 2) := by decide +kernel
theorem dX16_fragment_252 : decode cX16_fragment 252 = .ok (.ifCond .ne 14, 3) := by decide +kernel
theorem dX16_fragment_255 : decode cX16_fragment 255 = .ok (.aload 8, 2) := by decide +kernel
theorem dX16_fragment_257 : decode cX16_fragment 257 = .ok (.getfield 263, 3) := by decide +kernel
theorem dX16_fragment_260 : decode cX16_fragment 260 = .ok (.iload 12, 2) := by decide +kernel
theorem dX16_fragment_262 : decode cX16_fragment 262 = .ok (.baload, 1) := by decide +kernel
theorem dX16_fragment_263 : decode cX16_fragment 263 = .ok (.ifCond .eq 7, 3) := by decide +kernel
theorem dX16_fragment_266 : decode cX16_fragment 266 = .ok (.iconst 1, 1) := by decide +kernel
theorem dX16_fragment_267 : decode cX16_fragment 267 = .ok (.goto 4, 3) := by decide +kernel
theorem dX16_fragment_270 : decode cX16_fragment 270 = .ok (.iconst 0, 1) := by decide +kernel
theorem dX16_fragment_271 : decode cX16_fragment 271 = .ok (.istore 11, 2) := by decide +kernel
theorem dX16_fragment_273 : decode cX16_fragment 273 = .ok (.iinc 12 1, 3) := by decide +kernel
theorem dX16_fragment_276 : decode cX16_fragment 276 = .ok (.goto (-34), 3) := by decide +kernel
theorem dX16_fragment_279 : decode cX16_fragment 279 = .ok (.iload 11, 2) := by decide +kernel
theorem dX16_fragment_281 : decode cX16_fragment 281 = .ok (.ifCond .eq 10, 3) := by decide +kernel
theorem dX16_fragment_284 : decode cX16_fragment 284 = .ok (.aload 8, 2) := by decide +kernel
theorem dX16_fragment_286 : decode cX16_fragment 286 = .ok (.iconst 0, 1) := by decide +kernel
theorem dX16_fragment_287 : decode cX16_fragment 287 = .ok (.putfield 159, 3) := by decide +kernel
theorem dX16_fragment_290 : decode cX16_fragment 290 = .ok (.return_, 1) := by decide +kernel
theorem dX16_fragment_291 : decode cX16_fragment 291 = .ok (.iload 6, 2) := by decide +kernel
theorem dX16_fragment_293 : decode cX16_fragment 293 = .ok (.ifCond .ne 10, 3) := by decide +kernel
theorem dX16_fragment_296 : decode cX16_fragment 296 = .ok (.aload 8, 2) := by decide +kernel
theorem dX16_fragment_298 : decode cX16_fragment 298 = .ok (.iload 10, 2) := by decide +kernel
theorem dX16_fragment_300 : decode cX16_fragment 300 = .ok (.putfield 256, 3) := by decide +kernel
theorem dX16_fragment_303 : decode cX16_fragment 303 = .ok (.iconst 0, 1) := by decide +kernel
theorem dX16_fragment_304 : decode cX16_fragment 304 = .ok (.istore 12, 2) := by decide +kernel
theorem dX16_fragment_306 : decode cX16_fragment 306 = .ok (.iload 12, 2) := by decide +kernel
theorem dX16_fragment_308 : decode cX16_fragment 308 = .ok (.iload 5, 2) := by decide +kernel
theorem dX16_fragment_310 : decode cX16_fragment 310 = .ok (.if_icmp .ge 53, 3) := by decide +kernel
theorem dX16_fragment_313 : decode cX16_fragment 313 = .ok (.aload 8, 2) := by decide +kernel
theorem dX16_fragment_315 : decode cX16_fragment 315 = .ok (.getfield 263, 3) := by decide +kernel
theorem dX16_fragment_318 : decode cX16_fragment 318 = .ok (.iload_n 3, 1) := by decide +kernel
theorem dX16_fragment_319 : decode cX16_fragment 319 = .ok (.iload 12, 2) := by decide +kernel
theorem dX16_fragment_321 : decode cX16_fragment 321 = .ok (.iadd, 1) := by decide +kernel
theorem dX16_fragment_322 : decode cX16_fragment 322 = .ok (.baload, 1) := by decide +kernel
theorem dX16_fragment_323 : decode cX16_fragment 323 = .ok (.ifCond .ne 34, 3) := by decide +kernel
theorem dX16_fragment_326 : decode cX16_fragment 326 = .ok (.aload 8, 2) := by decide +kernel
theorem dX16_fragment_328 : decode cX16_fragment 328 = .ok (.getfield 263, 3) := by decide +kernel
theorem dX16_fragment_331 : decode cX16_fragment 331 = .ok (.iload_n 3, 1) := by decide +kernel
theorem dX16_fragment_332 : decode cX16_fragment 332 = .ok (.iload 12, 2) := by decide +kernel
theorem dX16_fragment_334 : decode cX16_fragment 334 = .ok (.iadd, 1) := by decide +kernel
theorem dX16_fragment_335 : decode cX16_fragment 335 = .ok (.iconst 1, 1) := by decide +kernel
theorem dX16_fragment_336 : decode cX16_fragment 336 = .ok (.bastore, 1) := by decide +kernel
theorem dX16_fragment_337 : decode cX16_fragment 337 = .ok (.aload 8, 2) := by decide +kernel
theorem dX16_fragment_339 : decode cX16_fragment 339 = .ok (.getfield 267, 3) := by decide +kernel
theorem dX16_fragment_342 : decode cX16_fragment 342 = .ok (.iload_n 3, 1) := by decide +kernel
theorem dX16_fragment_343 : decode cX16_fragment 343 = .ok (.iload 12, 2) := by decide +kernel
theorem dX16_fragment_345 : decode cX16_fragment 345 = .ok (.iadd, 1) := by decide +kernel
theorem dX16_fragment_346 : decode cX16_fragment 346 = .ok (.aload_n 0, 1) := by decide +kernel
theorem dX16_fragment_347 : decode cX16_fragment 347 = .ok (.getfield 10, 3) := by decide +kernel
theorem dX16_fragment_350 : decode cX16_fragment 350 = .ok (.iload 4, 2) := by decide +kernel
theorem dX16_fragment_352 : decode cX16_fragment 352 = .ok (.iload 12, 2) := by decide +kernel
theorem dX16_fragment_354 : decode cX16_fragment 354 = .ok (.iadd, 1) := by decide +kernel
theorem dX16_fragment_355 : decode cX16_fragment 355 = .ok (.baload, 1) := by decide +kernel
theorem dX16_fragment_356 : decode cX16_fragment 356 = .ok (.bastore, 1) := by decide +kernel
theorem dX16_fragment_357 : decode cX16_fragment 357 = .ok (.iinc 12 1, 3) := by decide +kernel
theorem dX16_fragment_360 : decode cX16_fragment 360 = .ok (.goto (-54), 3) := by decide +kernel
theorem dX16_fragment_363 : decode cX16_fragment 363 = .ok (.aload 8, 2) := by decide +kernel
theorem dX16_fragment_365 : decode cX16_fragment 365 = .ok (.getfield 256, 3) := by decide +kernel
theorem dX16_fragment_368 : decode cX16_fragment 368 = .ok (.ifCond .ge 4, 3) := by decide +kernel
theorem dX16_fragment_371 : decode cX16_fragment 371 = .ok (.return_, 1) := by decide +kernel
theorem dX16_fragment_372 : decode cX16_fragment 372 = .ok (.iconst 0, 1) := by decide +kernel
theorem dX16_fragment_373 : decode cX16_fragment 373 = .ok (.istore 12, 2) := by decide +kernel
theorem dX16_fragment_375 : decode cX16_fragment 375 = .ok (.iload 12, 2) := by decide +kernel
theorem dX16_fragment_377 : decode cX16_fragment 377 = .ok (.aload 8, 2) := by decide +kernel
theorem dX16_fragment_379 : decode cX16_fragment 379 = .ok (.getfield 256, 3) := by decide +kernel
theorem dX16_fragment_382 : decode cX16_fragment 382 = .ok (.if_icmp .ge 21, 3) := by decide +kernel
theorem dX16_fragment_385 : decode cX16_fragment 385 = .ok (.aload 8, 2) := by decide +kernel
theorem dX16_fragment_387 : decode cX16_fragment 387 = .ok (.getfield 263, 3) := by decide +kernel
theorem dX16_fragment_390 : decode cX16_fragment 390 = .ok (.iload 12, 2) := by decide +kernel
theorem dX16_fragment_392 : decode cX16_fragment 392 = .ok (.baload, 1) := by decide +kernel
theorem dX16_fragment_393 : decode cX16_fragment 393 = .ok (.ifCond .ne 4, 3) := by decide +kernel
theorem dX16_fragment_396 : decode cX16_fragment 396 = .ok (.return_, 1) := by decide +kernel
theorem dX16_fragment_397 : decode cX16_fragment 397 = .ok (.iinc 12 1, 3) := by decide +kernel
theorem dX16_fragment_400 : decode cX16_fragment 400 = .ok (.goto (-25), 3) := by decide +kernel
theorem dX16_fragment_403 : decode cX16_fragment 403 = .ok (.aload 8, 2) := by decide +kernel
theorem dX16_fragment_405 : decode cX16_fragment 405 = .ok (.iconst 0, 1) := by decide +kernel
theorem dX16_fragment_406 : decode cX16_fragment 406 = .ok (.putfield 159, 3) := by decide +kernel
theorem dX16_fragment_409 : decode cX16_fragment 409 = .ok (.aload_n 0, 1) := by decide +kernel
theorem dX16_fragment_410 : decode cX16_fragment 410 = .ok (.getfield 31, 3) := by decide +kernel
theorem dX16_fragment_413 : decode cX16_fragment 413 = .ok (.iconst 1, 1) := by decide +kernel
theorem dX16_fragment_414 : decode cX16_fragment 414 = .ok (.dup2, 1) := by decide +kernel
theorem dX16_fragment_415 : decode cX16_fragment 415 = .ok (.iaload, 1) := by decide +kernel
theorem dX16_fragment_416 : decode cX16_fragment 416 = .ok (.iconst 1, 1) := by decide +kernel
theorem dX16_fragment_417 : decode cX16_fragment 417 = .ok (.iadd, 1) := by decide +kernel
theorem dX16_fragment_418 : decode cX16_fragment 418 = .ok (.iastore, 1) := by decide +kernel
theorem dX16_fragment_419 : decode cX16_fragment 419 = .ok (.iconst 0, 1) := by decide +kernel
theorem dX16_fragment_420 : decode cX16_fragment 420 = .ok (.istore 12, 2) := by decide +kernel
theorem dX16_fragment_422 : decode cX16_fragment 422 = .ok (.iload 12, 2) := by decide +kernel
theorem dX16_fragment_424 : decode cX16_fragment 424 = .ok (.aload 8, 2) := by decide +kernel
theorem dX16_fragment_426 : decode cX16_fragment 426 = .ok (.getfield 256, 3) := by decide +kernel
theorem dX16_fragment_429 : decode cX16_fragment 429 = .ok (.if_icmp .ge 24, 3) := by decide +kernel
theorem dX16_fragment_432 : decode cX16_fragment 432 = .ok (.aload_n 0, 1) := by decide +kernel
theorem dX16_fragment_433 : decode cX16_fragment 433 = .ok (.getfield 65, 3) := by decide +kernel
theorem dX16_fragment_436 : decode cX16_fragment 436 = .ok (.iload 12, 2) := by decide +kernel
theorem dX16_fragment_438 : decode cX16_fragment 438 = .ok (.aload 8, 2) := by decide +kernel
theorem dX16_fragment_440 : decode cX16_fragment 440 = .ok (.getfield 267, 3) := by decide +kernel
theorem dX16_fragment_443 : decode cX16_fragment 443 = .ok (.iload 12, 2) := by decide +kernel
theorem dX16_fragment_445 : decode cX16_fragment 445 = .ok (.baload, 1) := by decide +kernel
theorem dX16_fragment_446 : decode cX16_fragment 446 = .ok (.bastore, 1) := by decide +kernel
theorem dX16_fragment_447 : decode cX16_fragment 447 = .ok (.iinc 12 1, 3) := by decide +kernel
theorem dX16_fragment_450 : decode cX16_fragment 450 = .ok (.goto (-28), 3) := by decide +kernel
theorem dX16_fragment_453 : decode cX16_fragment 453 = .ok (.aload_n 0, 1) := by decide +kernel
theorem dX16_fragment_454 : decode cX16_fragment 454 = .ok (.iload_n 1, 1) := by decide +kernel
theorem dX16_fragment_455 : decode cX16_fragment 455 = .ok (.putfield 240, 3) := by decide +kernel
theorem dX16_fragment_458 : decode cX16_fragment 458 = .ok (.aload_n 0, 1) := by decide +kernel
theorem dX16_fragment_459 : decode cX16_fragment 459 = .ok (.iload_n 2, 1) := by decide +kernel
theorem dX16_fragment_460 : decode cX16_fragment 460 = .ok (.aload 8, 2) := by decide +kernel
theorem dX16_fragment_462 : decode cX16_fragment 462 = .ok (.getfield 256, 3) := by decide +kernel
theorem dX16_fragment_465 : decode cX16_fragment 465 = .ok (.invokevirtual 243, 3) := by decide +kernel
theorem dX16_fragment_468 : decode cX16_fragment 468 = .ok (.return_, 1) := by decide +kernel
theorem wX16_fragment_L422 {x : GX} {n0 sl0 : Nat} (X : Cx x cX16_fragment RX16 none n0 sl0 14 323) {out : Mm} (hE : Ends x n0 sl0 none out) (hn : xn x = 13) (fu : Nat)   : ∀ (n : Nat) (a0 : Nat) (a1 : Int32) (a2 : Int32) (a8 : Option Nat) (a12 : Int32)  (M : Mm), fX16_fragment_L422 fu  n a0 a1 a2 a8 a12 M = some out → Gw x M 422 [(0, pR (some a0)), (1, pI a1), (2, pI a2), (8, pR a8), (12, pI a12)] [] := by
  intro n
  induction n with
  | zero =>
    intro a0 a1 a2 a8 a12 M h
    have h : (none : Option (Mm)) = some out := h
    cases h
  | succ n ih =>
    intro a0 a1 a2 a8 a12 M h
    rw [fX16_fragment_L422] at h
    refine g_iload X (pc := 422) 4 rfl dX16_fragment_422 ?_
    refine g_aload X (pc := 424) 3 rfl dX16_fragment_424 ?_
    obtain ⟨v1, ev1, h⟩ := bd h
    refine g_getI X (pc := 426) fk_13_4 rfl rfl ev1 tb_1788 dX16_fragment_426 ?_
    refine g_icmp_ge X (pc := 429) (tgt := 453) dX16_fragment_429 (by decide) (fun hc => ?_) (fun hc => ?_)
    · have h := (if_pos hc).symm.trans h
      refine g_aload_n X (pc := 453) 0 rfl rfl dX16_fragment_453 ?_
      refine g_iload_n X (pc := 454) 1 rfl rfl dX16_fragment_454 ?_
      obtain ⟨M2, eM2, h⟩ := bd h
      refine g_putI X (pc := 455) fk_16_30 rfl rfl rfl eM2 tb_1844 (Or.inl rfl) dX16_fragment_455 ?_
      refine g_aload_n X (pc := 458) 0 rfl rfl dX16_fragment_458 ?_
      refine g_iload_n X (pc := 459) 2 rfl rfl dX16_fragment_459 ?_
      refine g_aload X (pc := 460) 3 rfl dX16_fragment_460 ?_
      obtain ⟨v3, ev3, h⟩ := bd h
      refine g_getI X (pc := 462) fk_13_4 rfl rfl ev3 tb_1788 dX16_fragment_462 ?_
      obtain ⟨q4, eq4, h⟩ := bd h
      obtain ⟨M5, eM5, h⟩ := bd h
      refine g_callV X (pc := 465) (M' := M5) (ro := none) (c := 16) rfl (by decide) (as := [pI a2, pI v3]) (as' := [pI v3, pI a2]) (st := []) eq4 (ctX16_taken _ _ _ _ _ _ fu q4 a2 v3 M2 _ eM5) tb_2226 tb_2223 tb_2225 ts_98 tb_8 ⟨rfl, hyX16_taken⟩ rfl rfl ⟨by decide, by decide⟩ (Nat.le_of_ble_eq_true rfl) dX16_fragment_465 ?_
      obtain rfl := Option.some.inj h
      exact g_return X hE dX16_fragment_468
    · have h := (if_neg hc).symm.trans h
      refine g_aload_n X (pc := 432) 0 rfl rfl dX16_fragment_432 ?_
      obtain ⟨v6, ev6, h⟩ := bd h
      refine g_getR X (pc := 433) fk_16_29 rfl rfl ev6 tb_1843 dX16_fragment_433 ?_
      refine g_iload X (pc := 436) 4 rfl dX16_fragment_436 ?_
      refine g_aload X (pc := 438) 3 rfl dX16_fragment_438 ?_
      obtain ⟨v7, ev7, h⟩ := bd h
      refine g_getR X (pc := 440) fk_13_7 rfl rfl ev7 tb_1792 dX16_fragment_440 ?_
      refine g_iload X (pc := 443) 4 rfl dX16_fragment_443 ?_
      obtain ⟨v8, ev8, h⟩ := bd h
      refine g_baload X (pc := 445) ev8 dX16_fragment_445 ?_
      obtain ⟨M9, eM9, h⟩ := bd h
      refine g_bastore X (pc := 446) eM9 dX16_fragment_446 ?_
      refine g_iinc X (pc := 447) 4 [(12, pI (a12 + (1 : Int32))), (0, pR (some a0)), (1, pI a1), (2, pI a2), (8, pR a8)] rfl (iinc_e (by decide)) (lt_n hn (by decide)) rfl dX16_fragment_447 ?_
      refine g_goto X (pc := 450) (tgt := 422) dX16_fragment_450 (by decide) ?_
      refine g_sub [1, 2, 3, 4, 0] [(0, pR (some a0)), (1, pI a1), (2, pI a2), (8, pR a8), (12, pI (a12 + (1 : Int32)))] rfl ?_
      exact ih a0 a1 a2 a8 (a12 + (1 : Int32)) M9 h
theorem wX16_fragment_L375 {x : GX} {n0 sl0 : Nat} (X : Cx x cX16_fragment RX16 none n0 sl0 14 323) {out : Mm} (hE : Ends x n0 sl0 none out) (hn : xn x = 13) (fu : Nat)   : ∀ (n : Nat) (a0 : Nat) (a1 : Int32) (a2 : Int32) (a8 : Option Nat) (a12 : Int32)  (M : Mm), fX16_fragment_L375 fu  n a0 a1 a2 a8 a12 M = some out → Gw x M 375 [(0, pR (some a0)), (1, pI a1), (2, pI a2), (8, pR a8), (12, pI a12)] [] := by
  intro n
  induction n with
  | zero =>
    intro a0 a1 a2 a8 a12 M h
    have h : (none : Option (Mm)) = some out := h
    cases h
  | succ n ih =>
    intro a0 a1 a2 a8 a12 M h
    rw [fX16_fragment_L375] at h
    refine g_iload X (pc := 375) 4 rfl dX16_fragment_375 ?_
    refine g_aload X (pc := 377) 3 rfl dX16_fragment_377 ?_
    obtain ⟨v1, ev1, h⟩ := bd h
    refine g_getI X (pc := 379) fk_13_4 rfl rfl ev1 tb_1788 dX16_fragment_379 ?_
    refine g_icmp_ge X (pc := 382) (tgt := 403) dX16_fragment_382 (by decide) (fun hc => ?_) (fun hc => ?_)
    · have h := (if_pos hc).symm.trans h
      refine g_aload X (pc := 403) 3 rfl dX16_fragment_403 ?_
      refine g_iconst X (pc := 405) (v := 0) dX16_fragment_405 (by decide) ?_
      obtain ⟨M2, eM2, h⟩ := bd h
      refine g_putZ X (pc := 406) fk_13_0 rfl rfl rfl eM2 tb_1784 (Or.inl rfl) dX16_fragment_406 ?_
      refine g_aload_n X (pc := 409) 0 rfl rfl dX16_fragment_409 ?_
      obtain ⟨v3, ev3, h⟩ := bd h
      refine g_getR X (pc := 410) fk_16_17 rfl rfl ev3 tb_1831 dX16_fragment_410 ?_
      refine g_iconst X (pc := 413) (v := 1) dX16_fragment_413 (by decide) ?_
      refine g_dup2 X (pc := 414) rfl rfl dX16_fragment_414 ?_
      obtain ⟨v4, ev4, h⟩ := bd h
      refine g_iaload X (pc := 415) ev4 dX16_fragment_415 ?_
      refine g_iconst X (pc := 416) (v := 1) dX16_fragment_416 (by decide) ?_
      refine g_iadd X (pc := 417) dX16_fragment_417 ?_
      obtain ⟨M5, eM5, h⟩ := bd h
      refine g_iastore X (pc := 418) eM5 dX16_fragment_418 ?_
      refine g_iconst X (pc := 419) (v := 0) dX16_fragment_419 (by decide) ?_
      refine g_istore X (pc := 420) [(12, pI (0 : Int32)), (0, pR (some a0)), (1, pI a1), (2, pI a2), (8, pR a8)] (lt_n hn (by decide)) rfl dX16_fragment_420 ?_
      refine g_sub [1, 2, 3, 4, 0] [(0, pR (some a0)), (1, pI a1), (2, pI a2), (8, pR a8), (12, pI (0 : Int32))] rfl ?_
      exact wX16_fragment_L422 X hE hn fu   fu a0 a1 a2 a8 (0 : Int32) M5 h
    · have h := (if_neg hc).symm.trans h
      refine g_aload X (pc := 385) 3 rfl dX16_fragment_385 ?_
      obtain ⟨v6, ev6, h⟩ := bd h
      refine g_getR X (pc := 387) fk_13_8 rfl rfl ev6 tb_1794 dX16_fragment_387 ?_
      refine g_iload X (pc := 390) 4 rfl dX16_fragment_390 ?_
      obtain ⟨v7, ev7, h⟩ := bd h
      refine g_zaload X (pc := 392) ev7 dX16_fragment_392 ?_
      refine g_if_ne X (pc := 393) (tgt := 397) dX16_fragment_393 (by decide) (fun hc => ?_) (fun hc => ?_)
      · have h := (if_neg hc).symm.trans h
        refine g_iinc X (pc := 397) 4 [(12, pI (a12 + (1 : Int32))), (0, pR (some a0)), (1, pI a1), (2, pI a2), (8, pR a8)] rfl (iinc_e (by decide)) (lt_n hn (by decide)) rfl dX16_fragment_397 ?_
        refine g_goto X (pc := 400) (tgt := 375) dX16_fragment_400 (by decide) ?_
        refine g_sub [1, 2, 3, 4, 0] [(0, pR (some a0)), (1, pI a1), (2, pI a2), (8, pR a8), (12, pI (a12 + (1 : Int32)))] rfl ?_
        exact ih a0 a1 a2 a8 (a12 + (1 : Int32)) M h
      · have h := (if_pos hc).symm.trans h
        obtain rfl := Option.some.inj h
        exact g_return X hE dX16_fragment_396
theorem wX16_fragment_L357 {x : GX} {n0 sl0 : Nat} (X : Cx x cX16_fragment RX16 none n0 sl0 14 323) {out : Mm} (hE : Ends x n0 sl0 none out) (hn : xn x = 13) (fu : Nat) (k306 : Nat → Int32 → Int32 → Int32 → Int32 → Int32 → Option Nat → Int32 → Mm → Option (Mm)) (hk306 : ∀ (b0 : Nat) (b1 : Int32) (b2 : Int32) (b3 : Int32) (b4 : Int32) (b5 : Int32) (b8 : Option Nat) (b12 : Int32)  (M : Mm), k306 b0 b1 b2 b3 b4 b5 b8 b12 M = some out → Gw x M 306 [(0, pR (some b0)), (1, pI b1), (2, pI b2), (3, pI b3), (4, pI b4), (5, pI b5), (8, pR b8), (12, pI b12)] []) (a0 : Nat) (a1 : Int32) (a2 : Int32) (a3 : Int32) (a4 : Int32) (a5 : Int32) (a8 : Option Nat) (a12 : Int32)  (M : Mm) (h : fX16_fragment_L357 fu k306 a0 a1 a2 a3 a4 a5 a8 a12 M = some out) : Gw x M 357 [(0, pR (some a0)), (1, pI a1), (2, pI a2), (3, pI a3), (4, pI a4), (5, pI a5), (8, pR a8), (12, pI a12)] [] := by
  unfold fX16_fragment_L357 at h
  refine g_iinc X (pc := 357) 7 [(12, pI (a12 + (1 : Int32))), (0, pR (some a0)), (1, pI a1), (2, pI a2), (3, pI a3), (4, pI a4), (5, pI a5), (8, pR a8)] rfl (iinc_e (by decide)) (lt_n hn (by decide)) rfl dX16_fragment_357 ?_
  refine g_goto X (pc := 360) (tgt := 306) dX16_fragment_360 (by decide) ?_
  refine g_sub [1, 2, 3, 4, 5, 6, 7, 0] [(0, pR (some a0)), (1, pI a1), (2, pI a2), (3, pI a3), (4, pI a4), (5, pI a5), (8, pR a8), (12, pI (a12 + (1 : Int32)))] rfl ?_
  exact hk306 a0 a1 a2 a3 a4 a5 a8 (a12 + (1 : Int32)) M h
theorem wX16_fragment_L306 {x : GX} {n0 sl0 : Nat} (X : Cx x cX16_fragment RX16 none n0 sl0 14 323) {out : Mm} (hE : Ends x n0 sl0 none out) (hn : xn x = 13) (fu : Nat)   : ∀ (n : Nat) (a0 : Nat) (a1 : Int32) (a2 : Int32) (a3 : Int32) (a4 : Int32) (a5 : Int32) (a8 : Option Nat) (a12 : Int32)  (M : Mm), fX16_fragment_L306 fu  n a0 a1 a2 a3 a4 a5 a8 a12 M = some out → Gw x M 306 [(0, pR (some a0)), (1, pI a1), (2, pI a2), (3, pI a3), (4, pI a4), (5, pI a5), (8, pR a8), (12, pI a12)] [] := by
  intro n
  induction n with
  | zero =>
    intro a0 a1 a2 a3 a4 a5 a8 a12 M h
    have h : (none : Option (Mm)) = some out := h
    cases h
  | succ n ih =>
    intro a0 a1 a2 a3 a4 a5 a8 a12 M h
    rw [fX16_fragment_L306] at h
    refine g_iload X (pc := 306) 7 rfl dX16_fragment_306 ?_
    refine g_iload X (pc := 308) 5 rfl dX16_fragment_308 ?_
    refine g_icmp_ge X (pc := 310) (tgt := 363) dX16_fragment_310 (by decide) (fun hc => ?_) (fun hc => ?_)
    · have h := (if_pos hc).symm.trans h
      refine g_aload X (pc := 363) 6 rfl dX16_fragment_363 ?_
      obtain ⟨v1, ev1, h⟩ := bd h
      refine g_getI X (pc := 365) fk_13_4 rfl rfl ev1 tb_1788 dX16_fragment_365 ?_
      refine g_if_ge X (pc := 368) (tgt := 372) dX16_fragment_368 (by decide) (fun hc => ?_) (fun hc => ?_)
      · have h := (if_pos hc).symm.trans h
        refine g_iconst X (pc := 372) (v := 0) dX16_fragment_372 (by decide) ?_
        refine g_istore X (pc := 373) [(12, pI (0 : Int32)), (0, pR (some a0)), (1, pI a1), (2, pI a2), (3, pI a3), (4, pI a4), (5, pI a5), (8, pR a8)] (lt_n hn (by decide)) rfl dX16_fragment_373 ?_
        refine g_sub [1, 2, 3, 7, 0] [(0, pR (some a0)), (1, pI a1), (2, pI a2), (8, pR a8), (12, pI (0 : Int32))] rfl ?_
        exact wX16_fragment_L375 X hE hn fu   fu a0 a1 a2 a8 (0 : Int32) M h
      · have h := (if_neg hc).symm.trans h
        obtain rfl := Option.some.inj h
        exact g_return X hE dX16_fragment_371
    · have h := (if_neg hc).symm.trans h
      refine g_aload X (pc := 313) 6 rfl dX16_fragment_313 ?_
      obtain ⟨v2, ev2, h⟩ := bd h
      refine g_getR X (pc := 315) fk_13_8 rfl rfl ev2 tb_1794 dX16_fragment_315 ?_
      refine g_iload_n X (pc := 318) 3 rfl rfl dX16_fragment_318 ?_
      refine g_iload X (pc := 319) 7 rfl dX16_fragment_319 ?_
      refine g_iadd X (pc := 321) dX16_fragment_321 ?_
      obtain ⟨v3, ev3, h⟩ := bd h
      refine g_zaload X (pc := 322) ev3 dX16_fragment_322 ?_
      refine g_if_ne X (pc := 323) (tgt := 357) dX16_fragment_323 (by decide) (fun hc => ?_) (fun hc => ?_)
      · have h := (if_neg hc).symm.trans h
        exact wX16_fragment_L357 X hE hn fu (fun b0 b1 b2 b3 b4 b5 b8 b12 M => fX16_fragment_L306 fu  n b0 b1 b2 b3 b4 b5 b8 b12 M) ih a0 a1 a2 a3 a4 a5 a8 a12 M h
      · have h := (if_pos hc).symm.trans h
        refine g_aload X (pc := 326) 6 rfl dX16_fragment_326 ?_
        obtain ⟨v4, ev4, h⟩ := bd h
        refine g_getR X (pc := 328) fk_13_8 rfl rfl ev4 tb_1794 dX16_fragment_328 ?_
        refine g_iload_n X (pc := 331) 3 rfl rfl dX16_fragment_331 ?_
        refine g_iload X (pc := 332) 7 rfl dX16_fragment_332 ?_
        refine g_iadd X (pc := 334) dX16_fragment_334 ?_
        refine g_iconst X (pc := 335) (v := 1) dX16_fragment_335 (by decide) ?_
        obtain ⟨M5, eM5, h⟩ := bd h
        refine g_zastore X (pc := 336) eM5 dX16_fragment_336 ?_
        refine g_aload X (pc := 337) 6 rfl dX16_fragment_337 ?_
        obtain ⟨v6, ev6, h⟩ := bd h
        refine g_getR X (pc := 339) fk_13_7 rfl rfl ev6 tb_1792 dX16_fragment_339 ?_
        refine g_iload_n X (pc := 342) 3 rfl rfl dX16_fragment_342 ?_
        refine g_iload X (pc := 343) 7 rfl dX16_fragment_343 ?_
        refine g_iadd X (pc := 345) dX16_fragment_345 ?_
        refine g_aload_n X (pc := 346) 0 rfl rfl dX16_fragment_346 ?_
        obtain ⟨v7, ev7, h⟩ := bd h
        refine g_getR X (pc := 347) fk_16_0 rfl rfl ev7 tb_1814 dX16_fragment_347 ?_
        refine g_iload X (pc := 350) 4 rfl dX16_fragment_350 ?_
        refine g_iload X (pc := 352) 7 rfl dX16_fragment_352 ?_
        refine g_iadd X (pc := 354) dX16_fragment_354 ?_
        obtain ⟨v8, ev8, h⟩ := bd h
        refine g_baload X (pc := 355) ev8 dX16_fragment_355 ?_
        obtain ⟨M9, eM9, h⟩ := bd h
        refine g_bastore X (pc := 356) eM9 dX16_fragment_356 ?_
        exact wX16_fragment_L357 X hE hn fu (fun b0 b1 b2 b3 b4 b5 b8 b12 M => fX16_fragment_L306 fu  n b0 b1 b2 b3 b4 b5 b8 b12 M) ih a0 a1 a2 a3 a4 a5 a8 a12 M9 h
theorem wX16_fragment_L303 {x : GX} {n0 sl0 : Nat} (X : Cx x cX16_fragment RX16 none n0 sl0 14 323) {out : Mm} (hE : Ends x n0 sl0 none out) (hn : xn x = 13) (fu : Nat)   (a0 : Nat) (a1 : Int32) (a2 : Int32) (a3 : Int32) (a4 : Int32) (a5 : Int32) (a8 : Option Nat)  (M : Mm) (h : fX16_fragment_L303 fu  a0 a1 a2 a3 a4 a5 a8 M = some out) : Gw x M 303 [(0, pR (some a0)), (1, pI a1), (2, pI a2), (3, pI a3), (4, pI a4), (5, pI a5), (8, pR a8)] [] := by
  unfold fX16_fragment_L303 at h
  refine g_iconst X (pc := 303) (v := 0) dX16_fragment_303 (by decide) ?_
  refine g_istore X (pc := 304) [(12, pI (0 : Int32)), (0, pR (some a0)), (1, pI a1), (2, pI a2), (3, pI a3), (4, pI a4), (5, pI a5), (8, pR a8)] (lt_n hn (by decide)) rfl dX16_fragment_304 ?_
  refine g_sub [1, 2, 3, 4, 5, 6, 7, 0] [(0, pR (some a0)), (1, pI a1), (2, pI a2), (3, pI a3), (4, pI a4), (5, pI a5), (8, pR a8), (12, pI (0 : Int32))] rfl ?_
  exact wX16_fragment_L306 X hE hn fu   fu a0 a1 a2 a3 a4 a5 a8 (0 : Int32) M h
theorem wX16_fragment_L279 {x : GX} {n0 sl0 : Nat} (X : Cx x cX16_fragment RX16 none n0 sl0 14 323) {out : Mm} (hE : Ends x n0 sl0 none out) (hn : xn x = 13) (fu : Nat)   (a0 : Nat) (a1 : Int32) (a2 : Int32) (a3 : Int32) (a4 : Int32) (a5 : Int32) (a6 : Int32) (a8 : Option Nat) (a10 : Int32) (a11 : Int32)  (M : Mm) (h : fX16_fragment_L279 fu  a0 a1 a2 a3 a4 a5 a6 a8 a10 a11 M = some out) : Gw x M 279 [(0, pR (some a0)), (1, pI a1), (2, pI a2), (3, pI a3), (4, pI a4), (5, pI a5), (6, pI a6), (8, pR a8), (10, pI a10), (11, pI a11)] [] := by
  unfold fX16_fragment_L279 at h
  refine g_iload X (pc := 279) 9 rfl dX16_fragment_279 ?_
  refine g_if_eq X (pc := 281) (tgt := 291) dX16_fragment_281 (by decide) (fun hc => ?_) (fun hc => ?_)
  · have h := (if_pos hc).symm.trans h
    refine g_iload X (pc := 291) 6 rfl dX16_fragment_291 ?_
    refine g_if_ne X (pc := 293) (tgt := 303) dX16_fragment_293 (by decide) (fun hc => ?_) (fun hc => ?_)
    · have h := (if_neg hc).symm.trans h
      refine g_sub [0, 1, 2, 3, 4, 5, 7] [(0, pR (some a0)), (1, pI a1), (2, pI a2), (3, pI a3), (4, pI a4), (5, pI a5), (8, pR a8)] rfl ?_
      exact wX16_fragment_L303 X hE hn fu   a0 a1 a2 a3 a4 a5 a8 M h
    · have h := (if_pos hc).symm.trans h
      refine g_aload X (pc := 296) 7 rfl dX16_fragment_296 ?_
      refine g_iload X (pc := 298) 8 rfl dX16_fragment_298 ?_
      obtain ⟨M1, eM1, h⟩ := bd h
      refine g_putI X (pc := 300) fk_13_4 rfl rfl rfl eM1 tb_1788 (Or.inl rfl) dX16_fragment_300 ?_
      refine g_sub [0, 1, 2, 3, 4, 5, 7] [(0, pR (some a0)), (1, pI a1), (2, pI a2), (3, pI a3), (4, pI a4), (5, pI a5), (8, pR a8)] rfl ?_
      exact wX16_fragment_L303 X hE hn fu   a0 a1 a2 a3 a4 a5 a8 M1 h
  · have h := (if_neg hc).symm.trans h
    refine g_aload X (pc := 284) 7 rfl dX16_fragment_284 ?_
    refine g_iconst X (pc := 286) (v := 0) dX16_fragment_286 (by decide) ?_
    obtain ⟨M2, eM2, h⟩ := bd h
    refine g_putZ X (pc := 287) fk_13_0 rfl rfl rfl eM2 tb_1784 (Or.inl rfl) dX16_fragment_287 ?_
    obtain rfl := Option.some.inj h
    exact g_return X hE dX16_fragment_290
theorem wX16_fragment_L271 {x : GX} {n0 sl0 : Nat} (X : Cx x cX16_fragment RX16 none n0 sl0 14 323) {out : Mm} (hE : Ends x n0 sl0 none out) (hn : xn x = 13) (fu : Nat) (k242 : Nat → Int32 → Int32 → Int32 → Int32 → Int32 → Int32 → Option Nat → Int32 → Int32 → Int32 → Mm → Option (Mm)) (hk242 : ∀ (b0 : Nat) (b1 : Int32) (b2 : Int32) (b3 : Int32) (b4 : Int32) (b5 : Int32) (b6 : Int32) (b8 : Option Nat) (b10 : Int32) (b11 : Int32) (b12 : Int32)  (M : Mm), k242 b0 b1 b2 b3 b4 b5 b6 b8 b10 b11 b12 M = some out → Gw x M 242 [(0, pR (some b0)), (1, pI b1), (2, pI b2), (3, pI b3), (4, pI b4), (5, pI b5), (6, pI b6), (8, pR b8), (10, pI b10), (11, pI b11), (12, pI b12)] []) (a0 : Nat) (a1 : Int32) (a2 : Int32) (a3 : Int32) (a4 : Int32) (a5 : Int32) (a6 : Int32) (a8 : Option Nat) (a10 : Int32) (a12 : Int32) (s0 : Int32) (M : Mm) (h : fX16_fragment_L271 fu k242 a0 a1 a2 a3 a4 a5 a6 a8 a10 a12 s0 M = some out) : Gw x M 271 [(0, pR (some a0)), (1, pI a1), (2, pI a2), (3, pI a3), (4, pI a4), (5, pI a5), (6, pI a6), (8, pR a8), (10, pI a10), (12, pI a12)] [pI s0] := by
  unfold fX16_fragment_L271 at h
  refine g_istore X (pc := 271) [(11, pI s0), (0, pR (some a0)), (1, pI a1), (2, pI a2), (3, pI a3), (4, pI a4), (5, pI a5), (6, pI a6), (8, pR a8), (10, pI a10), (12, pI a12)] (lt_n hn (by decide)) rfl dX16_fragment_271 ?_
  refine g_iinc X (pc := 273) 10 [(12, pI (a12 + (1 : Int32))), (11, pI s0), (0, pR (some a0)), (1, pI a1), (2, pI a2), (3, pI a3), (4, pI a4), (5, pI a5), (6, pI a6), (8, pR a8), (10, pI a10)] rfl (iinc_e (by decide)) (lt_n hn (by decide)) rfl dX16_fragment_273 ?_
  refine g_goto X (pc := 276) (tgt := 242) dX16_fragment_276 (by decide) ?_
  refine g_sub [2, 3, 4, 5, 6, 7, 8, 9, 10, 1, 0] [(0, pR (some a0)), (1, pI a1), (2, pI a2), (3, pI a3), (4, pI a4), (5, pI a5), (6, pI a6), (8, pR a8), (10, pI a10), (11, pI s0), (12, pI (a12 + (1 : Int32)))] rfl ?_
  exact hk242 a0 a1 a2 a3 a4 a5 a6 a8 a10 s0 (a12 + (1 : Int32)) M h
theorem wX16_fragment_L266 {x : GX} {n0 sl0 : Nat} (X : Cx x cX16_fragment RX16 none n0 sl0 14 323) {out : Mm} (hE : Ends x n0 sl0 none out) (hn : xn x = 13) (fu : Nat) (k242 : Nat → Int32 → Int32 → Int32 → Int32 → Int32 → Int32 → Option Nat → Int32 → Int32 → Int32 → Mm → Option (Mm)) (hk242 : ∀ (b0 : Nat) (b1 : Int32) (b2 : Int32) (b3 : Int32) (b4 : Int32) (b5 : Int32) (b6 : Int32) (b8 : Option Nat) (b10 : Int32) (b11 : Int32) (b12 : Int32)  (M : Mm), k242 b0 b1 b2 b3 b4 b5 b6 b8 b10 b11 b12 M = some out → Gw x M 242 [(0, pR (some b0)), (1, pI b1), (2, pI b2), (3, pI b3), (4, pI b4), (5, pI b5), (6, pI b6), (8, pR b8), (10, pI b10), (11, pI b11), (12, pI b12)] []) (a0 : Nat) (a1 : Int32) (a2 : Int32) (a3 : Int32) (a4 : Int32) (a5 : Int32) (a6 : Int32) (a8 : Option Nat) (a10 : Int32) (a12 : Int32)  (M : Mm) (h : fX16_fragment_L266 fu k242 a0 a1 a2 a3 a4 a5 a6 a8 a10 a12 M = some out) : Gw x M 266 [(0, pR (some a0)), (1, pI a1), (2, pI a2), (3, pI a3), (4, pI a4), (5, pI a5), (6, pI a6), (8, pR a8), (10, pI a10), (12, pI a12)] [] := by
  unfold fX16_fragment_L266 at h
  refine g_iconst X (pc := 266) (v := 1) dX16_fragment_266 (by decide) ?_
  refine g_goto X (pc := 267) (tgt := 271) dX16_fragment_267 (by decide) ?_
  exact wX16_fragment_L271 X hE hn fu k242 hk242 a0 a1 a2 a3 a4 a5 a6 a8 a10 a12 (1 : Int32) M h
theorem wX16_fragment_L242 {x : GX} {n0 sl0 : Nat} (X : Cx x cX16_fragment RX16 none n0 sl0 14 323) {out : Mm} (hE : Ends x n0 sl0 none out) (hn : xn x = 13) (fu : Nat)   : ∀ (n : Nat) (a0 : Nat) (a1 : Int32) (a2 : Int32) (a3 : Int32) (a4 : Int32) (a5 : Int32) (a6 : Int32) (a8 : Option Nat) (a10 : Int32) (a11 : Int32) (a12 : Int32)  (M : Mm), fX16_fragment_L242 fu  n a0 a1 a2 a3 a4 a5 a6 a8 a10 a11 a12 M = some out → Gw x M 242 [(0, pR (some a0)), (1, pI a1), (2, pI a2), (3, pI a3), (4, pI a4), (5, pI a5), (6, pI a6), (8, pR a8), (10, pI a10), (11, pI a11), (12, pI a12)] [] := by
  intro n
  induction n with
  | zero =>
    intro a0 a1 a2 a3 a4 a5 a6 a8 a10 a11 a12 M h
    have h : (none : Option (Mm)) = some out := h
    cases h
  | succ n ih =>
    intro a0 a1 a2 a3 a4 a5 a6 a8 a10 a11 a12 M h
    rw [fX16_fragment_L242] at h
    refine g_iload X (pc := 242) 10 rfl dX16_fragment_242 ?_
    refine g_sipush X (pc := 244) (v := 4096) dX16_fragment_244 (by decide) ?_
    refine g_icmp_ge X (pc := 247) (tgt := 279) dX16_fragment_247 (by decide) (fun hc => ?_) (fun hc => ?_)
    · have h := (if_pos hc).symm.trans h
      refine g_sub [0, 1, 2, 3, 4, 5, 6, 7, 8, 9] [(0, pR (some a0)), (1, pI a1), (2, pI a2), (3, pI a3), (4, pI a4), (5, pI a5), (6, pI a6), (8, pR a8), (10, pI a10), (11, pI a11)] rfl ?_
      exact wX16_fragment_L279 X hE hn fu   a0 a1 a2 a3 a4 a5 a6 a8 a10 a11 M h
    · have h := (if_neg hc).symm.trans h
      refine g_iload X (pc := 250) 9 rfl dX16_fragment_250 ?_
      refine g_if_ne X (pc := 252) (tgt := 266) dX16_fragment_252 (by decide) (fun hc => ?_) (fun hc => ?_)
      · have h := (if_neg hc).symm.trans h
        refine g_sub [0, 1, 2, 3, 4, 5, 6, 7, 8, 10] [(0, pR (some a0)), (1, pI a1), (2, pI a2), (3, pI a3), (4, pI a4), (5, pI a5), (6, pI a6), (8, pR a8), (10, pI a10), (12, pI a12)] rfl ?_
        exact wX16_fragment_L266 X hE hn fu (fun b0 b1 b2 b3 b4 b5 b6 b8 b10 b11 b12 M => fX16_fragment_L242 fu  n b0 b1 b2 b3 b4 b5 b6 b8 b10 b11 b12 M) ih a0 a1 a2 a3 a4 a5 a6 a8 a10 a12 M h
      · have h := (if_pos hc).symm.trans h
        refine g_aload X (pc := 255) 7 rfl dX16_fragment_255 ?_
        obtain ⟨v1, ev1, h⟩ := bd h
        refine g_getR X (pc := 257) fk_13_8 rfl rfl ev1 tb_1794 dX16_fragment_257 ?_
        refine g_iload X (pc := 260) 10 rfl dX16_fragment_260 ?_
        obtain ⟨v2, ev2, h⟩ := bd h
        refine g_zaload X (pc := 262) ev2 dX16_fragment_262 ?_
        refine g_if_eq X (pc := 263) (tgt := 270) dX16_fragment_263 (by decide) (fun hc => ?_) (fun hc => ?_)
        · have h := (if_pos hc).symm.trans h
          refine g_iconst X (pc := 270) (v := 0) dX16_fragment_270 (by decide) ?_
          refine g_sub [0, 1, 2, 3, 4, 5, 6, 7, 8, 10] [(0, pR (some a0)), (1, pI a1), (2, pI a2), (3, pI a3), (4, pI a4), (5, pI a5), (6, pI a6), (8, pR a8), (10, pI a10), (12, pI a12)] rfl ?_
          exact wX16_fragment_L271 X hE hn fu (fun b0 b1 b2 b3 b4 b5 b6 b8 b10 b11 b12 M => fX16_fragment_L242 fu  n b0 b1 b2 b3 b4 b5 b6 b8 b10 b11 b12 M) ih a0 a1 a2 a3 a4 a5 a6 a8 a10 a12 (0 : Int32) M h
        · have h := (if_neg hc).symm.trans h
          refine g_sub [0, 1, 2, 3, 4, 5, 6, 7, 8, 10] [(0, pR (some a0)), (1, pI a1), (2, pI a2), (3, pI a3), (4, pI a4), (5, pI a5), (6, pI a6), (8, pR a8), (10, pI a10), (12, pI a12)] rfl ?_
          exact wX16_fragment_L266 X hE hn fu (fun b0 b1 b2 b3 b4 b5 b6 b8 b10 b11 b12 M => fX16_fragment_L242 fu  n b0 b1 b2 b3 b4 b5 b6 b8 b10 b11 b12 M) ih a0 a1 a2 a3 a4 a5 a6 a8 a10 a12 M h
theorem wX16_fragment_L231 {x : GX} {n0 sl0 : Nat} (X : Cx x cX16_fragment RX16 none n0 sl0 14 323) {out : Mm} (hE : Ends x n0 sl0 none out) (hn : xn x = 13) (fu : Nat)   (a0 : Nat) (a1 : Int32) (a2 : Int32) (a3 : Int32) (a4 : Int32) (a5 : Int32) (a6 : Int32) (a8 : Option Nat) (a10 : Int32) (s0 : Int32) (M : Mm) (h : fX16_fragment_L231 fu  a0 a1 a2 a3 a4 a5 a6 a8 a10 s0 M = some out) : Gw x M 231 [(0, pR (some a0)), (1, pI a1), (2, pI a2), (3, pI a3), (4, pI a4), (5, pI a5), (6, pI a6), (8, pR a8), (10, pI a10)] [pI s0] := by
  unfold fX16_fragment_L231 at h
  refine g_istore X (pc := 231) [(11, pI s0), (0, pR (some a0)), (1, pI a1), (2, pI a2), (3, pI a3), (4, pI a4), (5, pI a5), (6, pI a6), (8, pR a8), (10, pI a10)] (lt_n hn (by decide)) rfl dX16_fragment_231 ?_
  refine g_iload X (pc := 233) 7 rfl dX16_fragment_233 ?_
  refine g_if_ne X (pc := 235) (tgt := 279) dX16_fragment_235 (by decide) (fun hc => ?_) (fun hc => ?_)
  · have h := (if_neg hc).symm.trans h
    refine g_sub [1, 2, 3, 4, 5, 6, 7, 8, 9, 0] [(0, pR (some a0)), (1, pI a1), (2, pI a2), (3, pI a3), (4, pI a4), (5, pI a5), (6, pI a6), (8, pR a8), (10, pI a10), (11, pI s0)] rfl ?_
    exact wX16_fragment_L279 X hE hn fu   a0 a1 a2 a3 a4 a5 a6 a8 a10 s0 M h
  · have h := (if_pos hc).symm.trans h
    refine g_iload X (pc := 238) 9 rfl dX16_fragment_238 ?_
    refine g_istore X (pc := 240) [(12, pI a10), (11, pI s0), (0, pR (some a0)), (1, pI a1), (2, pI a2), (3, pI a3), (4, pI a4), (5, pI a5), (6, pI a6), (8, pR a8), (10, pI a10)] (lt_n hn (by decide)) rfl dX16_fragment_240 ?_
    refine g_sub [2, 3, 4, 5, 6, 7, 8, 9, 10, 1, 0] [(0, pR (some a0)), (1, pI a1), (2, pI a2), (3, pI a3), (4, pI a4), (5, pI a5), (6, pI a6), (8, pR a8), (10, pI a10), (11, pI s0), (12, pI a10)] rfl ?_
    exact wX16_fragment_L242 X hE hn fu   fu a0 a1 a2 a3 a4 a5 a6 a8 a10 s0 a10 M h
theorem wX16_fragment_L230 {x : GX} {n0 sl0 : Nat} (X : Cx x cX16_fragment RX16 none n0 sl0 14 323) {out : Mm} (hE : Ends x n0 sl0 none out) (hn : xn x = 13) (fu : Nat)   (a0 : Nat) (a1 : Int32) (a2 : Int32) (a3 : Int32) (a4 : Int32) (a5 : Int32) (a6 : Int32) (a8 : Option Nat) (a10 : Int32)  (M : Mm) (h : fX16_fragment_L230 fu  a0 a1 a2 a3 a4 a5 a6 a8 a10 M = some out) : Gw x M 230 [(0, pR (some a0)), (1, pI a1), (2, pI a2), (3, pI a3), (4, pI a4), (5, pI a5), (6, pI a6), (8, pR a8), (10, pI a10)] [] := by
  unfold fX16_fragment_L230 at h
  refine g_iconst X (pc := 230) (v := 0) dX16_fragment_230 (by decide) ?_
  exact wX16_fragment_L231 X hE hn fu   a0 a1 a2 a3 a4 a5 a6 a8 a10 (0 : Int32) M h
theorem wX16_fragment_L226 {x : GX} {n0 sl0 : Nat} (X : Cx x cX16_fragment RX16 none n0 sl0 14 323) {out : Mm} (hE : Ends x n0 sl0 none out) (hn : xn x = 13) (fu : Nat)   (a0 : Nat) (a1 : Int32) (a2 : Int32) (a3 : Int32) (a4 : Int32) (a5 : Int32) (a6 : Int32) (a8 : Option Nat) (a10 : Int32)  (M : Mm) (h : fX16_fragment_L226 fu  a0 a1 a2 a3 a4 a5 a6 a8 a10 M = some out) : Gw x M 226 [(0, pR (some a0)), (1, pI a1), (2, pI a2), (3, pI a3), (4, pI a4), (5, pI a5), (6, pI a6), (8, pR a8), (10, pI a10)] [] := by
  unfold fX16_fragment_L226 at h
  refine g_iconst X (pc := 226) (v := 1) dX16_fragment_226 (by decide) ?_
  refine g_goto X (pc := 227) (tgt := 231) dX16_fragment_227 (by decide) ?_
  exact wX16_fragment_L231 X hE hn fu   a0 a1 a2 a3 a4 a5 a6 a8 a10 (1 : Int32) M h
theorem wX16_fragment_L184 {x : GX} {n0 sl0 : Nat} (X : Cx x cX16_fragment RX16 none n0 sl0 14 323) {out : Mm} (hE : Ends x n0 sl0 none out) (hn : xn x = 13) (fu : Nat)   (a0 : Nat) (a1 : Int32) (a2 : Int32) (a3 : Int32) (a4 : Int32) (a5 : Int32) (a6 : Int32) (a8 : Option Nat)  (M : Mm) (h : fX16_fragment_L184 fu  a0 a1 a2 a3 a4 a5 a6 a8 M = some out) : Gw x M 184 [(0, pR (some a0)), (1, pI a1), (2, pI a2), (3, pI a3), (4, pI a4), (5, pI a5), (6, pI a6), (8, pR a8)] [] := by
  unfold fX16_fragment_L184 at h
  refine g_iload_n X (pc := 184) 3 rfl rfl dX16_fragment_184 ?_
  refine g_iload X (pc := 185) 5 rfl dX16_fragment_185 ?_
  refine g_iadd X (pc := 187) dX16_fragment_187 ?_
  refine g_istore X (pc := 188) [(10, pI (a3 + a5)), (0, pR (some a0)), (1, pI a1), (2, pI a2), (3, pI a3), (4, pI a4), (5, pI a5), (6, pI a6), (8, pR a8)] (lt_n hn (by decide)) rfl dX16_fragment_188 ?_
  refine g_aload X (pc := 190) 8 rfl dX16_fragment_190 ?_
  obtain ⟨v1, ev1, h⟩ := bd h
  refine g_getI X (pc := 192) fk_13_4 rfl rfl ev1 tb_1788 dX16_fragment_192 ?_
  refine g_if_lt X (pc := 195) (tgt := 230) dX16_fragment_195 (by decide) (fun hc => ?_) (fun hc => ?_)
  · have h := (if_pos hc).symm.trans h
    refine g_sub [1, 2, 3, 4, 5, 6, 7, 8, 0] [(0, pR (some a0)), (1, pI a1), (2, pI a2), (3, pI a3), (4, pI a4), (5, pI a5), (6, pI a6), (8, pR a8), (10, pI (a3 + a5))] rfl ?_
    exact wX16_fragment_L230 X hE hn fu   a0 a1 a2 a3 a4 a5 a6 a8 (a3 + a5) M h
  · have h := (if_neg hc).symm.trans h
    refine g_iload X (pc := 198) 7 rfl dX16_fragment_198 ?_
    refine g_if_eq X (pc := 200) (tgt := 216) dX16_fragment_200 (by decide) (fun hc => ?_) (fun hc => ?_)
    · have h := (if_pos hc).symm.trans h
      refine g_iload X (pc := 216) 0 rfl dX16_fragment_216 ?_
      refine g_aload X (pc := 218) 8 rfl dX16_fragment_218 ?_
      obtain ⟨v2, ev2, h⟩ := bd h
      refine g_getI X (pc := 220) fk_13_4 rfl rfl ev2 tb_1788 dX16_fragment_220 ?_
      refine g_icmp_eq X (pc := 223) (tgt := 230) dX16_fragment_223 (by decide) (fun hc => ?_) (fun hc => ?_)
      · have h := (if_pos hc).symm.trans h
        refine g_sub [1, 2, 3, 4, 5, 6, 7, 8, 0] [(0, pR (some a0)), (1, pI a1), (2, pI a2), (3, pI a3), (4, pI a4), (5, pI a5), (6, pI a6), (8, pR a8), (10, pI (a3 + a5))] rfl ?_
        exact wX16_fragment_L230 X hE hn fu   a0 a1 a2 a3 a4 a5 a6 a8 (a3 + a5) M h
      · have h := (if_neg hc).symm.trans h
        refine g_sub [1, 2, 3, 4, 5, 6, 7, 8, 0] [(0, pR (some a0)), (1, pI a1), (2, pI a2), (3, pI a3), (4, pI a4), (5, pI a5), (6, pI a6), (8, pR a8), (10, pI (a3 + a5))] rfl ?_
        exact wX16_fragment_L226 X hE hn fu   a0 a1 a2 a3 a4 a5 a6 a8 (a3 + a5) M h
    · have h := (if_neg hc).symm.trans h
      refine g_iload X (pc := 203) 0 rfl dX16_fragment_203 ?_
      refine g_aload X (pc := 205) 8 rfl dX16_fragment_205 ?_
      obtain ⟨v3, ev3, h⟩ := bd h
      refine g_getI X (pc := 207) fk_13_4 rfl rfl ev3 tb_1788 dX16_fragment_207 ?_
      refine g_icmp_le X (pc := 210) (tgt := 230) dX16_fragment_210 (by decide) (fun hc => ?_) (fun hc => ?_)
      · have h := (if_pos hc).symm.trans h
        refine g_sub [1, 2, 3, 4, 5, 6, 7, 8, 0] [(0, pR (some a0)), (1, pI a1), (2, pI a2), (3, pI a3), (4, pI a4), (5, pI a5), (6, pI a6), (8, pR a8), (10, pI (a3 + a5))] rfl ?_
        exact wX16_fragment_L230 X hE hn fu   a0 a1 a2 a3 a4 a5 a6 a8 (a3 + a5) M h
      · have h := (if_neg hc).symm.trans h
        refine g_goto X (pc := 213) (tgt := 226) dX16_fragment_213 (by decide) ?_
        refine g_sub [1, 2, 3, 4, 5, 6, 7, 8, 0] [(0, pR (some a0)), (1, pI a1), (2, pI a2), (3, pI a3), (4, pI a4), (5, pI a5), (6, pI a6), (8, pR a8), (10, pI (a3 + a5))] rfl ?_
        exact wX16_fragment_L226 X hE hn fu   a0 a1 a2 a3 a4 a5 a6 a8 (a3 + a5) M h
theorem wX16_fragment_L161 {x : GX} {n0 sl0 : Nat} (X : Cx x cX16_fragment RX16 none n0 sl0 14 323) {out : Mm} (hE : Ends x n0 sl0 none out) (hn : xn x = 13) (fu : Nat)   : ∀ (n : Nat) (a0 : Nat) (a1 : Int32) (a2 : Int32) (a3 : Int32) (a4 : Int32) (a5 : Int32) (a6 : Int32) (a8 : Option Nat) (a10 : Int32)  (M : Mm), fX16_fragment_L161 fu  n a0 a1 a2 a3 a4 a5 a6 a8 a10 M = some out → Gw x M 161 [(0, pR (some a0)), (1, pI a1), (2, pI a2), (3, pI a3), (4, pI a4), (5, pI a5), (6, pI a6), (8, pR a8), (10, pI a10)] [] := by
  intro n
  induction n with
  | zero =>
    intro a0 a1 a2 a3 a4 a5 a6 a8 a10 M h
    have h : (none : Option (Mm)) = some out := h
    cases h
  | succ n ih =>
    intro a0 a1 a2 a3 a4 a5 a6 a8 a10 M h
    rw [fX16_fragment_L161] at h
    refine g_iload X (pc := 161) 8 rfl dX16_fragment_161 ?_
    refine g_sipush X (pc := 163) (v := 4096) dX16_fragment_163 (by decide) ?_
    refine g_icmp_ge X (pc := 166) (tgt := 184) dX16_fragment_166 (by decide) (fun hc => ?_) (fun hc => ?_)
    · have h := (if_pos hc).symm.trans h
      refine g_sub [0, 1, 2, 3, 4, 5, 6, 7] [(0, pR (some a0)), (1, pI a1), (2, pI a2), (3, pI a3), (4, pI a4), (5, pI a5), (6, pI a6), (8, pR a8)] rfl ?_
      exact wX16_fragment_L184 X hE hn fu   a0 a1 a2 a3 a4 a5 a6 a8 M h
    · have h := (if_neg hc).symm.trans h
      refine g_aload X (pc := 169) 7 rfl dX16_fragment_169 ?_
      obtain ⟨v1, ev1, h⟩ := bd h
      refine g_getR X (pc := 171) fk_13_8 rfl rfl ev1 tb_1794 dX16_fragment_171 ?_
      refine g_iload X (pc := 174) 8 rfl dX16_fragment_174 ?_
      refine g_iconst X (pc := 176) (v := 0) dX16_fragment_176 (by decide) ?_
      obtain ⟨M2, eM2, h⟩ := bd h
      refine g_zastore X (pc := 177) eM2 dX16_fragment_177 ?_
      refine g_iinc X (pc := 178) 8 [(10, pI (a10 + (1 : Int32))), (0, pR (some a0)), (1, pI a1), (2, pI a2), (3, pI a3), (4, pI a4), (5, pI a5), (6, pI a6), (8, pR a8)] rfl (iinc_e (by decide)) (lt_n hn (by decide)) rfl dX16_fragment_178 ?_
      refine g_goto X (pc := 181) (tgt := 161) dX16_fragment_181 (by decide) ?_
      refine g_sub [1, 2, 3, 4, 5, 6, 7, 8, 0] [(0, pR (some a0)), (1, pI a1), (2, pI a2), (3, pI a3), (4, pI a4), (5, pI a5), (6, pI a6), (8, pR a8), (10, pI (a10 + (1 : Int32)))] rfl ?_
      exact ih a0 a1 a2 a3 a4 a5 a6 a8 (a10 + (1 : Int32)) M2 h
theorem wX16_fragment_L78 {x : GX} {n0 sl0 : Nat} (X : Cx x cX16_fragment RX16 none n0 sl0 14 323) {out : Mm} (hE : Ends x n0 sl0 none out) (hn : xn x = 13) (fu : Nat) (k17 : Nat → Int32 → Int32 → Int32 → Int32 → Int32 → Int32 → Int32 → Option Nat → Option Nat → Int32 → Mm → Option (Mm)) (hk17 : ∀ (b0 : Nat) (b1 : Int32) (b2 : Int32) (b3 : Int32) (b4 : Int32) (b5 : Int32) (b6 : Int32) (b7 : Int32) (b8 : Option Nat) (b9 : Option Nat) (b10 : Int32)  (M : Mm), k17 b0 b1 b2 b3 b4 b5 b6 b7 b8 b9 b10 M = some out → Gw x M 17 [(0, pR (some b0)), (1, pI b1), (2, pI b2), (3, pI b3), (4, pI b4), (5, pI b5), (6, pI b6), (7, pI b7), (8, pR b8), (9, pR b9), (10, pI b10)] []) (a0 : Nat) (a1 : Int32) (a2 : Int32) (a3 : Int32) (a4 : Int32) (a5 : Int32) (a6 : Int32) (a7 : Int32) (a8 : Option Nat) (a9 : Option Nat) (a10 : Int32)  (M : Mm) (h : fX16_fragment_L78 fu k17 a0 a1 a2 a3 a4 a5 a6 a7 a8 a9 a10 M = some out) : Gw x M 78 [(0, pR (some a0)), (1, pI a1), (2, pI a2), (3, pI a3), (4, pI a4), (5, pI a5), (6, pI a6), (7, pI a7), (8, pR a8), (9, pR a9), (10, pI a10)] [] := by
  unfold fX16_fragment_L78 at h
  refine g_iinc X (pc := 78) 10 [(10, pI (a10 + (-1 : Int32))), (0, pR (some a0)), (1, pI a1), (2, pI a2), (3, pI a3), (4, pI a4), (5, pI a5), (6, pI a6), (7, pI a7), (8, pR a8), (9, pR a9)] rfl (iinc_e (by decide)) (lt_n hn (by decide)) rfl dX16_fragment_78 ?_
  refine g_goto X (pc := 81) (tgt := 17) dX16_fragment_81 (by decide) ?_
  refine g_sub [1, 2, 3, 4, 5, 6, 7, 8, 9, 10, 0] [(0, pR (some a0)), (1, pI a1), (2, pI a2), (3, pI a3), (4, pI a4), (5, pI a5), (6, pI a6), (7, pI a7), (8, pR a8), (9, pR a9), (10, pI (a10 + (-1 : Int32)))] rfl ?_
  exact hk17 a0 a1 a2 a3 a4 a5 a6 a7 a8 a9 (a10 + (-1 : Int32)) M h
theorem wX16_fragment_L17 {x : GX} {n0 sl0 : Nat} (X : Cx x cX16_fragment RX16 none n0 sl0 14 323) {out : Mm} (hE : Ends x n0 sl0 none out) (hn : xn x = 13) (fu : Nat)   : ∀ (n : Nat) (a0 : Nat) (a1 : Int32) (a2 : Int32) (a3 : Int32) (a4 : Int32) (a5 : Int32) (a6 : Int32) (a7 : Int32) (a8 : Option Nat) (a9 : Option Nat) (a10 : Int32)  (M : Mm), fX16_fragment_L17 fu  n a0 a1 a2 a3 a4 a5 a6 a7 a8 a9 a10 M = some out → Gw x M 17 [(0, pR (some a0)), (1, pI a1), (2, pI a2), (3, pI a3), (4, pI a4), (5, pI a5), (6, pI a6), (7, pI a7), (8, pR a8), (9, pR a9), (10, pI a10)] [] := by
  intro n
  induction n with
  | zero =>
    intro a0 a1 a2 a3 a4 a5 a6 a7 a8 a9 a10 M h
    have h : (none : Option (Mm)) = some out := h
    cases h
  | succ n ih =>
    intro a0 a1 a2 a3 a4 a5 a6 a7 a8 a9 a10 M h
    rw [fX16_fragment_L17] at h
    refine g_iload X (pc := 17) 10 rfl dX16_fragment_17 ?_
    refine g_if_lt X (pc := 19) (tgt := 84) dX16_fragment_19 (by decide) (fun hc => ?_) (fun hc => ?_)
    · have h := (if_pos hc).symm.trans h
      refine g_aload X (pc := 84) 8 rfl dX16_fragment_84 ?_
      refine g_ifnonnull X (pc := 86) (tgt := 184) dX16_fragment_86 (by decide) (fun hc => ?_) (fun hc => ?_)
      · have h := (if_neg hc).symm.trans h
        refine g_sub [0, 1, 2, 3, 4, 5, 6, 8] [(0, pR (some a0)), (1, pI a1), (2, pI a2), (3, pI a3), (4, pI a4), (5, pI a5), (6, pI a6), (8, pR a8)] rfl ?_
        exact wX16_fragment_L184 X hE hn fu   a0 a1 a2 a3 a4 a5 a6 a8 M h
      · have h := (if_pos hc).symm.trans h
        refine g_aload X (pc := 89) 9 rfl dX16_fragment_89 ?_
        refine g_ifnonnull X (pc := 91) (tgt := 95) dX16_fragment_91 (by decide) (fun hc => ?_) (fun hc => ?_)
        · have h := (if_neg hc).symm.trans h
          refine g_aload X (pc := 95) 9 rfl dX16_fragment_95 ?_
          refine g_astore X (pc := 97) [(8, pR a9), (0, pR (some a0)), (1, pI a1), (2, pI a2), (3, pI a3), (4, pI a4), (5, pI a5), (6, pI a6), (7, pI a7), (9, pR a9), (10, pI a10)] (lt_n hn (by decide)) rfl dX16_fragment_97 ?_
          refine g_aload X (pc := 99) 0 rfl dX16_fragment_99 ?_
          refine g_iconst X (pc := 101) (v := 1) dX16_fragment_101 (by decide) ?_
          obtain ⟨M1, eM1, h⟩ := bd h
          refine g_putZ X (pc := 102) fk_13_0 rfl rfl rfl eM1 tb_1784 (Or.inl rfl) dX16_fragment_102 ?_
          refine g_aload X (pc := 105) 0 rfl dX16_fragment_105 ?_
          refine g_iload_n X (pc := 107) 2 rfl rfl dX16_fragment_107 ?_
          obtain ⟨M2, eM2, h⟩ := bd h
          refine g_putI X (pc := 108) fk_13_1 rfl rfl rfl eM2 tb_1785 (Or.inl rfl) dX16_fragment_108 ?_
          refine g_aload X (pc := 111) 0 rfl dX16_fragment_111 ?_
          refine g_iload X (pc := 113) 8 rfl dX16_fragment_113 ?_
          obtain ⟨M3, eM3, h⟩ := bd h
          refine g_putI X (pc := 115) fk_13_2 rfl rfl rfl eM3 tb_1786 (Or.inl rfl) dX16_fragment_115 ?_
          refine g_aload X (pc := 118) 0 rfl dX16_fragment_118 ?_
          refine g_iload_n X (pc := 120) 3 rfl rfl dX16_fragment_120 ?_
          obtain ⟨M4, eM4, h⟩ := bd h
          refine g_putI X (pc := 121) fk_13_3 rfl rfl rfl eM4 tb_1787 (Or.inl rfl) dX16_fragment_121 ?_
          refine g_aload X (pc := 124) 0 rfl dX16_fragment_124 ?_
          refine g_iconst X (pc := 126) (v := (-1)) dX16_fragment_126 (by decide) ?_
          obtain ⟨M5, eM5, h⟩ := bd h
          refine g_putI X (pc := 127) fk_13_4 rfl rfl rfl eM5 tb_1788 (Or.inl rfl) dX16_fragment_127 ?_
          refine g_aload X (pc := 130) 0 rfl dX16_fragment_130 ?_
          refine g_aload_n X (pc := 132) 1 rfl rfl dX16_fragment_132 ?_
          obtain ⟨v6, ev6, h⟩ := bd h
          refine g_getI X (pc := 133) fk_16_10 rfl rfl ev6 tb_1824 dX16_fragment_133 ?_
          obtain ⟨M7, eM7, h⟩ := bd h
          refine g_putI X (pc := 136) fk_13_5 rfl rfl rfl eM7 tb_1789 (Or.inl rfl) dX16_fragment_136 ?_
          refine g_aload_n X (pc := 139) 1 rfl rfl dX16_fragment_139 ?_
          refine g_dup X (pc := 140) rfl dX16_fragment_140 ?_
          obtain ⟨v8, ev8, h⟩ := bd h
          refine g_getI X (pc := 141) fk_16_25 rfl rfl ev8 tb_1839 dX16_fragment_141 ?_
          refine g_iconst X (pc := 144) (v := 1) dX16_fragment_144 (by decide) ?_
          refine g_iadd X (pc := 145) dX16_fragment_145 ?_
          obtain ⟨M9, eM9, h⟩ := bd h
          refine g_putI X (pc := 146) fk_16_25 rfl rfl rfl eM9 tb_1839 (Or.inl rfl) dX16_fragment_146 ?_
          refine g_aload X (pc := 149) 0 rfl dX16_fragment_149 ?_
          refine g_aload_n X (pc := 151) 1 rfl rfl dX16_fragment_151 ?_
          obtain ⟨v10, ev10, h⟩ := bd h
          refine g_getI X (pc := 152) fk_16_25 rfl rfl ev10 tb_1839 dX16_fragment_152 ?_
          obtain ⟨M11, eM11, h⟩ := bd h
          refine g_putI X (pc := 155) fk_13_6 rfl rfl rfl eM11 tb_1790 (Or.inl rfl) dX16_fragment_155 ?_
          refine g_iconst X (pc := 158) (v := 0) dX16_fragment_158 (by decide) ?_
          refine g_istore X (pc := 159) [(10, pI (0 : Int32)), (8, pR a9), (0, pR (some a0)), (1, pI a1), (2, pI a2), (3, pI a3), (4, pI a4), (5, pI a5), (6, pI a6), (7, pI a7), (9, pR a9)] (lt_n hn (by decide)) rfl dX16_fragment_159 ?_
          refine g_sub [2, 3, 4, 5, 6, 7, 8, 1, 0] [(0, pR (some a0)), (1, pI a1), (2, pI a2), (3, pI a3), (4, pI a4), (5, pI a5), (6, pI a6), (8, pR a9), (10, pI (0 : Int32))] rfl ?_
          exact wX16_fragment_L161 X hE hn fu   fu a0 a1 a2 a3 a4 a5 a6 a9 (0 : Int32) M11 h
        · have h := (if_pos hc).symm.trans h
          obtain rfl := Option.some.inj h
          exact g_return X hE dX16_fragment_94
    · have h := (if_neg hc).symm.trans h
      refine g_aload_n X (pc := 22) 0 rfl rfl dX16_fragment_22 ?_
      obtain ⟨v12, ev12, h⟩ := bd h
      refine g_getR X (pc := 23) fk_16_28 rfl rfl ev12 tb_1842 dX16_fragment_23 ?_
      refine g_iload X (pc := 26) 10 rfl dX16_fragment_26 ?_
      obtain ⟨v13, ev13, h⟩ := bd h
      refine g_aaload X (pc := 28) (k := 8) rfl rfl (by decide) ev13 dX16_fragment_28 ?_
      refine g_astore X (pc := 29) [(11, pR v13), (0, pR (some a0)), (1, pI a1), (2, pI a2), (3, pI a3), (4, pI a4), (5, pI a5), (6, pI a6), (7, pI a7), (8, pR a8), (9, pR a9), (10, pI a10)] (lt_n hn (by decide)) rfl dX16_fragment_29 ?_
      refine g_aload X (pc := 31) 0 rfl dX16_fragment_31 ?_
      obtain ⟨v14, ev14, h⟩ := bd h
      refine g_getI X (pc := 33) fk_13_0 rfl rfl ev14 tb_1784 dX16_fragment_33 ?_
      refine g_if_ne X (pc := 36) (tgt := 46) dX16_fragment_36 (by decide) (fun hc => ?_) (fun hc => ?_)
      · have h := (if_neg hc).symm.trans h
        refine g_aload X (pc := 46) 0 rfl dX16_fragment_46 ?_
        obtain ⟨v15, ev15, h⟩ := bd h
        refine g_getI X (pc := 48) fk_13_1 rfl rfl ev15 tb_1785 dX16_fragment_48 ?_
        refine g_iload_n X (pc := 51) 2 rfl rfl dX16_fragment_51 ?_
        refine g_icmp_ne X (pc := 52) (tgt := 78) dX16_fragment_52 (by decide) (fun hc => ?_) (fun hc => ?_)
        · have h := (if_neg hc).symm.trans h
          refine g_sub [1, 2, 3, 4, 5, 6, 7, 8, 9, 10, 11] [(0, pR (some a0)), (1, pI a1), (2, pI a2), (3, pI a3), (4, pI a4), (5, pI a5), (6, pI a6), (7, pI a7), (8, pR a8), (9, pR a9), (10, pI a10)] rfl ?_
          exact wX16_fragment_L78 X hE hn fu (fun b0 b1 b2 b3 b4 b5 b6 b7 b8 b9 b10 M => fX16_fragment_L17 fu  n b0 b1 b2 b3 b4 b5 b6 b7 b8 b9 b10 M) ih a0 a1 a2 a3 a4 a5 a6 a7 a8 a9 a10 M h
        · have h := (if_pos hc).symm.trans h
          refine g_aload X (pc := 55) 0 rfl dX16_fragment_55 ?_
          obtain ⟨v16, ev16, h⟩ := bd h
          refine g_getI X (pc := 57) fk_13_2 rfl rfl ev16 tb_1786 dX16_fragment_57 ?_
          refine g_iload X (pc := 60) 8 rfl dX16_fragment_60 ?_
          refine g_icmp_ne X (pc := 62) (tgt := 78) dX16_fragment_62 (by decide) (fun hc => ?_) (fun hc => ?_)
          · have h := (if_neg hc).symm.trans h
            refine g_sub [1, 2, 3, 4, 5, 6, 7, 8, 9, 10, 11] [(0, pR (some a0)), (1, pI a1), (2, pI a2), (3, pI a3), (4, pI a4), (5, pI a5), (6, pI a6), (7, pI a7), (8, pR a8), (9, pR a9), (10, pI a10)] rfl ?_
            exact wX16_fragment_L78 X hE hn fu (fun b0 b1 b2 b3 b4 b5 b6 b7 b8 b9 b10 M => fX16_fragment_L17 fu  n b0 b1 b2 b3 b4 b5 b6 b7 b8 b9 b10 M) ih a0 a1 a2 a3 a4 a5 a6 a7 a8 a9 a10 M h
          · have h := (if_pos hc).symm.trans h
            refine g_aload X (pc := 65) 0 rfl dX16_fragment_65 ?_
            obtain ⟨v17, ev17, h⟩ := bd h
            refine g_getI X (pc := 67) fk_13_3 rfl rfl ev17 tb_1787 dX16_fragment_67 ?_
            refine g_iload_n X (pc := 70) 3 rfl rfl dX16_fragment_70 ?_
            refine g_icmp_ne X (pc := 71) (tgt := 78) dX16_fragment_71 (by decide) (fun hc => ?_) (fun hc => ?_)
            · have h := (if_neg hc).symm.trans h
              refine g_sub [1, 2, 3, 4, 5, 6, 7, 8, 9, 10, 11] [(0, pR (some a0)), (1, pI a1), (2, pI a2), (3, pI a3), (4, pI a4), (5, pI a5), (6, pI a6), (7, pI a7), (8, pR a8), (9, pR a9), (10, pI a10)] rfl ?_
              exact wX16_fragment_L78 X hE hn fu (fun b0 b1 b2 b3 b4 b5 b6 b7 b8 b9 b10 M => fX16_fragment_L17 fu  n b0 b1 b2 b3 b4 b5 b6 b7 b8 b9 b10 M) ih a0 a1 a2 a3 a4 a5 a6 a7 a8 a9 a10 M h
            · have h := (if_pos hc).symm.trans h
              refine g_aload X (pc := 74) 0 rfl dX16_fragment_74 ?_
              refine g_astore X (pc := 76) [(8, pR v13), (11, pR v13), (0, pR (some a0)), (1, pI a1), (2, pI a2), (3, pI a3), (4, pI a4), (5, pI a5), (6, pI a6), (7, pI a7), (9, pR a9), (10, pI a10)] (lt_n hn (by decide)) rfl dX16_fragment_76 ?_
              refine g_sub [2, 3, 4, 5, 6, 7, 8, 9, 0, 10, 11] [(0, pR (some a0)), (1, pI a1), (2, pI a2), (3, pI a3), (4, pI a4), (5, pI a5), (6, pI a6), (7, pI a7), (8, pR v13), (9, pR a9), (10, pI a10)] rfl ?_
              exact wX16_fragment_L78 X hE hn fu (fun b0 b1 b2 b3 b4 b5 b6 b7 b8 b9 b10 M => fX16_fragment_L17 fu  n b0 b1 b2 b3 b4 b5 b6 b7 b8 b9 b10 M) ih a0 a1 a2 a3 a4 a5 a6 a7 v13 a9 a10 M h
      · have h := (if_pos hc).symm.trans h
        refine g_aload X (pc := 39) 0 rfl dX16_fragment_39 ?_
        refine g_astore X (pc := 41) [(9, pR v13), (11, pR v13), (0, pR (some a0)), (1, pI a1), (2, pI a2), (3, pI a3), (4, pI a4), (5, pI a5), (6, pI a6), (7, pI a7), (8, pR a8), (10, pI a10)] (lt_n hn (by decide)) rfl dX16_fragment_41 ?_
        refine g_goto X (pc := 43) (tgt := 78) dX16_fragment_43 (by decide) ?_
        refine g_sub [2, 3, 4, 5, 6, 7, 8, 9, 10, 0, 11] [(0, pR (some a0)), (1, pI a1), (2, pI a2), (3, pI a3), (4, pI a4), (5, pI a5), (6, pI a6), (7, pI a7), (8, pR a8), (9, pR v13), (10, pI a10)] rfl ?_
        exact wX16_fragment_L78 X hE hn fu (fun b0 b1 b2 b3 b4 b5 b6 b7 b8 b9 b10 M => fX16_fragment_L17 fu  n b0 b1 b2 b3 b4 b5 b6 b7 b8 b9 b10 M) ih a0 a1 a2 a3 a4 a5 a6 a7 a8 v13 a10 M h
theorem wX16_fragment {x : GX} {n0 sl0 : Nat} (X : Cx x cX16_fragment RX16 none n0 sl0 14 323) {out : Mm} (hE : Ends x n0 sl0 none out) (hn : xn x = 13) (fu : Nat)   (a0 : Nat) (a1 : Int32) (a2 : Int32) (a3 : Int32) (a4 : Int32) (a5 : Int32) (a6 : Int32)  (M : Mm) (h : fX16_fragment fu  a0 a1 a2 a3 a4 a5 a6 M = some out) : Gw x M 0 [(0, pR (some a0)), (1, pI a1), (2, pI a2), (3, pI a3), (4, pI a4), (5, pI a5), (6, pI a6)] [] := by
  unfold fX16_fragment at h
  refine g_aload_n X (pc := 0) 0 rfl rfl dX16_fragment_0 ?_
  refine g_bipush X (pc := 1) (v := 18) dX16_fragment_1 (by decide) ?_
  obtain ⟨q1, eq1, h⟩ := bd h
  obtain ⟨v3, M2, eM2, h⟩ := b2d h
  refine g_callV X (pc := 3) (M' := M2) (ro := some (pI v3)) (c := 16) rfl (by decide) (as := [pI (18 : Int32)]) (as' := [pI (18 : Int32)]) (st := []) eq1 (ctX16_trayHalf _ _ _ _ _ _ fu q1 (18 : Int32) M _ eM2) tb_2206 tb_2203 tb_2205 ts_93 tb_8 ⟨rfl, hyX16_trayHalf⟩ rfl rfl ⟨by decide, by decide⟩ (Nat.le_of_ble_eq_true rfl) dX16_fragment_3 ?_
  refine g_istore X (pc := 6) [(7, pI v3), (0, pR (some a0)), (1, pI a1), (2, pI a2), (3, pI a3), (4, pI a4), (5, pI a5), (6, pI a6)] (lt_n hn (by decide)) rfl dX16_fragment_6 ?_
  refine g_null X (pc := 8) dX16_fragment_8 ?_
  refine g_astore X (pc := 9) [(8, pR none), (7, pI v3), (0, pR (some a0)), (1, pI a1), (2, pI a2), (3, pI a3), (4, pI a4), (5, pI a5), (6, pI a6)] (lt_n hn (by decide)) rfl dX16_fragment_9 ?_
  refine g_null X (pc := 11) dX16_fragment_11 ?_
  refine g_astore X (pc := 12) [(9, pR none), (8, pR none), (7, pI v3), (0, pR (some a0)), (1, pI a1), (2, pI a2), (3, pI a3), (4, pI a4), (5, pI a5), (6, pI a6)] (lt_n hn (by decide)) rfl dX16_fragment_12 ?_
  refine g_iconst X (pc := 14) (v := 3) dX16_fragment_14 (by decide) ?_
  refine g_istore X (pc := 15) [(10, pI (3 : Int32)), (9, pR none), (8, pR none), (7, pI v3), (0, pR (some a0)), (1, pI a1), (2, pI a2), (3, pI a3), (4, pI a4), (5, pI a5), (6, pI a6)] (lt_n hn (by decide)) rfl dX16_fragment_15 ?_
  refine g_sub [4, 5, 6, 7, 8, 9, 10, 3, 2, 1, 0] [(0, pR (some a0)), (1, pI a1), (2, pI a2), (3, pI a3), (4, pI a4), (5, pI a5), (6, pI a6), (7, pI v3), (8, pR none), (9, pR none), (10, pI (3 : Int32))] rfl ?_
  exact wX16_fragment_L17 X hE hn fu   fu a0 a1 a2 a3 a4 a5 a6 v3 none none (3 : Int32) M2 h
theorem hyX16_fragment : yX16_fragment.cls ≠ "java/lang/invoke/MethodHandle" ∧ yX16_fragment.cls ≠ "java/lang/invoke/VarHandle" ∧ (parseMethodDescriptor yX16_fragment.desc).map (fun d => d.parameters.length) = some 6 := ⟨by decide +kernel, by decide +kernel, by decide +kernel⟩
theorem ctX16_fragment (l : Launch) (E : Nat → Nat) (D : va_G) (dA : Nat → ClassId) (lo : Nat) (H0 : Heap) (fu : Nat) (a0 : Nat) (a1 : Int32) (a2 : Int32) (a3 : Int32) (a4 : Int32) (a5 : Int32) (a6 : Int32) (M : Mm) (out : Mm) (h : fX16_fragment fu a0 a1 a2 a3 a4 a5 a6 M = some out) : Ct l E D dA lo H0 yX16_fragment cX16_fragment 13 none 14 323 [pR (some a0), pI a1, pI a2, pI a3, pI a4, pI a5, pI a6] M none out := by
  refine ct_of (by decide +kernel) (Nat.le_of_ble_eq_true rfl) ?_
  intro x hl he hd ha ho hh hn hin X hE
  exact wX16_fragment X hE hn fu a0 a1 a2 a3 a4 a5 a6 M h
/-! WebHostModel.ipIn()V -/
def fX16_ipIn_L274 (fu : Nat)  (a0 : Nat) (a2 : Int32) (a4 : Int32) (a5 : Int32) (a6 : Int32) (a7 : Int32) (a8 : Int32)  (M : Mm) : Option (Mm) :=
    if (a5 + a7) ≤ (4096 : Int32) then (
    (rc M 16 (some a0)).bind fun q1 =>
    (fX16_fragment fu q1 a4 a8 a5 ((14 : Int32) + a2) a7 a6 M).bind fun M2 =>
    some M2)
    else (
    some M)
def fX16_ipIn_L256 (fu : Nat)  (a0 : Nat) (a2 : Int32) (a4 : Int32) (a5 : Int32) (a6 : Int32) (a7 : Int32) (a8 : Int32)  (M : Mm) : Option (Mm) :=
    if a6 = 0 then (
    fX16_ipIn_L274 fu  a0 a2 a4 a5 a6 a7 a8 M)
    else (
    if a7 = 0 then (
    some M)
    else (
    if (irm a7 (8 : Int32)) = 0 then (
    fX16_ipIn_L274 fu  a0 a2 a4 a5 a6 a7 a8 M)
    else (
    some M)))
def fX16_ipIn_L209 (fu : Nat)  : Nat → Nat → Int32 → Int32 → Int32 → Int32 → Int32 → Mm → Option (Mm)
  | 0, _, _, _, _, _, _, _ => none
  | n + 1, a0, a2, a4, a7, a8, a9, M =>
    if a7 ≤ a9 then (
    (pF M 16 1054 (some a0) a4).bind fun M1 =>
    (rc M1 16 (some a0)).bind fun q2 =>
    (fX16_taken fu q2 a8 a7 M1).bind fun M3 =>
    some M3)
    else (
    (gR M 16 1053 (some a0)).bind fun v4 =>
    (gR M 16 1024 (some a0)).bind fun v5 =>
    (gA M 100 v5 (((14 : Int32) + a2) + a9)).bind fun v6 =>
    (pA M 100 v4 a9 (Int8.toInt32 (Int32.toInt8 v6))).bind fun M7 =>
    fX16_ipIn_L209 fu  n a0 a2 a4 a7 a8 (a9 + (1 : Int32)) M7)
def fX16_ipIn_L157 (fu : Nat)  (a0 : Nat) (a2 : Int32) (a3 : Int32) (a4 : Int32) (a5 : Int32) (s0 : Int32) (M : Mm) : Option (Mm) :=
    (gR M 16 1024 (some a0)).bind fun v1 =>
    (gA M 100 v1 (23 : Int32)).bind fun v2 =>
    if s0 = 0 then (
    if a5 = 0 then (
    if (a3 - a2) ≤ (4096 : Int32) then (
    fX16_ipIn_L209 fu  fu a0 a2 a4 (a3 - a2) (v2 &&& (255 : Int32)) (0 : Int32) M)
    else (
    (gI M 16 1042 (some a0)).bind fun v3 =>
    (pF M 16 1042 (some a0) (v3 + (1 : Int32))).bind fun M4 =>
    some M4))
    else (
    fX16_ipIn_L256 fu  a0 a2 a4 a5 s0 (a3 - a2) (v2 &&& (255 : Int32)) M))
    else (
    fX16_ipIn_L256 fu  a0 a2 a4 a5 s0 (a3 - a2) (v2 &&& (255 : Int32)) M)
def fX16_ipIn (fu : Nat)  (a0 : Nat)  (M : Mm) : Option (Mm) :=
    (gI M 16 1025 (some a0)).bind fun v1 =>
    if (v1 - (14 : Int32)) < (20 : Int32) then (
    some M)
    else (
    (gR M 16 1024 (some a0)).bind fun v2 =>
    (gA M 100 v2 (14 : Int32)).bind fun v3 =>
    if (v3 &&& (240 : Int32)) = (64 : Int32) then (
    (gR M 16 1024 (some a0)).bind fun v4 =>
    (gA M 100 v4 (14 : Int32)).bind fun v5 =>
    (rc M 16 (some a0)).bind fun q6 =>
    b2 (fX16_trayHalf fu q6 (16 : Int32) M) fun v8 M7 =>
    if ((4 : Int32) * (v5 &&& (15 : Int32))) < (20 : Int32) then (
    some M7)
    else (
    if v8 < ((4 : Int32) * (v5 &&& (15 : Int32))) then (
    some M7)
    else (
    if (v1 - (14 : Int32)) < v8 then (
    some M7)
    else (
    (gR M7 16 1024 (some a0)).bind fun v9 =>
    b2 (fX16_added fu  v9 (14 : Int32) ((4 : Int32) * (v5 &&& (15 : Int32))) (0 : Int64) M7) fun v11 M10 =>
    b2 (fX16_sixteen fu  v11 M10) fun v13 M12 =>
    if v13 = 0 then (
    (rc M12 16 (some a0)).bind fun q14 =>
    b2 (fX16_trayWord fu q14 (26 : Int32) M12) fun v16 M15 =>
    (rc M15 16 (some a0)).bind fun q17 =>
    b2 (fX16_trayWord fu q17 (30 : Int32) M15) fun v19 M18 =>
    (gI M18 16 1029 (some a0)).bind fun v20 =>
    if v19 = v20 then (
    (gI M18 16 1029 (some a0)).bind fun v21 =>
    if v16 = v21 then (
    some M18)
    else (
    b2 (fX16_isHost fu  v16 M18) fun v23 M22 =>
    if v23 = 0 then (
    some M22)
    else (
    (rc M22 16 (some a0)).bind fun q24 =>
    b2 (fX16_trayHalf fu q24 (20 : Int32) M22) fun v26 M25 =>
    (rc M25 16 (some a0)).bind fun q27 =>
    b2 (fX16_trayHalf fu q27 (20 : Int32) M25) fun v29 M28 =>
    if (v29 &&& (8192 : Int32)) = 0 then (
    fX16_ipIn_L157 fu  a0 ((4 : Int32) * (v5 &&& (15 : Int32))) v8 v16 ((8 : Int32) * (v26 &&& (8191 : Int32))) (0 : Int32) M28)
    else (
    fX16_ipIn_L157 fu  a0 ((4 : Int32) * (v5 &&& (15 : Int32))) v8 v16 ((8 : Int32) * (v26 &&& (8191 : Int32))) (1 : Int32) M28))))
    else (
    some M18))
    else (
    some M12)))))
    else (
    some M))
theorem dX16_ipIn_0 : decode cX16_ipIn 0 = .ok (.aload_n 0, 1) := by decide +kernel
theorem dX16_ipIn_1 : decode cX16_ipIn 1 = .ok (.getfield 84, 3) := by decide +kernel
theorem dX16_ipIn_4 : decode cX16_ipIn 4 = .ok (.bipush 14, 2) := by decide +kernel
theorem dX16_ipIn_6 : decode cX16_ipIn 6 = .ok (.isub, 1) := by decide +kernel
theorem dX16_ipIn_7 : decode cX16_ipIn 7 = .ok (.istore_n 1, 1) := by decide +kernel
theorem dX16_ipIn_8 : decode cX16_ipIn 8 = .ok (.iload_n 1, 1) := by decide +kernel
theorem dX16_ipIn_9 : decode cX16_ipIn 9 = .ok (.bipush 20, 2) := by decide +kernel
theorem dX16_ipIn_11 : decode cX16_ipIn 11 = .ok (.if_icmp .lt 19, 3) := by decide +kernel
theorem dX16_ipIn_14 : decode cX16_ipIn 14 = .ok (.aload_n 0, 1) := by decide +kernel
theorem dX16_ipIn_15 : decode cX16_ipIn 15 = .ok (.getfield 10, 3) := by decide +kernel
theorem dX16_ipIn_18 : decode cX16_ipIn 18 = .ok (.bipush 14, 2) := by decide +kernel
theorem dX16_ipIn_20 : decode cX16_ipIn 20 = .ok (.baload, 1) := by decide +kernel
theorem dX16_ipIn_21 : decode cX16_ipIn 21 = .ok (.sipush 240, 3) := by decide +kernel
theorem dX16_ipIn_24 : decode cX16_ipIn 24 = .ok (.iand, 1) := by decide +kernel
theorem dX16_ipIn_25 : decode cX16_ipIn 25 = .ok (.bipush 64, 2) := by decide +kernel
theorem dX16_ipIn_27 : decode cX16_ipIn 27 = .ok (.if_icmp .eq 4, 3) := by decide +kernel
theorem dX16_ipIn_30 : decode cX16_ipIn 30 = .ok (.return_, 1) := by decide +kernel
theorem dX16_ipIn_31 : decode cX16_ipIn 31 = .ok (.iconst 4, 1) := by decide +kernel
theorem dX16_ipIn_32 : decode cX16_ipIn 32 = .ok (.aload_n 0, 1) := by decide +kernel
theorem dX16_ipIn_33 : decode cX16_ipIn 33 = .ok (.getfield 10, 3) := by decide +kernel
theorem dX16_ipIn_36 : decode cX16_ipIn 36 = .ok (.bipush 14, 2) := by decide +kernel
theorem dX16_ipIn_38 : decode cX16_ipIn 38 = .ok (.baload, 1) := by decide +kernel
theorem dX16_ipIn_39 : decode cX16_ipIn 39 = .ok (.bipush 15, 2) := by decide +kernel
theorem dX16_ipIn_41 : decode cX16_ipIn 41 = .ok (.iand, 1) := by decide +kernel
theorem dX16_ipIn_42 : decode cX16_ipIn 42 = .ok (.imul, 1) := by decide +kernel
theorem dX16_ipIn_43 : decode cX16_ipIn 43 = .ok (.istore_n 2, 1) := by decide +kernel
theorem dX16_ipIn_44 : decode cX16_ipIn 44 = .ok (.aload_n 0, 1) := by decide +kernel
theorem dX16_ipIn_45 : decode cX16_ipIn 45 = .ok (.bipush 16, 2) := by decide +kernel
theorem dX16_ipIn_47 : decode cX16_ipIn 47 = .ok (.invokevirtual 210, 3) := by decide +kernel
theorem dX16_ipIn_50 : decode cX16_ipIn 50 = .ok (.istore_n 3, 1) := by decide +kernel
theorem dX16_ipIn_51 : decode cX16_ipIn 51 = .ok (.iload_n 2, 1) := by decide +kernel
theorem dX16_ipIn_52 : decode cX16_ipIn 52 = .ok (.bipush 20, 2) := by decide +kernel
theorem dX16_ipIn_54 : decode cX16_ipIn 54 = .ok (.if_icmp .lt 30, 3) := by decide +kernel
theorem dX16_ipIn_57 : decode cX16_ipIn 57 = .ok (.iload_n 3, 1) := by decide +kernel
theorem dX16_ipIn_58 : decode cX16_ipIn 58 = .ok (.iload_n 2, 1) := by decide +kernel
theorem dX16_ipIn_59 : decode cX16_ipIn 59 = .ok (.if_icmp .lt 25, 3) := by decide +kernel
theorem dX16_ipIn_62 : decode cX16_ipIn 62 = .ok (.iload_n 3, 1) := by decide +kernel
theorem dX16_ipIn_63 : decode cX16_ipIn 63 = .ok (.iload_n 1, 1) := by decide +kernel
theorem dX16_ipIn_64 : decode cX16_ipIn 64 = .ok (.if_icmp .gt 20, 3) := by decide +kernel
theorem dX16_ipIn_67 : decode cX16_ipIn 67 = .ok (.aload_n 0, 1) := by decide +kernel
theorem dX16_ipIn_68 : decode cX16_ipIn 68 = .ok (.getfield 10, 3) := by decide +kernel
theorem dX16_ipIn_71 : decode cX16_ipIn 71 = .ok (.bipush 14, 2) := by decide +kernel
theorem dX16_ipIn_73 : decode cX16_ipIn 73 = .ok (.iload_n 2, 1) := by decide +kernel
theorem dX16_ipIn_74 : decode cX16_ipIn 74 = .ok (.lconst 0, 1) := by decide +kernel
theorem dX16_ipIn_75 : decode cX16_ipIn 75 = .ok (.invokestatic 216, 3) := by decide +kernel
theorem dX16_ipIn_78 : decode cX16_ipIn 78 = .ok (.invokestatic 220, 3) := by decide +kernel
theorem dX16_ipIn_81 : decode cX16_ipIn 81 = .ok (.ifCond .eq 4, 3) := by decide +kernel
theorem dX16_ipIn_84 : decode cX16_ipIn 84 = .ok (.return_, 1) := by decide +kernel
theorem dX16_ipIn_85 : decode cX16_ipIn 85 = .ok (.aload_n 0, 1) := by decide +kernel
theorem dX16_ipIn_86 : decode cX16_ipIn 86 = .ok (.bipush 26, 2) := by decide +kernel
theorem dX16_ipIn_88 : decode cX16_ipIn 88 = .ok (.invokevirtual 206, 3) := by decide +kernel
theorem dX16_ipIn_91 : decode cX16_ipIn 91 = .ok (.istore 4, 2) := by decide +kernel
theorem dX16_ipIn_93 : decode cX16_ipIn 93 = .ok (.aload_n 0, 1) := by decide +kernel
theorem dX16_ipIn_94 : decode cX16_ipIn 94 = .ok (.bipush 30, 2) := by decide +kernel
theorem dX16_ipIn_96 : decode cX16_ipIn 96 = .ok (.invokevirtual 206, 3) := by decide +kernel
theorem dX16_ipIn_99 : decode cX16_ipIn 99 = .ok (.aload_n 0, 1) := by decide +kernel
theorem dX16_ipIn_100 : decode cX16_ipIn 100 = .ok (.getfield 119, 3) := by decide +kernel
theorem dX16_ipIn_103 : decode cX16_ipIn 103 = .ok (.if_icmp .ne 20, 3) := by decide +kernel
theorem dX16_ipIn_106 : decode cX16_ipIn 106 = .ok (.iload 4, 2) := by decide +kernel
theorem dX16_ipIn_108 : decode cX16_ipIn 108 = .ok (.aload_n 0, 1) := by decide +kernel
theorem dX16_ipIn_109 : decode cX16_ipIn 109 = .ok (.getfield 119, 3) := by decide +kernel
theorem dX16_ipIn_112 : decode cX16_ipIn 112 = .ok (.if_icmp .eq 11, 3) := by decide +kernel
theorem dX16_ipIn_115 : decode cX16_ipIn 115 = .ok (.iload 4, 2) := by decide +kernel
theorem dX16_ipIn_117 : decode cX16_ipIn 117 = .ok (.invokestatic 111, 3) := by decide +kernel
theorem dX16_ipIn_120 : decode cX16_ipIn 120 = .ok (.ifCond .ne 4, 3) := by decide +kernel
theorem dX16_ipIn_123 : decode cX16_ipIn 123 = .ok (.return_, 1) := by decide +kernel
theorem dX16_ipIn_124 : decode cX16_ipIn 124 = .ok (.bipush 8, 2) := by decide +kernel
theorem dX16_ipIn_126 : decode cX16_ipIn 126 = .ok (.aload_n 0, 1) := by decide +kernel
theorem dX16_ipIn_127 : decode cX16_ipIn 127 = .ok (.bipush 20, 2) := by decide +kernel
theorem dX16_ipIn_129 : decode cX16_ipIn 129 = .ok (.invokevirtual 210, 3) := by decide +kernel
theorem dX16_ipIn_132 : decode cX16_ipIn 132 = .ok (.sipush 8191, 3) := by decide +kernel
theorem dX16_ipIn_135 : decode cX16_ipIn 135 = .ok (.iand, 1) := by decide +kernel
theorem dX16_ipIn_136 : decode cX16_ipIn 136 = .ok (.imul, 1) := by decide +kernel
theorem dX16_ipIn_137 : decode cX16_ipIn 137 = .ok (.istore 5, 2) := by decide +kernel
theorem dX16_ipIn_139 : decode cX16_ipIn 139 = .ok (.aload_n 0, 1) := by decide +kernel
theorem dX16_ipIn_140 : decode cX16_ipIn 140 = .ok (.bipush 20, 2) := by decide +kernel
theorem dX16_ipIn_142 : decode cX16_ipIn 142 = .ok (.invokevirtual 210, 3) := by decide +kernel
theorem dX16_ipIn_145 : decode cX16_ipIn 145 = .ok (.sipush 8192, 3) := by decide +kernel
theorem dX16_ipIn_148 : decode cX16_ipIn 148 = .ok (.iand, 1) := by decide +kernel
theorem dX16_ipIn_149 : decode cX16_ipIn 149 = .ok (.ifCond .eq 7, 3) := by decide +kernel
theorem dX16_ipIn_152 : decode cX16_ipIn 152 = .ok (.iconst 1, 1) := by decide +kernel
theorem dX16_ipIn_153 : decode cX16_ipIn 153 = .ok (.goto 4, 3) := by decide +kernel
theorem dX16_ipIn_156 : decode cX16_ipIn 156 = .ok (.iconst 0, 1) := by decide +kernel
theorem dX16_ipIn_157 : decode cX16_ipIn 157 = .ok (.istore 6, 2) := by decide +kernel
theorem dX16_ipIn_159 : decode cX16_ipIn 159 = .ok (.iload_n 3, 1) := by decide +kernel
theorem dX16_ipIn_160 : decode cX16_ipIn 160 = .ok (.iload_n 2, 1) := by decide +kernel
theorem dX16_ipIn_161 : decode cX16_ipIn 161 = .ok (.isub, 1) := by decide +kernel
theorem dX16_ipIn_162 : decode cX16_ipIn 162 = .ok (.istore 7, 2) := by decide +kernel
theorem dX16_ipIn_164 : decode cX16_ipIn 164 = .ok (.aload_n 0, 1) := by decide +kernel
theorem dX16_ipIn_165 : decode cX16_ipIn 165 = .ok (.getfield 10, 3) := by decide +kernel
theorem dX16_ipIn_168 : decode cX16_ipIn 168 = .ok (.bipush 23, 2) := by decide +kernel
theorem dX16_ipIn_170 : decode cX16_ipIn 170 = .ok (.baload, 1) := by decide +kernel
theorem dX16_ipIn_171 : decode cX16_ipIn 171 = .ok (.sipush 255, 3) := by decide +kernel
theorem dX16_ipIn_174 : decode cX16_ipIn 174 = .ok (.iand, 1) := by decide +kernel
theorem dX16_ipIn_175 : decode cX16_ipIn 175 = .ok (.istore 8, 2) := by decide +kernel
theorem dX16_ipIn_177 : decode cX16_ipIn 177 = .ok (.iload 6, 2) := by decide +kernel
theorem dX16_ipIn_179 : decode cX16_ipIn 179 = .ok (.ifCond .ne 77, 3) := by decide +kernel
theorem dX16_ipIn_182 : decode cX16_ipIn 182 = .ok (.iload 5, 2) := by decide +kernel
theorem dX16_ipIn_184 : decode cX16_ipIn 184 = .ok (.ifCond .ne 72, 3) := by decide +kernel
theorem dX16_ipIn_187 : decode cX16_ipIn 187 = .ok (.iload 7, 2) := by decide +kernel
theorem dX16_ipIn_189 : decode cX16_ipIn 189 = .ok (.sipush 4096, 3) := by decide +kernel
theorem dX16_ipIn_192 : decode cX16_ipIn 192 = .ok (.if_icmp .le 14, 3) := by decide +kernel
theorem dX16_ipIn_195 : decode cX16_ipIn 195 = .ok (.aload_n 0, 1) := by decide +kernel
theorem dX16_ipIn_196 : decode cX16_ipIn 196 = .ok (.dup, 1) := by decide +kernel
theorem dX16_ipIn_197 : decode cX16_ipIn 197 = .ok (.getfield 146, 3) := by decide +kernel
theorem dX16_ipIn_200 : decode cX16_ipIn 200 = .ok (.iconst 1, 1) := by decide +kernel
theorem dX16_ipIn_201 : decode cX16_ipIn 201 = .ok (.iadd, 1) := by decide +kernel
theorem dX16_ipIn_202 : decode cX16_ipIn 202 = .ok (.putfield 146, 3) := by decide +kernel
theorem dX16_ipIn_205 : decode cX16_ipIn 205 = .ok (.return_, 1) := by decide +kernel
theorem dX16_ipIn_206 : decode cX16_ipIn 206 = .ok (.iconst 0, 1) := by decide +kernel
theorem dX16_ipIn_207 : decode cX16_ipIn 207 = .ok (.istore 9, 2) := by decide +kernel
theorem dX16_ipIn_209 : decode cX16_ipIn 209 = .ok (.iload 9, 2) := by decide +kernel
theorem dX16_ipIn_211 : decode cX16_ipIn 211 = .ok (.iload 7, 2) := by decide +kernel
theorem dX16_ipIn_213 : decode cX16_ipIn 213 = .ok (.if_icmp .ge 28, 3) := by decide +kernel
theorem dX16_ipIn_216 : decode cX16_ipIn 216 = .ok (.aload_n 0, 1) := by decide +kernel
theorem dX16_ipIn_217 : decode cX16_ipIn 217 = .ok (.getfield 65, 3) := by decide +kernel
theorem dX16_ipIn_220 : decode cX16_ipIn 220 = .ok (.iload 9, 2) := by decide +kernel
theorem dX16_ipIn_222 : decode cX16_ipIn 222 = .ok (.aload_n 0, 1) := by decide +kernel
theorem dX16_ipIn_223 : decode cX16_ipIn 223 = .ok (.getfield 10, 3) := by decide +kernel
theorem dX16_ipIn_226 : decode cX16_ipIn 226 = .ok (.bipush 14, 2) := by decide +kernel
theorem dX16_ipIn_228 : decode cX16_ipIn 228 = .ok (.iload_n 2, 1) := by decide +kernel
theorem dX16_ipIn_229 : decode cX16_ipIn 229 = .ok (.iadd, 1) := by decide +kernel
theorem dX16_ipIn_230 : decode cX16_ipIn 230 = .ok (.iload 9, 2) := by decide +kernel
theorem dX16_ipIn_232 : decode cX16_ipIn 232 = .ok (.iadd, 1) := by decide +kernel
theorem dX16_ipIn_233 : decode cX16_ipIn 233 = .ok (.baload, 1) := by decide +kernel
theorem dX16_ipIn_234 : decode cX16_ipIn 234 = .ok (.bastore, 1) := by decide +kernel
theorem dX16_ipIn_235 : decode cX16_ipIn 235 = .ok (.iinc 9 1, 3) := by decide +kernel
theorem dX16_ipIn_238 : decode cX16_ipIn 238 = .ok (.goto (-29), 3) := by decide +kernel
theorem dX16_ipIn_241 : decode cX16_ipIn 241 = .ok (.aload_n 0, 1) := by decide +kernel
theorem dX16_ipIn_242 : decode cX16_ipIn 242 = .ok (.iload 4, 2) := by decide +kernel
theorem dX16_ipIn_244 : decode cX16_ipIn 244 = .ok (.putfield 240, 3) := by decide +kernel
theorem dX16_ipIn_247 : decode cX16_ipIn 247 = .ok (.aload_n 0, 1) := by decide +kernel
theorem dX16_ipIn_248 : decode cX16_ipIn 248 = .ok (.iload 8, 2) := by decide +kernel
theorem dX16_ipIn_250 : decode cX16_ipIn 250 = .ok (.iload 7, 2) := by decide +kernel
theorem dX16_ipIn_252 : decode cX16_ipIn 252 = .ok (.invokevirtual 243, 3) := by decide +kernel
theorem dX16_ipIn_255 : decode cX16_ipIn 255 = .ok (.return_, 1) := by decide +kernel
theorem dX16_ipIn_256 : decode cX16_ipIn 256 = .ok (.iload 6, 2) := by decide +kernel
theorem dX16_ipIn_258 : decode cX16_ipIn 258 = .ok (.ifCond .eq 16, 3) := by decide +kernel
theorem dX16_ipIn_261 : decode cX16_ipIn 261 = .ok (.iload 7, 2) := by decide +kernel
theorem dX16_ipIn_263 : decode cX16_ipIn 263 = .ok (.ifCond .eq 22, 3) := by decide +kernel
theorem dX16_ipIn_266 : decode cX16_ipIn 266 = .ok (.iload 7, 2) := by decide +kernel
theorem dX16_ipIn_268 : decode cX16_ipIn 268 = .ok (.bipush 8, 2) := by decide +kernel
theorem dX16_ipIn_270 : decode cX16_ipIn 270 = .ok (.irem, 1) := by decide +kernel
theorem dX16_ipIn_271 : decode cX16_ipIn 271 = .ok (.ifCond .ne 14, 3) := by decide +kernel
theorem dX16_ipIn_274 : decode cX16_ipIn 274 = .ok (.iload 5, 2) := by decide +kernel
theorem dX16_ipIn_276 : decode cX16_ipIn 276 = .ok (.iload 7, 2) := by decide +kernel
theorem dX16_ipIn_278 : decode cX16_ipIn 278 = .ok (.iadd, 1) := by decide +kernel
theorem dX16_ipIn_279 : decode cX16_ipIn 279 = .ok (.sipush 4096, 3) := by decide +kernel
theorem dX16_ipIn_282 : decode cX16_ipIn 282 = .ok (.if_icmp .le 4, 3) := by decide +kernel
theorem dX16_ipIn_285 : decode cX16_ipIn 285 = .ok (.return_, 1) := by decide +kernel
theorem dX16_ipIn_286 : decode cX16_ipIn 286 = .ok (.aload_n 0, 1) := by decide +kernel
theorem dX16_ipIn_287 : decode cX16_ipIn 287 = .ok (.iload 4, 2) := by decide +kernel
theorem dX16_ipIn_289 : decode cX16_ipIn 289 = .ok (.iload 8, 2) := by decide +kernel
theorem dX16_ipIn_291 : decode cX16_ipIn 291 = .ok (.iload 5, 2) := by decide +kernel
theorem dX16_ipIn_293 : decode cX16_ipIn 293 = .ok (.bipush 14, 2) := by decide +kernel
theorem dX16_ipIn_295 : decode cX16_ipIn 295 = .ok (.iload_n 2, 1) := by decide +kernel
theorem dX16_ipIn_296 : decode cX16_ipIn 296 = .ok (.iadd, 1) := by decide +kernel
theorem dX16_ipIn_297 : decode cX16_ipIn 297 = .ok (.iload 7, 2) := by decide +kernel
theorem dX16_ipIn_299 : decode cX16_ipIn 299 = .ok (.iload 6, 2) := by decide +kernel
theorem dX16_ipIn_301 : decode cX16_ipIn 301 = .ok (.invokevirtual 247, 3) := by decide +kernel
theorem dX16_ipIn_304 : decode cX16_ipIn 304 = .ok (.return_, 1) := by decide +kernel
theorem wX16_ipIn_L274 {x : GX} {n0 sl0 : Nat} (X : Cx x cX16_ipIn RX16 none n0 sl0 15 355) {out : Mm} (hE : Ends x n0 sl0 none out) (hn : xn x = 10) (fu : Nat)   (a0 : Nat) (a2 : Int32) (a4 : Int32) (a5 : Int32) (a6 : Int32) (a7 : Int32) (a8 : Int32)  (M : Mm) (h : fX16_ipIn_L274 fu  a0 a2 a4 a5 a6 a7 a8 M = some out) : Gw x M 274 [(0, pR (some a0)), (2, pI a2), (4, pI a4), (5, pI a5), (6, pI a6), (7, pI a7), (8, pI a8)] [] := by
  unfold fX16_ipIn_L274 at h
  refine g_iload X (pc := 274) 3 rfl dX16_ipIn_274 ?_
  refine g_iload X (pc := 276) 5 rfl dX16_ipIn_276 ?_
  refine g_iadd X (pc := 278) dX16_ipIn_278 ?_
  refine g_sipush X (pc := 279) (v := 4096) dX16_ipIn_279 (by decide) ?_
  refine g_icmp_le X (pc := 282) (tgt := 286) dX16_ipIn_282 (by decide) (fun hc => ?_) (fun hc => ?_)
  · have h := (if_pos hc).symm.trans h
    refine g_aload_n X (pc := 286) 0 rfl rfl dX16_ipIn_286 ?_
    refine g_iload X (pc := 287) 2 rfl dX16_ipIn_287 ?_
    refine g_iload X (pc := 289) 6 rfl dX16_ipIn_289 ?_
    refine g_iload X (pc := 291) 3 rfl dX16_ipIn_291 ?_
    refine g_bipush X (pc := 293) (v := 14) dX16_ipIn_293 (by decide) ?_
    refine g_iload_n X (pc := 295) 1 rfl rfl dX16_ipIn_295 ?_
    refine g_iadd X (pc := 296) dX16_ipIn_296 ?_
    refine g_iload X (pc := 297) 5 rfl dX16_ipIn_297 ?_
    refine g_iload X (pc := 299) 4 rfl dX16_ipIn_299 ?_
    obtain ⟨q1, eq1, h⟩ := bd h
    obtain ⟨M2, eM2, h⟩ := bd h
    refine g_callV X (pc := 301) (M' := M2) (ro := none) (c := 16) rfl (by decide) (as := [pI a4, pI a8, pI a5, pI ((14 : Int32) + a2), pI a7, pI a6]) (as' := [pI a6, pI a7, pI ((14 : Int32) + a2), pI a5, pI a8, pI a4]) (st := []) eq1 (ctX16_fragment _ _ _ _ _ _ fu q1 a4 a8 a5 ((14 : Int32) + a2) a7 a6 M _ eM2) tb_2487 tb_2484 tb_2486 ts_142 tb_8 ⟨rfl, hyX16_fragment⟩ rfl rfl ⟨by decide, by decide⟩ (Nat.le_of_ble_eq_true rfl) dX16_ipIn_301 ?_
    obtain rfl := Option.some.inj h
    exact g_return X hE dX16_ipIn_304
  · have h := (if_neg hc).symm.trans h
    obtain rfl := Option.some.inj h
    exact g_return X hE dX16_ipIn_285
theorem wX16_ipIn_L256 {x : GX} {n0 sl0 : Nat} (X : Cx x cX16_ipIn RX16 none n0 sl0 15 355) {out : Mm} (hE : Ends x n0 sl0 none out) (hn : xn x = 10) (fu : Nat)   (a0 : Nat) (a2 : Int32) (a4 : Int32) (a5 : Int32) (a6 : Int32) (a7 : Int32) (a8 : Int32)  (M : Mm) (h : fX16_ipIn_L256 fu  a0 a2 a4 a5 a6 a7 a8 M = some out) : Gw x M 256 [(0, pR (some a0)), (2, pI a2), (4, pI a4), (5, pI a5), (6, pI a6), (7, pI a7), (8, pI a8)] [] := by
  unfold fX16_ipIn_L256 at h
  refine g_iload X (pc := 256) 4 rfl dX16_ipIn_256 ?_
  refine g_if_eq X (pc := 258) (tgt := 274) dX16_ipIn_258 (by decide) (fun hc => ?_) (fun hc => ?_)
  · have h := (if_pos hc).symm.trans h
    exact wX16_ipIn_L274 X hE hn fu   a0 a2 a4 a5 a6 a7 a8 M h
  · have h := (if_neg hc).symm.trans h
    refine g_iload X (pc := 261) 5 rfl dX16_ipIn_261 ?_
    refine g_if_eq X (pc := 263) (tgt := 285) dX16_ipIn_263 (by decide) (fun hc => ?_) (fun hc => ?_)
    · have h := (if_pos hc).symm.trans h
      obtain rfl := Option.some.inj h
      exact g_return X hE dX16_ipIn_285
    · have h := (if_neg hc).symm.trans h
      refine g_iload X (pc := 266) 5 rfl dX16_ipIn_266 ?_
      refine g_bipush X (pc := 268) (v := 8) dX16_ipIn_268 (by decide) ?_
      refine g_irem X (pc := 270) (by decide) dX16_ipIn_270 ?_
      refine g_if_ne X (pc := 271) (tgt := 285) dX16_ipIn_271 (by decide) (fun hc => ?_) (fun hc => ?_)
      · have h := (if_neg hc).symm.trans h
        obtain rfl := Option.some.inj h
        exact g_return X hE dX16_ipIn_285
      · have h := (if_pos hc).symm.trans h
        exact wX16_ipIn_L274 X hE hn fu   a0 a2 a4 a5 a6 a7 a8 M h
theorem wX16_ipIn_L209 {x : GX} {n0 sl0 : Nat} (X : Cx x cX16_ipIn RX16 none n0 sl0 15 355) {out : Mm} (hE : Ends x n0 sl0 none out) (hn : xn x = 10) (fu : Nat)   : ∀ (n : Nat) (a0 : Nat) (a2 : Int32) (a4 : Int32) (a7 : Int32) (a8 : Int32) (a9 : Int32)  (M : Mm), fX16_ipIn_L209 fu  n a0 a2 a4 a7 a8 a9 M = some out → Gw x M 209 [(0, pR (some a0)), (2, pI a2), (4, pI a4), (7, pI a7), (8, pI a8), (9, pI a9)] [] := by
  intro n
  induction n with
  | zero =>
    intro a0 a2 a4 a7 a8 a9 M h
    have h : (none : Option (Mm)) = some out := h
    cases h
  | succ n ih =>
    intro a0 a2 a4 a7 a8 a9 M h
    rw [fX16_ipIn_L209] at h
    refine g_iload X (pc := 209) 5 rfl dX16_ipIn_209 ?_
    refine g_iload X (pc := 211) 3 rfl dX16_ipIn_211 ?_
    refine g_icmp_ge X (pc := 213) (tgt := 241) dX16_ipIn_213 (by decide) (fun hc => ?_) (fun hc => ?_)
    · have h := (if_pos hc).symm.trans h
      refine g_aload_n X (pc := 241) 0 rfl rfl dX16_ipIn_241 ?_
      refine g_iload X (pc := 242) 2 rfl dX16_ipIn_242 ?_
      obtain ⟨M1, eM1, h⟩ := bd h
      refine g_putI X (pc := 244) fk_16_30 rfl rfl rfl eM1 tb_1844 (Or.inl rfl) dX16_ipIn_244 ?_
      refine g_aload_n X (pc := 247) 0 rfl rfl dX16_ipIn_247 ?_
      refine g_iload X (pc := 248) 4 rfl dX16_ipIn_248 ?_
      refine g_iload X (pc := 250) 3 rfl dX16_ipIn_250 ?_
      obtain ⟨q2, eq2, h⟩ := bd h
      obtain ⟨M3, eM3, h⟩ := bd h
      refine g_callV X (pc := 252) (M' := M3) (ro := none) (c := 16) rfl (by decide) (as := [pI a8, pI a7]) (as' := [pI a7, pI a8]) (st := []) eq2 (ctX16_taken _ _ _ _ _ _ fu q2 a8 a7 M1 _ eM3) tb_2226 tb_2223 tb_2225 ts_98 tb_8 ⟨rfl, hyX16_taken⟩ rfl rfl ⟨by decide, by decide⟩ (Nat.le_of_ble_eq_true rfl) dX16_ipIn_252 ?_
      obtain rfl := Option.some.inj h
      exact g_return X hE dX16_ipIn_255
    · have h := (if_neg hc).symm.trans h
      refine g_aload_n X (pc := 216) 0 rfl rfl dX16_ipIn_216 ?_
      obtain ⟨v4, ev4, h⟩ := bd h
      refine g_getR X (pc := 217) fk_16_29 rfl rfl ev4 tb_1843 dX16_ipIn_217 ?_
      refine g_iload X (pc := 220) 5 rfl dX16_ipIn_220 ?_
      refine g_aload_n X (pc := 222) 0 rfl rfl dX16_ipIn_222 ?_
      obtain ⟨v5, ev5, h⟩ := bd h
      refine g_getR X (pc := 223) fk_16_0 rfl rfl ev5 tb_1814 dX16_ipIn_223 ?_
      refine g_bipush X (pc := 226) (v := 14) dX16_ipIn_226 (by decide) ?_
      refine g_iload_n X (pc := 228) 1 rfl rfl dX16_ipIn_228 ?_
      refine g_iadd X (pc := 229) dX16_ipIn_229 ?_
      refine g_iload X (pc := 230) 5 rfl dX16_ipIn_230 ?_
      refine g_iadd X (pc := 232) dX16_ipIn_232 ?_
      obtain ⟨v6, ev6, h⟩ := bd h
      refine g_baload X (pc := 233) ev6 dX16_ipIn_233 ?_
      obtain ⟨M7, eM7, h⟩ := bd h
      refine g_bastore X (pc := 234) eM7 dX16_ipIn_234 ?_
      refine g_iinc X (pc := 235) 5 [(9, pI (a9 + (1 : Int32))), (0, pR (some a0)), (2, pI a2), (4, pI a4), (7, pI a7), (8, pI a8)] rfl (iinc_e (by decide)) (lt_n hn (by decide)) rfl dX16_ipIn_235 ?_
      refine g_goto X (pc := 238) (tgt := 209) dX16_ipIn_238 (by decide) ?_
      refine g_sub [1, 2, 3, 4, 5, 0] [(0, pR (some a0)), (2, pI a2), (4, pI a4), (7, pI a7), (8, pI a8), (9, pI (a9 + (1 : Int32)))] rfl ?_
      exact ih a0 a2 a4 a7 a8 (a9 + (1 : Int32)) M7 h
theorem wX16_ipIn_L157 {x : GX} {n0 sl0 : Nat} (X : Cx x cX16_ipIn RX16 none n0 sl0 15 355) {out : Mm} (hE : Ends x n0 sl0 none out) (hn : xn x = 10) (fu : Nat)   (a0 : Nat) (a2 : Int32) (a3 : Int32) (a4 : Int32) (a5 : Int32) (s0 : Int32) (M : Mm) (h : fX16_ipIn_L157 fu  a0 a2 a3 a4 a5 s0 M = some out) : Gw x M 157 [(0, pR (some a0)), (2, pI a2), (3, pI a3), (4, pI a4), (5, pI a5)] [pI s0] := by
  unfold fX16_ipIn_L157 at h
  refine g_istore X (pc := 157) [(6, pI s0), (0, pR (some a0)), (2, pI a2), (3, pI a3), (4, pI a4), (5, pI a5)] (lt_n hn (by decide)) rfl dX16_ipIn_157 ?_
  refine g_iload_n X (pc := 159) 3 rfl rfl dX16_ipIn_159 ?_
  refine g_iload_n X (pc := 160) 2 rfl rfl dX16_ipIn_160 ?_
  refine g_isub X (pc := 161) dX16_ipIn_161 ?_
  refine g_istore X (pc := 162) [(7, pI (a3 - a2)), (6, pI s0), (0, pR (some a0)), (2, pI a2), (3, pI a3), (4, pI a4), (5, pI a5)] (lt_n hn (by decide)) rfl dX16_ipIn_162 ?_
  refine g_aload_n X (pc := 164) 2 rfl rfl dX16_ipIn_164 ?_
  obtain ⟨v1, ev1, h⟩ := bd h
  refine g_getR X (pc := 165) fk_16_0 rfl rfl ev1 tb_1814 dX16_ipIn_165 ?_
  refine g_bipush X (pc := 168) (v := 23) dX16_ipIn_168 (by decide) ?_
  obtain ⟨v2, ev2, h⟩ := bd h
  refine g_baload X (pc := 170) ev2 dX16_ipIn_170 ?_
  refine g_sipush X (pc := 171) (v := 255) dX16_ipIn_171 (by decide) ?_
  refine g_iand X (pc := 174) dX16_ipIn_174 ?_
  refine g_istore X (pc := 175) [(8, pI (v2 &&& (255 : Int32))), (7, pI (a3 - a2)), (6, pI s0), (0, pR (some a0)), (2, pI a2), (3, pI a3), (4, pI a4), (5, pI a5)] (lt_n hn (by decide)) rfl dX16_ipIn_175 ?_
  refine g_iload X (pc := 177) 2 rfl dX16_ipIn_177 ?_
  refine g_if_ne X (pc := 179) (tgt := 256) dX16_ipIn_179 (by decide) (fun hc => ?_) (fun hc => ?_)
  · have h := (if_neg hc).symm.trans h
    refine g_sub [3, 4, 6, 7, 2, 1, 0] [(0, pR (some a0)), (2, pI a2), (4, pI a4), (5, pI a5), (6, pI s0), (7, pI (a3 - a2)), (8, pI (v2 &&& (255 : Int32)))] rfl ?_
    exact wX16_ipIn_L256 X hE hn fu   a0 a2 a4 a5 s0 (a3 - a2) (v2 &&& (255 : Int32)) M h
  · have h := (if_pos hc).symm.trans h
    refine g_iload X (pc := 182) 7 rfl dX16_ipIn_182 ?_
    refine g_if_ne X (pc := 184) (tgt := 256) dX16_ipIn_184 (by decide) (fun hc => ?_) (fun hc => ?_)
    · have h := (if_neg hc).symm.trans h
      refine g_sub [3, 4, 6, 7, 2, 1, 0] [(0, pR (some a0)), (2, pI a2), (4, pI a4), (5, pI a5), (6, pI s0), (7, pI (a3 - a2)), (8, pI (v2 &&& (255 : Int32)))] rfl ?_
      exact wX16_ipIn_L256 X hE hn fu   a0 a2 a4 a5 s0 (a3 - a2) (v2 &&& (255 : Int32)) M h
    · have h := (if_pos hc).symm.trans h
      refine g_iload X (pc := 187) 1 rfl dX16_ipIn_187 ?_
      refine g_sipush X (pc := 189) (v := 4096) dX16_ipIn_189 (by decide) ?_
      refine g_icmp_le X (pc := 192) (tgt := 206) dX16_ipIn_192 (by decide) (fun hc => ?_) (fun hc => ?_)
      · have h := (if_pos hc).symm.trans h
        refine g_iconst X (pc := 206) (v := 0) dX16_ipIn_206 (by decide) ?_
        refine g_istore X (pc := 207) [(9, pI (0 : Int32)), (8, pI (v2 &&& (255 : Int32))), (7, pI (a3 - a2)), (6, pI s0), (0, pR (some a0)), (2, pI a2), (3, pI a3), (4, pI a4), (5, pI a5)] (lt_n hn (by decide)) rfl dX16_ipIn_207 ?_
        refine g_sub [4, 5, 7, 2, 1, 0] [(0, pR (some a0)), (2, pI a2), (4, pI a4), (7, pI (a3 - a2)), (8, pI (v2 &&& (255 : Int32))), (9, pI (0 : Int32))] rfl ?_
        exact wX16_ipIn_L209 X hE hn fu   fu a0 a2 a4 (a3 - a2) (v2 &&& (255 : Int32)) (0 : Int32) M h
      · have h := (if_neg hc).symm.trans h
        refine g_aload_n X (pc := 195) 3 rfl rfl dX16_ipIn_195 ?_
        refine g_dup X (pc := 196) rfl dX16_ipIn_196 ?_
        obtain ⟨v3, ev3, h⟩ := bd h
        refine g_getI X (pc := 197) fk_16_18 rfl rfl ev3 tb_1832 dX16_ipIn_197 ?_
        refine g_iconst X (pc := 200) (v := 1) dX16_ipIn_200 (by decide) ?_
        refine g_iadd X (pc := 201) dX16_ipIn_201 ?_
        obtain ⟨M4, eM4, h⟩ := bd h
        refine g_putI X (pc := 202) fk_16_18 rfl rfl rfl eM4 tb_1832 (Or.inl rfl) dX16_ipIn_202 ?_
        obtain rfl := Option.some.inj h
        exact g_return X hE dX16_ipIn_205
theorem wX16_ipIn {x : GX} {n0 sl0 : Nat} (X : Cx x cX16_ipIn RX16 none n0 sl0 15 355) {out : Mm} (hE : Ends x n0 sl0 none out) (hn : xn x = 10) (fu : Nat)   (a0 : Nat)  (M : Mm) (h : fX16_ipIn fu  a0 M = some out) : Gw x M 0 [(0, pR (some a0))] [] := by
  unfold fX16_ipIn at h
  refine g_aload_n X (pc := 0) 0 rfl rfl dX16_ipIn_0 ?_
  obtain ⟨v1, ev1, h⟩ := bd h
  refine g_getI X (pc := 1) fk_16_1 rfl rfl ev1 tb_1815 dX16_ipIn_1 ?_
  refine g_bipush X (pc := 4) (v := 14) dX16_ipIn_4 (by decide) ?_
  refine g_isub X (pc := 6) dX16_ipIn_6 ?_
  refine g_istore_n X (pc := 7) [(1, pI (v1 - (14 : Int32))), (0, pR (some a0))] rfl (lt_n hn (by decide)) rfl dX16_ipIn_7 ?_
  refine g_iload_n X (pc := 8) 0 rfl rfl dX16_ipIn_8 ?_
  refine g_bipush X (pc := 9) (v := 20) dX16_ipIn_9 (by decide) ?_
  refine g_icmp_lt X (pc := 11) (tgt := 30) dX16_ipIn_11 (by decide) (fun hc => ?_) (fun hc => ?_)
  · have h := (if_pos hc).symm.trans h
    obtain rfl := Option.some.inj h
    exact g_return X hE dX16_ipIn_30
  · have h := (if_neg hc).symm.trans h
    refine g_aload_n X (pc := 14) 1 rfl rfl dX16_ipIn_14 ?_
    obtain ⟨v2, ev2, h⟩ := bd h
    refine g_getR X (pc := 15) fk_16_0 rfl rfl ev2 tb_1814 dX16_ipIn_15 ?_
    refine g_bipush X (pc := 18) (v := 14) dX16_ipIn_18 (by decide) ?_
    obtain ⟨v3, ev3, h⟩ := bd h
    refine g_baload X (pc := 20) ev3 dX16_ipIn_20 ?_
    refine g_sipush X (pc := 21) (v := 240) dX16_ipIn_21 (by decide) ?_
    refine g_iand X (pc := 24) dX16_ipIn_24 ?_
    refine g_bipush X (pc := 25) (v := 64) dX16_ipIn_25 (by decide) ?_
    refine g_icmp_eq X (pc := 27) (tgt := 31) dX16_ipIn_27 (by decide) (fun hc => ?_) (fun hc => ?_)
    · have h := (if_pos hc).symm.trans h
      refine g_iconst X (pc := 31) (v := 4) dX16_ipIn_31 (by decide) ?_
      refine g_aload_n X (pc := 32) 1 rfl rfl dX16_ipIn_32 ?_
      obtain ⟨v4, ev4, h⟩ := bd h
      refine g_getR X (pc := 33) fk_16_0 rfl rfl ev4 tb_1814 dX16_ipIn_33 ?_
      refine g_bipush X (pc := 36) (v := 14) dX16_ipIn_36 (by decide) ?_
      obtain ⟨v5, ev5, h⟩ := bd h
      refine g_baload X (pc := 38) ev5 dX16_ipIn_38 ?_
      refine g_bipush X (pc := 39) (v := 15) dX16_ipIn_39 (by decide) ?_
      refine g_iand X (pc := 41) dX16_ipIn_41 ?_
      refine g_imul X (pc := 42) dX16_ipIn_42 ?_
      refine g_istore_n X (pc := 43) [(2, pI ((4 : Int32) * (v5 &&& (15 : Int32)))), (1, pI (v1 - (14 : Int32))), (0, pR (some a0))] rfl (lt_n hn (by decide)) rfl dX16_ipIn_43 ?_
      refine g_aload_n X (pc := 44) 2 rfl rfl dX16_ipIn_44 ?_
      refine g_bipush X (pc := 45) (v := 16) dX16_ipIn_45 (by decide) ?_
      obtain ⟨q6, eq6, h⟩ := bd h
      obtain ⟨v8, M7, eM7, h⟩ := b2d h
      refine g_callV X (pc := 47) (M' := M7) (ro := some (pI v8)) (c := 16) rfl (by decide) (as := [pI (16 : Int32)]) (as' := [pI (16 : Int32)]) (st := []) eq6 (ctX16_trayHalf _ _ _ _ _ _ fu q6 (16 : Int32) M _ eM7) tb_2206 tb_2203 tb_2205 ts_93 tb_8 ⟨rfl, hyX16_trayHalf⟩ rfl rfl ⟨by decide, by decide⟩ (Nat.le_of_ble_eq_true rfl) dX16_ipIn_47 ?_
      refine g_istore_n X (pc := 50) [(3, pI v8), (2, pI ((4 : Int32) * (v5 &&& (15 : Int32)))), (1, pI (v1 - (14 : Int32))), (0, pR (some a0))] rfl (lt_n hn (by decide)) rfl dX16_ipIn_50 ?_
      refine g_iload_n X (pc := 51) 1 rfl rfl dX16_ipIn_51 ?_
      refine g_bipush X (pc := 52) (v := 20) dX16_ipIn_52 (by decide) ?_
      refine g_icmp_lt X (pc := 54) (tgt := 84) dX16_ipIn_54 (by decide) (fun hc => ?_) (fun hc => ?_)
      · have h := (if_pos hc).symm.trans h
        obtain rfl := Option.some.inj h
        exact g_return X hE dX16_ipIn_84
      · have h := (if_neg hc).symm.trans h
        refine g_iload_n X (pc := 57) 0 rfl rfl dX16_ipIn_57 ?_
        refine g_iload_n X (pc := 58) 1 rfl rfl dX16_ipIn_58 ?_
        refine g_icmp_lt X (pc := 59) (tgt := 84) dX16_ipIn_59 (by decide) (fun hc => ?_) (fun hc => ?_)
        · have h := (if_pos hc).symm.trans h
          obtain rfl := Option.some.inj h
          exact g_return X hE dX16_ipIn_84
        · have h := (if_neg hc).symm.trans h
          refine g_iload_n X (pc := 62) 0 rfl rfl dX16_ipIn_62 ?_
          refine g_iload_n X (pc := 63) 2 rfl rfl dX16_ipIn_63 ?_
          refine g_icmp_gt X (pc := 64) (tgt := 84) dX16_ipIn_64 (by decide) (fun hc => ?_) (fun hc => ?_)
          · have h := (if_pos hc).symm.trans h
            obtain rfl := Option.some.inj h
            exact g_return X hE dX16_ipIn_84
          · have h := (if_neg hc).symm.trans h
            refine g_aload_n X (pc := 67) 3 rfl rfl dX16_ipIn_67 ?_
            obtain ⟨v9, ev9, h⟩ := bd h
            refine g_getR X (pc := 68) fk_16_0 rfl rfl ev9 tb_1814 dX16_ipIn_68 ?_
            refine g_bipush X (pc := 71) (v := 14) dX16_ipIn_71 (by decide) ?_
            refine g_iload_n X (pc := 73) 1 rfl rfl dX16_ipIn_73 ?_
            refine g_lconst X (pc := 74) (v := 0) dX16_ipIn_74 (by decide) ?_
            obtain ⟨v11, M10, eM10, h⟩ := b2d h
            refine g_callS X (pc := 75) (M' := M10) (ro := some (pL v11)) (as := [pR v9, pI (14 : Int32), pI ((4 : Int32) * (v5 &&& (15 : Int32))), pL (0 : Int64)]) (as' := [pL (0 : Int64), pI ((4 : Int32) * (v5 &&& (15 : Int32))), pI (14 : Int32), pR v9]) (st := []) (ctX16_added _ _ _ _ _ _ fu  v9 (14 : Int32) ((4 : Int32) * (v5 &&& (15 : Int32))) (0 : Int64) M7 _ eM10) tb_2125 tb_2123 tb_2124 tb_8 hyX16_added rfl rfl ⟨by decide, by decide⟩ (Nat.le_of_ble_eq_true rfl) dX16_ipIn_75 ?_
            obtain ⟨v13, M12, eM12, h⟩ := b2d h
            refine g_callS X (pc := 78) (M' := M12) (ro := some (pI v13)) (as := [pL v11]) (as' := [pL v11]) (st := []) (ctX16_sixteen _ _ _ _ _ _ fu  v11 M10 _ eM12) tb_2128 tb_2126 tb_2127 tb_8 hyX16_sixteen rfl rfl ⟨by decide, by decide⟩ (Nat.le_of_ble_eq_true rfl) dX16_ipIn_78 ?_
            refine g_if_eq X (pc := 81) (tgt := 85) dX16_ipIn_81 (by decide) (fun hc => ?_) (fun hc => ?_)
            · have h := (if_pos hc).symm.trans h
              refine g_aload_n X (pc := 85) 3 rfl rfl dX16_ipIn_85 ?_
              refine g_bipush X (pc := 86) (v := 26) dX16_ipIn_86 (by decide) ?_
              obtain ⟨q14, eq14, h⟩ := bd h
              obtain ⟨v16, M15, eM15, h⟩ := b2d h
              refine g_callV X (pc := 88) (M' := M15) (ro := some (pI v16)) (c := 16) rfl (by decide) (as := [pI (26 : Int32)]) (as' := [pI (26 : Int32)]) (st := []) eq14 (ctX16_trayWord _ _ _ _ _ _ fu q14 (26 : Int32) M12 _ eM15) tb_2210 tb_2207 tb_2209 ts_94 tb_8 ⟨rfl, hyX16_trayWord⟩ rfl rfl ⟨by decide, by decide⟩ (Nat.le_of_ble_eq_true rfl) dX16_ipIn_88 ?_
              refine g_istore X (pc := 91) [(4, pI v16), (3, pI v8), (2, pI ((4 : Int32) * (v5 &&& (15 : Int32)))), (1, pI (v1 - (14 : Int32))), (0, pR (some a0))] (lt_n hn (by decide)) rfl dX16_ipIn_91 ?_
              refine g_aload_n X (pc := 93) 4 rfl rfl dX16_ipIn_93 ?_
              refine g_bipush X (pc := 94) (v := 30) dX16_ipIn_94 (by decide) ?_
              obtain ⟨q17, eq17, h⟩ := bd h
              obtain ⟨v19, M18, eM18, h⟩ := b2d h
              refine g_callV X (pc := 96) (M' := M18) (ro := some (pI v19)) (c := 16) rfl (by decide) (as := [pI (30 : Int32)]) (as' := [pI (30 : Int32)]) (st := []) eq17 (ctX16_trayWord _ _ _ _ _ _ fu q17 (30 : Int32) M15 _ eM18) tb_2210 tb_2207 tb_2209 ts_94 tb_8 ⟨rfl, hyX16_trayWord⟩ rfl rfl ⟨by decide, by decide⟩ (Nat.le_of_ble_eq_true rfl) dX16_ipIn_96 ?_
              refine g_aload_n X (pc := 99) 4 rfl rfl dX16_ipIn_99 ?_
              obtain ⟨v20, ev20, h⟩ := bd h
              refine g_getI X (pc := 100) fk_16_5 rfl rfl ev20 tb_1819 dX16_ipIn_100 ?_
              refine g_icmp_ne X (pc := 103) (tgt := 123) dX16_ipIn_103 (by decide) (fun hc => ?_) (fun hc => ?_)
              · have h := (if_neg hc).symm.trans h
                obtain rfl := Option.some.inj h
                exact g_return X hE dX16_ipIn_123
              · have h := (if_pos hc).symm.trans h
                refine g_iload X (pc := 106) 0 rfl dX16_ipIn_106 ?_
                refine g_aload_n X (pc := 108) 4 rfl rfl dX16_ipIn_108 ?_
                obtain ⟨v21, ev21, h⟩ := bd h
                refine g_getI X (pc := 109) fk_16_5 rfl rfl ev21 tb_1819 dX16_ipIn_109 ?_
                refine g_icmp_eq X (pc := 112) (tgt := 123) dX16_ipIn_112 (by decide) (fun hc => ?_) (fun hc => ?_)
                · have h := (if_pos hc).symm.trans h
                  obtain rfl := Option.some.inj h
                  exact g_return X hE dX16_ipIn_123
                · have h := (if_neg hc).symm.trans h
                  refine g_iload X (pc := 115) 0 rfl dX16_ipIn_115 ?_
                  obtain ⟨v23, M22, eM22, h⟩ := b2d h
                  refine g_callS X (pc := 117) (M' := M22) (ro := some (pI v23)) (as := [pI v16]) (as' := [pI v16]) (st := []) (ctX16_isHost _ _ _ _ _ _ fu  v16 M18 _ eM22) tb_2026 tb_2024 tb_2025 tb_8 hyX16_isHost rfl rfl ⟨by decide, by decide⟩ (Nat.le_of_ble_eq_true rfl) dX16_ipIn_117 ?_
                  refine g_if_ne X (pc := 120) (tgt := 124) dX16_ipIn_120 (by decide) (fun hc => ?_) (fun hc => ?_)
                  · have h := (if_neg hc).symm.trans h
                    refine g_bipush X (pc := 124) (v := 8) dX16_ipIn_124 (by decide) ?_
                    refine g_aload_n X (pc := 126) 4 rfl rfl dX16_ipIn_126 ?_
                    refine g_bipush X (pc := 127) (v := 20) dX16_ipIn_127 (by decide) ?_
                    obtain ⟨q24, eq24, h⟩ := bd h
                    obtain ⟨v26, M25, eM25, h⟩ := b2d h
                    refine g_callV X (pc := 129) (M' := M25) (ro := some (pI v26)) (c := 16) rfl (by decide) (as := [pI (20 : Int32)]) (as' := [pI (20 : Int32)]) (st := [pI (8 : Int32)]) eq24 (ctX16_trayHalf _ _ _ _ _ _ fu q24 (20 : Int32) M22 _ eM25) tb_2206 tb_2203 tb_2205 ts_93 tb_8 ⟨rfl, hyX16_trayHalf⟩ rfl rfl ⟨by decide, by decide⟩ (Nat.le_of_ble_eq_true rfl) dX16_ipIn_129 ?_
                    refine g_sipush X (pc := 132) (v := 8191) dX16_ipIn_132 (by decide) ?_
                    refine g_iand X (pc := 135) dX16_ipIn_135 ?_
                    refine g_imul X (pc := 136) dX16_ipIn_136 ?_
                    refine g_istore X (pc := 137) [(5, pI ((8 : Int32) * (v26 &&& (8191 : Int32)))), (4, pI v16), (3, pI v8), (2, pI ((4 : Int32) * (v5 &&& (15 : Int32)))), (1, pI (v1 - (14 : Int32))), (0, pR (some a0))] (lt_n hn (by decide)) rfl dX16_ipIn_137 ?_
                    refine g_aload_n X (pc := 139) 5 rfl rfl dX16_ipIn_139 ?_
                    refine g_bipush X (pc := 140) (v := 20) dX16_ipIn_140 (by decide) ?_
                    obtain ⟨q27, eq27, h⟩ := bd h
                    obtain ⟨v29, M28, eM28, h⟩ := b2d h
                    refine g_callV X (pc := 142) (M' := M28) (ro := some (pI v29)) (c := 16) rfl (by decide) (as := [pI (20 : Int32)]) (as' := [pI (20 : Int32)]) (st := []) eq27 (ctX16_trayHalf _ _ _ _ _ _ fu q27 (20 : Int32) M25 _ eM28) tb_2206 tb_2203 tb_2205 ts_93 tb_8 ⟨rfl, hyX16_trayHalf⟩ rfl rfl ⟨by decide, by decide⟩ (Nat.le_of_ble_eq_true rfl) dX16_ipIn_142 ?_
                    refine g_sipush X (pc := 145) (v := 8192) dX16_ipIn_145 (by decide) ?_
                    refine g_iand X (pc := 148) dX16_ipIn_148 ?_
                    refine g_if_eq X (pc := 149) (tgt := 156) dX16_ipIn_149 (by decide) (fun hc => ?_) (fun hc => ?_)
                    · have h := (if_pos hc).symm.trans h
                      refine g_iconst X (pc := 156) (v := 0) dX16_ipIn_156 (by decide) ?_
                      refine g_sub [5, 3, 2, 1, 0] [(0, pR (some a0)), (2, pI ((4 : Int32) * (v5 &&& (15 : Int32)))), (3, pI v8), (4, pI v16), (5, pI ((8 : Int32) * (v26 &&& (8191 : Int32))))] rfl ?_
                      exact wX16_ipIn_L157 X hE hn fu   a0 ((4 : Int32) * (v5 &&& (15 : Int32))) v8 v16 ((8 : Int32) * (v26 &&& (8191 : Int32))) (0 : Int32) M28 h
                    · have h := (if_neg hc).symm.trans h
                      refine g_iconst X (pc := 152) (v := 1) dX16_ipIn_152 (by decide) ?_
                      refine g_goto X (pc := 153) (tgt := 157) dX16_ipIn_153 (by decide) ?_
                      refine g_sub [5, 3, 2, 1, 0] [(0, pR (some a0)), (2, pI ((4 : Int32) * (v5 &&& (15 : Int32)))), (3, pI v8), (4, pI v16), (5, pI ((8 : Int32) * (v26 &&& (8191 : Int32))))] rfl ?_
                      exact wX16_ipIn_L157 X hE hn fu   a0 ((4 : Int32) * (v5 &&& (15 : Int32))) v8 v16 ((8 : Int32) * (v26 &&& (8191 : Int32))) (1 : Int32) M28 h
                  · have h := (if_pos hc).symm.trans h
                    obtain rfl := Option.some.inj h
                    exact g_return X hE dX16_ipIn_123
            · have h := (if_neg hc).symm.trans h
              obtain rfl := Option.some.inj h
              exact g_return X hE dX16_ipIn_84
    · have h := (if_neg hc).symm.trans h
      obtain rfl := Option.some.inj h
      exact g_return X hE dX16_ipIn_30
theorem hyX16_ipIn : yX16_ipIn.cls ≠ "java/lang/invoke/MethodHandle" ∧ yX16_ipIn.cls ≠ "java/lang/invoke/VarHandle" ∧ (parseMethodDescriptor yX16_ipIn.desc).map (fun d => d.parameters.length) = some 0 := ⟨by decide +kernel, by decide +kernel, by decide +kernel⟩
theorem ctX16_ipIn (l : Launch) (E : Nat → Nat) (D : va_G) (dA : Nat → ClassId) (lo : Nat) (H0 : Heap) (fu : Nat) (a0 : Nat) (M : Mm) (out : Mm) (h : fX16_ipIn fu a0 M = some out) : Ct l E D dA lo H0 yX16_ipIn cX16_ipIn 10 none 15 355 [pR (some a0)] M none out := by
  refine ct_of (by decide +kernel) (Nat.le_of_ble_eq_true rfl) ?_
  intro x hl he hd ha ho hh hn hin X hE
  exact wX16_ipIn X hE hn fu a0 M h
/-! WebHostModel.runOut(LWebHostModel$Connection;)V -/
def fX16_runOut_L198 (fu : Nat)  (a0 : Nat) (a1 : Option Nat)  (M : Mm) : Option (Mm) :=
    (rc M 16 (some a0)).bind fun q1 =>
    (fX16_timerSet fu q1 a1 M).bind fun M2 =>
    some M2
def fX16_runOut_L195 (fu : Nat)  (a0 : Nat) (a1 : Option Nat) (s0 : Option Nat) (s1 : Option Nat) (s2 : Int32) (M : Mm) : Option (Mm) :=
    (rc M 16 s0).bind fun q1 =>
    (fX16_one fu q1 s1 s2 M).bind fun M2 =>
    fX16_runOut_L198 fu  a0 a1 M2
def fX16_runOut_L114 (fu : Nat)  (a0 : Nat) (a1 : Option Nat)  (M : Mm) : Option (Mm) :=
    (gI M 12 778 a1).bind fun v1 =>
    (pF M 12 779 a1 v1).bind fun M2 =>
    (pZ M2 12 786 a1 (0 : Int32)).bind fun M3 =>
    (pF M3 12 792 a1 (0 : Int32)).bind fun M4 =>
    (gI M4 12 781 a1).bind fun v5 =>
    (pF M4 12 781 a1 (jmin (60000 : Int32) ((2 : Int32) * v5))).bind fun M6 =>
    (gI M6 12 772 a1).bind fun v7 =>
    (pF M6 12 773 a1 v7).bind fun M8 =>
    (gI M8 12 768 a1).bind fun v9 =>
    if v9 = (1 : Int32) then (
    (rc M8 16 (some a0)).bind fun q13 =>
    (fX16_synAck fu q13 a1 M8).bind fun M14 =>
    fX16_runOut_L198 fu  a0 a1 M14)
    else (
    (gI M8 12 775 a1).bind fun v10 =>
    if v10 = 0 then (
    fX16_runOut_L195 fu  a0 a1 (some a0) a1 (1 : Int32) M8)
    else (
    (gI M8 12 779 a1).bind fun v11 =>
    (gI M8 12 775 a1).bind fun v12 =>
    fX16_runOut_L195 fu  a0 a1 (some a0) a1 (jmin v11 v12) M8))
def fX16_runOut_L33 (fu : Nat)  (a0 : Nat) (a1 : Option Nat) (s0 : Int32) (s1 : Int32) (M : Mm) : Option (Mm) :=
    if s0 ≤ s1 then (
    (gI M 12 768 a1).bind fun v1 =>
    if v1 = (1 : Int32) then (
    fX16_runOut_L114 fu  a0 a1 M)
    else (
    (gI M 12 774 a1).bind fun v2 =>
    (gI M 12 772 a1).bind fun v3 =>
    (gI M 12 778 a1).bind fun v4 =>
    (pF M 12 780 a1 (jmax ((v2 - v3) / (2 : Int32)) ((2 : Int32) * v4))).bind fun M5 =>
    fX16_runOut_L114 fu  a0 a1 M5))
    else (
    (gR M 16 1041 (some a0)).bind fun v6 =>
    (gA M 101 v6 (2 : Int32)).bind fun v7 =>
    (pA M 101 v6 (2 : Int32) (v7 + (1 : Int32))).bind fun M8 =>
    (gI M8 12 769 a1).bind fun v9 =>
    (gI M8 12 770 a1).bind fun v10 =>
    (gI M8 12 773 a1).bind fun v11 =>
    (gI M8 12 804 a1).bind fun v12 =>
    (rc M8 12 a1).bind fun q13 =>
    b2 (fX12_open fu q13  M8) fun v15 M14 =>
    (rc M14 16 (some a0)).bind fun q16 =>
    (fX16_segmentOut fu q16 v9 (80 : Int32) v10 v11 v12 (20 : Int32) v15 (0 : Int32) (0 : Int32) M14).bind fun M17 =>
    (rc M17 16 (some a0)).bind fun q18 =>
    (fX16_gone fu q18 a1 M17).bind fun M19 =>
    some M19)
def fX16_runOut (fu : Nat)  (a0 : Nat) (a1 : Option Nat)  (M : Mm) : Option (Mm) :=
    (pZ M 12 789 a1 (0 : Int32)).bind fun M1 =>
    (gI M1 12 791 a1).bind fun v2 =>
    (pF M1 12 791 a1 (v2 + (1 : Int32))).bind fun M3 =>
    (gI M3 12 791 a1).bind fun v4 =>
    (gI M3 12 768 a1).bind fun v5 =>
    if v5 = (1 : Int32) then (
    fX16_runOut_L33 fu  a0 a1 v4 (5 : Int32) M3)
    else (
    fX16_runOut_L33 fu  a0 a1 v4 (8 : Int32) M3)
theorem dX16_runOut_0 : decode cX16_runOut 0 = .ok (.aload_n 1, 1) := by decide +kernel
theorem dX16_runOut_1 : decode cX16_runOut 1 = .ok (.iconst 0, 1) := by decide +kernel
theorem dX16_runOut_2 : decode cX16_runOut 2 = .ok (.putfield 376, 3) := by decide +kernel
theorem dX16_runOut_5 : decode cX16_runOut 5 = .ok (.aload_n 1, 1) := by decide +kernel
theorem dX16_runOut_6 : decode cX16_runOut 6 = .ok (.dup, 1) := by decide +kernel
theorem dX16_runOut_7 : decode cX16_runOut 7 = .ok (.getfield 466, 3) := by decide +kernel
theorem dX16_runOut_10 : decode cX16_runOut 10 = .ok (.iconst 1, 1) := by decide +kernel
theorem dX16_runOut_11 : decode cX16_runOut 11 = .ok (.iadd, 1) := by decide +kernel
theorem dX16_runOut_12 : decode cX16_runOut 12 = .ok (.putfield 466, 3) := by decide +kernel
theorem dX16_runOut_15 : decode cX16_runOut 15 = .ok (.aload_n 1, 1) := by decide +kernel
theorem dX16_runOut_16 : decode cX16_runOut 16 = .ok (.getfield 466, 3) := by decide +kernel
theorem dX16_runOut_19 : decode cX16_runOut 19 = .ok (.aload_n 1, 1) := by decide +kernel
theorem dX16_runOut_20 : decode cX16_runOut 20 = .ok (.getfield 152, 3) := by decide +kernel
theorem dX16_runOut_23 : decode cX16_runOut 23 = .ok (.iconst 1, 1) := by decide +kernel
theorem dX16_runOut_24 : decode cX16_runOut 24 = .ok (.if_icmp .ne 7, 3) := by decide +kernel
theorem dX16_runOut_27 : decode cX16_runOut 27 = .ok (.iconst 5, 1) := by decide +kernel
theorem dX16_runOut_28 : decode cX16_runOut 28 = .ok (.goto 5, 3) := by decide +kernel
theorem dX16_runOut_31 : decode cX16_runOut 31 = .ok (.bipush 8, 2) := by decide +kernel
theorem dX16_runOut_33 : decode cX16_runOut 33 = .ok (.if_icmp .le 49, 3) := by decide +kernel
theorem dX16_runOut_36 : decode cX16_runOut 36 = .ok (.aload_n 0, 1) := by decide +kernel
theorem dX16_runOut_37 : decode cX16_runOut 37 = .ok (.getfield 31, 3) := by decide +kernel
theorem dX16_runOut_40 : decode cX16_runOut 40 = .ok (.iconst 2, 1) := by decide +kernel
theorem dX16_runOut_41 : decode cX16_runOut 41 = .ok (.dup2, 1) := by decide +kernel
theorem dX16_runOut_42 : decode cX16_runOut 42 = .ok (.iaload, 1) := by decide +kernel
theorem dX16_runOut_43 : decode cX16_runOut 43 = .ok (.iconst 1, 1) := by decide +kernel
theorem dX16_runOut_44 : decode cX16_runOut 44 = .ok (.iadd, 1) := by decide +kernel
theorem dX16_runOut_45 : decode cX16_runOut 45 = .ok (.iastore, 1) := by decide +kernel
theorem dX16_runOut_46 : decode cX16_runOut 46 = .ok (.aload_n 0, 1) := by decide +kernel
theorem dX16_runOut_47 : decode cX16_runOut 47 = .ok (.aload_n 1, 1) := by decide +kernel
theorem dX16_runOut_48 : decode cX16_runOut 48 = .ok (.getfield 314, 3) := by decide +kernel
theorem dX16_runOut_51 : decode cX16_runOut 51 = .ok (.bipush 80, 2) := by decide +kernel
theorem dX16_runOut_53 : decode cX16_runOut 53 = .ok (.aload_n 1, 1) := by decide +kernel
theorem dX16_runOut_54 : decode cX16_runOut 54 = .ok (.getfield 315, 3) := by decide +kernel
theorem dX16_runOut_57 : decode cX16_runOut 57 = .ok (.aload_n 1, 1) := by decide +kernel
theorem dX16_runOut_58 : decode cX16_runOut 58 = .ok (.getfield 345, 3) := by decide +kernel
theorem dX16_runOut_61 : decode cX16_runOut 61 = .ok (.aload_n 1, 1) := by decide +kernel
theorem dX16_runOut_62 : decode cX16_runOut 62 = .ok (.getfield 348, 3) := by decide +kernel
theorem dX16_runOut_65 : decode cX16_runOut 65 = .ok (.bipush 20, 2) := by decide +kernel
theorem dX16_runOut_67 : decode cX16_runOut 67 = .ok (.aload_n 1, 1) := by decide +kernel
theorem dX16_runOut_68 : decode cX16_runOut 68 = .ok (.invokevirtual 339, 3) := by decide +kernel
theorem dX16_runOut_71 : decode cX16_runOut 71 = .ok (.iconst 0, 1) := by decide +kernel
theorem dX16_runOut_72 : decode cX16_runOut 72 = .ok (.iconst 0, 1) := by decide +kernel
theorem dX16_runOut_73 : decode cX16_runOut 73 = .ok (.invokevirtual 329, 3) := by decide +kernel
theorem dX16_runOut_76 : decode cX16_runOut 76 = .ok (.aload_n 0, 1) := by decide +kernel
theorem dX16_runOut_77 : decode cX16_runOut 77 = .ok (.aload_n 1, 1) := by decide +kernel
theorem dX16_runOut_78 : decode cX16_runOut 78 = .ok (.invokevirtual 502, 3) := by decide +kernel
theorem dX16_runOut_81 : decode cX16_runOut 81 = .ok (.return_, 1) := by decide +kernel
theorem dX16_runOut_82 : decode cX16_runOut 82 = .ok (.aload_n 1, 1) := by decide +kernel
theorem dX16_runOut_83 : decode cX16_runOut 83 = .ok (.getfield 152, 3) := by decide +kernel
theorem dX16_runOut_86 : decode cX16_runOut 86 = .ok (.iconst 1, 1) := by decide +kernel
theorem dX16_runOut_87 : decode cX16_runOut 87 = .ok (.if_icmp .eq 27, 3) := by decide +kernel
theorem dX16_runOut_90 : decode cX16_runOut 90 = .ok (.aload_n 1, 1) := by decide +kernel
theorem dX16_runOut_91 : decode cX16_runOut 91 = .ok (.aload_n 1, 1) := by decide +kernel
theorem dX16_runOut_92 : decode cX16_runOut 92 = .ok (.getfield 361, 3) := by decide +kernel
theorem dX16_runOut_95 : decode cX16_runOut 95 = .ok (.aload_n 1, 1) := by decide +kernel
theorem dX16_runOut_96 : decode cX16_runOut 96 = .ok (.getfield 428, 3) := by decide +kernel
theorem dX16_runOut_99 : decode cX16_runOut 99 = .ok (.isub, 1) := by decide +kernel
theorem dX16_runOut_100 : decode cX16_runOut 100 = .ok (.iconst 2, 1) := by decide +kernel
theorem dX16_runOut_101 : decode cX16_runOut 101 = .ok (.idiv, 1) := by decide +kernel
theorem dX16_runOut_102 : decode cX16_runOut 102 = .ok (.iconst 2, 1) := by decide +kernel
theorem dX16_runOut_103 : decode cX16_runOut 103 = .ok (.aload_n 1, 1) := by decide +kernel
theorem dX16_runOut_104 : decode cX16_runOut 104 = .ok (.getfield 405, 3) := by decide +kernel
theorem dX16_runOut_107 : decode cX16_runOut 107 = .ok (.imul, 1) := by decide +kernel
theorem dX16_runOut_108 : decode cX16_runOut 108 = .ok (.invokestatic 164, 3) := by decide +kernel
theorem dX16_runOut_111 : decode cX16_runOut 111 = .ok (.putfield 457, 3) := by decide +kernel
theorem dX16_runOut_114 : decode cX16_runOut 114 = .ok (.aload_n 1, 1) := by decide +kernel
theorem dX16_runOut_115 : decode cX16_runOut 115 = .ok (.aload_n 1, 1) := by decide +kernel
theorem dX16_runOut_116 : decode cX16_runOut 116 = .ok (.getfield 405, 3) := by decide +kernel
theorem dX16_runOut_119 : decode cX16_runOut 119 = .ok (.putfield 431, 3) := by decide +kernel
theorem dX16_runOut_122 : decode cX16_runOut 122 = .ok (.aload_n 1, 1) := by decide +kernel
theorem dX16_runOut_123 : decode cX16_runOut 123 = .ok (.iconst 0, 1) := by decide +kernel
theorem dX16_runOut_124 : decode cX16_runOut 124 = .ok (.putfield 463, 3) := by decide +kernel
theorem dX16_runOut_127 : decode cX16_runOut 127 = .ok (.aload_n 1, 1) := by decide +kernel
theorem dX16_runOut_128 : decode cX16_runOut 128 = .ok (.iconst 0, 1) := by decide +kernel
theorem dX16_runOut_129 : decode cX16_runOut 129 = .ok (.putfield 469, 3) := by decide +kernel
theorem dX16_runOut_132 : decode cX16_runOut 132 = .ok (.aload_n 1, 1) := by decide +kernel
theorem dX16_runOut_133 : decode cX16_runOut 133 = .ok (.ldc 181, 2) := by decide +kernel
theorem dX16_runOut_135 : decode cX16_runOut 135 = .ok (.iconst 2, 1) := by decide +kernel
theorem dX16_runOut_136 : decode cX16_runOut 136 = .ok (.aload_n 1, 1) := by decide +kernel
theorem dX16_runOut_137 : decode cX16_runOut 137 = .ok (.getfield 382, 3) := by decide +kernel
theorem dX16_runOut_140 : decode cX16_runOut 140 = .ok (.imul, 1) := by decide +kernel
theorem dX16_runOut_141 : decode cX16_runOut 141 = .ok (.invokestatic 411, 3) := by decide +kernel
theorem dX16_runOut_144 : decode cX16_runOut 144 = .ok (.putfield 382, 3) := by decide +kernel
theorem dX16_runOut_147 : decode cX16_runOut 147 = .ok (.aload_n 1, 1) := by decide +kernel
theorem dX16_runOut_148 : decode cX16_runOut 148 = .ok (.aload_n 1, 1) := by decide +kernel
theorem dX16_runOut_149 : decode cX16_runOut 149 = .ok (.getfield 428, 3) := by decide +kernel
theorem dX16_runOut_152 : decode cX16_runOut 152 = .ok (.putfield 345, 3) := by decide +kernel
theorem dX16_runOut_155 : decode cX16_runOut 155 = .ok (.aload_n 1, 1) := by decide +kernel
theorem dX16_runOut_156 : decode cX16_runOut 156 = .ok (.getfield 152, 3) := by decide +kernel
theorem dX16_runOut_159 : decode cX16_runOut 159 = .ok (.iconst 1, 1) := by decide +kernel
theorem dX16_runOut_160 : decode cX16_runOut 160 = .ok (.if_icmp .ne 11, 3) := by decide +kernel
theorem dX16_runOut_163 : decode cX16_runOut 163 = .ok (.aload_n 0, 1) := by decide +kernel
theorem dX16_runOut_164 : decode cX16_runOut 164 = .ok (.aload_n 1, 1) := by decide +kernel
theorem dX16_runOut_165 : decode cX16_runOut 165 = .ok (.invokevirtual 485, 3) := by decide +kernel
theorem dX16_runOut_168 : decode cX16_runOut 168 = .ok (.goto 30, 3) := by decide +kernel
theorem dX16_runOut_171 : decode cX16_runOut 171 = .ok (.aload_n 0, 1) := by decide +kernel
theorem dX16_runOut_172 : decode cX16_runOut 172 = .ok (.aload_n 1, 1) := by decide +kernel
theorem dX16_runOut_173 : decode cX16_runOut 173 = .ok (.aload_n 1, 1) := by decide +kernel
theorem dX16_runOut_174 : decode cX16_runOut 174 = .ok (.getfield 434, 3) := by decide +kernel
theorem dX16_runOut_177 : decode cX16_runOut 177 = .ok (.ifCond .ne 7, 3) := by decide +kernel
theorem dX16_runOut_180 : decode cX16_runOut 180 = .ok (.iconst 1, 1) := by decide +kernel
theorem dX16_runOut_181 : decode cX16_runOut 181 = .ok (.goto 14, 3) := by decide +kernel
theorem dX16_runOut_184 : decode cX16_runOut 184 = .ok (.aload_n 1, 1) := by decide +kernel
theorem dX16_runOut_185 : decode cX16_runOut 185 = .ok (.getfield 431, 3) := by decide +kernel
theorem dX16_runOut_188 : decode cX16_runOut 188 = .ok (.aload_n 1, 1) := by decide +kernel
theorem dX16_runOut_189 : decode cX16_runOut 189 = .ok (.getfield 434, 3) := by decide +kernel
theorem dX16_runOut_192 : decode cX16_runOut 192 = .ok (.invokestatic 411, 3) := by decide +kernel
theorem dX16_runOut_195 : decode cX16_runOut 195 = .ok (.invokevirtual 435, 3) := by decide +kernel
theorem dX16_runOut_198 : decode cX16_runOut 198 = .ok (.aload_n 0, 1) := by decide +kernel
theorem dX16_runOut_199 : decode cX16_runOut 199 = .ok (.aload_n 1, 1) := by decide +kernel
theorem dX16_runOut_200 : decode cX16_runOut 200 = .ok (.invokevirtual 379, 3) := by decide +kernel
theorem dX16_runOut_203 : decode cX16_runOut 203 = .ok (.return_, 1) := by decide +kernel
theorem wX16_runOut_L198 {x : GX} {n0 sl0 : Nat} (X : Cx x cX16_runOut RX16 none n0 sl0 8 206) {out : Mm} (hE : Ends x n0 sl0 none out) (hn : xn x = 2) (fu : Nat)   (a0 : Nat) (a1 : Option Nat)  (M : Mm) (h : fX16_runOut_L198 fu  a0 a1 M = some out) : Gw x M 198 [(0, pR (some a0)), (1, pR a1)] [] := by
  unfold fX16_runOut_L198 at h
  refine g_aload_n X (pc := 198) 0 rfl rfl dX16_runOut_198 ?_
  refine g_aload_n X (pc := 199) 1 rfl rfl dX16_runOut_199 ?_
  obtain ⟨q1, eq1, h⟩ := bd h
  obtain ⟨M2, eM2, h⟩ := bd h
  refine g_callV X (pc := 200) (M' := M2) (ro := none) (c := 16) rfl (by decide) (as := [pR a1]) (as' := [pR a1]) (st := []) eq1 (ctX16_timerSet _ _ _ _ _ _ fu q1 a1 M _ eM2) tb_2174 tb_2171 tb_2173 ts_86 tb_8 ⟨rfl, hyX16_timerSet⟩ rfl rfl ⟨by decide, by decide⟩ (Nat.le_of_ble_eq_true rfl) dX16_runOut_200 ?_
  obtain rfl := Option.some.inj h
  exact g_return X hE dX16_runOut_203
theorem wX16_runOut_L195 {x : GX} {n0 sl0 : Nat} (X : Cx x cX16_runOut RX16 none n0 sl0 8 206) {out : Mm} (hE : Ends x n0 sl0 none out) (hn : xn x = 2) (fu : Nat)   (a0 : Nat) (a1 : Option Nat) (s0 : Option Nat) (s1 : Option Nat) (s2 : Int32) (M : Mm) (h : fX16_runOut_L195 fu  a0 a1 s0 s1 s2 M = some out) : Gw x M 195 [(0, pR (some a0)), (1, pR a1)] [pI s2, pR s1, pR s0] := by
  unfold fX16_runOut_L195 at h
  obtain ⟨q1, eq1, h⟩ := bd h
  obtain ⟨M2, eM2, h⟩ := bd h
  refine g_callV X (pc := 195) (M' := M2) (ro := none) (c := 16) rfl (by decide) (as := [pR s1, pI s2]) (as' := [pI s2, pR s1]) (st := []) eq1 (ctX16_one _ _ _ _ _ _ fu q1 s1 s2 M _ eM2) tb_2178 tb_2175 tb_2177 ts_87 tb_8 ⟨rfl, hyX16_one⟩ rfl rfl ⟨by decide, by decide⟩ (Nat.le_of_ble_eq_true rfl) dX16_runOut_195 ?_
  exact wX16_runOut_L198 X hE hn fu   a0 a1 M2 h
theorem wX16_runOut_L114 {x : GX} {n0 sl0 : Nat} (X : Cx x cX16_runOut RX16 none n0 sl0 8 206) {out : Mm} (hE : Ends x n0 sl0 none out) (hn : xn x = 2) (fu : Nat)   (a0 : Nat) (a1 : Option Nat)  (M : Mm) (h : fX16_runOut_L114 fu  a0 a1 M = some out) : Gw x M 114 [(0, pR (some a0)), (1, pR a1)] [] := by
  unfold fX16_runOut_L114 at h
  refine g_aload_n X (pc := 114) 1 rfl rfl dX16_runOut_114 ?_
  refine g_aload_n X (pc := 115) 1 rfl rfl dX16_runOut_115 ?_
  obtain ⟨v1, ev1, h⟩ := bd h
  refine g_getI X (pc := 116) fk_12_10 rfl rfl ev1 tb_1590 dX16_runOut_116 ?_
  obtain ⟨M2, eM2, h⟩ := bd h
  refine g_putI X (pc := 119) fk_12_11 rfl rfl rfl eM2 tb_1591 (Or.inl rfl) dX16_runOut_119 ?_
  refine g_aload_n X (pc := 122) 1 rfl rfl dX16_runOut_122 ?_
  refine g_iconst X (pc := 123) (v := 0) dX16_runOut_123 (by decide) ?_
  obtain ⟨M3, eM3, h⟩ := bd h
  refine g_putZ X (pc := 124) fk_12_18 rfl rfl rfl eM3 tb_1598 (Or.inl rfl) dX16_runOut_124 ?_
  refine g_aload_n X (pc := 127) 1 rfl rfl dX16_runOut_127 ?_
  refine g_iconst X (pc := 128) (v := 0) dX16_runOut_128 (by decide) ?_
  obtain ⟨M4, eM4, h⟩ := bd h
  refine g_putI X (pc := 129) fk_12_24 rfl rfl rfl eM4 tb_1604 (Or.inl rfl) dX16_runOut_129 ?_
  refine g_aload_n X (pc := 132) 1 rfl rfl dX16_runOut_132 ?_
  refine g_ldc X (pc := 133) tb_2146 dX16_runOut_133 ?_
  refine g_iconst X (pc := 135) (v := 2) dX16_runOut_135 (by decide) ?_
  refine g_aload_n X (pc := 136) 1 rfl rfl dX16_runOut_136 ?_
  obtain ⟨v5, ev5, h⟩ := bd h
  refine g_getI X (pc := 137) fk_12_13 rfl rfl ev5 tb_1593 dX16_runOut_137 ?_
  refine g_imul X (pc := 140) dX16_runOut_140 ?_
  refine g_mmin X (pc := 141) tb_2155 tb_348 tb_13 tb_349 ⟨by decide, Nat.le_of_ble_eq_true rfl⟩ dX16_runOut_141 ?_
  obtain ⟨M6, eM6, h⟩ := bd h
  refine g_putI X (pc := 144) fk_12_13 rfl rfl rfl eM6 tb_1593 (Or.inl rfl) dX16_runOut_144 ?_
  refine g_aload_n X (pc := 147) 1 rfl rfl dX16_runOut_147 ?_
  refine g_aload_n X (pc := 148) 1 rfl rfl dX16_runOut_148 ?_
  obtain ⟨v7, ev7, h⟩ := bd h
  refine g_getI X (pc := 149) fk_12_4 rfl rfl ev7 tb_1584 dX16_runOut_149 ?_
  obtain ⟨M8, eM8, h⟩ := bd h
  refine g_putI X (pc := 152) fk_12_5 rfl rfl rfl eM8 tb_1585 (Or.inl rfl) dX16_runOut_152 ?_
  refine g_aload_n X (pc := 155) 1 rfl rfl dX16_runOut_155 ?_
  obtain ⟨v9, ev9, h⟩ := bd h
  refine g_getI X (pc := 156) fk_12_0 rfl rfl ev9 tb_1580 dX16_runOut_156 ?_
  refine g_iconst X (pc := 159) (v := 1) dX16_runOut_159 (by decide) ?_
  refine g_icmp_ne X (pc := 160) (tgt := 171) dX16_runOut_160 (by decide) (fun hc => ?_) (fun hc => ?_)
  · have h := (if_neg hc).symm.trans h
    refine g_aload_n X (pc := 171) 0 rfl rfl dX16_runOut_171 ?_
    refine g_aload_n X (pc := 172) 1 rfl rfl dX16_runOut_172 ?_
    refine g_aload_n X (pc := 173) 1 rfl rfl dX16_runOut_173 ?_
    obtain ⟨v10, ev10, h⟩ := bd h
    refine g_getI X (pc := 174) fk_12_7 rfl rfl ev10 tb_1587 dX16_runOut_174 ?_
    refine g_if_ne X (pc := 177) (tgt := 184) dX16_runOut_177 (by decide) (fun hc => ?_) (fun hc => ?_)
    · have h := (if_neg hc).symm.trans h
      refine g_aload_n X (pc := 184) 1 rfl rfl dX16_runOut_184 ?_
      obtain ⟨v11, ev11, h⟩ := bd h
      refine g_getI X (pc := 185) fk_12_11 rfl rfl ev11 tb_1591 dX16_runOut_185 ?_
      refine g_aload_n X (pc := 188) 1 rfl rfl dX16_runOut_188 ?_
      obtain ⟨v12, ev12, h⟩ := bd h
      refine g_getI X (pc := 189) fk_12_7 rfl rfl ev12 tb_1587 dX16_runOut_189 ?_
      refine g_mmin X (pc := 192) tb_2155 tb_348 tb_13 tb_349 ⟨by decide, Nat.le_of_ble_eq_true rfl⟩ dX16_runOut_192 ?_
      exact wX16_runOut_L195 X hE hn fu   a0 a1 (some a0) a1 (jmin v11 v12) M8 h
    · have h := (if_pos hc).symm.trans h
      refine g_iconst X (pc := 180) (v := 1) dX16_runOut_180 (by decide) ?_
      refine g_goto X (pc := 181) (tgt := 195) dX16_runOut_181 (by decide) ?_
      exact wX16_runOut_L195 X hE hn fu   a0 a1 (some a0) a1 (1 : Int32) M8 h
  · have h := (if_pos hc).symm.trans h
    refine g_aload_n X (pc := 163) 0 rfl rfl dX16_runOut_163 ?_
    refine g_aload_n X (pc := 164) 1 rfl rfl dX16_runOut_164 ?_
    obtain ⟨q13, eq13, h⟩ := bd h
    obtain ⟨M14, eM14, h⟩ := bd h
    refine g_callV X (pc := 165) (M' := M14) (ro := none) (c := 16) rfl (by decide) (as := [pR a1]) (as' := [pR a1]) (st := []) eq13 (ctX16_synAck _ _ _ _ _ _ fu q13 a1 M8 _ eM14) tb_2159 tb_2156 tb_2158 ts_83 tb_8 ⟨rfl, hyX16_synAck⟩ rfl rfl ⟨by decide, by decide⟩ (Nat.le_of_ble_eq_true rfl) dX16_runOut_165 ?_
    refine g_goto X (pc := 168) (tgt := 198) dX16_runOut_168 (by decide) ?_
    exact wX16_runOut_L198 X hE hn fu   a0 a1 M14 h
theorem wX16_runOut_L33 {x : GX} {n0 sl0 : Nat} (X : Cx x cX16_runOut RX16 none n0 sl0 8 206) {out : Mm} (hE : Ends x n0 sl0 none out) (hn : xn x = 2) (fu : Nat)   (a0 : Nat) (a1 : Option Nat) (s0 : Int32) (s1 : Int32) (M : Mm) (h : fX16_runOut_L33 fu  a0 a1 s0 s1 M = some out) : Gw x M 33 [(0, pR (some a0)), (1, pR a1)] [pI s1, pI s0] := by
  unfold fX16_runOut_L33 at h
  refine g_icmp_le X (pc := 33) (tgt := 82) dX16_runOut_33 (by decide) (fun hc => ?_) (fun hc => ?_)
  · have h := (if_pos hc).symm.trans h
    refine g_aload_n X (pc := 82) 1 rfl rfl dX16_runOut_82 ?_
    obtain ⟨v1, ev1, h⟩ := bd h
    refine g_getI X (pc := 83) fk_12_0 rfl rfl ev1 tb_1580 dX16_runOut_83 ?_
    refine g_iconst X (pc := 86) (v := 1) dX16_runOut_86 (by decide) ?_
    refine g_icmp_eq X (pc := 87) (tgt := 114) dX16_runOut_87 (by decide) (fun hc => ?_) (fun hc => ?_)
    · have h := (if_pos hc).symm.trans h
      exact wX16_runOut_L114 X hE hn fu   a0 a1 M h
    · have h := (if_neg hc).symm.trans h
      refine g_aload_n X (pc := 90) 1 rfl rfl dX16_runOut_90 ?_
      refine g_aload_n X (pc := 91) 1 rfl rfl dX16_runOut_91 ?_
      obtain ⟨v2, ev2, h⟩ := bd h
      refine g_getI X (pc := 92) fk_12_6 rfl rfl ev2 tb_1586 dX16_runOut_92 ?_
      refine g_aload_n X (pc := 95) 1 rfl rfl dX16_runOut_95 ?_
      obtain ⟨v3, ev3, h⟩ := bd h
      refine g_getI X (pc := 96) fk_12_4 rfl rfl ev3 tb_1584 dX16_runOut_96 ?_
      refine g_isub X (pc := 99) dX16_runOut_99 ?_
      refine g_iconst X (pc := 100) (v := 2) dX16_runOut_100 (by decide) ?_
      refine g_idiv X (pc := 101) (by decide) dX16_runOut_101 ?_
      refine g_iconst X (pc := 102) (v := 2) dX16_runOut_102 (by decide) ?_
      refine g_aload_n X (pc := 103) 1 rfl rfl dX16_runOut_103 ?_
      obtain ⟨v4, ev4, h⟩ := bd h
      refine g_getI X (pc := 104) fk_12_10 rfl rfl ev4 tb_1590 dX16_runOut_104 ?_
      refine g_imul X (pc := 107) dX16_runOut_107 ?_
      refine g_mmax X (pc := 108) tb_2100 tb_405 tb_13 tb_406 ⟨by decide, Nat.le_of_ble_eq_true rfl⟩ dX16_runOut_108 ?_
      obtain ⟨M5, eM5, h⟩ := bd h
      refine g_putI X (pc := 111) fk_12_12 rfl rfl rfl eM5 tb_1592 (Or.inl rfl) dX16_runOut_111 ?_
      exact wX16_runOut_L114 X hE hn fu   a0 a1 M5 h
  · have h := (if_neg hc).symm.trans h
    refine g_aload_n X (pc := 36) 0 rfl rfl dX16_runOut_36 ?_
    obtain ⟨v6, ev6, h⟩ := bd h
    refine g_getR X (pc := 37) fk_16_17 rfl rfl ev6 tb_1831 dX16_runOut_37 ?_
    refine g_iconst X (pc := 40) (v := 2) dX16_runOut_40 (by decide) ?_
    refine g_dup2 X (pc := 41) rfl rfl dX16_runOut_41 ?_
    obtain ⟨v7, ev7, h⟩ := bd h
    refine g_iaload X (pc := 42) ev7 dX16_runOut_42 ?_
    refine g_iconst X (pc := 43) (v := 1) dX16_runOut_43 (by decide) ?_
    refine g_iadd X (pc := 44) dX16_runOut_44 ?_
    obtain ⟨M8, eM8, h⟩ := bd h
    refine g_iastore X (pc := 45) eM8 dX16_runOut_45 ?_
    refine g_aload_n X (pc := 46) 0 rfl rfl dX16_runOut_46 ?_
    refine g_aload_n X (pc := 47) 1 rfl rfl dX16_runOut_47 ?_
    obtain ⟨v9, ev9, h⟩ := bd h
    refine g_getI X (pc := 48) fk_12_1 rfl rfl ev9 tb_1581 dX16_runOut_48 ?_
    refine g_bipush X (pc := 51) (v := 80) dX16_runOut_51 (by decide) ?_
    refine g_aload_n X (pc := 53) 1 rfl rfl dX16_runOut_53 ?_
    obtain ⟨v10, ev10, h⟩ := bd h
    refine g_getI X (pc := 54) fk_12_2 rfl rfl ev10 tb_1582 dX16_runOut_54 ?_
    refine g_aload_n X (pc := 57) 1 rfl rfl dX16_runOut_57 ?_
    obtain ⟨v11, ev11, h⟩ := bd h
    refine g_getI X (pc := 58) fk_12_5 rfl rfl ev11 tb_1585 dX16_runOut_58 ?_
    refine g_aload_n X (pc := 61) 1 rfl rfl dX16_runOut_61 ?_
    obtain ⟨v12, ev12, h⟩ := bd h
    refine g_getI X (pc := 62) fk_12_36 rfl rfl ev12 tb_1625 dX16_runOut_62 ?_
    refine g_bipush X (pc := 65) (v := 20) dX16_runOut_65 (by decide) ?_
    refine g_aload_n X (pc := 67) 1 rfl rfl dX16_runOut_67 ?_
    obtain ⟨q13, eq13, h⟩ := bd h
    obtain ⟨v15, M14, eM14, h⟩ := b2d h
    refine g_callV X (pc := 68) (M' := M14) (ro := some (pI v15)) (c := 12) rfl (by decide) (as := []) (as' := []) (st := [pI (20 : Int32), pI v12, pI v11, pI v10, pI (80 : Int32), pI v9, pR (some a0)]) eq13 (ctX12_open _ _ _ _ _ _ fu q13  M8 _ eM14) tb_2108 tb_2105 tb_2106 tb_2107 tb_9 ⟨rfl, hyX12_open⟩ rfl rfl ⟨by decide, by decide⟩ (Nat.le_of_ble_eq_true rfl) dX16_runOut_68 ?_
    refine g_iconst X (pc := 71) (v := 0) dX16_runOut_71 (by decide) ?_
    refine g_iconst X (pc := 72) (v := 0) dX16_runOut_72 (by decide) ?_
    obtain ⟨q16, eq16, h⟩ := bd h
    obtain ⟨M17, eM17, h⟩ := bd h
    refine g_callV X (pc := 73) (M' := M17) (ro := none) (c := 16) rfl (by decide) (as := [pI v9, pI (80 : Int32), pI v10, pI v11, pI v12, pI (20 : Int32), pI v15, pI (0 : Int32), pI (0 : Int32)]) (as' := [pI (0 : Int32), pI (0 : Int32), pI v15, pI (20 : Int32), pI v12, pI v11, pI v10, pI (80 : Int32), pI v9]) (st := []) eq16 (ctX16_segmentOut _ _ _ _ _ _ fu q16 v9 (80 : Int32) v10 v11 v12 (20 : Int32) v15 (0 : Int32) (0 : Int32) M14 _ eM17) tb_2116 tb_2113 tb_2115 ts_75 tb_8 ⟨rfl, hyX16_segmentOut⟩ rfl rfl ⟨by decide, by decide⟩ (Nat.le_of_ble_eq_true rfl) dX16_runOut_73 ?_
    refine g_aload_n X (pc := 76) 0 rfl rfl dX16_runOut_76 ?_
    refine g_aload_n X (pc := 77) 1 rfl rfl dX16_runOut_77 ?_
    obtain ⟨q18, eq18, h⟩ := bd h
    obtain ⟨M19, eM19, h⟩ := bd h
    refine g_callV X (pc := 78) (M' := M19) (ro := none) (c := 16) rfl (by decide) (as := [pR a1]) (as' := [pR a1]) (st := []) eq18 (ctX16_gone _ _ _ _ _ _ fu q18 a1 M17 _ eM19) tb_2154 tb_2151 tb_2153 ts_82 tb_8 ⟨rfl, hyX16_gone⟩ rfl rfl ⟨by decide, by decide⟩ (Nat.le_of_ble_eq_true rfl) dX16_runOut_78 ?_
    obtain rfl := Option.some.inj h
    exact g_return X hE dX16_runOut_81
theorem wX16_runOut {x : GX} {n0 sl0 : Nat} (X : Cx x cX16_runOut RX16 none n0 sl0 8 206) {out : Mm} (hE : Ends x n0 sl0 none out) (hn : xn x = 2) (fu : Nat)   (a0 : Nat) (a1 : Option Nat)  (M : Mm) (h : fX16_runOut fu  a0 a1 M = some out) : Gw x M 0 [(0, pR (some a0)), (1, pR a1)] [] := by
  unfold fX16_runOut at h
  refine g_aload_n X (pc := 0) 1 rfl rfl dX16_runOut_0 ?_
  refine g_iconst X (pc := 1) (v := 0) dX16_runOut_1 (by decide) ?_
  obtain ⟨M1, eM1, h⟩ := bd h
  refine g_putZ X (pc := 2) fk_12_21 rfl rfl rfl eM1 tb_1601 (Or.inl rfl) dX16_runOut_2 ?_
  refine g_aload_n X (pc := 5) 1 rfl rfl dX16_runOut_5 ?_
  refine g_dup X (pc := 6) rfl dX16_runOut_6 ?_
  obtain ⟨v2, ev2, h⟩ := bd h
  refine g_getI X (pc := 7) fk_12_23 rfl rfl ev2 tb_1603 dX16_runOut_7 ?_
  refine g_iconst X (pc := 10) (v := 1) dX16_runOut_10 (by decide) ?_
  refine g_iadd X (pc := 11) dX16_runOut_11 ?_
  obtain ⟨M3, eM3, h⟩ := bd h
  refine g_putI X (pc := 12) fk_12_23 rfl rfl rfl eM3 tb_1603 (Or.inl rfl) dX16_runOut_12 ?_
  refine g_aload_n X (pc := 15) 1 rfl rfl dX16_runOut_15 ?_
  obtain ⟨v4, ev4, h⟩ := bd h
  refine g_getI X (pc := 16) fk_12_23 rfl rfl ev4 tb_1603 dX16_runOut_16 ?_
  refine g_aload_n X (pc := 19) 1 rfl rfl dX16_runOut_19 ?_
  obtain ⟨v5, ev5, h⟩ := bd h
  refine g_getI X (pc := 20) fk_12_0 rfl rfl ev5 tb_1580 dX16_runOut_20 ?_
  refine g_iconst X (pc := 23) (v := 1) dX16_runOut_23 (by decide) ?_
  refine g_icmp_ne X (pc := 24) (tgt := 31) dX16_runOut_24 (by decide) (fun hc => ?_) (fun hc => ?_)
  · have h := (if_neg hc).symm.trans h
    refine g_bipush X (pc := 31) (v := 8) dX16_runOut_31 (by decide) ?_
    exact wX16_runOut_L33 X hE hn fu   a0 a1 v4 (8 : Int32) M3 h
  · have h := (if_pos hc).symm.trans h
    refine g_iconst X (pc := 27) (v := 5) dX16_runOut_27 (by decide) ?_
    refine g_goto X (pc := 28) (tgt := 33) dX16_runOut_28 (by decide) ?_
    exact wX16_runOut_L33 X hE hn fu   a0 a1 v4 (5 : Int32) M3 h
theorem hyX16_runOut : yX16_runOut.cls ≠ "java/lang/invoke/MethodHandle" ∧ yX16_runOut.cls ≠ "java/lang/invoke/VarHandle" ∧ (parseMethodDescriptor yX16_runOut.desc).map (fun d => d.parameters.length) = some 1 := ⟨by decide +kernel, by decide +kernel, by decide +kernel⟩
theorem ctX16_runOut (l : Launch) (E : Nat → Nat) (D : va_G) (dA : Nat → ClassId) (lo : Nat) (H0 : Heap) (fu : Nat) (a0 : Nat) (a1 : Option Nat) (M : Mm) (out : Mm) (h : fX16_runOut fu a0 a1 M = some out) : Ct l E D dA lo H0 yX16_runOut cX16_runOut 2 none 8 206 [pR (some a0), pR a1] M none out := by
  refine ct_of (by decide +kernel) (Nat.le_of_ble_eq_true rfl) ?_
  intro x hl he hd ha ho hh hn hin X hE
  exact wX16_runOut X hE hn fu a0 a1 M h
