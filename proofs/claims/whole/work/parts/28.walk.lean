/-! ===== walks of methods, printed by a program of ours ===== -/
/-! WebHost$Requests.readField(II)Z -/
def fX7_readField_L153 (fu : Nat) (k121 : Nat → Int32 → Int32 → Int32 → Int32 → Int32 → Mm → Option (Int32 × Mm)) (a0 : Nat) (a1 : Int32) (a3 : Int32) (a4 : Int32) (a5 : Int32) (a6 : Int32) (a7 : Int32)  (M : Mm) : Option (Int32 × Mm) :=
    if a7 = (127 : Int32) then (
    rN .boolean (0 : Int32) M)
    else (
    k121 a0 a1 a3 a4 a5 (a6 + (1 : Int32)) M)
def fX7_readField_L121 (fu : Nat)  : Nat → Nat → Int32 → Int32 → Int32 → Int32 → Int32 → Mm → Option (Int32 × Mm)
  | 0, _, _, _, _, _, _, _ => none
  | n + 1, a0, a1, a3, a4, a5, a6, M =>
    if a5 ≤ a6 then (
    (rc M 7 (some a0)).bind fun q1 =>
    (fX7_note fu q1 a1 a3 a4 a5 M).bind fun M2 =>
    rN .boolean (1 : Int32) M2)
    else (
    (gR M 7 450 (some a0)).bind fun v3 =>
    b2 (fX11_one fu  v3 a6 M) fun v5 M4 =>
    if (32 : Int32) ≤ v5 then (
    fX7_readField_L153 fu (fun b0 b1 b3 b4 b5 b6 M => fX7_readField_L121 fu  n b0 b1 b3 b4 b5 b6 M) a0 a1 a3 a4 a5 a6 v5 M4)
    else (
    if v5 = (9 : Int32) then (
    fX7_readField_L153 fu (fun b0 b1 b3 b4 b5 b6 M => fX7_readField_L121 fu  n b0 b1 b3 b4 b5 b6 M) a0 a1 a3 a4 a5 a6 v5 M4)
    else (
    rN .boolean (0 : Int32) M4)))
def fX7_readField_L117 (fu : Nat)  (a0 : Nat) (a1 : Int32) (a3 : Int32) (a4 : Int32) (a5 : Int32)  (M : Mm) : Option (Int32 × Mm) :=
    fX7_readField_L121 fu  fu a0 a1 a3 a4 a5 a4 M
def fX7_readField_L87 (fu : Nat)  : Nat → Nat → Int32 → Int32 → Int32 → Int32 → Mm → Option (Int32 × Mm)
  | 0, _, _, _, _, _, _ => none
  | n + 1, a0, a1, a3, a4, a5, M =>
    if a5 ≤ a4 then (
    fX7_readField_L117 fu  a0 a1 a3 a4 a5 M)
    else (
    (gR M 7 450 (some a0)).bind fun v1 =>
    b2 (fX11_one fu  v1 (a5 - (1 : Int32)) M) fun v3 M2 =>
    b2 (fX7_isBlank fu  v3 M2) fun v5 M4 =>
    if v5 = 0 then (
    fX7_readField_L117 fu  a0 a1 a3 a4 a5 M4)
    else (
    fX7_readField_L87 fu  n a0 a1 a3 a4 (a5 + (-1 : Int32)) M4))
def fX7_readField_L84 (fu : Nat)  (a0 : Nat) (a1 : Int32) (a2 : Int32) (a3 : Int32) (a4 : Int32)  (M : Mm) : Option (Int32 × Mm) :=
    fX7_readField_L87 fu  fu a0 a1 a3 a4 a2 M
def fX7_readField_L57 (fu : Nat)  : Nat → Nat → Int32 → Int32 → Int32 → Int32 → Mm → Option (Int32 × Mm)
  | 0, _, _, _, _, _, _ => none
  | n + 1, a0, a1, a2, a3, a4, M =>
    if a2 ≤ a4 then (
    fX7_readField_L84 fu  a0 a1 a2 a3 a4 M)
    else (
    (gR M 7 450 (some a0)).bind fun v1 =>
    b2 (fX11_one fu  v1 a4 M) fun v3 M2 =>
    b2 (fX7_isBlank fu  v3 M2) fun v5 M4 =>
    if v5 = 0 then (
    fX7_readField_L84 fu  a0 a1 a2 a3 a4 M4)
    else (
    fX7_readField_L57 fu  n a0 a1 a2 a3 (a4 + (1 : Int32)) M4))
def fX7_readField_L27 (fu : Nat)  (a0 : Nat) (a1 : Int32) (a2 : Int32) (a3 : Int32)  (M : Mm) : Option (Int32 × Mm) :=
    if a3 = a1 then (
    rN .boolean (0 : Int32) M)
    else (
    if a2 ≤ a3 then (
    rN .boolean (0 : Int32) M)
    else (
    (gR M 7 450 (some a0)).bind fun v1 =>
    b2 (fX11_one fu  v1 a3 M) fun v3 M2 =>
    if v3 = (58 : Int32) then (
    fX7_readField_L57 fu  fu a0 a1 a2 a3 (a3 + (1 : Int32)) M2)
    else (
    rN .boolean (0 : Int32) M2)))
def fX7_readField_L2 (fu : Nat)  : Nat → Nat → Int32 → Int32 → Int32 → Mm → Option (Int32 × Mm)
  | 0, _, _, _, _, _ => none
  | n + 1, a0, a1, a2, a3, M =>
    if a2 ≤ a3 then (
    fX7_readField_L27 fu  a0 a1 a2 a3 M)
    else (
    (gR M 7 450 (some a0)).bind fun v1 =>
    b2 (fX11_one fu  v1 a3 M) fun v3 M2 =>
    b2 (fX7_isNameCode fu  v3 M2) fun v5 M4 =>
    if v5 = 0 then (
    fX7_readField_L27 fu  a0 a1 a2 a3 M4)
    else (
    fX7_readField_L2 fu  n a0 a1 a2 (a3 + (1 : Int32)) M4))
def fX7_readField (fu : Nat)  (a0 : Nat) (a1 : Int32) (a2 : Int32)  (M : Mm) : Option (Int32 × Mm) :=
    fX7_readField_L2 fu  fu a0 a1 a2 a1 M
theorem dX7_readField_0 : decode cX7_readField 0 = .ok (.iload_n 1, 1) := by decide +kernel
theorem dX7_readField_1 : decode cX7_readField 1 = .ok (.istore_n 3, 1) := by decide +kernel
theorem dX7_readField_2 : decode cX7_readField 2 = .ok (.iload_n 3, 1) := by decide +kernel
theorem dX7_readField_3 : decode cX7_readField 3 = .ok (.iload_n 2, 1) := by decide +kernel
theorem dX7_readField_4 : decode cX7_readField 4 = .ok (.if_icmp .ge 23, 3) := by decide +kernel
theorem dX7_readField_7 : decode cX7_readField 7 = .ok (.aload_n 0, 1) := by decide +kernel
theorem dX7_readField_8 : decode cX7_readField 8 = .ok (.getfield 21, 3) := by decide +kernel
theorem dX7_readField_11 : decode cX7_readField 11 = .ok (.iload_n 3, 1) := by decide +kernel
theorem dX7_readField_12 : decode cX7_readField 12 = .ok (.invokestatic 97, 3) := by decide +kernel
theorem dX7_readField_15 : decode cX7_readField 15 = .ok (.invokestatic 165, 3) := by decide +kernel
theorem dX7_readField_18 : decode cX7_readField 18 = .ok (.ifCond .eq 9, 3) := by decide +kernel
theorem dX7_readField_21 : decode cX7_readField 21 = .ok (.iinc 3 1, 3) := by decide +kernel
theorem dX7_readField_24 : decode cX7_readField 24 = .ok (.goto (-22), 3) := by decide +kernel
theorem dX7_readField_27 : decode cX7_readField 27 = .ok (.iload_n 3, 1) := by decide +kernel
theorem dX7_readField_28 : decode cX7_readField 28 = .ok (.iload_n 1, 1) := by decide +kernel
theorem dX7_readField_29 : decode cX7_readField 29 = .ok (.if_icmp .eq 21, 3) := by decide +kernel
theorem dX7_readField_32 : decode cX7_readField 32 = .ok (.iload_n 3, 1) := by decide +kernel
theorem dX7_readField_33 : decode cX7_readField 33 = .ok (.iload_n 2, 1) := by decide +kernel
theorem dX7_readField_34 : decode cX7_readField 34 = .ok (.if_icmp .ge 16, 3) := by decide +kernel
theorem dX7_readField_37 : decode cX7_readField 37 = .ok (.aload_n 0, 1) := by decide +kernel
theorem dX7_readField_38 : decode cX7_readField 38 = .ok (.getfield 21, 3) := by decide +kernel
theorem dX7_readField_41 : decode cX7_readField 41 = .ok (.iload_n 3, 1) := by decide +kernel
theorem dX7_readField_42 : decode cX7_readField 42 = .ok (.invokestatic 97, 3) := by decide +kernel
theorem dX7_readField_45 : decode cX7_readField 45 = .ok (.bipush 58, 2) := by decide +kernel
theorem dX7_readField_47 : decode cX7_readField 47 = .ok (.if_icmp .eq 5, 3) := by decide +kernel
theorem dX7_readField_50 : decode cX7_readField 50 = .ok (.iconst 0, 1) := by decide +kernel
theorem dX7_readField_51 : decode cX7_readField 51 = .ok (.ireturn, 1) := by decide +kernel
theorem dX7_readField_52 : decode cX7_readField 52 = .ok (.iload_n 3, 1) := by decide +kernel
theorem dX7_readField_53 : decode cX7_readField 53 = .ok (.iconst 1, 1) := by decide +kernel
theorem dX7_readField_54 : decode cX7_readField 54 = .ok (.iadd, 1) := by decide +kernel
theorem dX7_readField_55 : decode cX7_readField 55 = .ok (.istore 4, 2) := by decide +kernel
theorem dX7_readField_57 : decode cX7_readField 57 = .ok (.iload 4, 2) := by decide +kernel
theorem dX7_readField_59 : decode cX7_readField 59 = .ok (.iload_n 2, 1) := by decide +kernel
theorem dX7_readField_60 : decode cX7_readField 60 = .ok (.if_icmp .ge 24, 3) := by decide +kernel
theorem dX7_readField_63 : decode cX7_readField 63 = .ok (.aload_n 0, 1) := by decide +kernel
theorem dX7_readField_64 : decode cX7_readField 64 = .ok (.getfield 21, 3) := by decide +kernel
theorem dX7_readField_67 : decode cX7_readField 67 = .ok (.iload 4, 2) := by decide +kernel
theorem dX7_readField_69 : decode cX7_readField 69 = .ok (.invokestatic 97, 3) := by decide +kernel
theorem dX7_readField_72 : decode cX7_readField 72 = .ok (.invokestatic 168, 3) := by decide +kernel
theorem dX7_readField_75 : decode cX7_readField 75 = .ok (.ifCond .eq 9, 3) := by decide +kernel
theorem dX7_readField_78 : decode cX7_readField 78 = .ok (.iinc 4 1, 3) := by decide +kernel
theorem dX7_readField_81 : decode cX7_readField 81 = .ok (.goto (-24), 3) := by decide +kernel
theorem dX7_readField_84 : decode cX7_readField 84 = .ok (.iload_n 2, 1) := by decide +kernel
theorem dX7_readField_85 : decode cX7_readField 85 = .ok (.istore 5, 2) := by decide +kernel
theorem dX7_readField_87 : decode cX7_readField 87 = .ok (.iload 5, 2) := by decide +kernel
theorem dX7_readField_89 : decode cX7_readField 89 = .ok (.iload 4, 2) := by decide +kernel
theorem dX7_readField_91 : decode cX7_readField 91 = .ok (.if_icmp .le 26, 3) := by decide +kernel
theorem dX7_readField_94 : decode cX7_readField 94 = .ok (.aload_n 0, 1) := by decide +kernel
theorem dX7_readField_95 : decode cX7_readField 95 = .ok (.getfield 21, 3) := by decide +kernel
theorem dX7_readField_98 : decode cX7_readField 98 = .ok (.iload 5, 2) := by decide +kernel
theorem dX7_readField_100 : decode cX7_readField 100 = .ok (.iconst 1, 1) := by decide +kernel
theorem dX7_readField_101 : decode cX7_readField 101 = .ok (.isub, 1) := by decide +kernel
theorem dX7_readField_102 : decode cX7_readField 102 = .ok (.invokestatic 97, 3) := by decide +kernel
theorem dX7_readField_105 : decode cX7_readField 105 = .ok (.invokestatic 168, 3) := by decide +kernel
theorem dX7_readField_108 : decode cX7_readField 108 = .ok (.ifCond .eq 9, 3) := by decide +kernel
theorem dX7_readField_111 : decode cX7_readField 111 = .ok (.iinc 5 (-1), 3) := by decide +kernel
theorem dX7_readField_114 : decode cX7_readField 114 = .ok (.goto (-27), 3) := by decide +kernel
theorem dX7_readField_117 : decode cX7_readField 117 = .ok (.iload 4, 2) := by decide +kernel
theorem dX7_readField_119 : decode cX7_readField 119 = .ok (.istore 6, 2) := by decide +kernel
theorem dX7_readField_121 : decode cX7_readField 121 = .ok (.iload 6, 2) := by decide +kernel
theorem dX7_readField_123 : decode cX7_readField 123 = .ok (.iload 5, 2) := by decide +kernel
theorem dX7_readField_125 : decode cX7_readField 125 = .ok (.if_icmp .ge 43, 3) := by decide +kernel
theorem dX7_readField_128 : decode cX7_readField 128 = .ok (.aload_n 0, 1) := by decide +kernel
theorem dX7_readField_129 : decode cX7_readField 129 = .ok (.getfield 21, 3) := by decide +kernel
theorem dX7_readField_132 : decode cX7_readField 132 = .ok (.iload 6, 2) := by decide +kernel
theorem dX7_readField_134 : decode cX7_readField 134 = .ok (.invokestatic 97, 3) := by decide +kernel
theorem dX7_readField_137 : decode cX7_readField 137 = .ok (.istore 7, 2) := by decide +kernel
theorem dX7_readField_139 : decode cX7_readField 139 = .ok (.iload 7, 2) := by decide +kernel
theorem dX7_readField_141 : decode cX7_readField 141 = .ok (.bipush 32, 2) := by decide +kernel
theorem dX7_readField_143 : decode cX7_readField 143 = .ok (.if_icmp .ge 10, 3) := by decide +kernel
theorem dX7_readField_146 : decode cX7_readField 146 = .ok (.iload 7, 2) := by decide +kernel
theorem dX7_readField_148 : decode cX7_readField 148 = .ok (.bipush 9, 2) := by decide +kernel
theorem dX7_readField_150 : decode cX7_readField 150 = .ok (.if_icmp .ne 10, 3) := by decide +kernel
theorem dX7_readField_153 : decode cX7_readField 153 = .ok (.iload 7, 2) := by decide +kernel
theorem dX7_readField_155 : decode cX7_readField 155 = .ok (.bipush 127, 2) := by decide +kernel
theorem dX7_readField_157 : decode cX7_readField 157 = .ok (.if_icmp .ne 5, 3) := by decide +kernel
theorem dX7_readField_160 : decode cX7_readField 160 = .ok (.iconst 0, 1) := by decide +kernel
theorem dX7_readField_161 : decode cX7_readField 161 = .ok (.ireturn, 1) := by decide +kernel
theorem dX7_readField_162 : decode cX7_readField 162 = .ok (.iinc 6 1, 3) := by decide +kernel
theorem dX7_readField_165 : decode cX7_readField 165 = .ok (.goto (-44), 3) := by decide +kernel
theorem dX7_readField_168 : decode cX7_readField 168 = .ok (.aload_n 0, 1) := by decide +kernel
theorem dX7_readField_169 : decode cX7_readField 169 = .ok (.iload_n 1, 1) := by decide +kernel
theorem dX7_readField_170 : decode cX7_readField 170 = .ok (.iload_n 3, 1) := by decide +kernel
theorem dX7_readField_171 : decode cX7_readField 171 = .ok (.iload 4, 2) := by decide +kernel
theorem dX7_readField_173 : decode cX7_readField 173 = .ok (.iload 5, 2) := by decide +kernel
theorem dX7_readField_175 : decode cX7_readField 175 = .ok (.invokevirtual 171, 3) := by decide +kernel
theorem dX7_readField_178 : decode cX7_readField 178 = .ok (.iconst 1, 1) := by decide +kernel
theorem dX7_readField_179 : decode cX7_readField 179 = .ok (.ireturn, 1) := by decide +kernel
theorem wX7_readField_L153 {x : GX} {n0 sl0 : Nat} (X : Cx x cX7_readField RX7 (some .boolean) n0 sl0 8 179) {out : Int32 × Mm} (hE : Ends x n0 sl0 (some (pI out.1)) out.2) (hn : xn x = 8) (fu : Nat) (k121 : Nat → Int32 → Int32 → Int32 → Int32 → Int32 → Mm → Option (Int32 × Mm)) (hk121 : ∀ (b0 : Nat) (b1 : Int32) (b3 : Int32) (b4 : Int32) (b5 : Int32) (b6 : Int32)  (M : Mm), k121 b0 b1 b3 b4 b5 b6 M = some out → Gw x M 121 [(0, pR (some b0)), (1, pI b1), (3, pI b3), (4, pI b4), (5, pI b5), (6, pI b6)] []) (a0 : Nat) (a1 : Int32) (a3 : Int32) (a4 : Int32) (a5 : Int32) (a6 : Int32) (a7 : Int32)  (M : Mm) (h : fX7_readField_L153 fu k121 a0 a1 a3 a4 a5 a6 a7 M = some out) : Gw x M 153 [(0, pR (some a0)), (1, pI a1), (3, pI a3), (4, pI a4), (5, pI a5), (6, pI a6), (7, pI a7)] [] := by
  unfold fX7_readField_L153 at h
  refine g_iload X (pc := 153) 6 rfl dX7_readField_153 ?_
  refine g_bipush X (pc := 155) (v := 127) dX7_readField_155 (by decide) ?_
  refine g_icmp_ne X (pc := 157) (tgt := 162) dX7_readField_157 (by decide) (fun hc => ?_) (fun hc => ?_)
  · have h := (if_neg hc).symm.trans h
    refine g_iinc X (pc := 162) 5 [(6, pI (a6 + (1 : Int32))), (0, pR (some a0)), (1, pI a1), (3, pI a3), (4, pI a4), (5, pI a5), (7, pI a7)] rfl (iinc_e (by decide)) (lt_n hn (by decide)) rfl dX7_readField_162 ?_
    refine g_goto X (pc := 165) (tgt := 121) dX7_readField_165 (by decide) ?_
    refine g_sub [1, 2, 3, 4, 5, 0] [(0, pR (some a0)), (1, pI a1), (3, pI a3), (4, pI a4), (5, pI a5), (6, pI (a6 + (1 : Int32)))] rfl ?_
    exact hk121 a0 a1 a3 a4 a5 (a6 + (1 : Int32)) M h
  · have h := (if_pos hc).symm.trans h
    refine g_iconst X (pc := 160) (v := 0) dX7_readField_160 (by decide) ?_
    obtain ⟨hz, rfl⟩ := rN_some h
    exact g_nreturn X rfl hz hE dX7_readField_161
theorem wX7_readField_L121 {x : GX} {n0 sl0 : Nat} (X : Cx x cX7_readField RX7 (some .boolean) n0 sl0 8 179) {out : Int32 × Mm} (hE : Ends x n0 sl0 (some (pI out.1)) out.2) (hn : xn x = 8) (fu : Nat)   : ∀ (n : Nat) (a0 : Nat) (a1 : Int32) (a3 : Int32) (a4 : Int32) (a5 : Int32) (a6 : Int32)  (M : Mm), fX7_readField_L121 fu  n a0 a1 a3 a4 a5 a6 M = some out → Gw x M 121 [(0, pR (some a0)), (1, pI a1), (3, pI a3), (4, pI a4), (5, pI a5), (6, pI a6)] [] := by
  intro n
  induction n with
  | zero =>
    intro a0 a1 a3 a4 a5 a6 M h
    have h : (none : Option (Int32 × Mm)) = some out := h
    cases h
  | succ n ih =>
    intro a0 a1 a3 a4 a5 a6 M h
    rw [fX7_readField_L121] at h
    refine g_iload X (pc := 121) 5 rfl dX7_readField_121 ?_
    refine g_iload X (pc := 123) 4 rfl dX7_readField_123 ?_
    refine g_icmp_ge X (pc := 125) (tgt := 168) dX7_readField_125 (by decide) (fun hc => ?_) (fun hc => ?_)
    · have h := (if_pos hc).symm.trans h
      refine g_aload_n X (pc := 168) 0 rfl rfl dX7_readField_168 ?_
      refine g_iload_n X (pc := 169) 1 rfl rfl dX7_readField_169 ?_
      refine g_iload_n X (pc := 170) 2 rfl rfl dX7_readField_170 ?_
      refine g_iload X (pc := 171) 3 rfl dX7_readField_171 ?_
      refine g_iload X (pc := 173) 4 rfl dX7_readField_173 ?_
      obtain ⟨q1, eq1, h⟩ := bd h
      obtain ⟨M2, eM2, h⟩ := bd h
      refine g_callV X (pc := 175) (M' := M2) (ro := none) (c := 7) rfl (by decide) (as := [pI a1, pI a3, pI a4, pI a5]) (as' := [pI a5, pI a4, pI a3, pI a1]) (st := []) eq1 (ctX7_note _ _ _ _ _ _ fu q1 a1 a3 a4 a5 M _ eM2) tb_1331 tb_1328 tb_1330 ts_47 tb_7 ⟨rfl, hyX7_note⟩ rfl rfl ⟨by decide, by decide⟩ (Nat.le_of_ble_eq_true rfl) dX7_readField_175 ?_
      refine g_iconst X (pc := 178) (v := 1) dX7_readField_178 (by decide) ?_
      obtain ⟨hz, rfl⟩ := rN_some h
      exact g_nreturn X rfl hz hE dX7_readField_179
    · have h := (if_neg hc).symm.trans h
      refine g_aload_n X (pc := 128) 0 rfl rfl dX7_readField_128 ?_
      obtain ⟨v3, ev3, h⟩ := bd h
      refine g_getR X (pc := 129) fk_7_2 rfl rfl ev3 tb_258 dX7_readField_129 ?_
      refine g_iload X (pc := 132) 5 rfl dX7_readField_132 ?_
      obtain ⟨v5, M4, eM4, h⟩ := b2d h
      refine g_callSN X (pc := 134) (M' := M4) (ro := some (pI v5)) (as := [pR v3, pI a6]) (as' := [pI a6, pR v3]) (st := []) (ctX11_one _ _ _ _ _ _ fu  v3 a6 M _ eM4) tb_415 (List.mem_of_getElem? (i := 24) rfl) tb_414 tb_1 hyX11_one rfl rfl ⟨by decide, by decide⟩ (Nat.le_of_ble_eq_true rfl) dX7_readField_134 ?_
      refine g_istore X (pc := 137) [(7, pI v5), (0, pR (some a0)), (1, pI a1), (3, pI a3), (4, pI a4), (5, pI a5), (6, pI a6)] (lt_n hn (by decide)) rfl dX7_readField_137 ?_
      refine g_iload X (pc := 139) 0 rfl dX7_readField_139 ?_
      refine g_bipush X (pc := 141) (v := 32) dX7_readField_141 (by decide) ?_
      refine g_icmp_ge X (pc := 143) (tgt := 153) dX7_readField_143 (by decide) (fun hc => ?_) (fun hc => ?_)
      · have h := (if_pos hc).symm.trans h
        refine g_sub [1, 2, 3, 4, 5, 6, 0] [(0, pR (some a0)), (1, pI a1), (3, pI a3), (4, pI a4), (5, pI a5), (6, pI a6), (7, pI v5)] rfl ?_
        exact wX7_readField_L153 X hE hn fu (fun b0 b1 b3 b4 b5 b6 M => fX7_readField_L121 fu  n b0 b1 b3 b4 b5 b6 M) ih a0 a1 a3 a4 a5 a6 v5 M4 h
      · have h := (if_neg hc).symm.trans h
        refine g_iload X (pc := 146) 0 rfl dX7_readField_146 ?_
        refine g_bipush X (pc := 148) (v := 9) dX7_readField_148 (by decide) ?_
        refine g_icmp_ne X (pc := 150) (tgt := 160) dX7_readField_150 (by decide) (fun hc => ?_) (fun hc => ?_)
        · have h := (if_neg hc).symm.trans h
          refine g_iconst X (pc := 160) (v := 0) dX7_readField_160 (by decide) ?_
          obtain ⟨hz, rfl⟩ := rN_some h
          exact g_nreturn X rfl hz hE dX7_readField_161
        · have h := (if_pos hc).symm.trans h
          refine g_sub [1, 2, 3, 4, 5, 6, 0] [(0, pR (some a0)), (1, pI a1), (3, pI a3), (4, pI a4), (5, pI a5), (6, pI a6), (7, pI v5)] rfl ?_
          exact wX7_readField_L153 X hE hn fu (fun b0 b1 b3 b4 b5 b6 M => fX7_readField_L121 fu  n b0 b1 b3 b4 b5 b6 M) ih a0 a1 a3 a4 a5 a6 v5 M4 h
theorem wX7_readField_L117 {x : GX} {n0 sl0 : Nat} (X : Cx x cX7_readField RX7 (some .boolean) n0 sl0 8 179) {out : Int32 × Mm} (hE : Ends x n0 sl0 (some (pI out.1)) out.2) (hn : xn x = 8) (fu : Nat)   (a0 : Nat) (a1 : Int32) (a3 : Int32) (a4 : Int32) (a5 : Int32)  (M : Mm) (h : fX7_readField_L117 fu  a0 a1 a3 a4 a5 M = some out) : Gw x M 117 [(0, pR (some a0)), (1, pI a1), (3, pI a3), (4, pI a4), (5, pI a5)] [] := by
  unfold fX7_readField_L117 at h
  refine g_iload X (pc := 117) 3 rfl dX7_readField_117 ?_
  refine g_istore X (pc := 119) [(6, pI a4), (0, pR (some a0)), (1, pI a1), (3, pI a3), (4, pI a4), (5, pI a5)] (lt_n hn (by decide)) rfl dX7_readField_119 ?_
  refine g_sub [1, 2, 3, 4, 5, 0] [(0, pR (some a0)), (1, pI a1), (3, pI a3), (4, pI a4), (5, pI a5), (6, pI a4)] rfl ?_
  exact wX7_readField_L121 X hE hn fu   fu a0 a1 a3 a4 a5 a4 M h
theorem wX7_readField_L87 {x : GX} {n0 sl0 : Nat} (X : Cx x cX7_readField RX7 (some .boolean) n0 sl0 8 179) {out : Int32 × Mm} (hE : Ends x n0 sl0 (some (pI out.1)) out.2) (hn : xn x = 8) (fu : Nat)   : ∀ (n : Nat) (a0 : Nat) (a1 : Int32) (a3 : Int32) (a4 : Int32) (a5 : Int32)  (M : Mm), fX7_readField_L87 fu  n a0 a1 a3 a4 a5 M = some out → Gw x M 87 [(0, pR (some a0)), (1, pI a1), (3, pI a3), (4, pI a4), (5, pI a5)] [] := by
  intro n
  induction n with
  | zero =>
    intro a0 a1 a3 a4 a5 M h
    have h : (none : Option (Int32 × Mm)) = some out := h
    cases h
  | succ n ih =>
    intro a0 a1 a3 a4 a5 M h
    rw [fX7_readField_L87] at h
    refine g_iload X (pc := 87) 4 rfl dX7_readField_87 ?_
    refine g_iload X (pc := 89) 3 rfl dX7_readField_89 ?_
    refine g_icmp_le X (pc := 91) (tgt := 117) dX7_readField_91 (by decide) (fun hc => ?_) (fun hc => ?_)
    · have h := (if_pos hc).symm.trans h
      exact wX7_readField_L117 X hE hn fu   a0 a1 a3 a4 a5 M h
    · have h := (if_neg hc).symm.trans h
      refine g_aload_n X (pc := 94) 0 rfl rfl dX7_readField_94 ?_
      obtain ⟨v1, ev1, h⟩ := bd h
      refine g_getR X (pc := 95) fk_7_2 rfl rfl ev1 tb_258 dX7_readField_95 ?_
      refine g_iload X (pc := 98) 4 rfl dX7_readField_98 ?_
      refine g_iconst X (pc := 100) (v := 1) dX7_readField_100 (by decide) ?_
      refine g_isub X (pc := 101) dX7_readField_101 ?_
      obtain ⟨v3, M2, eM2, h⟩ := b2d h
      refine g_callSN X (pc := 102) (M' := M2) (ro := some (pI v3)) (as := [pR v1, pI (a5 - (1 : Int32))]) (as' := [pI (a5 - (1 : Int32)), pR v1]) (st := []) (ctX11_one _ _ _ _ _ _ fu  v1 (a5 - (1 : Int32)) M _ eM2) tb_415 (List.mem_of_getElem? (i := 24) rfl) tb_414 tb_1 hyX11_one rfl rfl ⟨by decide, by decide⟩ (Nat.le_of_ble_eq_true rfl) dX7_readField_102 ?_
      obtain ⟨v5, M4, eM4, h⟩ := b2d h
      refine g_callS X (pc := 105) (M' := M4) (ro := some (pI v5)) (as := [pI v3]) (as' := [pI v3]) (st := []) (ctX7_isBlank _ _ _ _ _ _ fu  v3 M2 _ eM4) tb_1327 tb_1325 tb_1326 tb_7 hyX7_isBlank rfl rfl ⟨by decide, by decide⟩ (Nat.le_of_ble_eq_true rfl) dX7_readField_105 ?_
      refine g_if_eq X (pc := 108) (tgt := 117) dX7_readField_108 (by decide) (fun hc => ?_) (fun hc => ?_)
      · have h := (if_pos hc).symm.trans h
        exact wX7_readField_L117 X hE hn fu   a0 a1 a3 a4 a5 M4 h
      · have h := (if_neg hc).symm.trans h
        refine g_iinc X (pc := 111) 4 [(5, pI (a5 + (-1 : Int32))), (0, pR (some a0)), (1, pI a1), (3, pI a3), (4, pI a4)] rfl (iinc_e (by decide)) (lt_n hn (by decide)) rfl dX7_readField_111 ?_
        refine g_goto X (pc := 114) (tgt := 87) dX7_readField_114 (by decide) ?_
        refine g_sub [1, 2, 3, 4, 0] [(0, pR (some a0)), (1, pI a1), (3, pI a3), (4, pI a4), (5, pI (a5 + (-1 : Int32)))] rfl ?_
        exact ih a0 a1 a3 a4 (a5 + (-1 : Int32)) M4 h
theorem wX7_readField_L84 {x : GX} {n0 sl0 : Nat} (X : Cx x cX7_readField RX7 (some .boolean) n0 sl0 8 179) {out : Int32 × Mm} (hE : Ends x n0 sl0 (some (pI out.1)) out.2) (hn : xn x = 8) (fu : Nat)   (a0 : Nat) (a1 : Int32) (a2 : Int32) (a3 : Int32) (a4 : Int32)  (M : Mm) (h : fX7_readField_L84 fu  a0 a1 a2 a3 a4 M = some out) : Gw x M 84 [(0, pR (some a0)), (1, pI a1), (2, pI a2), (3, pI a3), (4, pI a4)] [] := by
  unfold fX7_readField_L84 at h
  refine g_iload_n X (pc := 84) 2 rfl rfl dX7_readField_84 ?_
  refine g_istore X (pc := 85) [(5, pI a2), (0, pR (some a0)), (1, pI a1), (2, pI a2), (3, pI a3), (4, pI a4)] (lt_n hn (by decide)) rfl dX7_readField_85 ?_
  refine g_sub [1, 2, 4, 5, 0] [(0, pR (some a0)), (1, pI a1), (3, pI a3), (4, pI a4), (5, pI a2)] rfl ?_
  exact wX7_readField_L87 X hE hn fu   fu a0 a1 a3 a4 a2 M h
theorem wX7_readField_L57 {x : GX} {n0 sl0 : Nat} (X : Cx x cX7_readField RX7 (some .boolean) n0 sl0 8 179) {out : Int32 × Mm} (hE : Ends x n0 sl0 (some (pI out.1)) out.2) (hn : xn x = 8) (fu : Nat)   : ∀ (n : Nat) (a0 : Nat) (a1 : Int32) (a2 : Int32) (a3 : Int32) (a4 : Int32)  (M : Mm), fX7_readField_L57 fu  n a0 a1 a2 a3 a4 M = some out → Gw x M 57 [(0, pR (some a0)), (1, pI a1), (2, pI a2), (3, pI a3), (4, pI a4)] [] := by
  intro n
  induction n with
  | zero =>
    intro a0 a1 a2 a3 a4 M h
    have h : (none : Option (Int32 × Mm)) = some out := h
    cases h
  | succ n ih =>
    intro a0 a1 a2 a3 a4 M h
    rw [fX7_readField_L57] at h
    refine g_iload X (pc := 57) 4 rfl dX7_readField_57 ?_
    refine g_iload_n X (pc := 59) 2 rfl rfl dX7_readField_59 ?_
    refine g_icmp_ge X (pc := 60) (tgt := 84) dX7_readField_60 (by decide) (fun hc => ?_) (fun hc => ?_)
    · have h := (if_pos hc).symm.trans h
      exact wX7_readField_L84 X hE hn fu   a0 a1 a2 a3 a4 M h
    · have h := (if_neg hc).symm.trans h
      refine g_aload_n X (pc := 63) 0 rfl rfl dX7_readField_63 ?_
      obtain ⟨v1, ev1, h⟩ := bd h
      refine g_getR X (pc := 64) fk_7_2 rfl rfl ev1 tb_258 dX7_readField_64 ?_
      refine g_iload X (pc := 67) 4 rfl dX7_readField_67 ?_
      obtain ⟨v3, M2, eM2, h⟩ := b2d h
      refine g_callSN X (pc := 69) (M' := M2) (ro := some (pI v3)) (as := [pR v1, pI a4]) (as' := [pI a4, pR v1]) (st := []) (ctX11_one _ _ _ _ _ _ fu  v1 a4 M _ eM2) tb_415 (List.mem_of_getElem? (i := 24) rfl) tb_414 tb_1 hyX11_one rfl rfl ⟨by decide, by decide⟩ (Nat.le_of_ble_eq_true rfl) dX7_readField_69 ?_
      obtain ⟨v5, M4, eM4, h⟩ := b2d h
      refine g_callS X (pc := 72) (M' := M4) (ro := some (pI v5)) (as := [pI v3]) (as' := [pI v3]) (st := []) (ctX7_isBlank _ _ _ _ _ _ fu  v3 M2 _ eM4) tb_1327 tb_1325 tb_1326 tb_7 hyX7_isBlank rfl rfl ⟨by decide, by decide⟩ (Nat.le_of_ble_eq_true rfl) dX7_readField_72 ?_
      refine g_if_eq X (pc := 75) (tgt := 84) dX7_readField_75 (by decide) (fun hc => ?_) (fun hc => ?_)
      · have h := (if_pos hc).symm.trans h
        exact wX7_readField_L84 X hE hn fu   a0 a1 a2 a3 a4 M4 h
      · have h := (if_neg hc).symm.trans h
        refine g_iinc X (pc := 78) 4 [(4, pI (a4 + (1 : Int32))), (0, pR (some a0)), (1, pI a1), (2, pI a2), (3, pI a3)] rfl (iinc_e (by decide)) (lt_n hn (by decide)) rfl dX7_readField_78 ?_
        refine g_goto X (pc := 81) (tgt := 57) dX7_readField_81 (by decide) ?_
        refine g_sub [1, 2, 3, 4, 0] [(0, pR (some a0)), (1, pI a1), (2, pI a2), (3, pI a3), (4, pI (a4 + (1 : Int32)))] rfl ?_
        exact ih a0 a1 a2 a3 (a4 + (1 : Int32)) M4 h
theorem wX7_readField_L27 {x : GX} {n0 sl0 : Nat} (X : Cx x cX7_readField RX7 (some .boolean) n0 sl0 8 179) {out : Int32 × Mm} (hE : Ends x n0 sl0 (some (pI out.1)) out.2) (hn : xn x = 8) (fu : Nat)   (a0 : Nat) (a1 : Int32) (a2 : Int32) (a3 : Int32)  (M : Mm) (h : fX7_readField_L27 fu  a0 a1 a2 a3 M = some out) : Gw x M 27 [(0, pR (some a0)), (1, pI a1), (2, pI a2), (3, pI a3)] [] := by
  unfold fX7_readField_L27 at h
  refine g_iload_n X (pc := 27) 3 rfl rfl dX7_readField_27 ?_
  refine g_iload_n X (pc := 28) 1 rfl rfl dX7_readField_28 ?_
  refine g_icmp_eq X (pc := 29) (tgt := 50) dX7_readField_29 (by decide) (fun hc => ?_) (fun hc => ?_)
  · have h := (if_pos hc).symm.trans h
    refine g_iconst X (pc := 50) (v := 0) dX7_readField_50 (by decide) ?_
    obtain ⟨hz, rfl⟩ := rN_some h
    exact g_nreturn X rfl hz hE dX7_readField_51
  · have h := (if_neg hc).symm.trans h
    refine g_iload_n X (pc := 32) 3 rfl rfl dX7_readField_32 ?_
    refine g_iload_n X (pc := 33) 2 rfl rfl dX7_readField_33 ?_
    refine g_icmp_ge X (pc := 34) (tgt := 50) dX7_readField_34 (by decide) (fun hc => ?_) (fun hc => ?_)
    · have h := (if_pos hc).symm.trans h
      refine g_iconst X (pc := 50) (v := 0) dX7_readField_50 (by decide) ?_
      obtain ⟨hz, rfl⟩ := rN_some h
      exact g_nreturn X rfl hz hE dX7_readField_51
    · have h := (if_neg hc).symm.trans h
      refine g_aload_n X (pc := 37) 0 rfl rfl dX7_readField_37 ?_
      obtain ⟨v1, ev1, h⟩ := bd h
      refine g_getR X (pc := 38) fk_7_2 rfl rfl ev1 tb_258 dX7_readField_38 ?_
      refine g_iload_n X (pc := 41) 3 rfl rfl dX7_readField_41 ?_
      obtain ⟨v3, M2, eM2, h⟩ := b2d h
      refine g_callSN X (pc := 42) (M' := M2) (ro := some (pI v3)) (as := [pR v1, pI a3]) (as' := [pI a3, pR v1]) (st := []) (ctX11_one _ _ _ _ _ _ fu  v1 a3 M _ eM2) tb_415 (List.mem_of_getElem? (i := 24) rfl) tb_414 tb_1 hyX11_one rfl rfl ⟨by decide, by decide⟩ (Nat.le_of_ble_eq_true rfl) dX7_readField_42 ?_
      refine g_bipush X (pc := 45) (v := 58) dX7_readField_45 (by decide) ?_
      refine g_icmp_eq X (pc := 47) (tgt := 52) dX7_readField_47 (by decide) (fun hc => ?_) (fun hc => ?_)
      · have h := (if_pos hc).symm.trans h
        refine g_iload_n X (pc := 52) 3 rfl rfl dX7_readField_52 ?_
        refine g_iconst X (pc := 53) (v := 1) dX7_readField_53 (by decide) ?_
        refine g_iadd X (pc := 54) dX7_readField_54 ?_
        refine g_istore X (pc := 55) [(4, pI (a3 + (1 : Int32))), (0, pR (some a0)), (1, pI a1), (2, pI a2), (3, pI a3)] (lt_n hn (by decide)) rfl dX7_readField_55 ?_
        refine g_sub [1, 2, 3, 4, 0] [(0, pR (some a0)), (1, pI a1), (2, pI a2), (3, pI a3), (4, pI (a3 + (1 : Int32)))] rfl ?_
        exact wX7_readField_L57 X hE hn fu   fu a0 a1 a2 a3 (a3 + (1 : Int32)) M2 h
      · have h := (if_neg hc).symm.trans h
        refine g_iconst X (pc := 50) (v := 0) dX7_readField_50 (by decide) ?_
        obtain ⟨hz, rfl⟩ := rN_some h
        exact g_nreturn X rfl hz hE dX7_readField_51
theorem wX7_readField_L2 {x : GX} {n0 sl0 : Nat} (X : Cx x cX7_readField RX7 (some .boolean) n0 sl0 8 179) {out : Int32 × Mm} (hE : Ends x n0 sl0 (some (pI out.1)) out.2) (hn : xn x = 8) (fu : Nat)   : ∀ (n : Nat) (a0 : Nat) (a1 : Int32) (a2 : Int32) (a3 : Int32)  (M : Mm), fX7_readField_L2 fu  n a0 a1 a2 a3 M = some out → Gw x M 2 [(0, pR (some a0)), (1, pI a1), (2, pI a2), (3, pI a3)] [] := by
  intro n
  induction n with
  | zero =>
    intro a0 a1 a2 a3 M h
    have h : (none : Option (Int32 × Mm)) = some out := h
    cases h
  | succ n ih =>
    intro a0 a1 a2 a3 M h
    rw [fX7_readField_L2] at h
    refine g_iload_n X (pc := 2) 3 rfl rfl dX7_readField_2 ?_
    refine g_iload_n X (pc := 3) 2 rfl rfl dX7_readField_3 ?_
    refine g_icmp_ge X (pc := 4) (tgt := 27) dX7_readField_4 (by decide) (fun hc => ?_) (fun hc => ?_)
    · have h := (if_pos hc).symm.trans h
      exact wX7_readField_L27 X hE hn fu   a0 a1 a2 a3 M h
    · have h := (if_neg hc).symm.trans h
      refine g_aload_n X (pc := 7) 0 rfl rfl dX7_readField_7 ?_
      obtain ⟨v1, ev1, h⟩ := bd h
      refine g_getR X (pc := 8) fk_7_2 rfl rfl ev1 tb_258 dX7_readField_8 ?_
      refine g_iload_n X (pc := 11) 3 rfl rfl dX7_readField_11 ?_
      obtain ⟨v3, M2, eM2, h⟩ := b2d h
      refine g_callSN X (pc := 12) (M' := M2) (ro := some (pI v3)) (as := [pR v1, pI a3]) (as' := [pI a3, pR v1]) (st := []) (ctX11_one _ _ _ _ _ _ fu  v1 a3 M _ eM2) tb_415 (List.mem_of_getElem? (i := 24) rfl) tb_414 tb_1 hyX11_one rfl rfl ⟨by decide, by decide⟩ (Nat.le_of_ble_eq_true rfl) dX7_readField_12 ?_
      obtain ⟨v5, M4, eM4, h⟩ := b2d h
      refine g_callS X (pc := 15) (M' := M4) (ro := some (pI v5)) (as := [pI v3]) (as' := [pI v3]) (st := []) (ctX7_isNameCode _ _ _ _ _ _ fu  v3 M2 _ eM4) tb_1268 tb_1266 tb_1267 tb_7 hyX7_isNameCode rfl rfl ⟨by decide, by decide⟩ (Nat.le_of_ble_eq_true rfl) dX7_readField_15 ?_
      refine g_if_eq X (pc := 18) (tgt := 27) dX7_readField_18 (by decide) (fun hc => ?_) (fun hc => ?_)
      · have h := (if_pos hc).symm.trans h
        exact wX7_readField_L27 X hE hn fu   a0 a1 a2 a3 M4 h
      · have h := (if_neg hc).symm.trans h
        refine g_iinc X (pc := 21) 3 [(3, pI (a3 + (1 : Int32))), (0, pR (some a0)), (1, pI a1), (2, pI a2)] rfl (iinc_e (by decide)) (lt_n hn (by decide)) rfl dX7_readField_21 ?_
        refine g_goto X (pc := 24) (tgt := 2) dX7_readField_24 (by decide) ?_
        refine g_sub [1, 2, 3, 0] [(0, pR (some a0)), (1, pI a1), (2, pI a2), (3, pI (a3 + (1 : Int32)))] rfl ?_
        exact ih a0 a1 a2 (a3 + (1 : Int32)) M4 h
theorem wX7_readField {x : GX} {n0 sl0 : Nat} (X : Cx x cX7_readField RX7 (some .boolean) n0 sl0 8 179) {out : Int32 × Mm} (hE : Ends x n0 sl0 (some (pI out.1)) out.2) (hn : xn x = 8) (fu : Nat)   (a0 : Nat) (a1 : Int32) (a2 : Int32)  (M : Mm) (h : fX7_readField fu  a0 a1 a2 M = some out) : Gw x M 0 [(0, pR (some a0)), (1, pI a1), (2, pI a2)] [] := by
  unfold fX7_readField at h
  refine g_iload_n X (pc := 0) 1 rfl rfl dX7_readField_0 ?_
  refine g_istore_n X (pc := 1) [(3, pI a1), (0, pR (some a0)), (1, pI a1), (2, pI a2)] rfl (lt_n hn (by decide)) rfl dX7_readField_1 ?_
  refine g_sub [1, 2, 3, 0] [(0, pR (some a0)), (1, pI a1), (2, pI a2), (3, pI a1)] rfl ?_
  exact wX7_readField_L2 X hE hn fu   fu a0 a1 a2 a1 M h
theorem hyX7_readField : yX7_readField.cls ≠ "java/lang/invoke/MethodHandle" ∧ yX7_readField.cls ≠ "java/lang/invoke/VarHandle" ∧ (parseMethodDescriptor yX7_readField.desc).map (fun d => d.parameters.length) = some 2 := ⟨by decide +kernel, by decide +kernel, by decide +kernel⟩
theorem ctX7_readField (l : Launch) (E : Nat → Nat) (D : va_G) (dA : Nat → ClassId) (lo : Nat) (H0 : Heap) (fu : Nat) (a0 : Nat) (a1 : Int32) (a2 : Int32) (M : Mm) (out : Int32 × Mm) (h : fX7_readField fu a0 a1 a2 M = some out) : Ct l E D dA lo H0 yX7_readField cX7_readField 8 (some .boolean) 8 179 [pR (some a0), pI a1, pI a2] M (some (pI out.1)) out.2 := by
  refine ct_of (by decide +kernel) (Nat.le_of_ble_eq_true rfl) ?_
  intro x hl he hd ha ho hh hn hin X hE
  exact wX7_readField X hE hn fu a0 a1 a2 M h
/-! WebHost$Requests.hexDigit(I)I -/
def fX7_hexDigit_L37 (fu : Nat)  (a0 : Int32)  (M : Mm) : Option (Int32 × Mm) :=
    if a0 < (65 : Int32) then (
    some ((-1 : Int32), M))
    else (
    if (70 : Int32) < a0 then (
    some ((-1 : Int32), M))
    else (
    some (((a0 - (65 : Int32)) + (10 : Int32)), M)))
def fX7_hexDigit_L17 (fu : Nat)  (a0 : Int32)  (M : Mm) : Option (Int32 × Mm) :=
    if a0 < (97 : Int32) then (
    fX7_hexDigit_L37 fu  a0 M)
    else (
    if (102 : Int32) < a0 then (
    fX7_hexDigit_L37 fu  a0 M)
    else (
    some (((a0 - (97 : Int32)) + (10 : Int32)), M)))
def fX7_hexDigit (fu : Nat)  (a0 : Int32)  (M : Mm) : Option (Int32 × Mm) :=
    if a0 < (48 : Int32) then (
    fX7_hexDigit_L17 fu  a0 M)
    else (
    if (57 : Int32) < a0 then (
    fX7_hexDigit_L17 fu  a0 M)
    else (
    some ((a0 - (48 : Int32)), M)))
theorem dX7_hexDigit_0 : decode cX7_hexDigit 0 = .ok (.iload_n 0, 1) := by decide +kernel
theorem dX7_hexDigit_1 : decode cX7_hexDigit 1 = .ok (.bipush 48, 2) := by decide +kernel
theorem dX7_hexDigit_3 : decode cX7_hexDigit 3 = .ok (.if_icmp .lt 14, 3) := by decide +kernel
theorem dX7_hexDigit_6 : decode cX7_hexDigit 6 = .ok (.iload_n 0, 1) := by decide +kernel
theorem dX7_hexDigit_7 : decode cX7_hexDigit 7 = .ok (.bipush 57, 2) := by decide +kernel
theorem dX7_hexDigit_9 : decode cX7_hexDigit 9 = .ok (.if_icmp .gt 8, 3) := by decide +kernel
theorem dX7_hexDigit_12 : decode cX7_hexDigit 12 = .ok (.iload_n 0, 1) := by decide +kernel
theorem dX7_hexDigit_13 : decode cX7_hexDigit 13 = .ok (.bipush 48, 2) := by decide +kernel
theorem dX7_hexDigit_15 : decode cX7_hexDigit 15 = .ok (.isub, 1) := by decide +kernel
theorem dX7_hexDigit_16 : decode cX7_hexDigit 16 = .ok (.ireturn, 1) := by decide +kernel
theorem dX7_hexDigit_17 : decode cX7_hexDigit 17 = .ok (.iload_n 0, 1) := by decide +kernel
theorem dX7_hexDigit_18 : decode cX7_hexDigit 18 = .ok (.bipush 97, 2) := by decide +kernel
theorem dX7_hexDigit_20 : decode cX7_hexDigit 20 = .ok (.if_icmp .lt 17, 3) := by decide +kernel
theorem dX7_hexDigit_23 : decode cX7_hexDigit 23 = .ok (.iload_n 0, 1) := by decide +kernel
theorem dX7_hexDigit_24 : decode cX7_hexDigit 24 = .ok (.bipush 102, 2) := by decide +kernel
theorem dX7_hexDigit_26 : decode cX7_hexDigit 26 = .ok (.if_icmp .gt 11, 3) := by decide +kernel
theorem dX7_hexDigit_29 : decode cX7_hexDigit 29 = .ok (.iload_n 0, 1) := by decide +kernel
theorem dX7_hexDigit_30 : decode cX7_hexDigit 30 = .ok (.bipush 97, 2) := by decide +kernel
theorem dX7_hexDigit_32 : decode cX7_hexDigit 32 = .ok (.isub, 1) := by decide +kernel
theorem dX7_hexDigit_33 : decode cX7_hexDigit 33 = .ok (.bipush 10, 2) := by decide +kernel
theorem dX7_hexDigit_35 : decode cX7_hexDigit 35 = .ok (.iadd, 1) := by decide +kernel
theorem dX7_hexDigit_36 : decode cX7_hexDigit 36 = .ok (.ireturn, 1) := by decide +kernel
theorem dX7_hexDigit_37 : decode cX7_hexDigit 37 = .ok (.iload_n 0, 1) := by decide +kernel
theorem dX7_hexDigit_38 : decode cX7_hexDigit 38 = .ok (.bipush 65, 2) := by decide +kernel
theorem dX7_hexDigit_40 : decode cX7_hexDigit 40 = .ok (.if_icmp .lt 19, 3) := by decide +kernel
theorem dX7_hexDigit_43 : decode cX7_hexDigit 43 = .ok (.iload_n 0, 1) := by decide +kernel
theorem dX7_hexDigit_44 : decode cX7_hexDigit 44 = .ok (.bipush 70, 2) := by decide +kernel
theorem dX7_hexDigit_46 : decode cX7_hexDigit 46 = .ok (.if_icmp .gt 13, 3) := by decide +kernel
theorem dX7_hexDigit_49 : decode cX7_hexDigit 49 = .ok (.iload_n 0, 1) := by decide +kernel
theorem dX7_hexDigit_50 : decode cX7_hexDigit 50 = .ok (.bipush 65, 2) := by decide +kernel
theorem dX7_hexDigit_52 : decode cX7_hexDigit 52 = .ok (.isub, 1) := by decide +kernel
theorem dX7_hexDigit_53 : decode cX7_hexDigit 53 = .ok (.bipush 10, 2) := by decide +kernel
theorem dX7_hexDigit_55 : decode cX7_hexDigit 55 = .ok (.iadd, 1) := by decide +kernel
theorem dX7_hexDigit_56 : decode cX7_hexDigit 56 = .ok (.goto 4, 3) := by decide +kernel
theorem dX7_hexDigit_59 : decode cX7_hexDigit 59 = .ok (.iconst (-1), 1) := by decide +kernel
theorem dX7_hexDigit_60 : decode cX7_hexDigit 60 = .ok (.ireturn, 1) := by decide +kernel
theorem wX7_hexDigit_L37 {x : GX} {n0 sl0 : Nat} (X : Cx x cX7_hexDigit RX7 (some .int) n0 sl0 0 0) {out : Int32 × Mm} (hE : Ends x n0 sl0 (some (pI out.1)) out.2) (hn : xn x = 1) (fu : Nat)   (a0 : Int32)  (M : Mm) (h : fX7_hexDigit_L37 fu  a0 M = some out) : Gw x M 37 [(0, pI a0)] [] := by
  unfold fX7_hexDigit_L37 at h
  refine g_iload_n X (pc := 37) 0 rfl rfl dX7_hexDigit_37 ?_
  refine g_bipush X (pc := 38) (v := 65) dX7_hexDigit_38 (by decide) ?_
  refine g_icmp_lt X (pc := 40) (tgt := 59) dX7_hexDigit_40 (by decide) (fun hc => ?_) (fun hc => ?_)
  · have h := (if_pos hc).symm.trans h
    refine g_iconst X (pc := 59) (v := (-1)) dX7_hexDigit_59 (by decide) ?_
    obtain rfl := Option.some.inj h
    exact g_ireturn X hE dX7_hexDigit_60
  · have h := (if_neg hc).symm.trans h
    refine g_iload_n X (pc := 43) 0 rfl rfl dX7_hexDigit_43 ?_
    refine g_bipush X (pc := 44) (v := 70) dX7_hexDigit_44 (by decide) ?_
    refine g_icmp_gt X (pc := 46) (tgt := 59) dX7_hexDigit_46 (by decide) (fun hc => ?_) (fun hc => ?_)
    · have h := (if_pos hc).symm.trans h
      refine g_iconst X (pc := 59) (v := (-1)) dX7_hexDigit_59 (by decide) ?_
      obtain rfl := Option.some.inj h
      exact g_ireturn X hE dX7_hexDigit_60
    · have h := (if_neg hc).symm.trans h
      refine g_iload_n X (pc := 49) 0 rfl rfl dX7_hexDigit_49 ?_
      refine g_bipush X (pc := 50) (v := 65) dX7_hexDigit_50 (by decide) ?_
      refine g_isub X (pc := 52) dX7_hexDigit_52 ?_
      refine g_bipush X (pc := 53) (v := 10) dX7_hexDigit_53 (by decide) ?_
      refine g_iadd X (pc := 55) dX7_hexDigit_55 ?_
      refine g_goto X (pc := 56) (tgt := 60) dX7_hexDigit_56 (by decide) ?_
      obtain rfl := Option.some.inj h
      exact g_ireturn X hE dX7_hexDigit_60
theorem wX7_hexDigit_L17 {x : GX} {n0 sl0 : Nat} (X : Cx x cX7_hexDigit RX7 (some .int) n0 sl0 0 0) {out : Int32 × Mm} (hE : Ends x n0 sl0 (some (pI out.1)) out.2) (hn : xn x = 1) (fu : Nat)   (a0 : Int32)  (M : Mm) (h : fX7_hexDigit_L17 fu  a0 M = some out) : Gw x M 17 [(0, pI a0)] [] := by
  unfold fX7_hexDigit_L17 at h
  refine g_iload_n X (pc := 17) 0 rfl rfl dX7_hexDigit_17 ?_
  refine g_bipush X (pc := 18) (v := 97) dX7_hexDigit_18 (by decide) ?_
  refine g_icmp_lt X (pc := 20) (tgt := 37) dX7_hexDigit_20 (by decide) (fun hc => ?_) (fun hc => ?_)
  · have h := (if_pos hc).symm.trans h
    exact wX7_hexDigit_L37 X hE hn fu   a0 M h
  · have h := (if_neg hc).symm.trans h
    refine g_iload_n X (pc := 23) 0 rfl rfl dX7_hexDigit_23 ?_
    refine g_bipush X (pc := 24) (v := 102) dX7_hexDigit_24 (by decide) ?_
    refine g_icmp_gt X (pc := 26) (tgt := 37) dX7_hexDigit_26 (by decide) (fun hc => ?_) (fun hc => ?_)
    · have h := (if_pos hc).symm.trans h
      exact wX7_hexDigit_L37 X hE hn fu   a0 M h
    · have h := (if_neg hc).symm.trans h
      refine g_iload_n X (pc := 29) 0 rfl rfl dX7_hexDigit_29 ?_
      refine g_bipush X (pc := 30) (v := 97) dX7_hexDigit_30 (by decide) ?_
      refine g_isub X (pc := 32) dX7_hexDigit_32 ?_
      refine g_bipush X (pc := 33) (v := 10) dX7_hexDigit_33 (by decide) ?_
      refine g_iadd X (pc := 35) dX7_hexDigit_35 ?_
      obtain rfl := Option.some.inj h
      exact g_ireturn X hE dX7_hexDigit_36
theorem wX7_hexDigit {x : GX} {n0 sl0 : Nat} (X : Cx x cX7_hexDigit RX7 (some .int) n0 sl0 0 0) {out : Int32 × Mm} (hE : Ends x n0 sl0 (some (pI out.1)) out.2) (hn : xn x = 1) (fu : Nat)   (a0 : Int32)  (M : Mm) (h : fX7_hexDigit fu  a0 M = some out) : Gw x M 0 [(0, pI a0)] [] := by
  unfold fX7_hexDigit at h
  refine g_iload_n X (pc := 0) 0 rfl rfl dX7_hexDigit_0 ?_
  refine g_bipush X (pc := 1) (v := 48) dX7_hexDigit_1 (by decide) ?_
  refine g_icmp_lt X (pc := 3) (tgt := 17) dX7_hexDigit_3 (by decide) (fun hc => ?_) (fun hc => ?_)
  · have h := (if_pos hc).symm.trans h
    exact wX7_hexDigit_L17 X hE hn fu   a0 M h
  · have h := (if_neg hc).symm.trans h
    refine g_iload_n X (pc := 6) 0 rfl rfl dX7_hexDigit_6 ?_
    refine g_bipush X (pc := 7) (v := 57) dX7_hexDigit_7 (by decide) ?_
    refine g_icmp_gt X (pc := 9) (tgt := 17) dX7_hexDigit_9 (by decide) (fun hc => ?_) (fun hc => ?_)
    · have h := (if_pos hc).symm.trans h
      exact wX7_hexDigit_L17 X hE hn fu   a0 M h
    · have h := (if_neg hc).symm.trans h
      refine g_iload_n X (pc := 12) 0 rfl rfl dX7_hexDigit_12 ?_
      refine g_bipush X (pc := 13) (v := 48) dX7_hexDigit_13 (by decide) ?_
      refine g_isub X (pc := 15) dX7_hexDigit_15 ?_
      obtain rfl := Option.some.inj h
      exact g_ireturn X hE dX7_hexDigit_16
theorem hyX7_hexDigit : yX7_hexDigit.cls ≠ "java/lang/invoke/MethodHandle" ∧ yX7_hexDigit.cls ≠ "java/lang/invoke/VarHandle" ∧ (parseMethodDescriptor yX7_hexDigit.desc).map (fun d => d.parameters.length) = some 1 := ⟨by decide +kernel, by decide +kernel, by decide +kernel⟩
theorem ctX7_hexDigit (l : Launch) (E : Nat → Nat) (D : va_G) (dA : Nat → ClassId) (lo : Nat) (H0 : Heap) (fu : Nat) (a0 : Int32) (M : Mm) (out : Int32 × Mm) (h : fX7_hexDigit fu a0 M = some out) : Ct l E D dA lo H0 yX7_hexDigit cX7_hexDigit 1 (some .int) 0 0 [pI a0] M (some (pI out.1)) out.2 := by
  refine ct_of (by decide +kernel) (Nat.le_of_ble_eq_true rfl) ?_
  intro x hl he hd ha ho hh hn hin X hE
  exact wX7_hexDigit X hE hn fu a0 M h
/-! WebHost$Requests.addToPath(I)V -/
def fX7_addToPath (fu : Nat)  (a0 : Nat) (a1 : Int32)  (M : Mm) : Option (Mm) :=
    (gI M 7 452 (some a0)).bind fun v1 =>
    (gR M 7 451 (some a0)).bind fun v2 =>
    (aL M 100 v2).bind fun v3 =>
    if v3 ≤ v1 then (
    some M)
    else (
    (gR M 7 451 (some a0)).bind fun v4 =>
    (gI M 7 452 (some a0)).bind fun v5 =>
    (pA M 100 v4 v5 (Int8.toInt32 (Int32.toInt8 (Int8.toInt32 (Int32.toInt8 a1))))).bind fun M6 =>
    (gI M6 7 452 (some a0)).bind fun v7 =>
    (pF M6 7 452 (some a0) (v7 + (1 : Int32))).bind fun M8 =>
    some M8)
theorem dX7_addToPath_0 : decode cX7_addToPath 0 = .ok (.aload_n 0, 1) := by decide +kernel
theorem dX7_addToPath_1 : decode cX7_addToPath 1 = .ok (.getfield 214, 3) := by decide +kernel
theorem dX7_addToPath_4 : decode cX7_addToPath 4 = .ok (.aload_n 0, 1) := by decide +kernel
theorem dX7_addToPath_5 : decode cX7_addToPath 5 = .ok (.getfield 25, 3) := by decide +kernel
theorem dX7_addToPath_8 : decode cX7_addToPath 8 = .ok (.arraylength, 1) := by decide +kernel
theorem dX7_addToPath_9 : decode cX7_addToPath 9 = .ok (.if_icmp .ge 24, 3) := by decide +kernel
theorem dX7_addToPath_12 : decode cX7_addToPath 12 = .ok (.aload_n 0, 1) := by decide +kernel
theorem dX7_addToPath_13 : decode cX7_addToPath 13 = .ok (.getfield 25, 3) := by decide +kernel
theorem dX7_addToPath_16 : decode cX7_addToPath 16 = .ok (.aload_n 0, 1) := by decide +kernel
theorem dX7_addToPath_17 : decode cX7_addToPath 17 = .ok (.getfield 214, 3) := by decide +kernel
theorem dX7_addToPath_20 : decode cX7_addToPath 20 = .ok (.iload_n 1, 1) := by decide +kernel
theorem dX7_addToPath_21 : decode cX7_addToPath 21 = .ok (.i2b, 1) := by decide +kernel
theorem dX7_addToPath_22 : decode cX7_addToPath 22 = .ok (.bastore, 1) := by decide +kernel
theorem dX7_addToPath_23 : decode cX7_addToPath 23 = .ok (.aload_n 0, 1) := by decide +kernel
theorem dX7_addToPath_24 : decode cX7_addToPath 24 = .ok (.dup, 1) := by decide +kernel
theorem dX7_addToPath_25 : decode cX7_addToPath 25 = .ok (.getfield 214, 3) := by decide +kernel
theorem dX7_addToPath_28 : decode cX7_addToPath 28 = .ok (.iconst 1, 1) := by decide +kernel
theorem dX7_addToPath_29 : decode cX7_addToPath 29 = .ok (.iadd, 1) := by decide +kernel
theorem dX7_addToPath_30 : decode cX7_addToPath 30 = .ok (.putfield 214, 3) := by decide +kernel
theorem dX7_addToPath_33 : decode cX7_addToPath 33 = .ok (.return_, 1) := by decide +kernel
theorem wX7_addToPath {x : GX} {n0 sl0 : Nat} (X : Cx x cX7_addToPath RX7 none n0 sl0 0 0) {out : Mm} (hE : Ends x n0 sl0 none out) (hn : xn x = 2) (fu : Nat)   (a0 : Nat) (a1 : Int32)  (M : Mm) (h : fX7_addToPath fu  a0 a1 M = some out) : Gw x M 0 [(0, pR (some a0)), (1, pI a1)] [] := by
  unfold fX7_addToPath at h
  refine g_aload_n X (pc := 0) 0 rfl rfl dX7_addToPath_0 ?_
  obtain ⟨v1, ev1, h⟩ := bd h
  refine g_getI X (pc := 1) fk_7_4 rfl rfl ev1 tb_260 dX7_addToPath_1 ?_
  refine g_aload_n X (pc := 4) 0 rfl rfl dX7_addToPath_4 ?_
  obtain ⟨v2, ev2, h⟩ := bd h
  refine g_getR X (pc := 5) fk_7_3 rfl rfl ev2 tb_259 dX7_addToPath_5 ?_
  obtain ⟨v3, ev3, h⟩ := bd h
  refine g_alen X (pc := 8) (k := 0) rfl (by decide) ev3 dX7_addToPath_8 ?_
  refine g_icmp_ge X (pc := 9) (tgt := 33) dX7_addToPath_9 (by decide) (fun hc => ?_) (fun hc => ?_)
  · have h := (if_pos hc).symm.trans h
    obtain rfl := Option.some.inj h
    exact g_return X hE dX7_addToPath_33
  · have h := (if_neg hc).symm.trans h
    refine g_aload_n X (pc := 12) 0 rfl rfl dX7_addToPath_12 ?_
    obtain ⟨v4, ev4, h⟩ := bd h
    refine g_getR X (pc := 13) fk_7_3 rfl rfl ev4 tb_259 dX7_addToPath_13 ?_
    refine g_aload_n X (pc := 16) 0 rfl rfl dX7_addToPath_16 ?_
    obtain ⟨v5, ev5, h⟩ := bd h
    refine g_getI X (pc := 17) fk_7_4 rfl rfl ev5 tb_260 dX7_addToPath_17 ?_
    refine g_iload_n X (pc := 20) 1 rfl rfl dX7_addToPath_20 ?_
    refine g_i2b X (pc := 21) dX7_addToPath_21 ?_
    obtain ⟨M6, eM6, h⟩ := bd h
    refine g_bastore X (pc := 22) eM6 dX7_addToPath_22 ?_
    refine g_aload_n X (pc := 23) 0 rfl rfl dX7_addToPath_23 ?_
    refine g_dup X (pc := 24) rfl dX7_addToPath_24 ?_
    obtain ⟨v7, ev7, h⟩ := bd h
    refine g_getI X (pc := 25) fk_7_4 rfl rfl ev7 tb_260 dX7_addToPath_25 ?_
    refine g_iconst X (pc := 28) (v := 1) dX7_addToPath_28 (by decide) ?_
    refine g_iadd X (pc := 29) dX7_addToPath_29 ?_
    obtain ⟨M8, eM8, h⟩ := bd h
    refine g_putI X (pc := 30) fk_7_4 rfl rfl rfl eM8 tb_260 (Or.inl rfl) dX7_addToPath_30 ?_
    obtain rfl := Option.some.inj h
    exact g_return X hE dX7_addToPath_33
theorem hyX7_addToPath : yX7_addToPath.cls ≠ "java/lang/invoke/MethodHandle" ∧ yX7_addToPath.cls ≠ "java/lang/invoke/VarHandle" ∧ (parseMethodDescriptor yX7_addToPath.desc).map (fun d => d.parameters.length) = some 1 := ⟨by decide +kernel, by decide +kernel, by decide +kernel⟩
theorem ctX7_addToPath (l : Launch) (E : Nat → Nat) (D : va_G) (dA : Nat → ClassId) (lo : Nat) (H0 : Heap) (fu : Nat) (a0 : Nat) (a1 : Int32) (M : Mm) (out : Mm) (h : fX7_addToPath fu a0 a1 M = some out) : Ct l E D dA lo H0 yX7_addToPath cX7_addToPath 2 none 0 0 [pR (some a0), pI a1] M none out := by
  refine ct_of (by decide +kernel) (Nat.le_of_ble_eq_true rfl) ?_
  intro x hl he hd ha ho hh hn hin X hE
  exact wX7_addToPath X hE hn fu a0 a1 M h
/-! WebHost$Requests.readPath()Z -/
def fX7_readPath_L160 (fu : Nat)  : Nat → Nat → Option Nat → Int32 → Mm → Option (Int32 × Mm)
  | 0, _, _, _, _ => none
  | n + 1, a0, a2, a3, M =>
    (rcS a2).bind fun q1 =>
    b2 (fJ0_length_8abf5 fu q1  M) fun v3 M2 =>
    if v3 ≤ a3 then (
    rN .boolean (1 : Int32) M2)
    else (
    (rcS a2).bind fun q4 =>
    b2 (fJ0_charAt_5068e fu q4 a3 M2) fun v6 M5 =>
    (rc M5 7 (some a0)).bind fun q7 =>
    (fX7_addToPath fu q7 v6 M5).bind fun M8 =>
    fX7_readPath_L160 fu  n a0 a2 (a3 + (1 : Int32)) M8)
def fX7_readPath_L149 (fu : Nat)  (a0 : Nat) (a1 : Int32)  (M : Mm) : Option (Int32 × Mm) :=
    if a1 = (47 : Int32) then (
    fX7_readPath_L160 fu  fu a0 (some 12) (0 : Int32) M)
    else (
    rN .boolean (1 : Int32) M)
def fX7_readPath_L138 (fu : Nat) (k12 : Nat → Int32 → Int32 → Mm → Option (Int32 × Mm)) (a0 : Nat) (a1 : Int32) (a2 : Int32)  (M : Mm) : Option (Int32 × Mm) :=
    (rc M 7 (some a0)).bind fun q1 =>
    (fX7_addToPath fu q1 a1 M).bind fun M2 =>
    k12 a0 a1 (a2 + (1 : Int32)) M2
def fX7_readPath_L103 (fu : Nat) (k12 : Nat → Int32 → Int32 → Mm → Option (Int32 × Mm)) (a0 : Nat) (a2 : Int32) (a3 : Int32) (s0 : Int32) (M : Mm) : Option (Int32 × Mm) :=
    if a3 < 0 then (
    rN .boolean (0 : Int32) M)
    else (
    if s0 < 0 then (
    rN .boolean (0 : Int32) M)
    else (
    if ((a3 <<< ((4 : Int32) &&& 31)) ||| s0) < (33 : Int32) then (
    rN .boolean (0 : Int32) M)
    else (
    if ((a3 <<< ((4 : Int32) &&& 31)) ||| s0) ≤ (126 : Int32) then (
    fX7_readPath_L138 fu k12 a0 ((a3 <<< ((4 : Int32) &&& 31)) ||| s0) (a2 + (2 : Int32)) M)
    else (
    rN .boolean (0 : Int32) M))))
def fX7_readPath_L75 (fu : Nat) (k12 : Nat → Int32 → Int32 → Mm → Option (Int32 × Mm)) (a0 : Nat) (a2 : Int32) (s0 : Int32) (M : Mm) : Option (Int32 × Mm) :=
    (gI M 7 456 (some a0)).bind fun v1 =>
    if v1 ≤ (a2 + (2 : Int32)) then (
    fX7_readPath_L103 fu k12 a0 a2 s0 (-1 : Int32) M)
    else (
    (gR M 7 450 (some a0)).bind fun v2 =>
    b2 (fX11_one fu  v2 (a2 + (2 : Int32)) M) fun v4 M3 =>
    b2 (fX7_hexDigit fu  v4 M3) fun v6 M5 =>
    fX7_readPath_L103 fu k12 a0 a2 s0 v6 M5)
def fX7_readPath_L12 (fu : Nat)  : Nat → Nat → Int32 → Int32 → Mm → Option (Int32 × Mm)
  | 0, _, _, _, _ => none
  | n + 1, a0, a1, a2, M =>
    (gI M 7 456 (some a0)).bind fun v1 =>
    if v1 ≤ a2 then (
    fX7_readPath_L149 fu  a0 a1 M)
    else (
    (gR M 7 450 (some a0)).bind fun v2 =>
    b2 (fX11_one fu  v2 a2 M) fun v4 M3 =>
    if v4 = (63 : Int32) then (
    fX7_readPath_L149 fu  a0 a1 M3)
    else (
    (gR M3 7 450 (some a0)).bind fun v5 =>
    b2 (fX11_one fu  v5 a2 M3) fun v7 M6 =>
    if v7 = (37 : Int32) then (
    (gI M6 7 456 (some a0)).bind fun v8 =>
    if v8 ≤ (a2 + (1 : Int32)) then (
    fX7_readPath_L75 fu (fun b0 b1 b2 M => fX7_readPath_L12 fu  n b0 b1 b2 M) a0 a2 (-1 : Int32) M6)
    else (
    (gR M6 7 450 (some a0)).bind fun v9 =>
    b2 (fX11_one fu  v9 (a2 + (1 : Int32)) M6) fun v11 M10 =>
    b2 (fX7_hexDigit fu  v11 M10) fun v13 M12 =>
    fX7_readPath_L75 fu (fun b0 b1 b2 M => fX7_readPath_L12 fu  n b0 b1 b2 M) a0 a2 v13 M12))
    else (
    fX7_readPath_L138 fu (fun b0 b1 b2 M => fX7_readPath_L12 fu  n b0 b1 b2 M) a0 v7 a2 M6)))
def fX7_readPath (fu : Nat)  (a0 : Nat)  (M : Mm) : Option (Int32 × Mm) :=
    (pF M 7 452 (some a0) (0 : Int32)).bind fun M1 =>
    (gI M1 7 455 (some a0)).bind fun v2 =>
    fX7_readPath_L12 fu  fu a0 (0 : Int32) v2 M1
theorem dX7_readPath_0 : decode cX7_readPath 0 = .ok (.aload_n 0, 1) := by decide +kernel
theorem dX7_readPath_1 : decode cX7_readPath 1 = .ok (.iconst 0, 1) := by decide +kernel
theorem dX7_readPath_2 : decode cX7_readPath 2 = .ok (.putfield 214, 3) := by decide +kernel
theorem dX7_readPath_5 : decode cX7_readPath 5 = .ok (.iconst 0, 1) := by decide +kernel
theorem dX7_readPath_6 : decode cX7_readPath 6 = .ok (.istore_n 1, 1) := by decide +kernel
theorem dX7_readPath_7 : decode cX7_readPath 7 = .ok (.aload_n 0, 1) := by decide +kernel
theorem dX7_readPath_8 : decode cX7_readPath 8 = .ok (.getfield 146, 3) := by decide +kernel
theorem dX7_readPath_11 : decode cX7_readPath 11 = .ok (.istore_n 2, 1) := by decide +kernel
theorem dX7_readPath_12 : decode cX7_readPath 12 = .ok (.iload_n 2, 1) := by decide +kernel
theorem dX7_readPath_13 : decode cX7_readPath 13 = .ok (.aload_n 0, 1) := by decide +kernel
theorem dX7_readPath_14 : decode cX7_readPath 14 = .ok (.getfield 149, 3) := by decide +kernel
theorem dX7_readPath_17 : decode cX7_readPath 17 = .ok (.if_icmp .ge 132, 3) := by decide +kernel
theorem dX7_readPath_20 : decode cX7_readPath 20 = .ok (.aload_n 0, 1) := by decide +kernel
theorem dX7_readPath_21 : decode cX7_readPath 21 = .ok (.getfield 21, 3) := by decide +kernel
theorem dX7_readPath_24 : decode cX7_readPath 24 = .ok (.iload_n 2, 1) := by decide +kernel
theorem dX7_readPath_25 : decode cX7_readPath 25 = .ok (.invokestatic 97, 3) := by decide +kernel
theorem dX7_readPath_28 : decode cX7_readPath 28 = .ok (.bipush 63, 2) := by decide +kernel
theorem dX7_readPath_30 : decode cX7_readPath 30 = .ok (.if_icmp .eq 119, 3) := by decide +kernel
theorem dX7_readPath_33 : decode cX7_readPath 33 = .ok (.aload_n 0, 1) := by decide +kernel
theorem dX7_readPath_34 : decode cX7_readPath 34 = .ok (.getfield 21, 3) := by decide +kernel
theorem dX7_readPath_37 : decode cX7_readPath 37 = .ok (.iload_n 2, 1) := by decide +kernel
theorem dX7_readPath_38 : decode cX7_readPath 38 = .ok (.invokestatic 97, 3) := by decide +kernel
theorem dX7_readPath_41 : decode cX7_readPath 41 = .ok (.istore_n 1, 1) := by decide +kernel
theorem dX7_readPath_42 : decode cX7_readPath 42 = .ok (.iload_n 1, 1) := by decide +kernel
theorem dX7_readPath_43 : decode cX7_readPath 43 = .ok (.bipush 37, 2) := by decide +kernel
theorem dX7_readPath_45 : decode cX7_readPath 45 = .ok (.if_icmp .ne 93, 3) := by decide +kernel
theorem dX7_readPath_48 : decode cX7_readPath 48 = .ok (.iload_n 2, 1) := by decide +kernel
theorem dX7_readPath_49 : decode cX7_readPath 49 = .ok (.iconst 1, 1) := by decide +kernel
theorem dX7_readPath_50 : decode cX7_readPath 50 = .ok (.iadd, 1) := by decide +kernel
theorem dX7_readPath_51 : decode cX7_readPath 51 = .ok (.aload_n 0, 1) := by decide +kernel
theorem dX7_readPath_52 : decode cX7_readPath 52 = .ok (.getfield 149, 3) := by decide +kernel
theorem dX7_readPath_55 : decode cX7_readPath 55 = .ok (.if_icmp .ge 19, 3) := by decide +kernel
theorem dX7_readPath_58 : decode cX7_readPath 58 = .ok (.aload_n 0, 1) := by decide +kernel
theorem dX7_readPath_59 : decode cX7_readPath 59 = .ok (.getfield 21, 3) := by decide +kernel
theorem dX7_readPath_62 : decode cX7_readPath 62 = .ok (.iload_n 2, 1) := by decide +kernel
theorem dX7_readPath_63 : decode cX7_readPath 63 = .ok (.iconst 1, 1) := by decide +kernel
theorem dX7_readPath_64 : decode cX7_readPath 64 = .ok (.iadd, 1) := by decide +kernel
theorem dX7_readPath_65 : decode cX7_readPath 65 = .ok (.invokestatic 97, 3) := by decide +kernel
theorem dX7_readPath_68 : decode cX7_readPath 68 = .ok (.invokestatic 228, 3) := by decide +kernel
theorem dX7_readPath_71 : decode cX7_readPath 71 = .ok (.goto 4, 3) := by decide +kernel
theorem dX7_readPath_74 : decode cX7_readPath 74 = .ok (.iconst (-1), 1) := by decide +kernel
theorem dX7_readPath_75 : decode cX7_readPath 75 = .ok (.istore_n 3, 1) := by decide +kernel
theorem dX7_readPath_76 : decode cX7_readPath 76 = .ok (.iload_n 2, 1) := by decide +kernel
theorem dX7_readPath_77 : decode cX7_readPath 77 = .ok (.iconst 2, 1) := by decide +kernel
theorem dX7_readPath_78 : decode cX7_readPath 78 = .ok (.iadd, 1) := by decide +kernel
theorem dX7_readPath_79 : decode cX7_readPath 79 = .ok (.aload_n 0, 1) := by decide +kernel
theorem dX7_readPath_80 : decode cX7_readPath 80 = .ok (.getfield 149, 3) := by decide +kernel
theorem dX7_readPath_83 : decode cX7_readPath 83 = .ok (.if_icmp .ge 19, 3) := by decide +kernel
theorem dX7_readPath_86 : decode cX7_readPath 86 = .ok (.aload_n 0, 1) := by decide +kernel
theorem dX7_readPath_87 : decode cX7_readPath 87 = .ok (.getfield 21, 3) := by decide +kernel
theorem dX7_readPath_90 : decode cX7_readPath 90 = .ok (.iload_n 2, 1) := by decide +kernel
theorem dX7_readPath_91 : decode cX7_readPath 91 = .ok (.iconst 2, 1) := by decide +kernel
theorem dX7_readPath_92 : decode cX7_readPath 92 = .ok (.iadd, 1) := by decide +kernel
theorem dX7_readPath_93 : decode cX7_readPath 93 = .ok (.invokestatic 97, 3) := by decide +kernel
theorem dX7_readPath_96 : decode cX7_readPath 96 = .ok (.invokestatic 228, 3) := by decide +kernel
theorem dX7_readPath_99 : decode cX7_readPath 99 = .ok (.goto 4, 3) := by decide +kernel
theorem dX7_readPath_102 : decode cX7_readPath 102 = .ok (.iconst (-1), 1) := by decide +kernel
theorem dX7_readPath_103 : decode cX7_readPath 103 = .ok (.istore 4, 2) := by decide +kernel
theorem dX7_readPath_105 : decode cX7_readPath 105 = .ok (.iload_n 3, 1) := by decide +kernel
theorem dX7_readPath_106 : decode cX7_readPath 106 = .ok (.iconst 4, 1) := by decide +kernel
theorem dX7_readPath_107 : decode cX7_readPath 107 = .ok (.ishl, 1) := by decide +kernel
theorem dX7_readPath_108 : decode cX7_readPath 108 = .ok (.iload 4, 2) := by decide +kernel
theorem dX7_readPath_110 : decode cX7_readPath 110 = .ok (.ior, 1) := by decide +kernel
theorem dX7_readPath_111 : decode cX7_readPath 111 = .ok (.istore_n 1, 1) := by decide +kernel
theorem dX7_readPath_112 : decode cX7_readPath 112 = .ok (.iload_n 3, 1) := by decide +kernel
theorem dX7_readPath_113 : decode cX7_readPath 113 = .ok (.ifCond .lt 20, 3) := by decide +kernel
theorem dX7_readPath_116 : decode cX7_readPath 116 = .ok (.iload 4, 2) := by decide +kernel
theorem dX7_readPath_118 : decode cX7_readPath 118 = .ok (.ifCond .lt 15, 3) := by decide +kernel
theorem dX7_readPath_121 : decode cX7_readPath 121 = .ok (.iload_n 1, 1) := by decide +kernel
theorem dX7_readPath_122 : decode cX7_readPath 122 = .ok (.bipush 33, 2) := by decide +kernel
theorem dX7_readPath_124 : decode cX7_readPath 124 = .ok (.if_icmp .lt 9, 3) := by decide +kernel
theorem dX7_readPath_127 : decode cX7_readPath 127 = .ok (.iload_n 1, 1) := by decide +kernel
theorem dX7_readPath_128 : decode cX7_readPath 128 = .ok (.bipush 126, 2) := by decide +kernel
theorem dX7_readPath_130 : decode cX7_readPath 130 = .ok (.if_icmp .le 5, 3) := by decide +kernel
theorem dX7_readPath_133 : decode cX7_readPath 133 = .ok (.iconst 0, 1) := by decide +kernel
theorem dX7_readPath_134 : decode cX7_readPath 134 = .ok (.ireturn, 1) := by decide +kernel
theorem dX7_readPath_135 : decode cX7_readPath 135 = .ok (.iinc 2 2, 3) := by decide +kernel
theorem dX7_readPath_138 : decode cX7_readPath 138 = .ok (.aload_n 0, 1) := by decide +kernel
theorem dX7_readPath_139 : decode cX7_readPath 139 = .ok (.iload_n 1, 1) := by decide +kernel
theorem dX7_readPath_140 : decode cX7_readPath 140 = .ok (.invokevirtual 231, 3) := by decide +kernel
theorem dX7_readPath_143 : decode cX7_readPath 143 = .ok (.iinc 2 1, 3) := by decide +kernel
theorem dX7_readPath_146 : decode cX7_readPath 146 = .ok (.goto (-134), 3) := by decide +kernel
theorem dX7_readPath_149 : decode cX7_readPath 149 = .ok (.iload_n 1, 1) := by decide +kernel
theorem dX7_readPath_150 : decode cX7_readPath 150 = .ok (.bipush 47, 2) := by decide +kernel
theorem dX7_readPath_152 : decode cX7_readPath 152 = .ok (.if_icmp .ne 31, 3) := by decide +kernel
theorem dX7_readPath_155 : decode cX7_readPath 155 = .ok (.ldc 234, 2) := by decide +kernel
theorem dX7_readPath_157 : decode cX7_readPath 157 = .ok (.astore_n 2, 1) := by decide +kernel
theorem dX7_readPath_158 : decode cX7_readPath 158 = .ok (.iconst 0, 1) := by decide +kernel
theorem dX7_readPath_159 : decode cX7_readPath 159 = .ok (.istore_n 3, 1) := by decide +kernel
theorem dX7_readPath_160 : decode cX7_readPath 160 = .ok (.iload_n 3, 1) := by decide +kernel
theorem dX7_readPath_161 : decode cX7_readPath 161 = .ok (.aload_n 2, 1) := by decide +kernel
theorem dX7_readPath_162 : decode cX7_readPath 162 = .ok (.invokevirtual 156, 3) := by decide +kernel
theorem dX7_readPath_165 : decode cX7_readPath 165 = .ok (.if_icmp .ge 18, 3) := by decide +kernel
theorem dX7_readPath_168 : decode cX7_readPath 168 = .ok (.aload_n 0, 1) := by decide +kernel
theorem dX7_readPath_169 : decode cX7_readPath 169 = .ok (.aload_n 2, 1) := by decide +kernel
theorem dX7_readPath_170 : decode cX7_readPath 170 = .ok (.iload_n 3, 1) := by decide +kernel
theorem dX7_readPath_171 : decode cX7_readPath 171 = .ok (.invokevirtual 161, 3) := by decide +kernel
theorem dX7_readPath_174 : decode cX7_readPath 174 = .ok (.invokevirtual 231, 3) := by decide +kernel
theorem dX7_readPath_177 : decode cX7_readPath 177 = .ok (.iinc 3 1, 3) := by decide +kernel
theorem dX7_readPath_180 : decode cX7_readPath 180 = .ok (.goto (-20), 3) := by decide +kernel
theorem dX7_readPath_183 : decode cX7_readPath 183 = .ok (.iconst 1, 1) := by decide +kernel
theorem dX7_readPath_184 : decode cX7_readPath 184 = .ok (.ireturn, 1) := by decide +kernel
theorem wX7_readPath_L160 {x : GX} {n0 sl0 : Nat} (X : Cx x cX7_readPath RX7 (some .boolean) n0 sl0 5 106) {out : Int32 × Mm} (hE : Ends x n0 sl0 (some (pI out.1)) out.2) (hn : xn x = 5) (fu : Nat)   : ∀ (n : Nat) (a0 : Nat) (a2 : Option Nat) (a3 : Int32)  (M : Mm), fX7_readPath_L160 fu  n a0 a2 a3 M = some out → Gw x M 160 [(0, pR (some a0)), (2, pR a2), (3, pI a3)] [] := by
  intro n
  induction n with
  | zero =>
    intro a0 a2 a3 M h
    have h : (none : Option (Int32 × Mm)) = some out := h
    cases h
  | succ n ih =>
    intro a0 a2 a3 M h
    rw [fX7_readPath_L160] at h
    refine g_iload_n X (pc := 160) 2 rfl rfl dX7_readPath_160 ?_
    refine g_aload_n X (pc := 161) 1 rfl rfl dX7_readPath_161 ?_
    obtain ⟨q1, eq1, h⟩ := bd h
    obtain ⟨v3, M2, eM2, h⟩ := b2d h
    refine g_callVS X (pc := 162) (M' := M2) (ro := some (pI v3)) (as := []) (as' := []) (st := [pI a3]) eq1 (ctJ0_length_8abf5 _ _ _ _ _ _ fu q1  M _ eM2) tb_1214 tb_1211 tb_1212 tb_1213 tb_21 ⟨rfl, hyJ0_length_8abf5⟩ rfl rfl ⟨by decide, by decide⟩ (Nat.le_of_ble_eq_true rfl) dX7_readPath_162 ?_
    refine g_icmp_ge X (pc := 165) (tgt := 183) dX7_readPath_165 (by decide) (fun hc => ?_) (fun hc => ?_)
    · have h := (if_pos hc).symm.trans h
      refine g_iconst X (pc := 183) (v := 1) dX7_readPath_183 (by decide) ?_
      obtain ⟨hz, rfl⟩ := rN_some h
      exact g_nreturn X rfl hz hE dX7_readPath_184
    · have h := (if_neg hc).symm.trans h
      refine g_aload_n X (pc := 168) 0 rfl rfl dX7_readPath_168 ?_
      refine g_aload_n X (pc := 169) 1 rfl rfl dX7_readPath_169 ?_
      refine g_iload_n X (pc := 170) 2 rfl rfl dX7_readPath_170 ?_
      obtain ⟨q4, eq4, h⟩ := bd h
      obtain ⟨v6, M5, eM5, h⟩ := b2d h
      refine g_callVS X (pc := 171) (M' := M5) (ro := some (pI v6)) (as := [pI a3]) (as' := [pI a3]) (st := [pR (some a0)]) eq4 (ctJ0_charAt_5068e _ _ _ _ _ _ fu q4 a3 M2 _ eM5) tb_1224 tb_1221 tb_1222 tb_1223 tb_21 ⟨rfl, hyJ0_charAt_5068e⟩ rfl rfl ⟨by decide, by decide⟩ (Nat.le_of_ble_eq_true rfl) dX7_readPath_171 ?_
      obtain ⟨q7, eq7, h⟩ := bd h
      obtain ⟨M8, eM8, h⟩ := bd h
      refine g_callV X (pc := 174) (M' := M8) (ro := none) (c := 7) rfl (by decide) (as := [pI v6]) (as' := [pI v6]) (st := []) eq7 (ctX7_addToPath _ _ _ _ _ _ fu q7 v6 M5 _ eM8) tb_1366 tb_1363 tb_1365 ts_53 tb_7 ⟨rfl, hyX7_addToPath⟩ rfl rfl ⟨by decide, by decide⟩ (Nat.le_of_ble_eq_true rfl) dX7_readPath_174 ?_
      refine g_iinc X (pc := 177) 2 [(3, pI (a3 + (1 : Int32))), (0, pR (some a0)), (2, pR a2)] rfl (iinc_e (by decide)) (lt_n hn (by decide)) rfl dX7_readPath_177 ?_
      refine g_goto X (pc := 180) (tgt := 160) dX7_readPath_180 (by decide) ?_
      refine g_sub [1, 2, 0] [(0, pR (some a0)), (2, pR a2), (3, pI (a3 + (1 : Int32)))] rfl ?_
      exact ih a0 a2 (a3 + (1 : Int32)) M8 h
theorem wX7_readPath_L149 {x : GX} {n0 sl0 : Nat} (X : Cx x cX7_readPath RX7 (some .boolean) n0 sl0 5 106) {out : Int32 × Mm} (hE : Ends x n0 sl0 (some (pI out.1)) out.2) (hn : xn x = 5) (fu : Nat)   (a0 : Nat) (a1 : Int32)  (M : Mm) (h : fX7_readPath_L149 fu  a0 a1 M = some out) : Gw x M 149 [(0, pR (some a0)), (1, pI a1)] [] := by
  unfold fX7_readPath_L149 at h
  refine g_iload_n X (pc := 149) 1 rfl rfl dX7_readPath_149 ?_
  refine g_bipush X (pc := 150) (v := 47) dX7_readPath_150 (by decide) ?_
  refine g_icmp_ne X (pc := 152) (tgt := 183) dX7_readPath_152 (by decide) (fun hc => ?_) (fun hc => ?_)
  · have h := (if_neg hc).symm.trans h
    refine g_iconst X (pc := 183) (v := 1) dX7_readPath_183 (by decide) ?_
    obtain ⟨hz, rfl⟩ := rN_some h
    exact g_nreturn X rfl hz hE dX7_readPath_184
  · have h := (if_pos hc).symm.trans h
    refine g_ldcS X (pc := 155) (List.mem_of_getElem? (i := 12) rfl) dX7_readPath_155 ?_
    refine g_astore_n X (pc := 157) [(2, pR (some 12)), (0, pR (some a0)), (1, pI a1)] rfl (lt_n hn (by decide)) rfl dX7_readPath_157 ?_
    refine g_iconst X (pc := 158) (v := 0) dX7_readPath_158 (by decide) ?_
    refine g_istore_n X (pc := 159) [(3, pI (0 : Int32)), (2, pR (some 12)), (0, pR (some a0)), (1, pI a1)] rfl (lt_n hn (by decide)) rfl dX7_readPath_159 ?_
    refine g_sub [2, 1, 0] [(0, pR (some a0)), (2, pR (some 12)), (3, pI (0 : Int32))] rfl ?_
    exact wX7_readPath_L160 X hE hn fu   fu a0 (some 12) (0 : Int32) M h
theorem wX7_readPath_L138 {x : GX} {n0 sl0 : Nat} (X : Cx x cX7_readPath RX7 (some .boolean) n0 sl0 5 106) {out : Int32 × Mm} (hE : Ends x n0 sl0 (some (pI out.1)) out.2) (hn : xn x = 5) (fu : Nat) (k12 : Nat → Int32 → Int32 → Mm → Option (Int32 × Mm)) (hk12 : ∀ (b0 : Nat) (b1 : Int32) (b2 : Int32)  (M : Mm), k12 b0 b1 b2 M = some out → Gw x M 12 [(0, pR (some b0)), (1, pI b1), (2, pI b2)] []) (a0 : Nat) (a1 : Int32) (a2 : Int32)  (M : Mm) (h : fX7_readPath_L138 fu k12 a0 a1 a2 M = some out) : Gw x M 138 [(0, pR (some a0)), (1, pI a1), (2, pI a2)] [] := by
  unfold fX7_readPath_L138 at h
  refine g_aload_n X (pc := 138) 0 rfl rfl dX7_readPath_138 ?_
  refine g_iload_n X (pc := 139) 1 rfl rfl dX7_readPath_139 ?_
  obtain ⟨q1, eq1, h⟩ := bd h
  obtain ⟨M2, eM2, h⟩ := bd h
  refine g_callV X (pc := 140) (M' := M2) (ro := none) (c := 7) rfl (by decide) (as := [pI a1]) (as' := [pI a1]) (st := []) eq1 (ctX7_addToPath _ _ _ _ _ _ fu q1 a1 M _ eM2) tb_1366 tb_1363 tb_1365 ts_53 tb_7 ⟨rfl, hyX7_addToPath⟩ rfl rfl ⟨by decide, by decide⟩ (Nat.le_of_ble_eq_true rfl) dX7_readPath_140 ?_
  refine g_iinc X (pc := 143) 2 [(2, pI (a2 + (1 : Int32))), (0, pR (some a0)), (1, pI a1)] rfl (iinc_e (by decide)) (lt_n hn (by decide)) rfl dX7_readPath_143 ?_
  refine g_goto X (pc := 146) (tgt := 12) dX7_readPath_146 (by decide) ?_
  refine g_sub [1, 2, 0] [(0, pR (some a0)), (1, pI a1), (2, pI (a2 + (1 : Int32)))] rfl ?_
  exact hk12 a0 a1 (a2 + (1 : Int32)) M2 h
theorem wX7_readPath_L103 {x : GX} {n0 sl0 : Nat} (X : Cx x cX7_readPath RX7 (some .boolean) n0 sl0 5 106) {out : Int32 × Mm} (hE : Ends x n0 sl0 (some (pI out.1)) out.2) (hn : xn x = 5) (fu : Nat) (k12 : Nat → Int32 → Int32 → Mm → Option (Int32 × Mm)) (hk12 : ∀ (b0 : Nat) (b1 : Int32) (b2 : Int32)  (M : Mm), k12 b0 b1 b2 M = some out → Gw x M 12 [(0, pR (some b0)), (1, pI b1), (2, pI b2)] []) (a0 : Nat) (a2 : Int32) (a3 : Int32) (s0 : Int32) (M : Mm) (h : fX7_readPath_L103 fu k12 a0 a2 a3 s0 M = some out) : Gw x M 103 [(0, pR (some a0)), (2, pI a2), (3, pI a3)] [pI s0] := by
  unfold fX7_readPath_L103 at h
  refine g_istore X (pc := 103) [(4, pI s0), (0, pR (some a0)), (2, pI a2), (3, pI a3)] (lt_n hn (by decide)) rfl dX7_readPath_103 ?_
  refine g_iload_n X (pc := 105) 3 rfl rfl dX7_readPath_105 ?_
  refine g_iconst X (pc := 106) (v := 4) dX7_readPath_106 (by decide) ?_
  refine g_ishl X (pc := 107) dX7_readPath_107 ?_
  refine g_iload X (pc := 108) 0 rfl dX7_readPath_108 ?_
  refine g_ior X (pc := 110) dX7_readPath_110 ?_
  refine g_istore_n X (pc := 111) [(1, pI ((a3 <<< ((4 : Int32) &&& 31)) ||| s0)), (4, pI s0), (0, pR (some a0)), (2, pI a2), (3, pI a3)] rfl (lt_n hn (by decide)) rfl dX7_readPath_111 ?_
  refine g_iload_n X (pc := 112) 4 rfl rfl dX7_readPath_112 ?_
  refine g_if_lt X (pc := 113) (tgt := 133) dX7_readPath_113 (by decide) (fun hc => ?_) (fun hc => ?_)
  · have h := (if_pos hc).symm.trans h
    refine g_iconst X (pc := 133) (v := 0) dX7_readPath_133 (by decide) ?_
    obtain ⟨hz, rfl⟩ := rN_some h
    exact g_nreturn X rfl hz hE dX7_readPath_134
  · have h := (if_neg hc).symm.trans h
    refine g_iload X (pc := 116) 1 rfl dX7_readPath_116 ?_
    refine g_if_lt X (pc := 118) (tgt := 133) dX7_readPath_118 (by decide) (fun hc => ?_) (fun hc => ?_)
    · have h := (if_pos hc).symm.trans h
      refine g_iconst X (pc := 133) (v := 0) dX7_readPath_133 (by decide) ?_
      obtain ⟨hz, rfl⟩ := rN_some h
      exact g_nreturn X rfl hz hE dX7_readPath_134
    · have h := (if_neg hc).symm.trans h
      refine g_iload_n X (pc := 121) 0 rfl rfl dX7_readPath_121 ?_
      refine g_bipush X (pc := 122) (v := 33) dX7_readPath_122 (by decide) ?_
      refine g_icmp_lt X (pc := 124) (tgt := 133) dX7_readPath_124 (by decide) (fun hc => ?_) (fun hc => ?_)
      · have h := (if_pos hc).symm.trans h
        refine g_iconst X (pc := 133) (v := 0) dX7_readPath_133 (by decide) ?_
        obtain ⟨hz, rfl⟩ := rN_some h
        exact g_nreturn X rfl hz hE dX7_readPath_134
      · have h := (if_neg hc).symm.trans h
        refine g_iload_n X (pc := 127) 0 rfl rfl dX7_readPath_127 ?_
        refine g_bipush X (pc := 128) (v := 126) dX7_readPath_128 (by decide) ?_
        refine g_icmp_le X (pc := 130) (tgt := 135) dX7_readPath_130 (by decide) (fun hc => ?_) (fun hc => ?_)
        · have h := (if_pos hc).symm.trans h
          refine g_iinc X (pc := 135) 3 [(2, pI (a2 + (2 : Int32))), (1, pI ((a3 <<< ((4 : Int32) &&& 31)) ||| s0)), (4, pI s0), (0, pR (some a0)), (3, pI a3)] rfl (iinc_e (by decide)) (lt_n hn (by decide)) rfl dX7_readPath_135 ?_
          refine g_sub [3, 1, 0] [(0, pR (some a0)), (1, pI ((a3 <<< ((4 : Int32) &&& 31)) ||| s0)), (2, pI (a2 + (2 : Int32)))] rfl ?_
          exact wX7_readPath_L138 X hE hn fu k12 hk12 a0 ((a3 <<< ((4 : Int32) &&& 31)) ||| s0) (a2 + (2 : Int32)) M h
        · have h := (if_neg hc).symm.trans h
          refine g_iconst X (pc := 133) (v := 0) dX7_readPath_133 (by decide) ?_
          obtain ⟨hz, rfl⟩ := rN_some h
          exact g_nreturn X rfl hz hE dX7_readPath_134
theorem wX7_readPath_L75 {x : GX} {n0 sl0 : Nat} (X : Cx x cX7_readPath RX7 (some .boolean) n0 sl0 5 106) {out : Int32 × Mm} (hE : Ends x n0 sl0 (some (pI out.1)) out.2) (hn : xn x = 5) (fu : Nat) (k12 : Nat → Int32 → Int32 → Mm → Option (Int32 × Mm)) (hk12 : ∀ (b0 : Nat) (b1 : Int32) (b2 : Int32)  (M : Mm), k12 b0 b1 b2 M = some out → Gw x M 12 [(0, pR (some b0)), (1, pI b1), (2, pI b2)] []) (a0 : Nat) (a2 : Int32) (s0 : Int32) (M : Mm) (h : fX7_readPath_L75 fu k12 a0 a2 s0 M = some out) : Gw x M 75 [(0, pR (some a0)), (2, pI a2)] [pI s0] := by
  unfold fX7_readPath_L75 at h
  refine g_istore_n X (pc := 75) [(3, pI s0), (0, pR (some a0)), (2, pI a2)] rfl (lt_n hn (by decide)) rfl dX7_readPath_75 ?_
  refine g_iload_n X (pc := 76) 2 rfl rfl dX7_readPath_76 ?_
  refine g_iconst X (pc := 77) (v := 2) dX7_readPath_77 (by decide) ?_
  refine g_iadd X (pc := 78) dX7_readPath_78 ?_
  refine g_aload_n X (pc := 79) 1 rfl rfl dX7_readPath_79 ?_
  obtain ⟨v1, ev1, h⟩ := bd h
  refine g_getI X (pc := 80) fk_7_8 rfl rfl ev1 tb_264 dX7_readPath_80 ?_
  refine g_icmp_ge X (pc := 83) (tgt := 102) dX7_readPath_83 (by decide) (fun hc => ?_) (fun hc => ?_)
  · have h := (if_pos hc).symm.trans h
    refine g_iconst X (pc := 102) (v := (-1)) dX7_readPath_102 (by decide) ?_
    refine g_sub [1, 2, 0] [(0, pR (some a0)), (2, pI a2), (3, pI s0)] rfl ?_
    exact wX7_readPath_L103 X hE hn fu k12 hk12 a0 a2 s0 (-1 : Int32) M h
  · have h := (if_neg hc).symm.trans h
    refine g_aload_n X (pc := 86) 1 rfl rfl dX7_readPath_86 ?_
    obtain ⟨v2, ev2, h⟩ := bd h
    refine g_getR X (pc := 87) fk_7_2 rfl rfl ev2 tb_258 dX7_readPath_87 ?_
    refine g_iload_n X (pc := 90) 2 rfl rfl dX7_readPath_90 ?_
    refine g_iconst X (pc := 91) (v := 2) dX7_readPath_91 (by decide) ?_
    refine g_iadd X (pc := 92) dX7_readPath_92 ?_
    obtain ⟨v4, M3, eM3, h⟩ := b2d h
    refine g_callSN X (pc := 93) (M' := M3) (ro := some (pI v4)) (as := [pR v2, pI (a2 + (2 : Int32))]) (as' := [pI (a2 + (2 : Int32)), pR v2]) (st := []) (ctX11_one _ _ _ _ _ _ fu  v2 (a2 + (2 : Int32)) M _ eM3) tb_415 (List.mem_of_getElem? (i := 24) rfl) tb_414 tb_1 hyX11_one rfl rfl ⟨by decide, by decide⟩ (Nat.le_of_ble_eq_true rfl) dX7_readPath_93 ?_
    obtain ⟨v6, M5, eM5, h⟩ := b2d h
    refine g_callS X (pc := 96) (M' := M5) (ro := some (pI v6)) (as := [pI v4]) (as' := [pI v4]) (st := []) (ctX7_hexDigit _ _ _ _ _ _ fu  v4 M3 _ eM5) tb_1362 tb_1360 tb_1361 tb_7 hyX7_hexDigit rfl rfl ⟨by decide, by decide⟩ (Nat.le_of_ble_eq_true rfl) dX7_readPath_96 ?_
    refine g_goto X (pc := 99) (tgt := 103) dX7_readPath_99 (by decide) ?_
    refine g_sub [1, 2, 0] [(0, pR (some a0)), (2, pI a2), (3, pI s0)] rfl ?_
    exact wX7_readPath_L103 X hE hn fu k12 hk12 a0 a2 s0 v6 M5 h
theorem wX7_readPath_L12 {x : GX} {n0 sl0 : Nat} (X : Cx x cX7_readPath RX7 (some .boolean) n0 sl0 5 106) {out : Int32 × Mm} (hE : Ends x n0 sl0 (some (pI out.1)) out.2) (hn : xn x = 5) (fu : Nat)   : ∀ (n : Nat) (a0 : Nat) (a1 : Int32) (a2 : Int32)  (M : Mm), fX7_readPath_L12 fu  n a0 a1 a2 M = some out → Gw x M 12 [(0, pR (some a0)), (1, pI a1), (2, pI a2)] [] := by
  intro n
  induction n with
  | zero =>
    intro a0 a1 a2 M h
    have h : (none : Option (Int32 × Mm)) = some out := h
    cases h
  | succ n ih =>
    intro a0 a1 a2 M h
    rw [fX7_readPath_L12] at h
    refine g_iload_n X (pc := 12) 2 rfl rfl dX7_readPath_12 ?_
    refine g_aload_n X (pc := 13) 0 rfl rfl dX7_readPath_13 ?_
    obtain ⟨v1, ev1, h⟩ := bd h
    refine g_getI X (pc := 14) fk_7_8 rfl rfl ev1 tb_264 dX7_readPath_14 ?_
    refine g_icmp_ge X (pc := 17) (tgt := 149) dX7_readPath_17 (by decide) (fun hc => ?_) (fun hc => ?_)
    · have h := (if_pos hc).symm.trans h
      refine g_sub [0, 1] [(0, pR (some a0)), (1, pI a1)] rfl ?_
      exact wX7_readPath_L149 X hE hn fu   a0 a1 M h
    · have h := (if_neg hc).symm.trans h
      refine g_aload_n X (pc := 20) 0 rfl rfl dX7_readPath_20 ?_
      obtain ⟨v2, ev2, h⟩ := bd h
      refine g_getR X (pc := 21) fk_7_2 rfl rfl ev2 tb_258 dX7_readPath_21 ?_
      refine g_iload_n X (pc := 24) 2 rfl rfl dX7_readPath_24 ?_
      obtain ⟨v4, M3, eM3, h⟩ := b2d h
      refine g_callSN X (pc := 25) (M' := M3) (ro := some (pI v4)) (as := [pR v2, pI a2]) (as' := [pI a2, pR v2]) (st := []) (ctX11_one _ _ _ _ _ _ fu  v2 a2 M _ eM3) tb_415 (List.mem_of_getElem? (i := 24) rfl) tb_414 tb_1 hyX11_one rfl rfl ⟨by decide, by decide⟩ (Nat.le_of_ble_eq_true rfl) dX7_readPath_25 ?_
      refine g_bipush X (pc := 28) (v := 63) dX7_readPath_28 (by decide) ?_
      refine g_icmp_eq X (pc := 30) (tgt := 149) dX7_readPath_30 (by decide) (fun hc => ?_) (fun hc => ?_)
      · have h := (if_pos hc).symm.trans h
        refine g_sub [0, 1] [(0, pR (some a0)), (1, pI a1)] rfl ?_
        exact wX7_readPath_L149 X hE hn fu   a0 a1 M3 h
      · have h := (if_neg hc).symm.trans h
        refine g_aload_n X (pc := 33) 0 rfl rfl dX7_readPath_33 ?_
        obtain ⟨v5, ev5, h⟩ := bd h
        refine g_getR X (pc := 34) fk_7_2 rfl rfl ev5 tb_258 dX7_readPath_34 ?_
        refine g_iload_n X (pc := 37) 2 rfl rfl dX7_readPath_37 ?_
        obtain ⟨v7, M6, eM6, h⟩ := b2d h
        refine g_callSN X (pc := 38) (M' := M6) (ro := some (pI v7)) (as := [pR v5, pI a2]) (as' := [pI a2, pR v5]) (st := []) (ctX11_one _ _ _ _ _ _ fu  v5 a2 M3 _ eM6) tb_415 (List.mem_of_getElem? (i := 24) rfl) tb_414 tb_1 hyX11_one rfl rfl ⟨by decide, by decide⟩ (Nat.le_of_ble_eq_true rfl) dX7_readPath_38 ?_
        refine g_istore_n X (pc := 41) [(1, pI v7), (0, pR (some a0)), (2, pI a2)] rfl (lt_n hn (by decide)) rfl dX7_readPath_41 ?_
        refine g_iload_n X (pc := 42) 0 rfl rfl dX7_readPath_42 ?_
        refine g_bipush X (pc := 43) (v := 37) dX7_readPath_43 (by decide) ?_
        refine g_icmp_ne X (pc := 45) (tgt := 138) dX7_readPath_45 (by decide) (fun hc => ?_) (fun hc => ?_)
        · have h := (if_neg hc).symm.trans h
          refine g_sub [1, 0, 2] [(0, pR (some a0)), (1, pI v7), (2, pI a2)] rfl ?_
          exact wX7_readPath_L138 X hE hn fu (fun b0 b1 b2 M => fX7_readPath_L12 fu  n b0 b1 b2 M) ih a0 v7 a2 M6 h
        · have h := (if_pos hc).symm.trans h
          refine g_iload_n X (pc := 48) 2 rfl rfl dX7_readPath_48 ?_
          refine g_iconst X (pc := 49) (v := 1) dX7_readPath_49 (by decide) ?_
          refine g_iadd X (pc := 50) dX7_readPath_50 ?_
          refine g_aload_n X (pc := 51) 1 rfl rfl dX7_readPath_51 ?_
          obtain ⟨v8, ev8, h⟩ := bd h
          refine g_getI X (pc := 52) fk_7_8 rfl rfl ev8 tb_264 dX7_readPath_52 ?_
          refine g_icmp_ge X (pc := 55) (tgt := 74) dX7_readPath_55 (by decide) (fun hc => ?_) (fun hc => ?_)
          · have h := (if_pos hc).symm.trans h
            refine g_iconst X (pc := 74) (v := (-1)) dX7_readPath_74 (by decide) ?_
            refine g_sub [1, 2] [(0, pR (some a0)), (2, pI a2)] rfl ?_
            exact wX7_readPath_L75 X hE hn fu (fun b0 b1 b2 M => fX7_readPath_L12 fu  n b0 b1 b2 M) ih a0 a2 (-1 : Int32) M6 h
          · have h := (if_neg hc).symm.trans h
            refine g_aload_n X (pc := 58) 1 rfl rfl dX7_readPath_58 ?_
            obtain ⟨v9, ev9, h⟩ := bd h
            refine g_getR X (pc := 59) fk_7_2 rfl rfl ev9 tb_258 dX7_readPath_59 ?_
            refine g_iload_n X (pc := 62) 2 rfl rfl dX7_readPath_62 ?_
            refine g_iconst X (pc := 63) (v := 1) dX7_readPath_63 (by decide) ?_
            refine g_iadd X (pc := 64) dX7_readPath_64 ?_
            obtain ⟨v11, M10, eM10, h⟩ := b2d h
            refine g_callSN X (pc := 65) (M' := M10) (ro := some (pI v11)) (as := [pR v9, pI (a2 + (1 : Int32))]) (as' := [pI (a2 + (1 : Int32)), pR v9]) (st := []) (ctX11_one _ _ _ _ _ _ fu  v9 (a2 + (1 : Int32)) M6 _ eM10) tb_415 (List.mem_of_getElem? (i := 24) rfl) tb_414 tb_1 hyX11_one rfl rfl ⟨by decide, by decide⟩ (Nat.le_of_ble_eq_true rfl) dX7_readPath_65 ?_
            obtain ⟨v13, M12, eM12, h⟩ := b2d h
            refine g_callS X (pc := 68) (M' := M12) (ro := some (pI v13)) (as := [pI v11]) (as' := [pI v11]) (st := []) (ctX7_hexDigit _ _ _ _ _ _ fu  v11 M10 _ eM12) tb_1362 tb_1360 tb_1361 tb_7 hyX7_hexDigit rfl rfl ⟨by decide, by decide⟩ (Nat.le_of_ble_eq_true rfl) dX7_readPath_68 ?_
            refine g_goto X (pc := 71) (tgt := 75) dX7_readPath_71 (by decide) ?_
            refine g_sub [1, 2] [(0, pR (some a0)), (2, pI a2)] rfl ?_
            exact wX7_readPath_L75 X hE hn fu (fun b0 b1 b2 M => fX7_readPath_L12 fu  n b0 b1 b2 M) ih a0 a2 v13 M12 h
theorem wX7_readPath {x : GX} {n0 sl0 : Nat} (X : Cx x cX7_readPath RX7 (some .boolean) n0 sl0 5 106) {out : Int32 × Mm} (hE : Ends x n0 sl0 (some (pI out.1)) out.2) (hn : xn x = 5) (fu : Nat)   (a0 : Nat)  (M : Mm) (h : fX7_readPath fu  a0 M = some out) : Gw x M 0 [(0, pR (some a0))] [] := by
  unfold fX7_readPath at h
  refine g_aload_n X (pc := 0) 0 rfl rfl dX7_readPath_0 ?_
  refine g_iconst X (pc := 1) (v := 0) dX7_readPath_1 (by decide) ?_
  obtain ⟨M1, eM1, h⟩ := bd h
  refine g_putI X (pc := 2) fk_7_4 rfl rfl rfl eM1 tb_260 (Or.inl rfl) dX7_readPath_2 ?_
  refine g_iconst X (pc := 5) (v := 0) dX7_readPath_5 (by decide) ?_
  refine g_istore_n X (pc := 6) [(1, pI (0 : Int32)), (0, pR (some a0))] rfl (lt_n hn (by decide)) rfl dX7_readPath_6 ?_
  refine g_aload_n X (pc := 7) 1 rfl rfl dX7_readPath_7 ?_
  obtain ⟨v2, ev2, h⟩ := bd h
  refine g_getI X (pc := 8) fk_7_7 rfl rfl ev2 tb_263 dX7_readPath_8 ?_
  refine g_istore_n X (pc := 11) [(2, pI v2), (1, pI (0 : Int32)), (0, pR (some a0))] rfl (lt_n hn (by decide)) rfl dX7_readPath_11 ?_
  refine g_sub [2, 1, 0] [(0, pR (some a0)), (1, pI (0 : Int32)), (2, pI v2)] rfl ?_
  exact wX7_readPath_L12 X hE hn fu   fu a0 (0 : Int32) v2 M1 h
theorem hyX7_readPath : yX7_readPath.cls ≠ "java/lang/invoke/MethodHandle" ∧ yX7_readPath.cls ≠ "java/lang/invoke/VarHandle" ∧ (parseMethodDescriptor yX7_readPath.desc).map (fun d => d.parameters.length) = some 0 := ⟨by decide +kernel, by decide +kernel, by decide +kernel⟩
theorem ctX7_readPath (l : Launch) (E : Nat → Nat) (D : va_G) (dA : Nat → ClassId) (lo : Nat) (H0 : Heap) (fu : Nat) (a0 : Nat) (M : Mm) (out : Int32 × Mm) (h : fX7_readPath fu a0 M = some out) : Ct l E D dA lo H0 yX7_readPath cX7_readPath 5 (some .boolean) 5 106 [pR (some a0)] M (some (pI out.1)) out.2 := by
  refine ct_of (by decide +kernel) (Nat.le_of_ble_eq_true rfl) ?_
  intro x hl he hd ha ho hh hn hin X hE
  exact wX7_readPath X hE hn fu a0 M h
/-! WebHost$Store.find([BI)I -/
def fX8_find_L59 (fu : Nat) (k2 : Nat → Option Nat → Int32 → Int32 → Mm → Option (Int32 × Mm)) (a0 : Nat) (a1 : Option Nat) (a2 : Int32) (a3 : Int32) (a4 : Int32)  (M : Mm) : Option (Int32 × Mm) :=
    if a4 = (48 : Int32) then (
    some (a3, M))
    else (
    k2 a0 a1 a2 (a3 + (1 : Int32)) M)
def fX8_find_L50 (fu : Nat) (k2 : Nat → Option Nat → Int32 → Int32 → Mm → Option (Int32 × Mm)) (k13 : Nat → Option Nat → Int32 → Int32 → Int32 → Mm → Option (Int32 × Mm)) (a0 : Nat) (a1 : Option Nat) (a2 : Int32) (a3 : Int32) (a4 : Int32) (s0 : Int32) (s1 : Int32) (M : Mm) : Option (Int32 × Mm) :=
    if s0 = s1 then (
    k13 a0 a1 a2 a3 (a4 + (1 : Int32)) M)
    else (
    fX8_find_L59 fu k2 a0 a1 a2 a3 a4 M)
def fX8_find_L13 (fu : Nat) (k2 : Nat → Option Nat → Int32 → Int32 → Mm → Option (Int32 × Mm)) : Nat → Nat → Option Nat → Int32 → Int32 → Int32 → Mm → Option (Int32 × Mm)
  | 0, _, _, _, _, _, _ => none
  | n + 1, a0, a1, a2, a3, a4, M =>
    if (48 : Int32) ≤ a4 then (
    fX8_find_L59 fu k2 a0 a1 a2 a3 a4 M)
    else (
    (gR M 8 514 (some a0)).bind fun v1 =>
    b2 (fX11_one fu  v1 ((a3 * (64 : Int32)) + a4) M) fun v3 M2 =>
    if a2 ≤ a4 then (
    fX8_find_L50 fu k2 (fun b0 b1 b2 b3 b4 M => fX8_find_L13 fu k2 n b0 b1 b2 b3 b4 M) a0 a1 a2 a3 a4 v3 (0 : Int32) M2)
    else (
    b2 (fX11_one fu  a1 a4 M2) fun v5 M4 =>
    fX8_find_L50 fu k2 (fun b0 b1 b2 b3 b4 M => fX8_find_L13 fu k2 n b0 b1 b2 b3 b4 M) a0 a1 a2 a3 a4 v3 v5 M4))
def fX8_find_L2 (fu : Nat)  : Nat → Nat → Option Nat → Int32 → Int32 → Mm → Option (Int32 × Mm)
  | 0, _, _, _, _, _ => none
  | n + 1, a0, a1, a2, a3, M =>
    (gI M 8 513 (some a0)).bind fun v1 =>
    if v1 ≤ a3 then (
    some ((-1 : Int32), M))
    else (
    fX8_find_L13 fu (fun b0 b1 b2 b3 M => fX8_find_L2 fu  n b0 b1 b2 b3 M) fu a0 a1 a2 a3 (0 : Int32) M)
def fX8_find (fu : Nat)  (a0 : Nat) (a1 : Option Nat) (a2 : Int32)  (M : Mm) : Option (Int32 × Mm) :=
    fX8_find_L2 fu  fu a0 a1 a2 (0 : Int32) M
theorem dX8_find_0 : decode cX8_find 0 = .ok (.iconst 0, 1) := by decide +kernel
theorem dX8_find_1 : decode cX8_find 1 = .ok (.istore_n 3, 1) := by decide +kernel
theorem dX8_find_2 : decode cX8_find 2 = .ok (.iload_n 3, 1) := by decide +kernel
theorem dX8_find_3 : decode cX8_find 3 = .ok (.aload_n 0, 1) := by decide +kernel
theorem dX8_find_4 : decode cX8_find 4 = .ok (.getfield 57, 3) := by decide +kernel
theorem dX8_find_7 : decode cX8_find 7 = .ok (.if_icmp .ge 67, 3) := by decide +kernel
theorem dX8_find_10 : decode cX8_find 10 = .ok (.iconst 0, 1) := by decide +kernel
theorem dX8_find_11 : decode cX8_find 11 = .ok (.istore 4, 2) := by decide +kernel
theorem dX8_find_13 : decode cX8_find 13 = .ok (.iload 4, 2) := by decide +kernel
theorem dX8_find_15 : decode cX8_find 15 = .ok (.bipush 48, 2) := by decide +kernel
theorem dX8_find_17 : decode cX8_find 17 = .ok (.if_icmp .ge 42, 3) := by decide +kernel
theorem dX8_find_20 : decode cX8_find 20 = .ok (.aload_n 0, 1) := by decide +kernel
theorem dX8_find_21 : decode cX8_find 21 = .ok (.getfield 13, 3) := by decide +kernel
theorem dX8_find_24 : decode cX8_find 24 = .ok (.iload_n 3, 1) := by decide +kernel
theorem dX8_find_25 : decode cX8_find 25 = .ok (.bipush 64, 2) := by decide +kernel
theorem dX8_find_27 : decode cX8_find 27 = .ok (.imul, 1) := by decide +kernel
theorem dX8_find_28 : decode cX8_find 28 = .ok (.iload 4, 2) := by decide +kernel
theorem dX8_find_30 : decode cX8_find 30 = .ok (.iadd, 1) := by decide +kernel
theorem dX8_find_31 : decode cX8_find 31 = .ok (.invokestatic 46, 3) := by decide +kernel
theorem dX8_find_34 : decode cX8_find 34 = .ok (.iload 4, 2) := by decide +kernel
theorem dX8_find_36 : decode cX8_find 36 = .ok (.iload_n 2, 1) := by decide +kernel
theorem dX8_find_37 : decode cX8_find 37 = .ok (.if_icmp .ge 12, 3) := by decide +kernel
theorem dX8_find_40 : decode cX8_find 40 = .ok (.aload_n 1, 1) := by decide +kernel
theorem dX8_find_41 : decode cX8_find 41 = .ok (.iload 4, 2) := by decide +kernel
theorem dX8_find_43 : decode cX8_find 43 = .ok (.invokestatic 46, 3) := by decide +kernel
theorem dX8_find_46 : decode cX8_find 46 = .ok (.goto 4, 3) := by decide +kernel
theorem dX8_find_49 : decode cX8_find 49 = .ok (.iconst 0, 1) := by decide +kernel
theorem dX8_find_50 : decode cX8_find 50 = .ok (.if_icmp .ne 9, 3) := by decide +kernel
theorem dX8_find_53 : decode cX8_find 53 = .ok (.iinc 4 1, 3) := by decide +kernel
theorem dX8_find_56 : decode cX8_find 56 = .ok (.goto (-43), 3) := by decide +kernel
theorem dX8_find_59 : decode cX8_find 59 = .ok (.iload 4, 2) := by decide +kernel
theorem dX8_find_61 : decode cX8_find 61 = .ok (.bipush 48, 2) := by decide +kernel
theorem dX8_find_63 : decode cX8_find 63 = .ok (.if_icmp .ne 5, 3) := by decide +kernel
theorem dX8_find_66 : decode cX8_find 66 = .ok (.iload_n 3, 1) := by decide +kernel
theorem dX8_find_67 : decode cX8_find 67 = .ok (.ireturn, 1) := by decide +kernel
theorem dX8_find_68 : decode cX8_find 68 = .ok (.iinc 3 1, 3) := by decide +kernel
theorem dX8_find_71 : decode cX8_find 71 = .ok (.goto (-69), 3) := by decide +kernel
theorem dX8_find_74 : decode cX8_find 74 = .ok (.iconst (-1), 1) := by decide +kernel
theorem dX8_find_75 : decode cX8_find 75 = .ok (.ireturn, 1) := by decide +kernel
theorem wX8_find_L59 {x : GX} {n0 sl0 : Nat} (X : Cx x cX8_find RX8 (some .int) n0 sl0 1 21) {out : Int32 × Mm} (hE : Ends x n0 sl0 (some (pI out.1)) out.2) (hn : xn x = 5) (fu : Nat) (k2 : Nat → Option Nat → Int32 → Int32 → Mm → Option (Int32 × Mm)) (hk2 : ∀ (b0 : Nat) (b1 : Option Nat) (b2 : Int32) (b3 : Int32)  (M : Mm), k2 b0 b1 b2 b3 M = some out → Gw x M 2 [(0, pR (some b0)), (1, pR b1), (2, pI b2), (3, pI b3)] []) (a0 : Nat) (a1 : Option Nat) (a2 : Int32) (a3 : Int32) (a4 : Int32)  (M : Mm) (h : fX8_find_L59 fu k2 a0 a1 a2 a3 a4 M = some out) : Gw x M 59 [(0, pR (some a0)), (1, pR a1), (2, pI a2), (3, pI a3), (4, pI a4)] [] := by
  unfold fX8_find_L59 at h
  refine g_iload X (pc := 59) 4 rfl dX8_find_59 ?_
  refine g_bipush X (pc := 61) (v := 48) dX8_find_61 (by decide) ?_
  refine g_icmp_ne X (pc := 63) (tgt := 68) dX8_find_63 (by decide) (fun hc => ?_) (fun hc => ?_)
  · have h := (if_neg hc).symm.trans h
    refine g_iinc X (pc := 68) 3 [(3, pI (a3 + (1 : Int32))), (0, pR (some a0)), (1, pR a1), (2, pI a2), (4, pI a4)] rfl (iinc_e (by decide)) (lt_n hn (by decide)) rfl dX8_find_68 ?_
    refine g_goto X (pc := 71) (tgt := 2) dX8_find_71 (by decide) ?_
    refine g_sub [1, 2, 3, 0] [(0, pR (some a0)), (1, pR a1), (2, pI a2), (3, pI (a3 + (1 : Int32)))] rfl ?_
    exact hk2 a0 a1 a2 (a3 + (1 : Int32)) M h
  · have h := (if_pos hc).symm.trans h
    refine g_iload_n X (pc := 66) 3 rfl rfl dX8_find_66 ?_
    obtain rfl := Option.some.inj h
    exact g_ireturn X hE dX8_find_67
theorem wX8_find_L50 {x : GX} {n0 sl0 : Nat} (X : Cx x cX8_find RX8 (some .int) n0 sl0 1 21) {out : Int32 × Mm} (hE : Ends x n0 sl0 (some (pI out.1)) out.2) (hn : xn x = 5) (fu : Nat) (k2 : Nat → Option Nat → Int32 → Int32 → Mm → Option (Int32 × Mm)) (k13 : Nat → Option Nat → Int32 → Int32 → Int32 → Mm → Option (Int32 × Mm)) (hk2 : ∀ (b0 : Nat) (b1 : Option Nat) (b2 : Int32) (b3 : Int32)  (M : Mm), k2 b0 b1 b2 b3 M = some out → Gw x M 2 [(0, pR (some b0)), (1, pR b1), (2, pI b2), (3, pI b3)] []) (hk13 : ∀ (b0 : Nat) (b1 : Option Nat) (b2 : Int32) (b3 : Int32) (b4 : Int32)  (M : Mm), k13 b0 b1 b2 b3 b4 M = some out → Gw x M 13 [(0, pR (some b0)), (1, pR b1), (2, pI b2), (3, pI b3), (4, pI b4)] []) (a0 : Nat) (a1 : Option Nat) (a2 : Int32) (a3 : Int32) (a4 : Int32) (s0 : Int32) (s1 : Int32) (M : Mm) (h : fX8_find_L50 fu k2 k13 a0 a1 a2 a3 a4 s0 s1 M = some out) : Gw x M 50 [(0, pR (some a0)), (1, pR a1), (2, pI a2), (3, pI a3), (4, pI a4)] [pI s1, pI s0] := by
  unfold fX8_find_L50 at h
  refine g_icmp_ne X (pc := 50) (tgt := 59) dX8_find_50 (by decide) (fun hc => ?_) (fun hc => ?_)
  · have h := (if_neg hc).symm.trans h
    exact wX8_find_L59 X hE hn fu k2 hk2 a0 a1 a2 a3 a4 M h
  · have h := (if_pos hc).symm.trans h
    refine g_iinc X (pc := 53) 4 [(4, pI (a4 + (1 : Int32))), (0, pR (some a0)), (1, pR a1), (2, pI a2), (3, pI a3)] rfl (iinc_e (by decide)) (lt_n hn (by decide)) rfl dX8_find_53 ?_
    refine g_goto X (pc := 56) (tgt := 13) dX8_find_56 (by decide) ?_
    refine g_sub [1, 2, 3, 4, 0] [(0, pR (some a0)), (1, pR a1), (2, pI a2), (3, pI a3), (4, pI (a4 + (1 : Int32)))] rfl ?_
    exact hk13 a0 a1 a2 a3 (a4 + (1 : Int32)) M h
theorem wX8_find_L13 {x : GX} {n0 sl0 : Nat} (X : Cx x cX8_find RX8 (some .int) n0 sl0 1 21) {out : Int32 × Mm} (hE : Ends x n0 sl0 (some (pI out.1)) out.2) (hn : xn x = 5) (fu : Nat) (k2 : Nat → Option Nat → Int32 → Int32 → Mm → Option (Int32 × Mm)) (hk2 : ∀ (b0 : Nat) (b1 : Option Nat) (b2 : Int32) (b3 : Int32)  (M : Mm), k2 b0 b1 b2 b3 M = some out → Gw x M 2 [(0, pR (some b0)), (1, pR b1), (2, pI b2), (3, pI b3)] []) : ∀ (n : Nat) (a0 : Nat) (a1 : Option Nat) (a2 : Int32) (a3 : Int32) (a4 : Int32)  (M : Mm), fX8_find_L13 fu k2 n a0 a1 a2 a3 a4 M = some out → Gw x M 13 [(0, pR (some a0)), (1, pR a1), (2, pI a2), (3, pI a3), (4, pI a4)] [] := by
  intro n
  induction n with
  | zero =>
    intro a0 a1 a2 a3 a4 M h
    have h : (none : Option (Int32 × Mm)) = some out := h
    cases h
  | succ n ih =>
    intro a0 a1 a2 a3 a4 M h
    rw [fX8_find_L13] at h
    refine g_iload X (pc := 13) 4 rfl dX8_find_13 ?_
    refine g_bipush X (pc := 15) (v := 48) dX8_find_15 (by decide) ?_
    refine g_icmp_ge X (pc := 17) (tgt := 59) dX8_find_17 (by decide) (fun hc => ?_) (fun hc => ?_)
    · have h := (if_pos hc).symm.trans h
      exact wX8_find_L59 X hE hn fu k2 hk2 a0 a1 a2 a3 a4 M h
    · have h := (if_neg hc).symm.trans h
      refine g_aload_n X (pc := 20) 0 rfl rfl dX8_find_20 ?_
      obtain ⟨v1, ev1, h⟩ := bd h
      refine g_getR X (pc := 21) fk_8_2 rfl rfl ev1 tb_45 dX8_find_21 ?_
      refine g_iload_n X (pc := 24) 3 rfl rfl dX8_find_24 ?_
      refine g_bipush X (pc := 25) (v := 64) dX8_find_25 (by decide) ?_
      refine g_imul X (pc := 27) dX8_find_27 ?_
      refine g_iload X (pc := 28) 4 rfl dX8_find_28 ?_
      refine g_iadd X (pc := 30) dX8_find_30 ?_
      obtain ⟨v3, M2, eM2, h⟩ := b2d h
      refine g_callSN X (pc := 31) (M' := M2) (ro := some (pI v3)) (as := [pR v1, pI ((a3 * (64 : Int32)) + a4)]) (as' := [pI ((a3 * (64 : Int32)) + a4), pR v1]) (st := []) (ctX11_one _ _ _ _ _ _ fu  v1 ((a3 * (64 : Int32)) + a4) M _ eM2) tb_415 (List.mem_of_getElem? (i := 2) rfl) tb_414 tb_1 hyX11_one rfl rfl ⟨by decide, by decide⟩ (Nat.le_of_ble_eq_true rfl) dX8_find_31 ?_
      refine g_iload X (pc := 34) 4 rfl dX8_find_34 ?_
      refine g_iload_n X (pc := 36) 2 rfl rfl dX8_find_36 ?_
      refine g_icmp_ge X (pc := 37) (tgt := 49) dX8_find_37 (by decide) (fun hc => ?_) (fun hc => ?_)
      · have h := (if_pos hc).symm.trans h
        refine g_iconst X (pc := 49) (v := 0) dX8_find_49 (by decide) ?_
        exact wX8_find_L50 X hE hn fu k2 (fun b0 b1 b2 b3 b4 M => fX8_find_L13 fu k2 n b0 b1 b2 b3 b4 M) hk2 ih a0 a1 a2 a3 a4 v3 (0 : Int32) M2 h
      · have h := (if_neg hc).symm.trans h
        refine g_aload_n X (pc := 40) 1 rfl rfl dX8_find_40 ?_
        refine g_iload X (pc := 41) 4 rfl dX8_find_41 ?_
        obtain ⟨v5, M4, eM4, h⟩ := b2d h
        refine g_callSN X (pc := 43) (M' := M4) (ro := some (pI v5)) (as := [pR a1, pI a4]) (as' := [pI a4, pR a1]) (st := [pI v3]) (ctX11_one _ _ _ _ _ _ fu  a1 a4 M2 _ eM4) tb_415 (List.mem_of_getElem? (i := 2) rfl) tb_414 tb_1 hyX11_one rfl rfl ⟨by decide, by decide⟩ (Nat.le_of_ble_eq_true rfl) dX8_find_43 ?_
        refine g_goto X (pc := 46) (tgt := 50) dX8_find_46 (by decide) ?_
        exact wX8_find_L50 X hE hn fu k2 (fun b0 b1 b2 b3 b4 M => fX8_find_L13 fu k2 n b0 b1 b2 b3 b4 M) hk2 ih a0 a1 a2 a3 a4 v3 v5 M4 h
theorem wX8_find_L2 {x : GX} {n0 sl0 : Nat} (X : Cx x cX8_find RX8 (some .int) n0 sl0 1 21) {out : Int32 × Mm} (hE : Ends x n0 sl0 (some (pI out.1)) out.2) (hn : xn x = 5) (fu : Nat)   : ∀ (n : Nat) (a0 : Nat) (a1 : Option Nat) (a2 : Int32) (a3 : Int32)  (M : Mm), fX8_find_L2 fu  n a0 a1 a2 a3 M = some out → Gw x M 2 [(0, pR (some a0)), (1, pR a1), (2, pI a2), (3, pI a3)] [] := by
  intro n
  induction n with
  | zero =>
    intro a0 a1 a2 a3 M h
    have h : (none : Option (Int32 × Mm)) = some out := h
    cases h
  | succ n ih =>
    intro a0 a1 a2 a3 M h
    rw [fX8_find_L2] at h
    refine g_iload_n X (pc := 2) 3 rfl rfl dX8_find_2 ?_
    refine g_aload_n X (pc := 3) 0 rfl rfl dX8_find_3 ?_
    obtain ⟨v1, ev1, h⟩ := bd h
    refine g_getI X (pc := 4) fk_8_1 rfl rfl ev1 tb_44 dX8_find_4 ?_
    refine g_icmp_ge X (pc := 7) (tgt := 74) dX8_find_7 (by decide) (fun hc => ?_) (fun hc => ?_)
    · have h := (if_pos hc).symm.trans h
      refine g_iconst X (pc := 74) (v := (-1)) dX8_find_74 (by decide) ?_
      obtain rfl := Option.some.inj h
      exact g_ireturn X hE dX8_find_75
    · have h := (if_neg hc).symm.trans h
      refine g_iconst X (pc := 10) (v := 0) dX8_find_10 (by decide) ?_
      refine g_istore X (pc := 11) [(4, pI (0 : Int32)), (0, pR (some a0)), (1, pR a1), (2, pI a2), (3, pI a3)] (lt_n hn (by decide)) rfl dX8_find_11 ?_
      refine g_sub [1, 2, 3, 4, 0] [(0, pR (some a0)), (1, pR a1), (2, pI a2), (3, pI a3), (4, pI (0 : Int32))] rfl ?_
      exact wX8_find_L13 X hE hn fu (fun b0 b1 b2 b3 M => fX8_find_L2 fu  n b0 b1 b2 b3 M) ih fu a0 a1 a2 a3 (0 : Int32) M h
theorem wX8_find {x : GX} {n0 sl0 : Nat} (X : Cx x cX8_find RX8 (some .int) n0 sl0 1 21) {out : Int32 × Mm} (hE : Ends x n0 sl0 (some (pI out.1)) out.2) (hn : xn x = 5) (fu : Nat)   (a0 : Nat) (a1 : Option Nat) (a2 : Int32)  (M : Mm) (h : fX8_find fu  a0 a1 a2 M = some out) : Gw x M 0 [(0, pR (some a0)), (1, pR a1), (2, pI a2)] [] := by
  unfold fX8_find at h
  refine g_iconst X (pc := 0) (v := 0) dX8_find_0 (by decide) ?_
  refine g_istore_n X (pc := 1) [(3, pI (0 : Int32)), (0, pR (some a0)), (1, pR a1), (2, pI a2)] rfl (lt_n hn (by decide)) rfl dX8_find_1 ?_
  refine g_sub [1, 2, 3, 0] [(0, pR (some a0)), (1, pR a1), (2, pI a2), (3, pI (0 : Int32))] rfl ?_
  exact wX8_find_L2 X hE hn fu   fu a0 a1 a2 (0 : Int32) M h
theorem hyX8_find : yX8_find.cls ≠ "java/lang/invoke/MethodHandle" ∧ yX8_find.cls ≠ "java/lang/invoke/VarHandle" ∧ (parseMethodDescriptor yX8_find.desc).map (fun d => d.parameters.length) = some 2 := ⟨by decide +kernel, by decide +kernel, by decide +kernel⟩
theorem ctX8_find (l : Launch) (E : Nat → Nat) (D : va_G) (dA : Nat → ClassId) (lo : Nat) (H0 : Heap) (fu : Nat) (a0 : Nat) (a1 : Option Nat) (a2 : Int32) (M : Mm) (out : Int32 × Mm) (h : fX8_find fu a0 a1 a2 M = some out) : Ct l E D dA lo H0 yX8_find cX8_find 5 (some .int) 1 21 [pR (some a0), pR a1, pI a2] M (some (pI out.1)) out.2 := by
  refine ct_of (by decide +kernel) (Nat.le_of_ble_eq_true rfl) ?_
  intro x hl he hd ha ho hh hn hin X hE
  exact wX8_find X hE hn fu a0 a1 a2 M h
/-! WebHost$Store.placeOf(I)I -/
def fX8_placeOf (fu : Nat)  (a0 : Nat) (a1 : Int32)  (M : Mm) : Option (Int32 × Mm) :=
    (gR M 8 514 (some a0)).bind fun v1 =>
    b2 (fX11_four fu  v1 ((a1 * (64 : Int32)) + (48 : Int32)) M) fun v3 M2 =>
    some (v3, M2)
theorem dX8_placeOf_0 : decode cX8_placeOf 0 = .ok (.aload_n 0, 1) := by decide +kernel
theorem dX8_placeOf_1 : decode cX8_placeOf 1 = .ok (.getfield 13, 3) := by decide +kernel
theorem dX8_placeOf_4 : decode cX8_placeOf 4 = .ok (.iload_n 1, 1) := by decide +kernel
theorem dX8_placeOf_5 : decode cX8_placeOf 5 = .ok (.bipush 64, 2) := by decide +kernel
theorem dX8_placeOf_7 : decode cX8_placeOf 7 = .ok (.imul, 1) := by decide +kernel
theorem dX8_placeOf_8 : decode cX8_placeOf 8 = .ok (.bipush 48, 2) := by decide +kernel
theorem dX8_placeOf_10 : decode cX8_placeOf 10 = .ok (.iadd, 1) := by decide +kernel
theorem dX8_placeOf_11 : decode cX8_placeOf 11 = .ok (.invokestatic 22, 3) := by decide +kernel
theorem dX8_placeOf_14 : decode cX8_placeOf 14 = .ok (.ireturn, 1) := by decide +kernel
theorem wX8_placeOf {x : GX} {n0 sl0 : Nat} (X : Cx x cX8_placeOf RX8 (some .int) n0 sl0 1 21) {out : Int32 × Mm} (hE : Ends x n0 sl0 (some (pI out.1)) out.2) (hn : xn x = 2) (fu : Nat)   (a0 : Nat) (a1 : Int32)  (M : Mm) (h : fX8_placeOf fu  a0 a1 M = some out) : Gw x M 0 [(0, pR (some a0)), (1, pI a1)] [] := by
  unfold fX8_placeOf at h
  refine g_aload_n X (pc := 0) 0 rfl rfl dX8_placeOf_0 ?_
  obtain ⟨v1, ev1, h⟩ := bd h
  refine g_getR X (pc := 1) fk_8_2 rfl rfl ev1 tb_45 dX8_placeOf_1 ?_
  refine g_iload_n X (pc := 4) 1 rfl rfl dX8_placeOf_4 ?_
  refine g_bipush X (pc := 5) (v := 64) dX8_placeOf_5 (by decide) ?_
  refine g_imul X (pc := 7) dX8_placeOf_7 ?_
  refine g_bipush X (pc := 8) (v := 48) dX8_placeOf_8 (by decide) ?_
  refine g_iadd X (pc := 10) dX8_placeOf_10 ?_
  obtain ⟨v3, M2, eM2, h⟩ := b2d h
  refine g_callSN X (pc := 11) (M' := M2) (ro := some (pI v3)) (as := [pR v1, pI ((a1 * (64 : Int32)) + (48 : Int32))]) (as' := [pI ((a1 * (64 : Int32)) + (48 : Int32)), pR v1]) (st := []) (ctX11_four _ _ _ _ _ _ fu  v1 ((a1 * (64 : Int32)) + (48 : Int32)) M _ eM2) tb_394 (List.mem_of_getElem? (i := 0) rfl) tb_393 tb_1 hyX11_four rfl rfl ⟨by decide, by decide⟩ (Nat.le_of_ble_eq_true rfl) dX8_placeOf_11 ?_
  obtain rfl := Option.some.inj h
  exact g_ireturn X hE dX8_placeOf_14
theorem hyX8_placeOf : yX8_placeOf.cls ≠ "java/lang/invoke/MethodHandle" ∧ yX8_placeOf.cls ≠ "java/lang/invoke/VarHandle" ∧ (parseMethodDescriptor yX8_placeOf.desc).map (fun d => d.parameters.length) = some 1 := ⟨by decide +kernel, by decide +kernel, by decide +kernel⟩
theorem ctX8_placeOf (l : Launch) (E : Nat → Nat) (D : va_G) (dA : Nat → ClassId) (lo : Nat) (H0 : Heap) (fu : Nat) (a0 : Nat) (a1 : Int32) (M : Mm) (out : Int32 × Mm) (h : fX8_placeOf fu a0 a1 M = some out) : Ct l E D dA lo H0 yX8_placeOf cX8_placeOf 2 (some .int) 1 21 [pR (some a0), pI a1] M (some (pI out.1)) out.2 := by
  refine ct_of (by decide +kernel) (Nat.le_of_ble_eq_true rfl) ?_
  intro x hl he hd ha ho hh hn hin X hE
  exact wX8_placeOf X hE hn fu a0 a1 M h
/-! WebHost$Store.sizeOf(I)I -/
def fX8_sizeOf (fu : Nat)  (a0 : Nat) (a1 : Int32)  (M : Mm) : Option (Int32 × Mm) :=
    (gR M 8 514 (some a0)).bind fun v1 =>
    b2 (fX11_four fu  v1 (((a1 * (64 : Int32)) + (48 : Int32)) + (4 : Int32)) M) fun v3 M2 =>
    some (v3, M2)
theorem dX8_sizeOf_0 : decode cX8_sizeOf 0 = .ok (.aload_n 0, 1) := by decide +kernel
theorem dX8_sizeOf_1 : decode cX8_sizeOf 1 = .ok (.getfield 13, 3) := by decide +kernel
theorem dX8_sizeOf_4 : decode cX8_sizeOf 4 = .ok (.iload_n 1, 1) := by decide +kernel
theorem dX8_sizeOf_5 : decode cX8_sizeOf 5 = .ok (.bipush 64, 2) := by decide +kernel
theorem dX8_sizeOf_7 : decode cX8_sizeOf 7 = .ok (.imul, 1) := by decide +kernel
theorem dX8_sizeOf_8 : decode cX8_sizeOf 8 = .ok (.bipush 48, 2) := by decide +kernel
theorem dX8_sizeOf_10 : decode cX8_sizeOf 10 = .ok (.iadd, 1) := by decide +kernel
theorem dX8_sizeOf_11 : decode cX8_sizeOf 11 = .ok (.iconst 4, 1) := by decide +kernel
theorem dX8_sizeOf_12 : decode cX8_sizeOf 12 = .ok (.iadd, 1) := by decide +kernel
theorem dX8_sizeOf_13 : decode cX8_sizeOf 13 = .ok (.invokestatic 22, 3) := by decide +kernel
theorem dX8_sizeOf_16 : decode cX8_sizeOf 16 = .ok (.ireturn, 1) := by decide +kernel
theorem wX8_sizeOf {x : GX} {n0 sl0 : Nat} (X : Cx x cX8_sizeOf RX8 (some .int) n0 sl0 1 21) {out : Int32 × Mm} (hE : Ends x n0 sl0 (some (pI out.1)) out.2) (hn : xn x = 2) (fu : Nat)   (a0 : Nat) (a1 : Int32)  (M : Mm) (h : fX8_sizeOf fu  a0 a1 M = some out) : Gw x M 0 [(0, pR (some a0)), (1, pI a1)] [] := by
  unfold fX8_sizeOf at h
  refine g_aload_n X (pc := 0) 0 rfl rfl dX8_sizeOf_0 ?_
  obtain ⟨v1, ev1, h⟩ := bd h
  refine g_getR X (pc := 1) fk_8_2 rfl rfl ev1 tb_45 dX8_sizeOf_1 ?_
  refine g_iload_n X (pc := 4) 1 rfl rfl dX8_sizeOf_4 ?_
  refine g_bipush X (pc := 5) (v := 64) dX8_sizeOf_5 (by decide) ?_
  refine g_imul X (pc := 7) dX8_sizeOf_7 ?_
  refine g_bipush X (pc := 8) (v := 48) dX8_sizeOf_8 (by decide) ?_
  refine g_iadd X (pc := 10) dX8_sizeOf_10 ?_
  refine g_iconst X (pc := 11) (v := 4) dX8_sizeOf_11 (by decide) ?_
  refine g_iadd X (pc := 12) dX8_sizeOf_12 ?_
  obtain ⟨v3, M2, eM2, h⟩ := b2d h
  refine g_callSN X (pc := 13) (M' := M2) (ro := some (pI v3)) (as := [pR v1, pI (((a1 * (64 : Int32)) + (48 : Int32)) + (4 : Int32))]) (as' := [pI (((a1 * (64 : Int32)) + (48 : Int32)) + (4 : Int32)), pR v1]) (st := []) (ctX11_four _ _ _ _ _ _ fu  v1 (((a1 * (64 : Int32)) + (48 : Int32)) + (4 : Int32)) M _ eM2) tb_394 (List.mem_of_getElem? (i := 0) rfl) tb_393 tb_1 hyX11_four rfl rfl ⟨by decide, by decide⟩ (Nat.le_of_ble_eq_true rfl) dX8_sizeOf_13 ?_
  obtain rfl := Option.some.inj h
  exact g_ireturn X hE dX8_sizeOf_16
theorem hyX8_sizeOf : yX8_sizeOf.cls ≠ "java/lang/invoke/MethodHandle" ∧ yX8_sizeOf.cls ≠ "java/lang/invoke/VarHandle" ∧ (parseMethodDescriptor yX8_sizeOf.desc).map (fun d => d.parameters.length) = some 1 := ⟨by decide +kernel, by decide +kernel, by decide +kernel⟩
theorem ctX8_sizeOf (l : Launch) (E : Nat → Nat) (D : va_G) (dA : Nat → ClassId) (lo : Nat) (H0 : Heap) (fu : Nat) (a0 : Nat) (a1 : Int32) (M : Mm) (out : Int32 × Mm) (h : fX8_sizeOf fu a0 a1 M = some out) : Ct l E D dA lo H0 yX8_sizeOf cX8_sizeOf 2 (some .int) 1 21 [pR (some a0), pI a1] M (some (pI out.1)) out.2 := by
  refine ct_of (by decide +kernel) (Nat.le_of_ble_eq_true rfl) ?_
  intro x hl he hd ha ho hh hn hin X hE
  exact wX8_sizeOf X hE hn fu a0 a1 M h
/-! WebHost$Store.checkOf(II)I -/
def fX8_checkOf_L22 (fu : Nat)  : Nat → Nat → Int32 → Int32 → Int32 → Mm → Option (Int32 × Mm)
  | 0, _, _, _, _, _ => none
  | n + 1, a0, a3, a4, a5, M =>
    if a4 ≤ a5 then (
    some ((a3 ^^^ (-1 : Int32)), M))
    else (
    (gR M 8 512 (some a0)).bind fun v1 =>
    (gA M 100 v1 a5).bind fun v2 =>
    (gST ((a3 ^^^ (v2 &&& (255 : Int32))) &&& (15 : Int32))).bind fun v3 =>
    (some ((ushr (a3 ^^^ (v2 &&& (255 : Int32))) (4 : Int32)) ^^^ v3)).bind fun v4 =>
    (gST (v4 &&& (15 : Int32))).bind fun v5 =>
    fX8_checkOf_L22 fu  n a0 ((ushr v4 (4 : Int32)) ^^^ v5) a4 (a5 + (1 : Int32)) M)
def fX8_checkOf (fu : Nat)  (a0 : Nat) (a1 : Int32) (a2 : Int32)  (M : Mm) : Option (Int32 × Mm) :=
    (gR M 8 512 (some a0)).bind fun v1 =>
    (aL M 100 v1).bind fun v2 =>
    fX8_checkOf_L22 fu  fu a0 (-1 : Int32) (jmin (a1 + a2) v2) (jmax a1 (0 : Int32)) M
theorem dX8_checkOf_0 : decode cX8_checkOf 0 = .ok (.iconst (-1), 1) := by decide +kernel
theorem dX8_checkOf_1 : decode cX8_checkOf 1 = .ok (.istore_n 3, 1) := by decide +kernel
theorem dX8_checkOf_2 : decode cX8_checkOf 2 = .ok (.iload_n 1, 1) := by decide +kernel
theorem dX8_checkOf_3 : decode cX8_checkOf 3 = .ok (.iload_n 2, 1) := by decide +kernel
theorem dX8_checkOf_4 : decode cX8_checkOf 4 = .ok (.iadd, 1) := by decide +kernel
theorem dX8_checkOf_5 : decode cX8_checkOf 5 = .ok (.aload_n 0, 1) := by decide +kernel
theorem dX8_checkOf_6 : decode cX8_checkOf 6 = .ok (.getfield 7, 3) := by decide +kernel
theorem dX8_checkOf_9 : decode cX8_checkOf 9 = .ok (.arraylength, 1) := by decide +kernel
theorem dX8_checkOf_10 : decode cX8_checkOf 10 = .ok (.invokestatic 71, 3) := by decide +kernel
theorem dX8_checkOf_13 : decode cX8_checkOf 13 = .ok (.istore 4, 2) := by decide +kernel
theorem dX8_checkOf_15 : decode cX8_checkOf 15 = .ok (.iload_n 1, 1) := by decide +kernel
theorem dX8_checkOf_16 : decode cX8_checkOf 16 = .ok (.iconst 0, 1) := by decide +kernel
theorem dX8_checkOf_17 : decode cX8_checkOf 17 = .ok (.invokestatic 76, 3) := by decide +kernel
theorem dX8_checkOf_20 : decode cX8_checkOf 20 = .ok (.istore 5, 2) := by decide +kernel
theorem dX8_checkOf_22 : decode cX8_checkOf 22 = .ok (.iload 5, 2) := by decide +kernel
theorem dX8_checkOf_24 : decode cX8_checkOf 24 = .ok (.iload 4, 2) := by decide +kernel
theorem dX8_checkOf_26 : decode cX8_checkOf 26 = .ok (.if_icmp .ge 49, 3) := by decide +kernel
theorem dX8_checkOf_29 : decode cX8_checkOf 29 = .ok (.iload_n 3, 1) := by decide +kernel
theorem dX8_checkOf_30 : decode cX8_checkOf 30 = .ok (.aload_n 0, 1) := by decide +kernel
theorem dX8_checkOf_31 : decode cX8_checkOf 31 = .ok (.getfield 7, 3) := by decide +kernel
theorem dX8_checkOf_34 : decode cX8_checkOf 34 = .ok (.iload 5, 2) := by decide +kernel
theorem dX8_checkOf_36 : decode cX8_checkOf 36 = .ok (.baload, 1) := by decide +kernel
theorem dX8_checkOf_37 : decode cX8_checkOf 37 = .ok (.sipush 255, 3) := by decide +kernel
theorem dX8_checkOf_40 : decode cX8_checkOf 40 = .ok (.iand, 1) := by decide +kernel
theorem dX8_checkOf_41 : decode cX8_checkOf 41 = .ok (.ixor, 1) := by decide +kernel
theorem dX8_checkOf_42 : decode cX8_checkOf 42 = .ok (.istore_n 3, 1) := by decide +kernel
theorem dX8_checkOf_43 : decode cX8_checkOf 43 = .ok (.iload_n 3, 1) := by decide +kernel
theorem dX8_checkOf_44 : decode cX8_checkOf 44 = .ok (.iconst 4, 1) := by decide +kernel
theorem dX8_checkOf_45 : decode cX8_checkOf 45 = .ok (.iushr, 1) := by decide +kernel
theorem dX8_checkOf_46 : decode cX8_checkOf 46 = .ok (.getstatic 79, 3) := by decide +kernel
theorem dX8_checkOf_49 : decode cX8_checkOf 49 = .ok (.iload_n 3, 1) := by decide +kernel
theorem dX8_checkOf_50 : decode cX8_checkOf 50 = .ok (.bipush 15, 2) := by decide +kernel
theorem dX8_checkOf_52 : decode cX8_checkOf 52 = .ok (.iand, 1) := by decide +kernel
theorem dX8_checkOf_53 : decode cX8_checkOf 53 = .ok (.iaload, 1) := by decide +kernel
theorem dX8_checkOf_54 : decode cX8_checkOf 54 = .ok (.ixor, 1) := by decide +kernel
theorem dX8_checkOf_55 : decode cX8_checkOf 55 = .ok (.istore_n 3, 1) := by decide +kernel
theorem dX8_checkOf_56 : decode cX8_checkOf 56 = .ok (.iload_n 3, 1) := by decide +kernel
theorem dX8_checkOf_57 : decode cX8_checkOf 57 = .ok (.iconst 4, 1) := by decide +kernel
theorem dX8_checkOf_58 : decode cX8_checkOf 58 = .ok (.iushr, 1) := by decide +kernel
theorem dX8_checkOf_59 : decode cX8_checkOf 59 = .ok (.getstatic 79, 3) := by decide +kernel
theorem dX8_checkOf_62 : decode cX8_checkOf 62 = .ok (.iload_n 3, 1) := by decide +kernel
theorem dX8_checkOf_63 : decode cX8_checkOf 63 = .ok (.bipush 15, 2) := by decide +kernel
theorem dX8_checkOf_65 : decode cX8_checkOf 65 = .ok (.iand, 1) := by decide +kernel
theorem dX8_checkOf_66 : decode cX8_checkOf 66 = .ok (.iaload, 1) := by decide +kernel
theorem dX8_checkOf_67 : decode cX8_checkOf 67 = .ok (.ixor, 1) := by decide +kernel
theorem dX8_checkOf_68 : decode cX8_checkOf 68 = .ok (.istore_n 3, 1) := by decide +kernel
theorem dX8_checkOf_69 : decode cX8_checkOf 69 = .ok (.iinc 5 1, 3) := by decide +kernel
theorem dX8_checkOf_72 : decode cX8_checkOf 72 = .ok (.goto (-50), 3) := by decide +kernel
theorem dX8_checkOf_75 : decode cX8_checkOf 75 = .ok (.iload_n 3, 1) := by decide +kernel
theorem dX8_checkOf_76 : decode cX8_checkOf 76 = .ok (.iconst (-1), 1) := by decide +kernel
theorem dX8_checkOf_77 : decode cX8_checkOf 77 = .ok (.ixor, 1) := by decide +kernel
theorem dX8_checkOf_78 : decode cX8_checkOf 78 = .ok (.ireturn, 1) := by decide +kernel
theorem wX8_checkOf_L22 {x : GX} {n0 sl0 : Nat} (X : Cx x cX8_checkOf RX8 (some .int) n0 sl0 1 13) {out : Int32 × Mm} (hE : Ends x n0 sl0 (some (pI out.1)) out.2) (hn : xn x = 6) (fu : Nat)   : ∀ (n : Nat) (a0 : Nat) (a3 : Int32) (a4 : Int32) (a5 : Int32)  (M : Mm), fX8_checkOf_L22 fu  n a0 a3 a4 a5 M = some out → Gw x M 22 [(0, pR (some a0)), (3, pI a3), (4, pI a4), (5, pI a5)] [] := by
  intro n
  induction n with
  | zero =>
    intro a0 a3 a4 a5 M h
    have h : (none : Option (Int32 × Mm)) = some out := h
    cases h
  | succ n ih =>
    intro a0 a3 a4 a5 M h
    rw [fX8_checkOf_L22] at h
    refine g_iload X (pc := 22) 3 rfl dX8_checkOf_22 ?_
    refine g_iload X (pc := 24) 2 rfl dX8_checkOf_24 ?_
    refine g_icmp_ge X (pc := 26) (tgt := 75) dX8_checkOf_26 (by decide) (fun hc => ?_) (fun hc => ?_)
    · have h := (if_pos hc).symm.trans h
      refine g_iload_n X (pc := 75) 1 rfl rfl dX8_checkOf_75 ?_
      refine g_iconst X (pc := 76) (v := (-1)) dX8_checkOf_76 (by decide) ?_
      refine g_ixor X (pc := 77) dX8_checkOf_77 ?_
      obtain rfl := Option.some.inj h
      exact g_ireturn X hE dX8_checkOf_78
    · have h := (if_neg hc).symm.trans h
      refine g_iload_n X (pc := 29) 1 rfl rfl dX8_checkOf_29 ?_
      refine g_aload_n X (pc := 30) 0 rfl rfl dX8_checkOf_30 ?_
      obtain ⟨v1, ev1, h⟩ := bd h
      refine g_getR X (pc := 31) fk_8_0 rfl rfl ev1 tb_40 dX8_checkOf_31 ?_
      refine g_iload X (pc := 34) 3 rfl dX8_checkOf_34 ?_
      obtain ⟨v2, ev2, h⟩ := bd h
      refine g_baload X (pc := 36) ev2 dX8_checkOf_36 ?_
      refine g_sipush X (pc := 37) (v := 255) dX8_checkOf_37 (by decide) ?_
      refine g_iand X (pc := 40) dX8_checkOf_40 ?_
      refine g_ixor X (pc := 41) dX8_checkOf_41 ?_
      refine g_istore_n X (pc := 42) [(3, pI (a3 ^^^ (v2 &&& (255 : Int32)))), (0, pR (some a0)), (4, pI a4), (5, pI a5)] rfl (lt_n hn (by decide)) rfl dX8_checkOf_42 ?_
      refine g_iload_n X (pc := 43) 0 rfl rfl dX8_checkOf_43 ?_
      refine g_iconst X (pc := 44) (v := 4) dX8_checkOf_44 (by decide) ?_
      refine g_iushr X (pc := 45) dX8_checkOf_45 ?_
      refine g_getsT X (pc := 46) tb_407 dX8_checkOf_46 ?_
      refine g_iload_n X (pc := 49) 0 rfl rfl dX8_checkOf_49 ?_
      refine g_bipush X (pc := 50) (v := 15) dX8_checkOf_50 (by decide) ?_
      refine g_iand X (pc := 52) dX8_checkOf_52 ?_
      obtain ⟨v3, ev3, h⟩ := bd h
      refine g_ialoadT X (pc := 53) ev3 dX8_checkOf_53 ?_
      refine g_ixor X (pc := 54) dX8_checkOf_54 ?_
      obtain ⟨v4, ev4, h⟩ := bd h
      refine g_nmI ev4 ?_
      refine g_istore_n X (pc := 55) [(3, pI v4), (0, pR (some a0)), (4, pI a4), (5, pI a5)] rfl (lt_n hn (by decide)) rfl dX8_checkOf_55 ?_
      refine g_iload_n X (pc := 56) 0 rfl rfl dX8_checkOf_56 ?_
      refine g_iconst X (pc := 57) (v := 4) dX8_checkOf_57 (by decide) ?_
      refine g_iushr X (pc := 58) dX8_checkOf_58 ?_
      refine g_getsT X (pc := 59) tb_407 dX8_checkOf_59 ?_
      refine g_iload_n X (pc := 62) 0 rfl rfl dX8_checkOf_62 ?_
      refine g_bipush X (pc := 63) (v := 15) dX8_checkOf_63 (by decide) ?_
      refine g_iand X (pc := 65) dX8_checkOf_65 ?_
      obtain ⟨v5, ev5, h⟩ := bd h
      refine g_ialoadT X (pc := 66) ev5 dX8_checkOf_66 ?_
      refine g_ixor X (pc := 67) dX8_checkOf_67 ?_
      refine g_istore_n X (pc := 68) [(3, pI ((ushr v4 (4 : Int32)) ^^^ v5)), (0, pR (some a0)), (4, pI a4), (5, pI a5)] rfl (lt_n hn (by decide)) rfl dX8_checkOf_68 ?_
      refine g_iinc X (pc := 69) 3 [(5, pI (a5 + (1 : Int32))), (3, pI ((ushr v4 (4 : Int32)) ^^^ v5)), (0, pR (some a0)), (4, pI a4)] rfl (iinc_e (by decide)) (lt_n hn (by decide)) rfl dX8_checkOf_69 ?_
      refine g_goto X (pc := 72) (tgt := 22) dX8_checkOf_72 (by decide) ?_
      refine g_sub [2, 1, 3, 0] [(0, pR (some a0)), (3, pI ((ushr v4 (4 : Int32)) ^^^ v5)), (4, pI a4), (5, pI (a5 + (1 : Int32)))] rfl ?_
      exact ih a0 ((ushr v4 (4 : Int32)) ^^^ v5) a4 (a5 + (1 : Int32)) M h
theorem wX8_checkOf {x : GX} {n0 sl0 : Nat} (X : Cx x cX8_checkOf RX8 (some .int) n0 sl0 1 13) {out : Int32 × Mm} (hE : Ends x n0 sl0 (some (pI out.1)) out.2) (hn : xn x = 6) (fu : Nat)   (a0 : Nat) (a1 : Int32) (a2 : Int32)  (M : Mm) (h : fX8_checkOf fu  a0 a1 a2 M = some out) : Gw x M 0 [(0, pR (some a0)), (1, pI a1), (2, pI a2)] [] := by
  unfold fX8_checkOf at h
  refine g_iconst X (pc := 0) (v := (-1)) dX8_checkOf_0 (by decide) ?_
  refine g_istore_n X (pc := 1) [(3, pI (-1 : Int32)), (0, pR (some a0)), (1, pI a1), (2, pI a2)] rfl (lt_n hn (by decide)) rfl dX8_checkOf_1 ?_
  refine g_iload_n X (pc := 2) 2 rfl rfl dX8_checkOf_2 ?_
  refine g_iload_n X (pc := 3) 3 rfl rfl dX8_checkOf_3 ?_
  refine g_iadd X (pc := 4) dX8_checkOf_4 ?_
  refine g_aload_n X (pc := 5) 1 rfl rfl dX8_checkOf_5 ?_
  obtain ⟨v1, ev1, h⟩ := bd h
  refine g_getR X (pc := 6) fk_8_0 rfl rfl ev1 tb_40 dX8_checkOf_6 ?_
  obtain ⟨v2, ev2, h⟩ := bd h
  refine g_alen X (pc := 9) (k := 0) rfl (by decide) ev2 dX8_checkOf_9 ?_
  refine g_mmin X (pc := 10) tb_403 tb_348 tb_13 tb_349 ⟨by decide, Nat.le_of_ble_eq_true rfl⟩ dX8_checkOf_10 ?_
  refine g_istore X (pc := 13) [(4, pI (jmin (a1 + a2) v2)), (3, pI (-1 : Int32)), (0, pR (some a0)), (1, pI a1), (2, pI a2)] (lt_n hn (by decide)) rfl dX8_checkOf_13 ?_
  refine g_iload_n X (pc := 15) 3 rfl rfl dX8_checkOf_15 ?_
  refine g_iconst X (pc := 16) (v := 0) dX8_checkOf_16 (by decide) ?_
  refine g_mmax X (pc := 17) tb_404 tb_405 tb_13 tb_406 ⟨by decide, Nat.le_of_ble_eq_true rfl⟩ dX8_checkOf_17 ?_
  refine g_istore X (pc := 20) [(5, pI (jmax a1 (0 : Int32))), (4, pI (jmin (a1 + a2) v2)), (3, pI (-1 : Int32)), (0, pR (some a0)), (1, pI a1), (2, pI a2)] (lt_n hn (by decide)) rfl dX8_checkOf_20 ?_
  refine g_sub [3, 2, 1, 0] [(0, pR (some a0)), (3, pI (-1 : Int32)), (4, pI (jmin (a1 + a2) v2)), (5, pI (jmax a1 (0 : Int32)))] rfl ?_
  exact wX8_checkOf_L22 X hE hn fu   fu a0 (-1 : Int32) (jmin (a1 + a2) v2) (jmax a1 (0 : Int32)) M h
theorem hyX8_checkOf : yX8_checkOf.cls ≠ "java/lang/invoke/MethodHandle" ∧ yX8_checkOf.cls ≠ "java/lang/invoke/VarHandle" ∧ (parseMethodDescriptor yX8_checkOf.desc).map (fun d => d.parameters.length) = some 2 := ⟨by decide +kernel, by decide +kernel, by decide +kernel⟩
theorem ctX8_checkOf (l : Launch) (E : Nat → Nat) (D : va_G) (dA : Nat → ClassId) (lo : Nat) (H0 : Heap) (fu : Nat) (a0 : Nat) (a1 : Int32) (a2 : Int32) (M : Mm) (out : Int32 × Mm) (h : fX8_checkOf fu a0 a1 a2 M = some out) : Ct l E D dA lo H0 yX8_checkOf cX8_checkOf 6 (some .int) 1 13 [pR (some a0), pI a1, pI a2] M (some (pI out.1)) out.2 := by
  refine ct_of (by decide +kernel) (Nat.le_of_ble_eq_true rfl) ?_
  intro x hl he hd ha ho hh hn hin X hE
  exact wX8_checkOf X hE hn fu a0 a1 a2 M h
/-! WebHost$Store.markOf(I)I -/
def fX8_markOf (fu : Nat)  (a0 : Nat) (a1 : Int32)  (M : Mm) : Option (Int32 × Mm) :=
    (gR M 8 514 (some a0)).bind fun v1 =>
    b2 (fX11_four fu  v1 (((a1 * (64 : Int32)) + (48 : Int32)) + (8 : Int32)) M) fun v3 M2 =>
    some (v3, M2)
theorem dX8_markOf_0 : decode cX8_markOf 0 = .ok (.aload_n 0, 1) := by decide +kernel
theorem dX8_markOf_1 : decode cX8_markOf 1 = .ok (.getfield 13, 3) := by decide +kernel
theorem dX8_markOf_4 : decode cX8_markOf 4 = .ok (.iload_n 1, 1) := by decide +kernel
theorem dX8_markOf_5 : decode cX8_markOf 5 = .ok (.bipush 64, 2) := by decide +kernel
theorem dX8_markOf_7 : decode cX8_markOf 7 = .ok (.imul, 1) := by decide +kernel
theorem dX8_markOf_8 : decode cX8_markOf 8 = .ok (.bipush 48, 2) := by decide +kernel
theorem dX8_markOf_10 : decode cX8_markOf 10 = .ok (.iadd, 1) := by decide +kernel
theorem dX8_markOf_11 : decode cX8_markOf 11 = .ok (.bipush 8, 2) := by decide +kernel
theorem dX8_markOf_13 : decode cX8_markOf 13 = .ok (.iadd, 1) := by decide +kernel
theorem dX8_markOf_14 : decode cX8_markOf 14 = .ok (.invokestatic 22, 3) := by decide +kernel
theorem dX8_markOf_17 : decode cX8_markOf 17 = .ok (.ireturn, 1) := by decide +kernel
theorem wX8_markOf {x : GX} {n0 sl0 : Nat} (X : Cx x cX8_markOf RX8 (some .int) n0 sl0 1 21) {out : Int32 × Mm} (hE : Ends x n0 sl0 (some (pI out.1)) out.2) (hn : xn x = 2) (fu : Nat)   (a0 : Nat) (a1 : Int32)  (M : Mm) (h : fX8_markOf fu  a0 a1 M = some out) : Gw x M 0 [(0, pR (some a0)), (1, pI a1)] [] := by
  unfold fX8_markOf at h
  refine g_aload_n X (pc := 0) 0 rfl rfl dX8_markOf_0 ?_
  obtain ⟨v1, ev1, h⟩ := bd h
  refine g_getR X (pc := 1) fk_8_2 rfl rfl ev1 tb_45 dX8_markOf_1 ?_
  refine g_iload_n X (pc := 4) 1 rfl rfl dX8_markOf_4 ?_
  refine g_bipush X (pc := 5) (v := 64) dX8_markOf_5 (by decide) ?_
  refine g_imul X (pc := 7) dX8_markOf_7 ?_
  refine g_bipush X (pc := 8) (v := 48) dX8_markOf_8 (by decide) ?_
  refine g_iadd X (pc := 10) dX8_markOf_10 ?_
  refine g_bipush X (pc := 11) (v := 8) dX8_markOf_11 (by decide) ?_
  refine g_iadd X (pc := 13) dX8_markOf_13 ?_
  obtain ⟨v3, M2, eM2, h⟩ := b2d h
  refine g_callSN X (pc := 14) (M' := M2) (ro := some (pI v3)) (as := [pR v1, pI (((a1 * (64 : Int32)) + (48 : Int32)) + (8 : Int32))]) (as' := [pI (((a1 * (64 : Int32)) + (48 : Int32)) + (8 : Int32)), pR v1]) (st := []) (ctX11_four _ _ _ _ _ _ fu  v1 (((a1 * (64 : Int32)) + (48 : Int32)) + (8 : Int32)) M _ eM2) tb_394 (List.mem_of_getElem? (i := 0) rfl) tb_393 tb_1 hyX11_four rfl rfl ⟨by decide, by decide⟩ (Nat.le_of_ble_eq_true rfl) dX8_markOf_14 ?_
  obtain rfl := Option.some.inj h
  exact g_ireturn X hE dX8_markOf_17
theorem hyX8_markOf : yX8_markOf.cls ≠ "java/lang/invoke/MethodHandle" ∧ yX8_markOf.cls ≠ "java/lang/invoke/VarHandle" ∧ (parseMethodDescriptor yX8_markOf.desc).map (fun d => d.parameters.length) = some 1 := ⟨by decide +kernel, by decide +kernel, by decide +kernel⟩
theorem ctX8_markOf (l : Launch) (E : Nat → Nat) (D : va_G) (dA : Nat → ClassId) (lo : Nat) (H0 : Heap) (fu : Nat) (a0 : Nat) (a1 : Int32) (M : Mm) (out : Int32 × Mm) (h : fX8_markOf fu a0 a1 M = some out) : Ct l E D dA lo H0 yX8_markOf cX8_markOf 2 (some .int) 1 21 [pR (some a0), pI a1] M (some (pI out.1)) out.2 := by
  refine ct_of (by decide +kernel) (Nat.le_of_ble_eq_true rfl) ?_
  intro x hl he hd ha ho hh hn hin X hE
  exact wX8_markOf X hE hn fu a0 a1 M h
/-! WebHost$Store.isWhole(I)Z -/
def fX8_isWhole (fu : Nat)  (a0 : Nat) (a1 : Int32)  (M : Mm) : Option (Int32 × Mm) :=
    (rc M 8 (some a0)).bind fun q1 =>
    b2 (fX8_placeOf fu q1 a1 M) fun v3 M2 =>
    (rc M2 8 (some a0)).bind fun q4 =>
    b2 (fX8_sizeOf fu q4 a1 M2) fun v6 M5 =>
    (rc M5 8 (some a0)).bind fun q7 =>
    b2 (fX8_checkOf fu q7 v3 v6 M5) fun v9 M8 =>
    (rc M8 8 (some a0)).bind fun q10 =>
    b2 (fX8_markOf fu q10 a1 M8) fun v12 M11 =>
    if v9 = v12 then (
    rN .boolean (1 : Int32) M11)
    else (
    rN .boolean (0 : Int32) M11)
theorem dX8_isWhole_0 : decode cX8_isWhole 0 = .ok (.aload_n 0, 1) := by decide +kernel
theorem dX8_isWhole_1 : decode cX8_isWhole 1 = .ok (.aload_n 0, 1) := by decide +kernel
theorem dX8_isWhole_2 : decode cX8_isWhole 2 = .ok (.iload_n 1, 1) := by decide +kernel
theorem dX8_isWhole_3 : decode cX8_isWhole 3 = .ok (.invokevirtual 61, 3) := by decide +kernel
theorem dX8_isWhole_6 : decode cX8_isWhole 6 = .ok (.aload_n 0, 1) := by decide +kernel
theorem dX8_isWhole_7 : decode cX8_isWhole 7 = .ok (.iload_n 1, 1) := by decide +kernel
theorem dX8_isWhole_8 : decode cX8_isWhole 8 = .ok (.invokevirtual 65, 3) := by decide +kernel
theorem dX8_isWhole_11 : decode cX8_isWhole 11 = .ok (.invokevirtual 32, 3) := by decide +kernel
theorem dX8_isWhole_14 : decode cX8_isWhole 14 = .ok (.aload_n 0, 1) := by decide +kernel
theorem dX8_isWhole_15 : decode cX8_isWhole 15 = .ok (.iload_n 1, 1) := by decide +kernel
theorem dX8_isWhole_16 : decode cX8_isWhole 16 = .ok (.invokevirtual 68, 3) := by decide +kernel
theorem dX8_isWhole_19 : decode cX8_isWhole 19 = .ok (.if_icmp .ne 7, 3) := by decide +kernel
theorem dX8_isWhole_22 : decode cX8_isWhole 22 = .ok (.iconst 1, 1) := by decide +kernel
theorem dX8_isWhole_23 : decode cX8_isWhole 23 = .ok (.goto 4, 3) := by decide +kernel
theorem dX8_isWhole_26 : decode cX8_isWhole 26 = .ok (.iconst 0, 1) := by decide +kernel
theorem dX8_isWhole_27 : decode cX8_isWhole 27 = .ok (.ireturn, 1) := by decide +kernel
theorem wX8_isWhole {x : GX} {n0 sl0 : Nat} (X : Cx x cX8_isWhole RX8 (some .boolean) n0 sl0 2 42) {out : Int32 × Mm} (hE : Ends x n0 sl0 (some (pI out.1)) out.2) (hn : xn x = 2) (fu : Nat)   (a0 : Nat) (a1 : Int32)  (M : Mm) (h : fX8_isWhole fu  a0 a1 M = some out) : Gw x M 0 [(0, pR (some a0)), (1, pI a1)] [] := by
  unfold fX8_isWhole at h
  refine g_aload_n X (pc := 0) 0 rfl rfl dX8_isWhole_0 ?_
  refine g_aload_n X (pc := 1) 0 rfl rfl dX8_isWhole_1 ?_
  refine g_iload_n X (pc := 2) 1 rfl rfl dX8_isWhole_2 ?_
  obtain ⟨q1, eq1, h⟩ := bd h
  obtain ⟨v3, M2, eM2, h⟩ := b2d h
  refine g_callV X (pc := 3) (M' := M2) (ro := some (pI v3)) (c := 8) rfl (by decide) (as := [pI a1]) (as' := [pI a1]) (st := [pR (some a0)]) eq1 (ctX8_placeOf _ _ _ _ _ _ fu q1 a1 M _ eM2) tb_1379 tb_1376 tb_1377 tb_1378 tb_2 ⟨rfl, hyX8_placeOf⟩ rfl rfl ⟨by decide, by decide⟩ (Nat.le_of_ble_eq_true rfl) dX8_isWhole_3 ?_
  refine g_aload_n X (pc := 6) 0 rfl rfl dX8_isWhole_6 ?_
  refine g_iload_n X (pc := 7) 1 rfl rfl dX8_isWhole_7 ?_
  obtain ⟨q4, eq4, h⟩ := bd h
  obtain ⟨v6, M5, eM5, h⟩ := b2d h
  refine g_callV X (pc := 8) (M' := M5) (ro := some (pI v6)) (c := 8) rfl (by decide) (as := [pI a1]) (as' := [pI a1]) (st := [pI v3, pR (some a0)]) eq4 (ctX8_sizeOf _ _ _ _ _ _ fu q4 a1 M2 _ eM5) tb_1383 tb_1380 tb_1381 tb_1382 tb_2 ⟨rfl, hyX8_sizeOf⟩ rfl rfl ⟨by decide, by decide⟩ (Nat.le_of_ble_eq_true rfl) dX8_isWhole_8 ?_
  obtain ⟨q7, eq7, h⟩ := bd h
  obtain ⟨v9, M8, eM8, h⟩ := b2d h
  refine g_callV X (pc := 11) (M' := M8) (ro := some (pI v9)) (c := 8) rfl (by decide) (as := [pI v3, pI v6]) (as' := [pI v6, pI v3]) (st := []) eq7 (ctX8_checkOf _ _ _ _ _ _ fu q7 v3 v6 M5 _ eM8) tb_402 tb_399 tb_401 ts_0 tb_2 ⟨rfl, hyX8_checkOf⟩ rfl rfl ⟨by decide, by decide⟩ (Nat.le_of_ble_eq_true rfl) dX8_isWhole_11 ?_
  refine g_aload_n X (pc := 14) 0 rfl rfl dX8_isWhole_14 ?_
  refine g_iload_n X (pc := 15) 1 rfl rfl dX8_isWhole_15 ?_
  obtain ⟨q10, eq10, h⟩ := bd h
  obtain ⟨v12, M11, eM11, h⟩ := b2d h
  refine g_callV X (pc := 16) (M' := M11) (ro := some (pI v12)) (c := 8) rfl (by decide) (as := [pI a1]) (as' := [pI a1]) (st := [pI v9]) eq10 (ctX8_markOf _ _ _ _ _ _ fu q10 a1 M8 _ eM11) tb_1387 tb_1384 tb_1385 tb_1386 tb_2 ⟨rfl, hyX8_markOf⟩ rfl rfl ⟨by decide, by decide⟩ (Nat.le_of_ble_eq_true rfl) dX8_isWhole_16 ?_
  refine g_icmp_ne X (pc := 19) (tgt := 26) dX8_isWhole_19 (by decide) (fun hc => ?_) (fun hc => ?_)
  · have h := (if_neg hc).symm.trans h
    refine g_iconst X (pc := 26) (v := 0) dX8_isWhole_26 (by decide) ?_
    obtain ⟨hz, rfl⟩ := rN_some h
    exact g_nreturn X rfl hz hE dX8_isWhole_27
  · have h := (if_pos hc).symm.trans h
    refine g_iconst X (pc := 22) (v := 1) dX8_isWhole_22 (by decide) ?_
    refine g_goto X (pc := 23) (tgt := 27) dX8_isWhole_23 (by decide) ?_
    obtain ⟨hz, rfl⟩ := rN_some h
    exact g_nreturn X rfl hz hE dX8_isWhole_27
theorem hyX8_isWhole : yX8_isWhole.cls ≠ "java/lang/invoke/MethodHandle" ∧ yX8_isWhole.cls ≠ "java/lang/invoke/VarHandle" ∧ (parseMethodDescriptor yX8_isWhole.desc).map (fun d => d.parameters.length) = some 1 := ⟨by decide +kernel, by decide +kernel, by decide +kernel⟩
theorem ctX8_isWhole (l : Launch) (E : Nat → Nat) (D : va_G) (dA : Nat → ClassId) (lo : Nat) (H0 : Heap) (fu : Nat) (a0 : Nat) (a1 : Int32) (M : Mm) (out : Int32 × Mm) (h : fX8_isWhole fu a0 a1 M = some out) : Ct l E D dA lo H0 yX8_isWhole cX8_isWhole 2 (some .boolean) 2 42 [pR (some a0), pI a1] M (some (pI out.1)) out.2 := by
  refine ct_of (by decide +kernel) (Nat.le_of_ble_eq_true rfl) ?_
  intro x hl he hd ha ho hh hn hin X hE
  exact wX8_isWhole X hE hn fu a0 a1 M h
/-! WebHost$Requests.isMark()Z -/
def fX7_isMark_L83 (fu : Nat)  : Nat → Nat → Int32 → Int32 → Mm → Option (Int32 × Mm)
  | 0, _, _, _, _ => none
  | n + 1, a0, a1, a2, M =>
    if (8 : Int32) ≤ a2 then (
    rN .boolean (1 : Int32) M)
    else (
    (gR M 7 450 (some a0)).bind fun v1 =>
    (gI M 7 462 (some a0)).bind fun v2 =>
    b2 (fX11_one fu  v1 ((v2 + (1 : Int32)) + a2) M) fun v4 M3 =>
    b2 (fX11_hexCode fu  (ushr a1 ((28 : Int32) - ((4 : Int32) * a2))) M3) fun v6 M5 =>
    if v4 = v6 then (
    fX7_isMark_L83 fu  n a0 a1 (a2 + (1 : Int32)) M5)
    else (
    rN .boolean (0 : Int32) M5))
def fX7_isMark (fu : Nat)  (a0 : Nat)  (M : Mm) : Option (Int32 × Mm) :=
    (gI M 7 462 (some a0)).bind fun v1 =>
    (gI M 7 463 (some a0)).bind fun v2 =>
    (rc M 7 (some a0)).bind fun q3 =>
    b2 (fX7_isText fu q3 v1 v2 (some 13) M) fun v5 M4 =>
    if v5 = 0 then (
    (gI M4 7 463 (some a0)).bind fun v6 =>
    (gI M4 7 462 (some a0)).bind fun v7 =>
    if (v6 - v7) = (10 : Int32) then (
    (gR M4 7 450 (some a0)).bind fun v8 =>
    (gI M4 7 462 (some a0)).bind fun v9 =>
    b2 (fX11_one fu  v8 v9 M4) fun v11 M10 =>
    if v11 = (34 : Int32) then (
    (gR M10 7 450 (some a0)).bind fun v12 =>
    (gI M10 7 463 (some a0)).bind fun v13 =>
    b2 (fX11_one fu  v12 (v13 - (1 : Int32)) M10) fun v15 M14 =>
    if v15 = (34 : Int32) then (
    (gR M14 7 448 (some a0)).bind fun v16 =>
    (gI M14 7 466 (some a0)).bind fun v17 =>
    (rc M14 8 v16).bind fun q18 =>
    b2 (fX8_markOf fu q18 v17 M14) fun v20 M19 =>
    fX7_isMark_L83 fu  fu a0 v20 (0 : Int32) M19)
    else (
    rN .boolean (0 : Int32) M14))
    else (
    rN .boolean (0 : Int32) M10))
    else (
    rN .boolean (0 : Int32) M4))
    else (
    rN .boolean (1 : Int32) M4)
theorem dX7_isMark_0 : decode cX7_isMark 0 = .ok (.aload_n 0, 1) := by decide +kernel
theorem dX7_isMark_1 : decode cX7_isMark 1 = .ok (.aload_n 0, 1) := by decide +kernel
theorem dX7_isMark_2 : decode cX7_isMark 2 = .ok (.getfield 194, 3) := by decide +kernel
theorem dX7_isMark_5 : decode cX7_isMark 5 = .ok (.aload_n 0, 1) := by decide +kernel
theorem dX7_isMark_6 : decode cX7_isMark 6 = .ok (.getfield 197, 3) := by decide +kernel
theorem dX7_isMark_9 : decode cX7_isMark 9 = .ok (.ldc 236, 2) := by decide +kernel
theorem dX7_isMark_11 : decode cX7_isMark 11 = .ok (.invokevirtual 140, 3) := by decide +kernel
theorem dX7_isMark_14 : decode cX7_isMark 14 = .ok (.ifCond .eq 5, 3) := by decide +kernel
theorem dX7_isMark_17 : decode cX7_isMark 17 = .ok (.iconst 1, 1) := by decide +kernel
theorem dX7_isMark_18 : decode cX7_isMark 18 = .ok (.ireturn, 1) := by decide +kernel
theorem dX7_isMark_19 : decode cX7_isMark 19 = .ok (.aload_n 0, 1) := by decide +kernel
theorem dX7_isMark_20 : decode cX7_isMark 20 = .ok (.getfield 197, 3) := by decide +kernel
theorem dX7_isMark_23 : decode cX7_isMark 23 = .ok (.aload_n 0, 1) := by decide +kernel
theorem dX7_isMark_24 : decode cX7_isMark 24 = .ok (.getfield 194, 3) := by decide +kernel
theorem dX7_isMark_27 : decode cX7_isMark 27 = .ok (.isub, 1) := by decide +kernel
theorem dX7_isMark_28 : decode cX7_isMark 28 = .ok (.bipush 10, 2) := by decide +kernel
theorem dX7_isMark_30 : decode cX7_isMark 30 = .ok (.if_icmp .ne 37, 3) := by decide +kernel
theorem dX7_isMark_33 : decode cX7_isMark 33 = .ok (.aload_n 0, 1) := by decide +kernel
theorem dX7_isMark_34 : decode cX7_isMark 34 = .ok (.getfield 21, 3) := by decide +kernel
theorem dX7_isMark_37 : decode cX7_isMark 37 = .ok (.aload_n 0, 1) := by decide +kernel
theorem dX7_isMark_38 : decode cX7_isMark 38 = .ok (.getfield 194, 3) := by decide +kernel
theorem dX7_isMark_41 : decode cX7_isMark 41 = .ok (.invokestatic 97, 3) := by decide +kernel
theorem dX7_isMark_44 : decode cX7_isMark 44 = .ok (.bipush 34, 2) := by decide +kernel
theorem dX7_isMark_46 : decode cX7_isMark 46 = .ok (.if_icmp .ne 21, 3) := by decide +kernel
theorem dX7_isMark_49 : decode cX7_isMark 49 = .ok (.aload_n 0, 1) := by decide +kernel
theorem dX7_isMark_50 : decode cX7_isMark 50 = .ok (.getfield 21, 3) := by decide +kernel
theorem dX7_isMark_53 : decode cX7_isMark 53 = .ok (.aload_n 0, 1) := by decide +kernel
theorem dX7_isMark_54 : decode cX7_isMark 54 = .ok (.getfield 197, 3) := by decide +kernel
theorem dX7_isMark_57 : decode cX7_isMark 57 = .ok (.iconst 1, 1) := by decide +kernel
theorem dX7_isMark_58 : decode cX7_isMark 58 = .ok (.isub, 1) := by decide +kernel
theorem dX7_isMark_59 : decode cX7_isMark 59 = .ok (.invokestatic 97, 3) := by decide +kernel
theorem dX7_isMark_62 : decode cX7_isMark 62 = .ok (.bipush 34, 2) := by decide +kernel
theorem dX7_isMark_64 : decode cX7_isMark 64 = .ok (.if_icmp .eq 5, 3) := by decide +kernel
theorem dX7_isMark_67 : decode cX7_isMark 67 = .ok (.iconst 0, 1) := by decide +kernel
theorem dX7_isMark_68 : decode cX7_isMark 68 = .ok (.ireturn, 1) := by decide +kernel
theorem dX7_isMark_69 : decode cX7_isMark 69 = .ok (.aload_n 0, 1) := by decide +kernel
theorem dX7_isMark_70 : decode cX7_isMark 70 = .ok (.getfield 9, 3) := by decide +kernel
theorem dX7_isMark_73 : decode cX7_isMark 73 = .ok (.aload_n 0, 1) := by decide +kernel
theorem dX7_isMark_74 : decode cX7_isMark 74 = .ok (.getfield 125, 3) := by decide +kernel
theorem dX7_isMark_77 : decode cX7_isMark 77 = .ok (.invokevirtual 238, 3) := by decide +kernel
theorem dX7_isMark_80 : decode cX7_isMark 80 = .ok (.istore_n 1, 1) := by decide +kernel
theorem dX7_isMark_81 : decode cX7_isMark 81 = .ok (.iconst 0, 1) := by decide +kernel
theorem dX7_isMark_82 : decode cX7_isMark 82 = .ok (.istore_n 2, 1) := by decide +kernel
theorem dX7_isMark_83 : decode cX7_isMark 83 = .ok (.iload_n 2, 1) := by decide +kernel
theorem dX7_isMark_84 : decode cX7_isMark 84 = .ok (.bipush 8, 2) := by decide +kernel
theorem dX7_isMark_86 : decode cX7_isMark 86 = .ok (.if_icmp .ge 40, 3) := by decide +kernel
theorem dX7_isMark_89 : decode cX7_isMark 89 = .ok (.aload_n 0, 1) := by decide +kernel
theorem dX7_isMark_90 : decode cX7_isMark 90 = .ok (.getfield 21, 3) := by decide +kernel
theorem dX7_isMark_93 : decode cX7_isMark 93 = .ok (.aload_n 0, 1) := by decide +kernel
theorem dX7_isMark_94 : decode cX7_isMark 94 = .ok (.getfield 194, 3) := by decide +kernel
theorem dX7_isMark_97 : decode cX7_isMark 97 = .ok (.iconst 1, 1) := by decide +kernel
theorem dX7_isMark_98 : decode cX7_isMark 98 = .ok (.iadd, 1) := by decide +kernel
theorem dX7_isMark_99 : decode cX7_isMark 99 = .ok (.iload_n 2, 1) := by decide +kernel
theorem dX7_isMark_100 : decode cX7_isMark 100 = .ok (.iadd, 1) := by decide +kernel
theorem dX7_isMark_101 : decode cX7_isMark 101 = .ok (.invokestatic 97, 3) := by decide +kernel
theorem dX7_isMark_104 : decode cX7_isMark 104 = .ok (.iload_n 1, 1) := by decide +kernel
theorem dX7_isMark_105 : decode cX7_isMark 105 = .ok (.bipush 28, 2) := by decide +kernel
theorem dX7_isMark_107 : decode cX7_isMark 107 = .ok (.iconst 4, 1) := by decide +kernel
theorem dX7_isMark_108 : decode cX7_isMark 108 = .ok (.iload_n 2, 1) := by decide +kernel
theorem dX7_isMark_109 : decode cX7_isMark 109 = .ok (.imul, 1) := by decide +kernel
theorem dX7_isMark_110 : decode cX7_isMark 110 = .ok (.isub, 1) := by decide +kernel
theorem dX7_isMark_111 : decode cX7_isMark 111 = .ok (.iushr, 1) := by decide +kernel
theorem dX7_isMark_112 : decode cX7_isMark 112 = .ok (.invokestatic 241, 3) := by decide +kernel
theorem dX7_isMark_115 : decode cX7_isMark 115 = .ok (.if_icmp .eq 5, 3) := by decide +kernel
theorem dX7_isMark_118 : decode cX7_isMark 118 = .ok (.iconst 0, 1) := by decide +kernel
theorem dX7_isMark_119 : decode cX7_isMark 119 = .ok (.ireturn, 1) := by decide +kernel
theorem dX7_isMark_120 : decode cX7_isMark 120 = .ok (.iinc 2 1, 3) := by decide +kernel
theorem dX7_isMark_123 : decode cX7_isMark 123 = .ok (.goto (-40), 3) := by decide +kernel
theorem dX7_isMark_126 : decode cX7_isMark 126 = .ok (.iconst 1, 1) := by decide +kernel
theorem dX7_isMark_127 : decode cX7_isMark 127 = .ok (.ireturn, 1) := by decide +kernel
theorem wX7_isMark_L83 {x : GX} {n0 sl0 : Nat} (X : Cx x cX7_isMark RX7 (some .boolean) n0 sl0 6 130) {out : Int32 × Mm} (hE : Ends x n0 sl0 (some (pI out.1)) out.2) (hn : xn x = 3) (fu : Nat)   : ∀ (n : Nat) (a0 : Nat) (a1 : Int32) (a2 : Int32)  (M : Mm), fX7_isMark_L83 fu  n a0 a1 a2 M = some out → Gw x M 83 [(0, pR (some a0)), (1, pI a1), (2, pI a2)] [] := by
  intro n
  induction n with
  | zero =>
    intro a0 a1 a2 M h
    have h : (none : Option (Int32 × Mm)) = some out := h
    cases h
  | succ n ih =>
    intro a0 a1 a2 M h
    rw [fX7_isMark_L83] at h
    refine g_iload_n X (pc := 83) 2 rfl rfl dX7_isMark_83 ?_
    refine g_bipush X (pc := 84) (v := 8) dX7_isMark_84 (by decide) ?_
    refine g_icmp_ge X (pc := 86) (tgt := 126) dX7_isMark_86 (by decide) (fun hc => ?_) (fun hc => ?_)
    · have h := (if_pos hc).symm.trans h
      refine g_iconst X (pc := 126) (v := 1) dX7_isMark_126 (by decide) ?_
      obtain ⟨hz, rfl⟩ := rN_some h
      exact g_nreturn X rfl hz hE dX7_isMark_127
    · have h := (if_neg hc).symm.trans h
      refine g_aload_n X (pc := 89) 0 rfl rfl dX7_isMark_89 ?_
      obtain ⟨v1, ev1, h⟩ := bd h
      refine g_getR X (pc := 90) fk_7_2 rfl rfl ev1 tb_258 dX7_isMark_90 ?_
      refine g_aload_n X (pc := 93) 0 rfl rfl dX7_isMark_93 ?_
      obtain ⟨v2, ev2, h⟩ := bd h
      refine g_getI X (pc := 94) fk_7_14 rfl rfl ev2 tb_270 dX7_isMark_94 ?_
      refine g_iconst X (pc := 97) (v := 1) dX7_isMark_97 (by decide) ?_
      refine g_iadd X (pc := 98) dX7_isMark_98 ?_
      refine g_iload_n X (pc := 99) 2 rfl rfl dX7_isMark_99 ?_
      refine g_iadd X (pc := 100) dX7_isMark_100 ?_
      obtain ⟨v4, M3, eM3, h⟩ := b2d h
      refine g_callSN X (pc := 101) (M' := M3) (ro := some (pI v4)) (as := [pR v1, pI ((v2 + (1 : Int32)) + a2)]) (as' := [pI ((v2 + (1 : Int32)) + a2), pR v1]) (st := []) (ctX11_one _ _ _ _ _ _ fu  v1 ((v2 + (1 : Int32)) + a2) M _ eM3) tb_415 (List.mem_of_getElem? (i := 24) rfl) tb_414 tb_1 hyX11_one rfl rfl ⟨by decide, by decide⟩ (Nat.le_of_ble_eq_true rfl) dX7_isMark_101 ?_
      refine g_iload_n X (pc := 104) 1 rfl rfl dX7_isMark_104 ?_
      refine g_bipush X (pc := 105) (v := 28) dX7_isMark_105 (by decide) ?_
      refine g_iconst X (pc := 107) (v := 4) dX7_isMark_107 (by decide) ?_
      refine g_iload_n X (pc := 108) 2 rfl rfl dX7_isMark_108 ?_
      refine g_imul X (pc := 109) dX7_isMark_109 ?_
      refine g_isub X (pc := 110) dX7_isMark_110 ?_
      refine g_iushr X (pc := 111) dX7_isMark_111 ?_
      obtain ⟨v6, M5, eM5, h⟩ := b2d h
      refine g_callSN X (pc := 112) (M' := M5) (ro := some (pI v6)) (as := [pI (ushr a1 ((28 : Int32) - ((4 : Int32) * a2)))]) (as' := [pI (ushr a1 ((28 : Int32) - ((4 : Int32) * a2)))]) (st := [pI v4]) (ctX11_hexCode _ _ _ _ _ _ fu  (ushr a1 ((28 : Int32) - ((4 : Int32) * a2))) M3 _ eM5) tb_1396 (List.mem_of_getElem? (i := 25) rfl) tb_1395 tb_1 hyX11_hexCode rfl rfl ⟨by decide, by decide⟩ (Nat.le_of_ble_eq_true rfl) dX7_isMark_112 ?_
      refine g_icmp_eq X (pc := 115) (tgt := 120) dX7_isMark_115 (by decide) (fun hc => ?_) (fun hc => ?_)
      · have h := (if_pos hc).symm.trans h
        refine g_iinc X (pc := 120) 2 [(2, pI (a2 + (1 : Int32))), (0, pR (some a0)), (1, pI a1)] rfl (iinc_e (by decide)) (lt_n hn (by decide)) rfl dX7_isMark_120 ?_
        refine g_goto X (pc := 123) (tgt := 83) dX7_isMark_123 (by decide) ?_
        refine g_sub [1, 2, 0] [(0, pR (some a0)), (1, pI a1), (2, pI (a2 + (1 : Int32)))] rfl ?_
        exact ih a0 a1 (a2 + (1 : Int32)) M5 h
      · have h := (if_neg hc).symm.trans h
        refine g_iconst X (pc := 118) (v := 0) dX7_isMark_118 (by decide) ?_
        obtain ⟨hz, rfl⟩ := rN_some h
        exact g_nreturn X rfl hz hE dX7_isMark_119
theorem wX7_isMark {x : GX} {n0 sl0 : Nat} (X : Cx x cX7_isMark RX7 (some .boolean) n0 sl0 6 130) {out : Int32 × Mm} (hE : Ends x n0 sl0 (some (pI out.1)) out.2) (hn : xn x = 3) (fu : Nat)   (a0 : Nat)  (M : Mm) (h : fX7_isMark fu  a0 M = some out) : Gw x M 0 [(0, pR (some a0))] [] := by
  unfold fX7_isMark at h
  refine g_aload_n X (pc := 0) 0 rfl rfl dX7_isMark_0 ?_
  refine g_aload_n X (pc := 1) 0 rfl rfl dX7_isMark_1 ?_
  obtain ⟨v1, ev1, h⟩ := bd h
  refine g_getI X (pc := 2) fk_7_14 rfl rfl ev1 tb_270 dX7_isMark_2 ?_
  refine g_aload_n X (pc := 5) 0 rfl rfl dX7_isMark_5 ?_
  obtain ⟨v2, ev2, h⟩ := bd h
  refine g_getI X (pc := 6) fk_7_15 rfl rfl ev2 tb_271 dX7_isMark_6 ?_
  refine g_ldcS X (pc := 9) (List.mem_of_getElem? (i := 13) rfl) dX7_isMark_9 ?_
  obtain ⟨q3, eq3, h⟩ := bd h
  obtain ⟨v5, M4, eM4, h⟩ := b2d h
  refine g_callV X (pc := 11) (M' := M4) (ro := some (pI v5)) (c := 7) rfl (by decide) (as := [pI v1, pI v2, pR (some 13)]) (as' := [pR (some 13), pI v2, pI v1]) (st := []) eq3 (ctX7_isText _ _ _ _ _ _ fu q3 v1 v2 (some 13) M _ eM4) tb_1210 tb_1207 tb_1209 ts_45 tb_7 ⟨rfl, hyX7_isText⟩ rfl rfl ⟨by decide, by decide⟩ (Nat.le_of_ble_eq_true rfl) dX7_isMark_11 ?_
  refine g_if_eq X (pc := 14) (tgt := 19) dX7_isMark_14 (by decide) (fun hc => ?_) (fun hc => ?_)
  · have h := (if_pos hc).symm.trans h
    refine g_aload_n X (pc := 19) 0 rfl rfl dX7_isMark_19 ?_
    obtain ⟨v6, ev6, h⟩ := bd h
    refine g_getI X (pc := 20) fk_7_15 rfl rfl ev6 tb_271 dX7_isMark_20 ?_
    refine g_aload_n X (pc := 23) 0 rfl rfl dX7_isMark_23 ?_
    obtain ⟨v7, ev7, h⟩ := bd h
    refine g_getI X (pc := 24) fk_7_14 rfl rfl ev7 tb_270 dX7_isMark_24 ?_
    refine g_isub X (pc := 27) dX7_isMark_27 ?_
    refine g_bipush X (pc := 28) (v := 10) dX7_isMark_28 (by decide) ?_
    refine g_icmp_ne X (pc := 30) (tgt := 67) dX7_isMark_30 (by decide) (fun hc => ?_) (fun hc => ?_)
    · have h := (if_neg hc).symm.trans h
      refine g_iconst X (pc := 67) (v := 0) dX7_isMark_67 (by decide) ?_
      obtain ⟨hz, rfl⟩ := rN_some h
      exact g_nreturn X rfl hz hE dX7_isMark_68
    · have h := (if_pos hc).symm.trans h
      refine g_aload_n X (pc := 33) 0 rfl rfl dX7_isMark_33 ?_
      obtain ⟨v8, ev8, h⟩ := bd h
      refine g_getR X (pc := 34) fk_7_2 rfl rfl ev8 tb_258 dX7_isMark_34 ?_
      refine g_aload_n X (pc := 37) 0 rfl rfl dX7_isMark_37 ?_
      obtain ⟨v9, ev9, h⟩ := bd h
      refine g_getI X (pc := 38) fk_7_14 rfl rfl ev9 tb_270 dX7_isMark_38 ?_
      obtain ⟨v11, M10, eM10, h⟩ := b2d h
      refine g_callSN X (pc := 41) (M' := M10) (ro := some (pI v11)) (as := [pR v8, pI v9]) (as' := [pI v9, pR v8]) (st := []) (ctX11_one _ _ _ _ _ _ fu  v8 v9 M4 _ eM10) tb_415 (List.mem_of_getElem? (i := 24) rfl) tb_414 tb_1 hyX11_one rfl rfl ⟨by decide, by decide⟩ (Nat.le_of_ble_eq_true rfl) dX7_isMark_41 ?_
      refine g_bipush X (pc := 44) (v := 34) dX7_isMark_44 (by decide) ?_
      refine g_icmp_ne X (pc := 46) (tgt := 67) dX7_isMark_46 (by decide) (fun hc => ?_) (fun hc => ?_)
      · have h := (if_neg hc).symm.trans h
        refine g_iconst X (pc := 67) (v := 0) dX7_isMark_67 (by decide) ?_
        obtain ⟨hz, rfl⟩ := rN_some h
        exact g_nreturn X rfl hz hE dX7_isMark_68
      · have h := (if_pos hc).symm.trans h
        refine g_aload_n X (pc := 49) 0 rfl rfl dX7_isMark_49 ?_
        obtain ⟨v12, ev12, h⟩ := bd h
        refine g_getR X (pc := 50) fk_7_2 rfl rfl ev12 tb_258 dX7_isMark_50 ?_
        refine g_aload_n X (pc := 53) 0 rfl rfl dX7_isMark_53 ?_
        obtain ⟨v13, ev13, h⟩ := bd h
        refine g_getI X (pc := 54) fk_7_15 rfl rfl ev13 tb_271 dX7_isMark_54 ?_
        refine g_iconst X (pc := 57) (v := 1) dX7_isMark_57 (by decide) ?_
        refine g_isub X (pc := 58) dX7_isMark_58 ?_
        obtain ⟨v15, M14, eM14, h⟩ := b2d h
        refine g_callSN X (pc := 59) (M' := M14) (ro := some (pI v15)) (as := [pR v12, pI (v13 - (1 : Int32))]) (as' := [pI (v13 - (1 : Int32)), pR v12]) (st := []) (ctX11_one _ _ _ _ _ _ fu  v12 (v13 - (1 : Int32)) M10 _ eM14) tb_415 (List.mem_of_getElem? (i := 24) rfl) tb_414 tb_1 hyX11_one rfl rfl ⟨by decide, by decide⟩ (Nat.le_of_ble_eq_true rfl) dX7_isMark_59 ?_
        refine g_bipush X (pc := 62) (v := 34) dX7_isMark_62 (by decide) ?_
        refine g_icmp_eq X (pc := 64) (tgt := 69) dX7_isMark_64 (by decide) (fun hc => ?_) (fun hc => ?_)
        · have h := (if_pos hc).symm.trans h
          refine g_aload_n X (pc := 69) 0 rfl rfl dX7_isMark_69 ?_
          obtain ⟨v16, ev16, h⟩ := bd h
          refine g_getR X (pc := 70) fk_7_0 rfl rfl ev16 tb_256 dX7_isMark_70 ?_
          refine g_aload_n X (pc := 73) 0 rfl rfl dX7_isMark_73 ?_
          obtain ⟨v17, ev17, h⟩ := bd h
          refine g_getI X (pc := 74) fk_7_18 rfl rfl ev17 tb_274 dX7_isMark_74 ?_
          obtain ⟨q18, eq18, h⟩ := bd h
          obtain ⟨v20, M19, eM19, h⟩ := b2d h
          refine g_callV X (pc := 77) (M' := M19) (ro := some (pI v20)) (c := 8) rfl (by decide) (as := [pI v17]) (as' := [pI v17]) (st := []) eq18 (ctX8_markOf _ _ _ _ _ _ fu q18 v17 M14 _ eM19) tb_1387 tb_1393 tb_1385 tb_1386 tb_2 ⟨rfl, hyX8_markOf⟩ rfl rfl ⟨by decide, by decide⟩ (Nat.le_of_ble_eq_true rfl) dX7_isMark_77 ?_
          refine g_istore_n X (pc := 80) [(1, pI v20), (0, pR (some a0))] rfl (lt_n hn (by decide)) rfl dX7_isMark_80 ?_
          refine g_iconst X (pc := 81) (v := 0) dX7_isMark_81 (by decide) ?_
          refine g_istore_n X (pc := 82) [(2, pI (0 : Int32)), (1, pI v20), (0, pR (some a0))] rfl (lt_n hn (by decide)) rfl dX7_isMark_82 ?_
          refine g_sub [2, 1, 0] [(0, pR (some a0)), (1, pI v20), (2, pI (0 : Int32))] rfl ?_
          exact wX7_isMark_L83 X hE hn fu   fu a0 v20 (0 : Int32) M19 h
        · have h := (if_neg hc).symm.trans h
          refine g_iconst X (pc := 67) (v := 0) dX7_isMark_67 (by decide) ?_
          obtain ⟨hz, rfl⟩ := rN_some h
          exact g_nreturn X rfl hz hE dX7_isMark_68
  · have h := (if_neg hc).symm.trans h
    refine g_iconst X (pc := 17) (v := 1) dX7_isMark_17 (by decide) ?_
    obtain ⟨hz, rfl⟩ := rN_some h
    exact g_nreturn X rfl hz hE dX7_isMark_18
theorem hyX7_isMark : yX7_isMark.cls ≠ "java/lang/invoke/MethodHandle" ∧ yX7_isMark.cls ≠ "java/lang/invoke/VarHandle" ∧ (parseMethodDescriptor yX7_isMark.desc).map (fun d => d.parameters.length) = some 0 := ⟨by decide +kernel, by decide +kernel, by decide +kernel⟩
theorem ctX7_isMark (l : Launch) (E : Nat → Nat) (D : va_G) (dA : Nat → ClassId) (lo : Nat) (H0 : Heap) (fu : Nat) (a0 : Nat) (M : Mm) (out : Int32 × Mm) (h : fX7_isMark fu a0 M = some out) : Ct l E D dA lo H0 yX7_isMark cX7_isMark 3 (some .boolean) 6 130 [pR (some a0)] M (some (pI out.1)) out.2 := by
  refine ct_of (by decide +kernel) (Nat.le_of_ble_eq_true rfl) ?_
  intro x hl he hd ha ho hh hn hin X hE
  exact wX7_isMark X hE hn fu a0 M h
