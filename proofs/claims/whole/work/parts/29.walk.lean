/-! ===== walks of methods, printed by a program of ours ===== -/
/-! WebHost$Requests.verdict()I -/
def fX7_verdict_L125 (fu : Nat)  (a0 : Nat) (s0 : Option Nat) (s1 : Int32) (M : Mm) : Option (Int32 × Mm) :=
    (pF M 7 466 s0 s1).bind fun M1 =>
    (gI M1 7 466 (some a0)).bind fun v2 =>
    if 0 ≤ v2 then (
    (gR M1 7 448 (some a0)).bind fun v3 =>
    (gI M1 7 466 (some a0)).bind fun v4 =>
    (rc M1 8 v3).bind fun q5 =>
    b2 (fX8_isWhole fu q5 v4 M1) fun v7 M6 =>
    if v7 = 0 then (
    some ((500 : Int32), M6))
    else (
    (gI M6 7 461 (some a0)).bind fun v8 =>
    if v8 = (1 : Int32) then (
    (rc M6 7 (some a0)).bind fun q9 =>
    b2 (fX7_isMark fu q9  M6) fun v11 M10 =>
    if v11 = 0 then (
    some ((200 : Int32), M10))
    else (
    some ((304 : Int32), M10)))
    else (
    some ((200 : Int32), M6))))
    else (
    some ((404 : Int32), M1))
def fX7_verdict_L30 (fu : Nat)  (a0 : Nat)  (M : Mm) : Option (Int32 × Mm) :=
    (gI M 7 458 (some a0)).bind fun v1 =>
    if v1 ≤ 0 then (
    (gI M 7 459 (some a0)).bind fun v2 =>
    if (1 : Int32) < v2 then (
    some ((400 : Int32), M))
    else (
    (gI M 7 460 (some a0)).bind fun v3 =>
    if 0 ≤ v3 then (
    (gI M 7 460 (some a0)).bind fun v4 =>
    if v4 ≤ (65536 : Int32) then (
    (gI M 7 453 (some a0)).bind fun v5 =>
    if v5 = (2 : Int32) then (
    some ((405 : Int32), M))
    else (
    (rc M 7 (some a0)).bind fun q6 =>
    b2 (fX7_readPath fu q6  M) fun v8 M7 =>
    if v8 = 0 then (
    some ((400 : Int32), M7))
    else (
    (gI M7 7 452 (some a0)).bind fun v9 =>
    if v9 ≤ (47 : Int32) then (
    (gR M7 7 448 (some a0)).bind fun v10 =>
    (gR M7 7 451 (some a0)).bind fun v11 =>
    (gI M7 7 452 (some a0)).bind fun v12 =>
    (rc M7 8 v10).bind fun q13 =>
    b2 (fX8_find fu q13 v11 v12 M7) fun v15 M14 =>
    fX7_verdict_L125 fu  a0 (some a0) v15 M14)
    else (
    fX7_verdict_L125 fu  a0 (some a0) (-1 : Int32) M7))))
    else (
    some ((413 : Int32), M)))
    else (
    some ((400 : Int32), M))))
    else (
    some ((501 : Int32), M))
def fX7_verdict (fu : Nat)  (a0 : Nat)  (M : Mm) : Option (Int32 × Mm) :=
    (gI M 7 454 (some a0)).bind fun v1 =>
    if v1 = 0 then (
    (gI M 7 457 (some a0)).bind fun v2 =>
    if v2 = (1 : Int32) then (
    fX7_verdict_L30 fu  a0 M)
    else (
    some ((400 : Int32), M)))
    else (
    (gI M 7 457 (some a0)).bind fun v3 =>
    if v3 ≤ (1 : Int32) then (
    fX7_verdict_L30 fu  a0 M)
    else (
    some ((400 : Int32), M)))
theorem dX7_verdict_0 : decode cX7_verdict 0 = .ok (.aload_n 0, 1) := by decide +kernel
theorem dX7_verdict_1 : decode cX7_verdict 1 = .ok (.getfield 104, 3) := by decide +kernel
theorem dX7_verdict_4 : decode cX7_verdict 4 = .ok (.ifCond .eq 14, 3) := by decide +kernel
theorem dX7_verdict_7 : decode cX7_verdict 7 = .ok (.aload_n 0, 1) := by decide +kernel
theorem dX7_verdict_8 : decode cX7_verdict 8 = .ok (.getfield 107, 3) := by decide +kernel
theorem dX7_verdict_11 : decode cX7_verdict 11 = .ok (.iconst 1, 1) := by decide +kernel
theorem dX7_verdict_12 : decode cX7_verdict 12 = .ok (.if_icmp .le 18, 3) := by decide +kernel
theorem dX7_verdict_15 : decode cX7_verdict 15 = .ok (.goto 11, 3) := by decide +kernel
theorem dX7_verdict_18 : decode cX7_verdict 18 = .ok (.aload_n 0, 1) := by decide +kernel
theorem dX7_verdict_19 : decode cX7_verdict 19 = .ok (.getfield 107, 3) := by decide +kernel
theorem dX7_verdict_22 : decode cX7_verdict 22 = .ok (.iconst 1, 1) := by decide +kernel
theorem dX7_verdict_23 : decode cX7_verdict 23 = .ok (.if_icmp .eq 7, 3) := by decide +kernel
theorem dX7_verdict_26 : decode cX7_verdict 26 = .ok (.sipush 400, 3) := by decide +kernel
theorem dX7_verdict_29 : decode cX7_verdict 29 = .ok (.ireturn, 1) := by decide +kernel
theorem dX7_verdict_30 : decode cX7_verdict 30 = .ok (.aload_n 0, 1) := by decide +kernel
theorem dX7_verdict_31 : decode cX7_verdict 31 = .ok (.getfield 110, 3) := by decide +kernel
theorem dX7_verdict_34 : decode cX7_verdict 34 = .ok (.ifCond .le 7, 3) := by decide +kernel
theorem dX7_verdict_37 : decode cX7_verdict 37 = .ok (.sipush 501, 3) := by decide +kernel
theorem dX7_verdict_40 : decode cX7_verdict 40 = .ok (.ireturn, 1) := by decide +kernel
theorem dX7_verdict_41 : decode cX7_verdict 41 = .ok (.aload_n 0, 1) := by decide +kernel
theorem dX7_verdict_42 : decode cX7_verdict 42 = .ok (.getfield 113, 3) := by decide +kernel
theorem dX7_verdict_45 : decode cX7_verdict 45 = .ok (.iconst 1, 1) := by decide +kernel
theorem dX7_verdict_46 : decode cX7_verdict 46 = .ok (.if_icmp .gt 10, 3) := by decide +kernel
theorem dX7_verdict_49 : decode cX7_verdict 49 = .ok (.aload_n 0, 1) := by decide +kernel
theorem dX7_verdict_50 : decode cX7_verdict 50 = .ok (.getfield 64, 3) := by decide +kernel
theorem dX7_verdict_53 : decode cX7_verdict 53 = .ok (.ifCond .ge 7, 3) := by decide +kernel
theorem dX7_verdict_56 : decode cX7_verdict 56 = .ok (.sipush 400, 3) := by decide +kernel
theorem dX7_verdict_59 : decode cX7_verdict 59 = .ok (.ireturn, 1) := by decide +kernel
theorem dX7_verdict_60 : decode cX7_verdict 60 = .ok (.aload_n 0, 1) := by decide +kernel
theorem dX7_verdict_61 : decode cX7_verdict 61 = .ok (.getfield 64, 3) := by decide +kernel
theorem dX7_verdict_64 : decode cX7_verdict 64 = .ok (.ldc 210, 2) := by decide +kernel
theorem dX7_verdict_66 : decode cX7_verdict 66 = .ok (.if_icmp .le 7, 3) := by decide +kernel
theorem dX7_verdict_69 : decode cX7_verdict 69 = .ok (.sipush 413, 3) := by decide +kernel
theorem dX7_verdict_72 : decode cX7_verdict 72 = .ok (.ireturn, 1) := by decide +kernel
theorem dX7_verdict_73 : decode cX7_verdict 73 = .ok (.aload_n 0, 1) := by decide +kernel
theorem dX7_verdict_74 : decode cX7_verdict 74 = .ok (.getfield 101, 3) := by decide +kernel
theorem dX7_verdict_77 : decode cX7_verdict 77 = .ok (.iconst 2, 1) := by decide +kernel
theorem dX7_verdict_78 : decode cX7_verdict 78 = .ok (.if_icmp .ne 7, 3) := by decide +kernel
theorem dX7_verdict_81 : decode cX7_verdict 81 = .ok (.sipush 405, 3) := by decide +kernel
theorem dX7_verdict_84 : decode cX7_verdict 84 = .ok (.ireturn, 1) := by decide +kernel
theorem dX7_verdict_85 : decode cX7_verdict 85 = .ok (.aload_n 0, 1) := by decide +kernel
theorem dX7_verdict_86 : decode cX7_verdict 86 = .ok (.invokevirtual 211, 3) := by decide +kernel
theorem dX7_verdict_89 : decode cX7_verdict 89 = .ok (.ifCond .ne 7, 3) := by decide +kernel
theorem dX7_verdict_92 : decode cX7_verdict 92 = .ok (.sipush 400, 3) := by decide +kernel
theorem dX7_verdict_95 : decode cX7_verdict 95 = .ok (.ireturn, 1) := by decide +kernel
theorem dX7_verdict_96 : decode cX7_verdict 96 = .ok (.aload_n 0, 1) := by decide +kernel
theorem dX7_verdict_97 : decode cX7_verdict 97 = .ok (.aload_n 0, 1) := by decide +kernel
theorem dX7_verdict_98 : decode cX7_verdict 98 = .ok (.getfield 214, 3) := by decide +kernel
theorem dX7_verdict_101 : decode cX7_verdict 101 = .ok (.bipush 47, 2) := by decide +kernel
theorem dX7_verdict_103 : decode cX7_verdict 103 = .ok (.if_icmp .le 7, 3) := by decide +kernel
theorem dX7_verdict_106 : decode cX7_verdict 106 = .ok (.iconst (-1), 1) := by decide +kernel
theorem dX7_verdict_107 : decode cX7_verdict 107 = .ok (.goto 18, 3) := by decide +kernel
theorem dX7_verdict_110 : decode cX7_verdict 110 = .ok (.aload_n 0, 1) := by decide +kernel
theorem dX7_verdict_111 : decode cX7_verdict 111 = .ok (.getfield 9, 3) := by decide +kernel
theorem dX7_verdict_114 : decode cX7_verdict 114 = .ok (.aload_n 0, 1) := by decide +kernel
theorem dX7_verdict_115 : decode cX7_verdict 115 = .ok (.getfield 25, 3) := by decide +kernel
theorem dX7_verdict_118 : decode cX7_verdict 118 = .ok (.aload_n 0, 1) := by decide +kernel
theorem dX7_verdict_119 : decode cX7_verdict 119 = .ok (.getfield 214, 3) := by decide +kernel
theorem dX7_verdict_122 : decode cX7_verdict 122 = .ok (.invokevirtual 217, 3) := by decide +kernel
theorem dX7_verdict_125 : decode cX7_verdict 125 = .ok (.putfield 125, 3) := by decide +kernel
theorem dX7_verdict_128 : decode cX7_verdict 128 = .ok (.aload_n 0, 1) := by decide +kernel
theorem dX7_verdict_129 : decode cX7_verdict 129 = .ok (.getfield 125, 3) := by decide +kernel
theorem dX7_verdict_132 : decode cX7_verdict 132 = .ok (.ifCond .ge 7, 3) := by decide +kernel
theorem dX7_verdict_135 : decode cX7_verdict 135 = .ok (.sipush 404, 3) := by decide +kernel
theorem dX7_verdict_138 : decode cX7_verdict 138 = .ok (.ireturn, 1) := by decide +kernel
theorem dX7_verdict_139 : decode cX7_verdict 139 = .ok (.aload_n 0, 1) := by decide +kernel
theorem dX7_verdict_140 : decode cX7_verdict 140 = .ok (.getfield 9, 3) := by decide +kernel
theorem dX7_verdict_143 : decode cX7_verdict 143 = .ok (.aload_n 0, 1) := by decide +kernel
theorem dX7_verdict_144 : decode cX7_verdict 144 = .ok (.getfield 125, 3) := by decide +kernel
theorem dX7_verdict_147 : decode cX7_verdict 147 = .ok (.invokevirtual 222, 3) := by decide +kernel
theorem dX7_verdict_150 : decode cX7_verdict 150 = .ok (.ifCond .ne 7, 3) := by decide +kernel
theorem dX7_verdict_153 : decode cX7_verdict 153 = .ok (.sipush 500, 3) := by decide +kernel
theorem dX7_verdict_156 : decode cX7_verdict 156 = .ok (.ireturn, 1) := by decide +kernel
theorem dX7_verdict_157 : decode cX7_verdict 157 = .ok (.aload_n 0, 1) := by decide +kernel
theorem dX7_verdict_158 : decode cX7_verdict 158 = .ok (.getfield 116, 3) := by decide +kernel
theorem dX7_verdict_161 : decode cX7_verdict 161 = .ok (.iconst 1, 1) := by decide +kernel
theorem dX7_verdict_162 : decode cX7_verdict 162 = .ok (.if_icmp .ne 16, 3) := by decide +kernel
theorem dX7_verdict_165 : decode cX7_verdict 165 = .ok (.aload_n 0, 1) := by decide +kernel
theorem dX7_verdict_166 : decode cX7_verdict 166 = .ok (.invokevirtual 225, 3) := by decide +kernel
theorem dX7_verdict_169 : decode cX7_verdict 169 = .ok (.ifCond .eq 9, 3) := by decide +kernel
theorem dX7_verdict_172 : decode cX7_verdict 172 = .ok (.sipush 304, 3) := by decide +kernel
theorem dX7_verdict_175 : decode cX7_verdict 175 = .ok (.goto 6, 3) := by decide +kernel
theorem dX7_verdict_178 : decode cX7_verdict 178 = .ok (.sipush 200, 3) := by decide +kernel
theorem dX7_verdict_181 : decode cX7_verdict 181 = .ok (.ireturn, 1) := by decide +kernel
theorem wX7_verdict_L125 {x : GX} {n0 sl0 : Nat} (X : Cx x cX7_verdict RX7 (some .int) n0 sl0 7 152) {out : Int32 × Mm} (hE : Ends x n0 sl0 (some (pI out.1)) out.2) (hn : xn x = 1) (fu : Nat)   (a0 : Nat) (s0 : Option Nat) (s1 : Int32) (M : Mm) (h : fX7_verdict_L125 fu  a0 s0 s1 M = some out) : Gw x M 125 [(0, pR (some a0))] [pI s1, pR s0] := by
  unfold fX7_verdict_L125 at h
  obtain ⟨M1, eM1, h⟩ := bd h
  refine g_putI X (pc := 125) fk_7_18 rfl rfl rfl eM1 tb_274 (Or.inl rfl) dX7_verdict_125 ?_
  refine g_aload_n X (pc := 128) 0 rfl rfl dX7_verdict_128 ?_
  obtain ⟨v2, ev2, h⟩ := bd h
  refine g_getI X (pc := 129) fk_7_18 rfl rfl ev2 tb_274 dX7_verdict_129 ?_
  refine g_if_ge X (pc := 132) (tgt := 139) dX7_verdict_132 (by decide) (fun hc => ?_) (fun hc => ?_)
  · have h := (if_pos hc).symm.trans h
    refine g_aload_n X (pc := 139) 0 rfl rfl dX7_verdict_139 ?_
    obtain ⟨v3, ev3, h⟩ := bd h
    refine g_getR X (pc := 140) fk_7_0 rfl rfl ev3 tb_256 dX7_verdict_140 ?_
    refine g_aload_n X (pc := 143) 0 rfl rfl dX7_verdict_143 ?_
    obtain ⟨v4, ev4, h⟩ := bd h
    refine g_getI X (pc := 144) fk_7_18 rfl rfl ev4 tb_274 dX7_verdict_144 ?_
    obtain ⟨q5, eq5, h⟩ := bd h
    obtain ⟨v7, M6, eM6, h⟩ := b2d h
    refine g_callV X (pc := 147) (M' := M6) (ro := some (pI v7)) (c := 8) rfl (by decide) (as := [pI v4]) (as' := [pI v4]) (st := []) eq5 (ctX8_isWhole _ _ _ _ _ _ fu q5 v4 M1 _ eM6) tb_1375 tb_1372 tb_1373 tb_1374 tb_2 ⟨rfl, hyX8_isWhole⟩ rfl rfl ⟨by decide, by decide⟩ (Nat.le_of_ble_eq_true rfl) dX7_verdict_147 ?_
    refine g_if_ne X (pc := 150) (tgt := 157) dX7_verdict_150 (by decide) (fun hc => ?_) (fun hc => ?_)
    · have h := (if_neg hc).symm.trans h
      refine g_aload_n X (pc := 157) 0 rfl rfl dX7_verdict_157 ?_
      obtain ⟨v8, ev8, h⟩ := bd h
      refine g_getI X (pc := 158) fk_7_13 rfl rfl ev8 tb_269 dX7_verdict_158 ?_
      refine g_iconst X (pc := 161) (v := 1) dX7_verdict_161 (by decide) ?_
      refine g_icmp_ne X (pc := 162) (tgt := 178) dX7_verdict_162 (by decide) (fun hc => ?_) (fun hc => ?_)
      · have h := (if_neg hc).symm.trans h
        refine g_sipush X (pc := 178) (v := 200) dX7_verdict_178 (by decide) ?_
        obtain rfl := Option.some.inj h
        exact g_ireturn X hE dX7_verdict_181
      · have h := (if_pos hc).symm.trans h
        refine g_aload_n X (pc := 165) 0 rfl rfl dX7_verdict_165 ?_
        obtain ⟨q9, eq9, h⟩ := bd h
        obtain ⟨v11, M10, eM10, h⟩ := b2d h
        refine g_callV X (pc := 166) (M' := M10) (ro := some (pI v11)) (c := 7) rfl (by decide) (as := []) (as' := []) (st := []) eq9 (ctX7_isMark _ _ _ _ _ _ fu q9  M6 _ eM10) tb_1391 tb_1388 tb_1390 ts_54 tb_7 ⟨rfl, hyX7_isMark⟩ rfl rfl ⟨by decide, by decide⟩ (Nat.le_of_ble_eq_true rfl) dX7_verdict_166 ?_
        refine g_if_eq X (pc := 169) (tgt := 178) dX7_verdict_169 (by decide) (fun hc => ?_) (fun hc => ?_)
        · have h := (if_pos hc).symm.trans h
          refine g_sipush X (pc := 178) (v := 200) dX7_verdict_178 (by decide) ?_
          obtain rfl := Option.some.inj h
          exact g_ireturn X hE dX7_verdict_181
        · have h := (if_neg hc).symm.trans h
          refine g_sipush X (pc := 172) (v := 304) dX7_verdict_172 (by decide) ?_
          refine g_goto X (pc := 175) (tgt := 181) dX7_verdict_175 (by decide) ?_
          obtain rfl := Option.some.inj h
          exact g_ireturn X hE dX7_verdict_181
    · have h := (if_pos hc).symm.trans h
      refine g_sipush X (pc := 153) (v := 500) dX7_verdict_153 (by decide) ?_
      obtain rfl := Option.some.inj h
      exact g_ireturn X hE dX7_verdict_156
  · have h := (if_neg hc).symm.trans h
    refine g_sipush X (pc := 135) (v := 404) dX7_verdict_135 (by decide) ?_
    obtain rfl := Option.some.inj h
    exact g_ireturn X hE dX7_verdict_138
theorem wX7_verdict_L30 {x : GX} {n0 sl0 : Nat} (X : Cx x cX7_verdict RX7 (some .int) n0 sl0 7 152) {out : Int32 × Mm} (hE : Ends x n0 sl0 (some (pI out.1)) out.2) (hn : xn x = 1) (fu : Nat)   (a0 : Nat)  (M : Mm) (h : fX7_verdict_L30 fu  a0 M = some out) : Gw x M 30 [(0, pR (some a0))] [] := by
  unfold fX7_verdict_L30 at h
  refine g_aload_n X (pc := 30) 0 rfl rfl dX7_verdict_30 ?_
  obtain ⟨v1, ev1, h⟩ := bd h
  refine g_getI X (pc := 31) fk_7_10 rfl rfl ev1 tb_266 dX7_verdict_31 ?_
  refine g_if_le X (pc := 34) (tgt := 41) dX7_verdict_34 (by decide) (fun hc => ?_) (fun hc => ?_)
  · have h := (if_pos hc).symm.trans h
    refine g_aload_n X (pc := 41) 0 rfl rfl dX7_verdict_41 ?_
    obtain ⟨v2, ev2, h⟩ := bd h
    refine g_getI X (pc := 42) fk_7_11 rfl rfl ev2 tb_267 dX7_verdict_42 ?_
    refine g_iconst X (pc := 45) (v := 1) dX7_verdict_45 (by decide) ?_
    refine g_icmp_gt X (pc := 46) (tgt := 56) dX7_verdict_46 (by decide) (fun hc => ?_) (fun hc => ?_)
    · have h := (if_pos hc).symm.trans h
      refine g_sipush X (pc := 56) (v := 400) dX7_verdict_56 (by decide) ?_
      obtain rfl := Option.some.inj h
      exact g_ireturn X hE dX7_verdict_59
    · have h := (if_neg hc).symm.trans h
      refine g_aload_n X (pc := 49) 0 rfl rfl dX7_verdict_49 ?_
      obtain ⟨v3, ev3, h⟩ := bd h
      refine g_getI X (pc := 50) fk_7_12 rfl rfl ev3 tb_268 dX7_verdict_50 ?_
      refine g_if_ge X (pc := 53) (tgt := 60) dX7_verdict_53 (by decide) (fun hc => ?_) (fun hc => ?_)
      · have h := (if_pos hc).symm.trans h
        refine g_aload_n X (pc := 60) 0 rfl rfl dX7_verdict_60 ?_
        obtain ⟨v4, ev4, h⟩ := bd h
        refine g_getI X (pc := 61) fk_7_12 rfl rfl ev4 tb_268 dX7_verdict_61 ?_
        refine g_ldc X (pc := 64) tb_1355 dX7_verdict_64 ?_
        refine g_icmp_le X (pc := 66) (tgt := 73) dX7_verdict_66 (by decide) (fun hc => ?_) (fun hc => ?_)
        · have h := (if_pos hc).symm.trans h
          refine g_aload_n X (pc := 73) 0 rfl rfl dX7_verdict_73 ?_
          obtain ⟨v5, ev5, h⟩ := bd h
          refine g_getI X (pc := 74) fk_7_5 rfl rfl ev5 tb_261 dX7_verdict_74 ?_
          refine g_iconst X (pc := 77) (v := 2) dX7_verdict_77 (by decide) ?_
          refine g_icmp_ne X (pc := 78) (tgt := 85) dX7_verdict_78 (by decide) (fun hc => ?_) (fun hc => ?_)
          · have h := (if_neg hc).symm.trans h
            refine g_aload_n X (pc := 85) 0 rfl rfl dX7_verdict_85 ?_
            obtain ⟨q6, eq6, h⟩ := bd h
            obtain ⟨v8, M7, eM7, h⟩ := b2d h
            refine g_callV X (pc := 86) (M' := M7) (ro := some (pI v8)) (c := 7) rfl (by decide) (as := []) (as' := []) (st := []) eq6 (ctX7_readPath _ _ _ _ _ _ fu q6  M _ eM7) tb_1359 tb_1356 tb_1358 ts_52 tb_7 ⟨rfl, hyX7_readPath⟩ rfl rfl ⟨by decide, by decide⟩ (Nat.le_of_ble_eq_true rfl) dX7_verdict_86 ?_
            refine g_if_ne X (pc := 89) (tgt := 96) dX7_verdict_89 (by decide) (fun hc => ?_) (fun hc => ?_)
            · have h := (if_neg hc).symm.trans h
              refine g_aload_n X (pc := 96) 0 rfl rfl dX7_verdict_96 ?_
              refine g_aload_n X (pc := 97) 0 rfl rfl dX7_verdict_97 ?_
              obtain ⟨v9, ev9, h⟩ := bd h
              refine g_getI X (pc := 98) fk_7_4 rfl rfl ev9 tb_260 dX7_verdict_98 ?_
              refine g_bipush X (pc := 101) (v := 47) dX7_verdict_101 (by decide) ?_
              refine g_icmp_le X (pc := 103) (tgt := 110) dX7_verdict_103 (by decide) (fun hc => ?_) (fun hc => ?_)
              · have h := (if_pos hc).symm.trans h
                refine g_aload_n X (pc := 110) 0 rfl rfl dX7_verdict_110 ?_
                obtain ⟨v10, ev10, h⟩ := bd h
                refine g_getR X (pc := 111) fk_7_0 rfl rfl ev10 tb_256 dX7_verdict_111 ?_
                refine g_aload_n X (pc := 114) 0 rfl rfl dX7_verdict_114 ?_
                obtain ⟨v11, ev11, h⟩ := bd h
                refine g_getR X (pc := 115) fk_7_3 rfl rfl ev11 tb_259 dX7_verdict_115 ?_
                refine g_aload_n X (pc := 118) 0 rfl rfl dX7_verdict_118 ?_
                obtain ⟨v12, ev12, h⟩ := bd h
                refine g_getI X (pc := 119) fk_7_4 rfl rfl ev12 tb_260 dX7_verdict_119 ?_
                obtain ⟨q13, eq13, h⟩ := bd h
                obtain ⟨v15, M14, eM14, h⟩ := b2d h
                refine g_callV X (pc := 122) (M' := M14) (ro := some (pI v15)) (c := 8) rfl (by decide) (as := [pR v11, pI v12]) (as' := [pI v12, pR v11]) (st := [pR (some a0)]) eq13 (ctX8_find _ _ _ _ _ _ fu q13 v11 v12 M7 _ eM14) tb_1371 tb_1368 tb_1369 tb_1370 tb_2 ⟨rfl, hyX8_find⟩ rfl rfl ⟨by decide, by decide⟩ (Nat.le_of_ble_eq_true rfl) dX7_verdict_122 ?_
                exact wX7_verdict_L125 X hE hn fu   a0 (some a0) v15 M14 h
              · have h := (if_neg hc).symm.trans h
                refine g_iconst X (pc := 106) (v := (-1)) dX7_verdict_106 (by decide) ?_
                refine g_goto X (pc := 107) (tgt := 125) dX7_verdict_107 (by decide) ?_
                exact wX7_verdict_L125 X hE hn fu   a0 (some a0) (-1 : Int32) M7 h
            · have h := (if_pos hc).symm.trans h
              refine g_sipush X (pc := 92) (v := 400) dX7_verdict_92 (by decide) ?_
              obtain rfl := Option.some.inj h
              exact g_ireturn X hE dX7_verdict_95
          · have h := (if_pos hc).symm.trans h
            refine g_sipush X (pc := 81) (v := 405) dX7_verdict_81 (by decide) ?_
            obtain rfl := Option.some.inj h
            exact g_ireturn X hE dX7_verdict_84
        · have h := (if_neg hc).symm.trans h
          refine g_sipush X (pc := 69) (v := 413) dX7_verdict_69 (by decide) ?_
          obtain rfl := Option.some.inj h
          exact g_ireturn X hE dX7_verdict_72
      · have h := (if_neg hc).symm.trans h
        refine g_sipush X (pc := 56) (v := 400) dX7_verdict_56 (by decide) ?_
        obtain rfl := Option.some.inj h
        exact g_ireturn X hE dX7_verdict_59
  · have h := (if_neg hc).symm.trans h
    refine g_sipush X (pc := 37) (v := 501) dX7_verdict_37 (by decide) ?_
    obtain rfl := Option.some.inj h
    exact g_ireturn X hE dX7_verdict_40
theorem wX7_verdict {x : GX} {n0 sl0 : Nat} (X : Cx x cX7_verdict RX7 (some .int) n0 sl0 7 152) {out : Int32 × Mm} (hE : Ends x n0 sl0 (some (pI out.1)) out.2) (hn : xn x = 1) (fu : Nat)   (a0 : Nat)  (M : Mm) (h : fX7_verdict fu  a0 M = some out) : Gw x M 0 [(0, pR (some a0))] [] := by
  unfold fX7_verdict at h
  refine g_aload_n X (pc := 0) 0 rfl rfl dX7_verdict_0 ?_
  obtain ⟨v1, ev1, h⟩ := bd h
  refine g_getI X (pc := 1) fk_7_6 rfl rfl ev1 tb_262 dX7_verdict_1 ?_
  refine g_if_eq X (pc := 4) (tgt := 18) dX7_verdict_4 (by decide) (fun hc => ?_) (fun hc => ?_)
  · have h := (if_pos hc).symm.trans h
    refine g_aload_n X (pc := 18) 0 rfl rfl dX7_verdict_18 ?_
    obtain ⟨v2, ev2, h⟩ := bd h
    refine g_getI X (pc := 19) fk_7_9 rfl rfl ev2 tb_265 dX7_verdict_19 ?_
    refine g_iconst X (pc := 22) (v := 1) dX7_verdict_22 (by decide) ?_
    refine g_icmp_eq X (pc := 23) (tgt := 30) dX7_verdict_23 (by decide) (fun hc => ?_) (fun hc => ?_)
    · have h := (if_pos hc).symm.trans h
      exact wX7_verdict_L30 X hE hn fu   a0 M h
    · have h := (if_neg hc).symm.trans h
      refine g_sipush X (pc := 26) (v := 400) dX7_verdict_26 (by decide) ?_
      obtain rfl := Option.some.inj h
      exact g_ireturn X hE dX7_verdict_29
  · have h := (if_neg hc).symm.trans h
    refine g_aload_n X (pc := 7) 0 rfl rfl dX7_verdict_7 ?_
    obtain ⟨v3, ev3, h⟩ := bd h
    refine g_getI X (pc := 8) fk_7_9 rfl rfl ev3 tb_265 dX7_verdict_8 ?_
    refine g_iconst X (pc := 11) (v := 1) dX7_verdict_11 (by decide) ?_
    refine g_icmp_le X (pc := 12) (tgt := 30) dX7_verdict_12 (by decide) (fun hc => ?_) (fun hc => ?_)
    · have h := (if_pos hc).symm.trans h
      exact wX7_verdict_L30 X hE hn fu   a0 M h
    · have h := (if_neg hc).symm.trans h
      refine g_goto X (pc := 15) (tgt := 26) dX7_verdict_15 (by decide) ?_
      refine g_sipush X (pc := 26) (v := 400) dX7_verdict_26 (by decide) ?_
      obtain rfl := Option.some.inj h
      exact g_ireturn X hE dX7_verdict_29
theorem hyX7_verdict : yX7_verdict.cls ≠ "java/lang/invoke/MethodHandle" ∧ yX7_verdict.cls ≠ "java/lang/invoke/VarHandle" ∧ (parseMethodDescriptor yX7_verdict.desc).map (fun d => d.parameters.length) = some 0 := ⟨by decide +kernel, by decide +kernel, by decide +kernel⟩
theorem ctX7_verdict (l : Launch) (E : Nat → Nat) (D : va_G) (dA : Nat → ClassId) (lo : Nat) (H0 : Heap) (fu : Nat) (a0 : Nat) (M : Mm) (out : Int32 × Mm) (h : fX7_verdict fu a0 M = some out) : Ct l E D dA lo H0 yX7_verdict cX7_verdict 1 (some .int) 7 152 [pR (some a0)] M (some (pI out.1)) out.2 := by
  refine ct_of (by decide +kernel) (Nat.le_of_ble_eq_true rfl) ?_
  intro x hl he hd ha ho hh hn hin X hE
  exact wX7_verdict X hE hn fu a0 M h
/-! WebHost$Requests.readHead(I)I -/
def fX7_readHead_L90 (fu : Nat)  (a0 : Nat)  (M : Mm) : Option (Int32 × Mm) :=
    (rc M 7 (some a0)).bind fun q1 =>
    b2 (fX7_verdict fu q1  M) fun v3 M2 =>
    some (v3, M2)
def fX7_readHead_L84 (fu : Nat) (k8 : Nat → Int32 → Int32 → Int32 → Mm → Option (Int32 × Mm)) (a0 : Nat) (a1 : Int32) (a2 : Int32) (a3 : Int32)  (M : Mm) : Option (Int32 × Mm) :=
    k8 a0 a1 a2 (a3 + (1 : Int32)) M
def fX7_readHead_L80 (fu : Nat) (k8 : Nat → Int32 → Int32 → Int32 → Mm → Option (Int32 × Mm)) (a0 : Nat) (a1 : Int32) (a3 : Int32)  (M : Mm) : Option (Int32 × Mm) :=
    fX7_readHead_L84 fu k8 a0 a1 (a3 + (1 : Int32)) a3 M
def fX7_readHead_L8 (fu : Nat)  : Nat → Nat → Int32 → Int32 → Int32 → Mm → Option (Int32 × Mm)
  | 0, _, _, _, _, _ => none
  | n + 1, a0, a1, a2, a3, M =>
    if a1 ≤ a3 then (
    fX7_readHead_L90 fu  a0 M)
    else (
    (gR M 7 450 (some a0)).bind fun v1 =>
    (aL M 100 v1).bind fun v2 =>
    if v2 ≤ a3 then (
    fX7_readHead_L90 fu  a0 M)
    else (
    (gR M 7 450 (some a0)).bind fun v3 =>
    (gA M 100 v3 a3).bind fun v4 =>
    if v4 = (10 : Int32) then (
    (rc M 7 (some a0)).bind fun q5 =>
    b2 (fX7_lineEnd fu q5 a2 a3 M) fun v7 M6 =>
    if v7 ≤ a2 then (
    fX7_readHead_L80 fu (fun b0 b1 b2 b3 M => fX7_readHead_L8 fu  n b0 b1 b2 b3 M) a0 a1 a3 M6)
    else (
    if a2 = 0 then (
    (rc M6 7 (some a0)).bind fun q11 =>
    b2 (fX7_readRequestLine fu q11 v7 M6) fun v13 M12 =>
    if v13 = 0 then (
    some ((400 : Int32), M12))
    else (
    fX7_readHead_L80 fu (fun b0 b1 b2 b3 M => fX7_readHead_L8 fu  n b0 b1 b2 b3 M) a0 a1 a3 M12))
    else (
    (rc M6 7 (some a0)).bind fun q8 =>
    b2 (fX7_readField fu q8 a2 v7 M6) fun v10 M9 =>
    if v10 = 0 then (
    some ((400 : Int32), M9))
    else (
    fX7_readHead_L80 fu (fun b0 b1 b2 b3 M => fX7_readHead_L8 fu  n b0 b1 b2 b3 M) a0 a1 a3 M9))))
    else (
    fX7_readHead_L84 fu (fun b0 b1 b2 b3 M => fX7_readHead_L8 fu  n b0 b1 b2 b3 M) a0 a1 a2 a3 M)))
def fX7_readHead (fu : Nat)  (a0 : Nat) (a1 : Int32)  (M : Mm) : Option (Int32 × Mm) :=
    (rc M 7 (some a0)).bind fun q1 =>
    (fX7_forget fu q1  M).bind fun M2 =>
    fX7_readHead_L8 fu  fu a0 a1 (0 : Int32) (0 : Int32) M2
theorem dX7_readHead_0 : decode cX7_readHead 0 = .ok (.aload_n 0, 1) := by decide +kernel
theorem dX7_readHead_1 : decode cX7_readHead 1 = .ok (.invokevirtual 75, 3) := by decide +kernel
theorem dX7_readHead_4 : decode cX7_readHead 4 = .ok (.iconst 0, 1) := by decide +kernel
theorem dX7_readHead_5 : decode cX7_readHead 5 = .ok (.istore_n 2, 1) := by decide +kernel
theorem dX7_readHead_6 : decode cX7_readHead 6 = .ok (.iconst 0, 1) := by decide +kernel
theorem dX7_readHead_7 : decode cX7_readHead 7 = .ok (.istore_n 3, 1) := by decide +kernel
theorem dX7_readHead_8 : decode cX7_readHead 8 = .ok (.iload_n 3, 1) := by decide +kernel
theorem dX7_readHead_9 : decode cX7_readHead 9 = .ok (.iload_n 1, 1) := by decide +kernel
theorem dX7_readHead_10 : decode cX7_readHead 10 = .ok (.if_icmp .ge 80, 3) := by decide +kernel
theorem dX7_readHead_13 : decode cX7_readHead 13 = .ok (.iload_n 3, 1) := by decide +kernel
theorem dX7_readHead_14 : decode cX7_readHead 14 = .ok (.aload_n 0, 1) := by decide +kernel
theorem dX7_readHead_15 : decode cX7_readHead 15 = .ok (.getfield 21, 3) := by decide +kernel
theorem dX7_readHead_18 : decode cX7_readHead 18 = .ok (.arraylength, 1) := by decide +kernel
theorem dX7_readHead_19 : decode cX7_readHead 19 = .ok (.if_icmp .ge 71, 3) := by decide +kernel
theorem dX7_readHead_22 : decode cX7_readHead 22 = .ok (.aload_n 0, 1) := by decide +kernel
theorem dX7_readHead_23 : decode cX7_readHead 23 = .ok (.getfield 21, 3) := by decide +kernel
theorem dX7_readHead_26 : decode cX7_readHead 26 = .ok (.iload_n 3, 1) := by decide +kernel
theorem dX7_readHead_27 : decode cX7_readHead 27 = .ok (.baload, 1) := by decide +kernel
theorem dX7_readHead_28 : decode cX7_readHead 28 = .ok (.bipush 10, 2) := by decide +kernel
theorem dX7_readHead_30 : decode cX7_readHead 30 = .ok (.if_icmp .eq 6, 3) := by decide +kernel
theorem dX7_readHead_33 : decode cX7_readHead 33 = .ok (.goto 51, 3) := by decide +kernel
theorem dX7_readHead_36 : decode cX7_readHead 36 = .ok (.aload_n 0, 1) := by decide +kernel
theorem dX7_readHead_37 : decode cX7_readHead 37 = .ok (.iload_n 2, 1) := by decide +kernel
theorem dX7_readHead_38 : decode cX7_readHead 38 = .ok (.iload_n 3, 1) := by decide +kernel
theorem dX7_readHead_39 : decode cX7_readHead 39 = .ok (.invokevirtual 94, 3) := by decide +kernel
theorem dX7_readHead_42 : decode cX7_readHead 42 = .ok (.istore 4, 2) := by decide +kernel
theorem dX7_readHead_44 : decode cX7_readHead 44 = .ok (.iload 4, 2) := by decide +kernel
theorem dX7_readHead_46 : decode cX7_readHead 46 = .ok (.iload_n 2, 1) := by decide +kernel
theorem dX7_readHead_47 : decode cX7_readHead 47 = .ok (.if_icmp .le 33, 3) := by decide +kernel
theorem dX7_readHead_50 : decode cX7_readHead 50 = .ok (.iload_n 2, 1) := by decide +kernel
theorem dX7_readHead_51 : decode cX7_readHead 51 = .ok (.ifCond .ne 15, 3) := by decide +kernel
theorem dX7_readHead_54 : decode cX7_readHead 54 = .ok (.aload_n 0, 1) := by decide +kernel
theorem dX7_readHead_55 : decode cX7_readHead 55 = .ok (.iload 4, 2) := by decide +kernel
theorem dX7_readHead_57 : decode cX7_readHead 57 = .ok (.invokevirtual 128, 3) := by decide +kernel
theorem dX7_readHead_60 : decode cX7_readHead 60 = .ok (.ifCond .ne 20, 3) := by decide +kernel
theorem dX7_readHead_63 : decode cX7_readHead 63 = .ok (.goto 13, 3) := by decide +kernel
theorem dX7_readHead_66 : decode cX7_readHead 66 = .ok (.aload_n 0, 1) := by decide +kernel
theorem dX7_readHead_67 : decode cX7_readHead 67 = .ok (.iload_n 2, 1) := by decide +kernel
theorem dX7_readHead_68 : decode cX7_readHead 68 = .ok (.iload 4, 2) := by decide +kernel
theorem dX7_readHead_70 : decode cX7_readHead 70 = .ok (.invokevirtual 131, 3) := by decide +kernel
theorem dX7_readHead_73 : decode cX7_readHead 73 = .ok (.ifCond .ne 7, 3) := by decide +kernel
theorem dX7_readHead_76 : decode cX7_readHead 76 = .ok (.sipush 400, 3) := by decide +kernel
theorem dX7_readHead_79 : decode cX7_readHead 79 = .ok (.ireturn, 1) := by decide +kernel
theorem dX7_readHead_80 : decode cX7_readHead 80 = .ok (.iload_n 3, 1) := by decide +kernel
theorem dX7_readHead_81 : decode cX7_readHead 81 = .ok (.iconst 1, 1) := by decide +kernel
theorem dX7_readHead_82 : decode cX7_readHead 82 = .ok (.iadd, 1) := by decide +kernel
theorem dX7_readHead_83 : decode cX7_readHead 83 = .ok (.istore_n 2, 1) := by decide +kernel
theorem dX7_readHead_84 : decode cX7_readHead 84 = .ok (.iinc 3 1, 3) := by decide +kernel
theorem dX7_readHead_87 : decode cX7_readHead 87 = .ok (.goto (-79), 3) := by decide +kernel
theorem dX7_readHead_90 : decode cX7_readHead 90 = .ok (.aload_n 0, 1) := by decide +kernel
theorem dX7_readHead_91 : decode cX7_readHead 91 = .ok (.invokevirtual 135, 3) := by decide +kernel
theorem dX7_readHead_94 : decode cX7_readHead 94 = .ok (.ireturn, 1) := by decide +kernel
theorem wX7_readHead_L90 {x : GX} {n0 sl0 : Nat} (X : Cx x cX7_readHead RX7 (some .int) n0 sl0 9 206) {out : Int32 × Mm} (hE : Ends x n0 sl0 (some (pI out.1)) out.2) (hn : xn x = 5) (fu : Nat)   (a0 : Nat)  (M : Mm) (h : fX7_readHead_L90 fu  a0 M = some out) : Gw x M 90 [(0, pR (some a0))] [] := by
  unfold fX7_readHead_L90 at h
  refine g_aload_n X (pc := 90) 0 rfl rfl dX7_readHead_90 ?_
  obtain ⟨q1, eq1, h⟩ := bd h
  obtain ⟨v3, M2, eM2, h⟩ := b2d h
  refine g_callV X (pc := 91) (M' := M2) (ro := some (pI v3)) (c := 7) rfl (by decide) (as := []) (as' := []) (st := []) eq1 (ctX7_verdict _ _ _ _ _ _ fu q1  M _ eM2) tb_1354 tb_1351 tb_1353 ts_51 tb_7 ⟨rfl, hyX7_verdict⟩ rfl rfl ⟨by decide, by decide⟩ (Nat.le_of_ble_eq_true rfl) dX7_readHead_91 ?_
  obtain rfl := Option.some.inj h
  exact g_ireturn X hE dX7_readHead_94
theorem wX7_readHead_L84 {x : GX} {n0 sl0 : Nat} (X : Cx x cX7_readHead RX7 (some .int) n0 sl0 9 206) {out : Int32 × Mm} (hE : Ends x n0 sl0 (some (pI out.1)) out.2) (hn : xn x = 5) (fu : Nat) (k8 : Nat → Int32 → Int32 → Int32 → Mm → Option (Int32 × Mm)) (hk8 : ∀ (b0 : Nat) (b1 : Int32) (b2 : Int32) (b3 : Int32)  (M : Mm), k8 b0 b1 b2 b3 M = some out → Gw x M 8 [(0, pR (some b0)), (1, pI b1), (2, pI b2), (3, pI b3)] []) (a0 : Nat) (a1 : Int32) (a2 : Int32) (a3 : Int32)  (M : Mm) (h : fX7_readHead_L84 fu k8 a0 a1 a2 a3 M = some out) : Gw x M 84 [(0, pR (some a0)), (1, pI a1), (2, pI a2), (3, pI a3)] [] := by
  unfold fX7_readHead_L84 at h
  refine g_iinc X (pc := 84) 3 [(3, pI (a3 + (1 : Int32))), (0, pR (some a0)), (1, pI a1), (2, pI a2)] rfl (iinc_e (by decide)) (lt_n hn (by decide)) rfl dX7_readHead_84 ?_
  refine g_goto X (pc := 87) (tgt := 8) dX7_readHead_87 (by decide) ?_
  refine g_sub [1, 2, 3, 0] [(0, pR (some a0)), (1, pI a1), (2, pI a2), (3, pI (a3 + (1 : Int32)))] rfl ?_
  exact hk8 a0 a1 a2 (a3 + (1 : Int32)) M h
theorem wX7_readHead_L80 {x : GX} {n0 sl0 : Nat} (X : Cx x cX7_readHead RX7 (some .int) n0 sl0 9 206) {out : Int32 × Mm} (hE : Ends x n0 sl0 (some (pI out.1)) out.2) (hn : xn x = 5) (fu : Nat) (k8 : Nat → Int32 → Int32 → Int32 → Mm → Option (Int32 × Mm)) (hk8 : ∀ (b0 : Nat) (b1 : Int32) (b2 : Int32) (b3 : Int32)  (M : Mm), k8 b0 b1 b2 b3 M = some out → Gw x M 8 [(0, pR (some b0)), (1, pI b1), (2, pI b2), (3, pI b3)] []) (a0 : Nat) (a1 : Int32) (a3 : Int32)  (M : Mm) (h : fX7_readHead_L80 fu k8 a0 a1 a3 M = some out) : Gw x M 80 [(0, pR (some a0)), (1, pI a1), (3, pI a3)] [] := by
  unfold fX7_readHead_L80 at h
  refine g_iload_n X (pc := 80) 2 rfl rfl dX7_readHead_80 ?_
  refine g_iconst X (pc := 81) (v := 1) dX7_readHead_81 (by decide) ?_
  refine g_iadd X (pc := 82) dX7_readHead_82 ?_
  refine g_istore_n X (pc := 83) [(2, pI (a3 + (1 : Int32))), (0, pR (some a0)), (1, pI a1), (3, pI a3)] rfl (lt_n hn (by decide)) rfl dX7_readHead_83 ?_
  refine g_sub [1, 2, 0, 3] [(0, pR (some a0)), (1, pI a1), (2, pI (a3 + (1 : Int32))), (3, pI a3)] rfl ?_
  exact wX7_readHead_L84 X hE hn fu k8 hk8 a0 a1 (a3 + (1 : Int32)) a3 M h
theorem wX7_readHead_L8 {x : GX} {n0 sl0 : Nat} (X : Cx x cX7_readHead RX7 (some .int) n0 sl0 9 206) {out : Int32 × Mm} (hE : Ends x n0 sl0 (some (pI out.1)) out.2) (hn : xn x = 5) (fu : Nat)   : ∀ (n : Nat) (a0 : Nat) (a1 : Int32) (a2 : Int32) (a3 : Int32)  (M : Mm), fX7_readHead_L8 fu  n a0 a1 a2 a3 M = some out → Gw x M 8 [(0, pR (some a0)), (1, pI a1), (2, pI a2), (3, pI a3)] [] := by
  intro n
  induction n with
  | zero =>
    intro a0 a1 a2 a3 M h
    have h : (none : Option (Int32 × Mm)) = some out := h
    cases h
  | succ n ih =>
    intro a0 a1 a2 a3 M h
    rw [fX7_readHead_L8] at h
    refine g_iload_n X (pc := 8) 3 rfl rfl dX7_readHead_8 ?_
    refine g_iload_n X (pc := 9) 1 rfl rfl dX7_readHead_9 ?_
    refine g_icmp_ge X (pc := 10) (tgt := 90) dX7_readHead_10 (by decide) (fun hc => ?_) (fun hc => ?_)
    · have h := (if_pos hc).symm.trans h
      refine g_sub [0] [(0, pR (some a0))] rfl ?_
      exact wX7_readHead_L90 X hE hn fu   a0 M h
    · have h := (if_neg hc).symm.trans h
      refine g_iload_n X (pc := 13) 3 rfl rfl dX7_readHead_13 ?_
      refine g_aload_n X (pc := 14) 0 rfl rfl dX7_readHead_14 ?_
      obtain ⟨v1, ev1, h⟩ := bd h
      refine g_getR X (pc := 15) fk_7_2 rfl rfl ev1 tb_258 dX7_readHead_15 ?_
      obtain ⟨v2, ev2, h⟩ := bd h
      refine g_alen X (pc := 18) (k := 0) rfl (by decide) ev2 dX7_readHead_18 ?_
      refine g_icmp_ge X (pc := 19) (tgt := 90) dX7_readHead_19 (by decide) (fun hc => ?_) (fun hc => ?_)
      · have h := (if_pos hc).symm.trans h
        refine g_sub [0] [(0, pR (some a0))] rfl ?_
        exact wX7_readHead_L90 X hE hn fu   a0 M h
      · have h := (if_neg hc).symm.trans h
        refine g_aload_n X (pc := 22) 0 rfl rfl dX7_readHead_22 ?_
        obtain ⟨v3, ev3, h⟩ := bd h
        refine g_getR X (pc := 23) fk_7_2 rfl rfl ev3 tb_258 dX7_readHead_23 ?_
        refine g_iload_n X (pc := 26) 3 rfl rfl dX7_readHead_26 ?_
        obtain ⟨v4, ev4, h⟩ := bd h
        refine g_baload X (pc := 27) ev4 dX7_readHead_27 ?_
        refine g_bipush X (pc := 28) (v := 10) dX7_readHead_28 (by decide) ?_
        refine g_icmp_eq X (pc := 30) (tgt := 36) dX7_readHead_30 (by decide) (fun hc => ?_) (fun hc => ?_)
        · have h := (if_pos hc).symm.trans h
          refine g_aload_n X (pc := 36) 0 rfl rfl dX7_readHead_36 ?_
          refine g_iload_n X (pc := 37) 2 rfl rfl dX7_readHead_37 ?_
          refine g_iload_n X (pc := 38) 3 rfl rfl dX7_readHead_38 ?_
          obtain ⟨q5, eq5, h⟩ := bd h
          obtain ⟨v7, M6, eM6, h⟩ := b2d h
          refine g_callV X (pc := 39) (M' := M6) (ro := some (pI v7)) (c := 7) rfl (by decide) (as := [pI a2, pI a3]) (as' := [pI a3, pI a2]) (st := []) eq5 (ctX7_lineEnd _ _ _ _ _ _ fu q5 a2 a3 M _ eM6) tb_1192 tb_1189 tb_1191 ts_41 tb_7 ⟨rfl, hyX7_lineEnd⟩ rfl rfl ⟨by decide, by decide⟩ (Nat.le_of_ble_eq_true rfl) dX7_readHead_39 ?_
          refine g_istore X (pc := 42) [(4, pI v7), (0, pR (some a0)), (1, pI a1), (2, pI a2), (3, pI a3)] (lt_n hn (by decide)) rfl dX7_readHead_42 ?_
          refine g_iload X (pc := 44) 0 rfl dX7_readHead_44 ?_
          refine g_iload_n X (pc := 46) 3 rfl rfl dX7_readHead_46 ?_
          refine g_icmp_le X (pc := 47) (tgt := 80) dX7_readHead_47 (by decide) (fun hc => ?_) (fun hc => ?_)
          · have h := (if_pos hc).symm.trans h
            refine g_sub [1, 2, 4] [(0, pR (some a0)), (1, pI a1), (3, pI a3)] rfl ?_
            exact wX7_readHead_L80 X hE hn fu (fun b0 b1 b2 b3 M => fX7_readHead_L8 fu  n b0 b1 b2 b3 M) ih a0 a1 a3 M6 h
          · have h := (if_neg hc).symm.trans h
            refine g_iload_n X (pc := 50) 3 rfl rfl dX7_readHead_50 ?_
            refine g_if_ne X (pc := 51) (tgt := 66) dX7_readHead_51 (by decide) (fun hc => ?_) (fun hc => ?_)
            · have h := (if_neg hc).symm.trans h
              refine g_aload_n X (pc := 66) 1 rfl rfl dX7_readHead_66 ?_
              refine g_iload_n X (pc := 67) 3 rfl rfl dX7_readHead_67 ?_
              refine g_iload X (pc := 68) 0 rfl dX7_readHead_68 ?_
              obtain ⟨q8, eq8, h⟩ := bd h
              obtain ⟨v10, M9, eM9, h⟩ := b2d h
              refine g_callV X (pc := 70) (M' := M9) (ro := some (pI v10)) (c := 7) rfl (by decide) (as := [pI a2, pI v7]) (as' := [pI v7, pI a2]) (st := []) eq8 (ctX7_readField _ _ _ _ _ _ fu q8 a2 v7 M6 _ eM9) tb_1265 tb_1262 tb_1264 ts_46 tb_7 ⟨rfl, hyX7_readField⟩ rfl rfl ⟨by decide, by decide⟩ (Nat.le_of_ble_eq_true rfl) dX7_readHead_70 ?_
              refine g_if_ne X (pc := 73) (tgt := 80) dX7_readHead_73 (by decide) (fun hc => ?_) (fun hc => ?_)
              · have h := (if_neg hc).symm.trans h
                refine g_sub [1, 2, 4] [(0, pR (some a0)), (1, pI a1), (3, pI a3)] rfl ?_
                exact wX7_readHead_L80 X hE hn fu (fun b0 b1 b2 b3 M => fX7_readHead_L8 fu  n b0 b1 b2 b3 M) ih a0 a1 a3 M9 h
              · have h := (if_pos hc).symm.trans h
                refine g_sipush X (pc := 76) (v := 400) dX7_readHead_76 (by decide) ?_
                obtain rfl := Option.some.inj h
                exact g_ireturn X hE dX7_readHead_79
            · have h := (if_pos hc).symm.trans h
              refine g_aload_n X (pc := 54) 1 rfl rfl dX7_readHead_54 ?_
              refine g_iload X (pc := 55) 0 rfl dX7_readHead_55 ?_
              obtain ⟨q11, eq11, h⟩ := bd h
              obtain ⟨v13, M12, eM12, h⟩ := b2d h
              refine g_callV X (pc := 57) (M' := M12) (ro := some (pI v13)) (c := 7) rfl (by decide) (as := [pI v7]) (as' := [pI v7]) (st := []) eq11 (ctX7_readRequestLine _ _ _ _ _ _ fu q11 v7 M6 _ eM12) tb_1205 tb_1202 tb_1204 ts_44 tb_7 ⟨rfl, hyX7_readRequestLine⟩ rfl rfl ⟨by decide, by decide⟩ (Nat.le_of_ble_eq_true rfl) dX7_readHead_57 ?_
              refine g_if_ne X (pc := 60) (tgt := 80) dX7_readHead_60 (by decide) (fun hc => ?_) (fun hc => ?_)
              · have h := (if_neg hc).symm.trans h
                refine g_sub [1, 2, 4] [(0, pR (some a0)), (1, pI a1), (3, pI a3)] rfl ?_
                exact wX7_readHead_L80 X hE hn fu (fun b0 b1 b2 b3 M => fX7_readHead_L8 fu  n b0 b1 b2 b3 M) ih a0 a1 a3 M12 h
              · have h := (if_pos hc).symm.trans h
                refine g_goto X (pc := 63) (tgt := 76) dX7_readHead_63 (by decide) ?_
                refine g_sipush X (pc := 76) (v := 400) dX7_readHead_76 (by decide) ?_
                obtain rfl := Option.some.inj h
                exact g_ireturn X hE dX7_readHead_79
        · have h := (if_neg hc).symm.trans h
          refine g_goto X (pc := 33) (tgt := 84) dX7_readHead_33 (by decide) ?_
          exact wX7_readHead_L84 X hE hn fu (fun b0 b1 b2 b3 M => fX7_readHead_L8 fu  n b0 b1 b2 b3 M) ih a0 a1 a2 a3 M h
theorem wX7_readHead {x : GX} {n0 sl0 : Nat} (X : Cx x cX7_readHead RX7 (some .int) n0 sl0 9 206) {out : Int32 × Mm} (hE : Ends x n0 sl0 (some (pI out.1)) out.2) (hn : xn x = 5) (fu : Nat)   (a0 : Nat) (a1 : Int32)  (M : Mm) (h : fX7_readHead fu  a0 a1 M = some out) : Gw x M 0 [(0, pR (some a0)), (1, pI a1)] [] := by
  unfold fX7_readHead at h
  refine g_aload_n X (pc := 0) 0 rfl rfl dX7_readHead_0 ?_
  obtain ⟨q1, eq1, h⟩ := bd h
  obtain ⟨M2, eM2, h⟩ := bd h
  refine g_callV X (pc := 1) (M' := M2) (ro := none) (c := 7) rfl (by decide) (as := []) (as' := []) (st := []) eq1 (ctX7_forget _ _ _ _ _ _ fu q1  M _ eM2) tb_1201 tb_1198 tb_1200 ts_43 tb_7 ⟨rfl, hyX7_forget⟩ rfl rfl ⟨by decide, by decide⟩ (Nat.le_of_ble_eq_true rfl) dX7_readHead_1 ?_
  refine g_iconst X (pc := 4) (v := 0) dX7_readHead_4 (by decide) ?_
  refine g_istore_n X (pc := 5) [(2, pI (0 : Int32)), (0, pR (some a0)), (1, pI a1)] rfl (lt_n hn (by decide)) rfl dX7_readHead_5 ?_
  refine g_iconst X (pc := 6) (v := 0) dX7_readHead_6 (by decide) ?_
  refine g_istore_n X (pc := 7) [(3, pI (0 : Int32)), (2, pI (0 : Int32)), (0, pR (some a0)), (1, pI a1)] rfl (lt_n hn (by decide)) rfl dX7_readHead_7 ?_
  refine g_sub [2, 3, 1, 0] [(0, pR (some a0)), (1, pI a1), (2, pI (0 : Int32)), (3, pI (0 : Int32))] rfl ?_
  exact wX7_readHead_L8 X hE hn fu   fu a0 a1 (0 : Int32) (0 : Int32) M2 h
theorem hyX7_readHead : yX7_readHead.cls ≠ "java/lang/invoke/MethodHandle" ∧ yX7_readHead.cls ≠ "java/lang/invoke/VarHandle" ∧ (parseMethodDescriptor yX7_readHead.desc).map (fun d => d.parameters.length) = some 1 := ⟨by decide +kernel, by decide +kernel, by decide +kernel⟩
theorem ctX7_readHead (l : Launch) (E : Nat → Nat) (D : va_G) (dA : Nat → ClassId) (lo : Nat) (H0 : Heap) (fu : Nat) (a0 : Nat) (a1 : Int32) (M : Mm) (out : Int32 × Mm) (h : fX7_readHead fu a0 a1 M = some out) : Ct l E D dA lo H0 yX7_readHead cX7_readHead 5 (some .int) 9 206 [pR (some a0), pI a1] M (some (pI out.1)) out.2 := by
  refine ct_of (by decide +kernel) (Nat.le_of_ble_eq_true rfl) ?_
  intro x hl he hd ha ho hh hn hin X hE
  exact wX7_readHead X hE hn fu a0 a1 M h
/-! WebHost$Requests.isPersistent()Z -/
def fX7_isPersistent (fu : Nat)  (a0 : Nat)  (M : Mm) : Option (Int32 × Mm) :=
    (gI M 7 464 (some a0)).bind fun v1 =>
    if v1 = 0 then (
    (gI M 7 465 (some a0)).bind fun v2 =>
    if v2 = 0 then (
    (gI M 7 454 (some a0)).bind fun v3 =>
    if v3 = 0 then (
    rN .boolean (1 : Int32) M)
    else (
    rN .boolean (0 : Int32) M))
    else (
    rN .boolean (1 : Int32) M))
    else (
    rN .boolean (0 : Int32) M)
theorem dX7_isPersistent_0 : decode cX7_isPersistent 0 = .ok (.aload_n 0, 1) := by decide +kernel
theorem dX7_isPersistent_1 : decode cX7_isPersistent 1 = .ok (.getfield 119, 3) := by decide +kernel
theorem dX7_isPersistent_4 : decode cX7_isPersistent 4 = .ok (.ifCond .ne 21, 3) := by decide +kernel
theorem dX7_isPersistent_7 : decode cX7_isPersistent 7 = .ok (.aload_n 0, 1) := by decide +kernel
theorem dX7_isPersistent_8 : decode cX7_isPersistent 8 = .ok (.getfield 122, 3) := by decide +kernel
theorem dX7_isPersistent_11 : decode cX7_isPersistent 11 = .ok (.ifCond .ne 10, 3) := by decide +kernel
theorem dX7_isPersistent_14 : decode cX7_isPersistent 14 = .ok (.aload_n 0, 1) := by decide +kernel
theorem dX7_isPersistent_15 : decode cX7_isPersistent 15 = .ok (.getfield 104, 3) := by decide +kernel
theorem dX7_isPersistent_18 : decode cX7_isPersistent 18 = .ok (.ifCond .ne 7, 3) := by decide +kernel
theorem dX7_isPersistent_21 : decode cX7_isPersistent 21 = .ok (.iconst 1, 1) := by decide +kernel
theorem dX7_isPersistent_22 : decode cX7_isPersistent 22 = .ok (.goto 4, 3) := by decide +kernel
theorem dX7_isPersistent_25 : decode cX7_isPersistent 25 = .ok (.iconst 0, 1) := by decide +kernel
theorem dX7_isPersistent_26 : decode cX7_isPersistent 26 = .ok (.ireturn, 1) := by decide +kernel
theorem wX7_isPersistent {x : GX} {n0 sl0 : Nat} (X : Cx x cX7_isPersistent RX7 (some .boolean) n0 sl0 0 0) {out : Int32 × Mm} (hE : Ends x n0 sl0 (some (pI out.1)) out.2) (hn : xn x = 1) (fu : Nat)   (a0 : Nat)  (M : Mm) (h : fX7_isPersistent fu  a0 M = some out) : Gw x M 0 [(0, pR (some a0))] [] := by
  unfold fX7_isPersistent at h
  refine g_aload_n X (pc := 0) 0 rfl rfl dX7_isPersistent_0 ?_
  obtain ⟨v1, ev1, h⟩ := bd h
  refine g_getI X (pc := 1) fk_7_16 rfl rfl ev1 tb_272 dX7_isPersistent_1 ?_
  refine g_if_ne X (pc := 4) (tgt := 25) dX7_isPersistent_4 (by decide) (fun hc => ?_) (fun hc => ?_)
  · have h := (if_neg hc).symm.trans h
    refine g_iconst X (pc := 25) (v := 0) dX7_isPersistent_25 (by decide) ?_
    obtain ⟨hz, rfl⟩ := rN_some h
    exact g_nreturn X rfl hz hE dX7_isPersistent_26
  · have h := (if_pos hc).symm.trans h
    refine g_aload_n X (pc := 7) 0 rfl rfl dX7_isPersistent_7 ?_
    obtain ⟨v2, ev2, h⟩ := bd h
    refine g_getI X (pc := 8) fk_7_17 rfl rfl ev2 tb_273 dX7_isPersistent_8 ?_
    refine g_if_ne X (pc := 11) (tgt := 21) dX7_isPersistent_11 (by decide) (fun hc => ?_) (fun hc => ?_)
    · have h := (if_neg hc).symm.trans h
      refine g_iconst X (pc := 21) (v := 1) dX7_isPersistent_21 (by decide) ?_
      refine g_goto X (pc := 22) (tgt := 26) dX7_isPersistent_22 (by decide) ?_
      obtain ⟨hz, rfl⟩ := rN_some h
      exact g_nreturn X rfl hz hE dX7_isPersistent_26
    · have h := (if_pos hc).symm.trans h
      refine g_aload_n X (pc := 14) 0 rfl rfl dX7_isPersistent_14 ?_
      obtain ⟨v3, ev3, h⟩ := bd h
      refine g_getI X (pc := 15) fk_7_6 rfl rfl ev3 tb_262 dX7_isPersistent_15 ?_
      refine g_if_ne X (pc := 18) (tgt := 25) dX7_isPersistent_18 (by decide) (fun hc => ?_) (fun hc => ?_)
      · have h := (if_neg hc).symm.trans h
        refine g_iconst X (pc := 25) (v := 0) dX7_isPersistent_25 (by decide) ?_
        obtain ⟨hz, rfl⟩ := rN_some h
        exact g_nreturn X rfl hz hE dX7_isPersistent_26
      · have h := (if_pos hc).symm.trans h
        refine g_iconst X (pc := 21) (v := 1) dX7_isPersistent_21 (by decide) ?_
        refine g_goto X (pc := 22) (tgt := 26) dX7_isPersistent_22 (by decide) ?_
        obtain ⟨hz, rfl⟩ := rN_some h
        exact g_nreturn X rfl hz hE dX7_isPersistent_26
theorem hyX7_isPersistent : yX7_isPersistent.cls ≠ "java/lang/invoke/MethodHandle" ∧ yX7_isPersistent.cls ≠ "java/lang/invoke/VarHandle" ∧ (parseMethodDescriptor yX7_isPersistent.desc).map (fun d => d.parameters.length) = some 0 := ⟨by decide +kernel, by decide +kernel, by decide +kernel⟩
theorem ctX7_isPersistent (l : Launch) (E : Nat → Nat) (D : va_G) (dA : Nat → ClassId) (lo : Nat) (H0 : Heap) (fu : Nat) (a0 : Nat) (M : Mm) (out : Int32 × Mm) (h : fX7_isPersistent fu a0 M = some out) : Ct l E D dA lo H0 yX7_isPersistent cX7_isPersistent 1 (some .boolean) 0 0 [pR (some a0)] M (some (pI out.1)) out.2 := by
  refine ct_of (by decide +kernel) (Nat.le_of_ble_eq_true rfl) ?_
  intro x hl he hd ha ho hh hn hin X hE
  exact wX7_isPersistent X hE hn fu a0 M h
/-! WebHost$Requests.isBodyLeftOut(I)Z -/
def fX7_isBodyLeftOut (fu : Nat)  (a0 : Int32)  (M : Mm) : Option (Int32 × Mm) :=
    if a0 = (400 : Int32) then (
    rN .boolean (0 : Int32) M)
    else (
    if a0 = (413 : Int32) then (
    rN .boolean (0 : Int32) M)
    else (
    if a0 = (431 : Int32) then (
    rN .boolean (0 : Int32) M)
    else (
    if a0 = (501 : Int32) then (
    rN .boolean (0 : Int32) M)
    else (
    rN .boolean (1 : Int32) M))))
theorem dX7_isBodyLeftOut_0 : decode cX7_isBodyLeftOut 0 = .ok (.iload_n 0, 1) := by decide +kernel
theorem dX7_isBodyLeftOut_1 : decode cX7_isBodyLeftOut 1 = .ok (.sipush 400, 3) := by decide +kernel
theorem dX7_isBodyLeftOut_4 : decode cX7_isBodyLeftOut 4 = .ok (.if_icmp .eq 28, 3) := by decide +kernel
theorem dX7_isBodyLeftOut_7 : decode cX7_isBodyLeftOut 7 = .ok (.iload_n 0, 1) := by decide +kernel
theorem dX7_isBodyLeftOut_8 : decode cX7_isBodyLeftOut 8 = .ok (.sipush 413, 3) := by decide +kernel
theorem dX7_isBodyLeftOut_11 : decode cX7_isBodyLeftOut 11 = .ok (.if_icmp .eq 21, 3) := by decide +kernel
theorem dX7_isBodyLeftOut_14 : decode cX7_isBodyLeftOut 14 = .ok (.iload_n 0, 1) := by decide +kernel
theorem dX7_isBodyLeftOut_15 : decode cX7_isBodyLeftOut 15 = .ok (.sipush 431, 3) := by decide +kernel
theorem dX7_isBodyLeftOut_18 : decode cX7_isBodyLeftOut 18 = .ok (.if_icmp .eq 14, 3) := by decide +kernel
theorem dX7_isBodyLeftOut_21 : decode cX7_isBodyLeftOut 21 = .ok (.iload_n 0, 1) := by decide +kernel
theorem dX7_isBodyLeftOut_22 : decode cX7_isBodyLeftOut 22 = .ok (.sipush 501, 3) := by decide +kernel
theorem dX7_isBodyLeftOut_25 : decode cX7_isBodyLeftOut 25 = .ok (.if_icmp .eq 7, 3) := by decide +kernel
theorem dX7_isBodyLeftOut_28 : decode cX7_isBodyLeftOut 28 = .ok (.iconst 1, 1) := by decide +kernel
theorem dX7_isBodyLeftOut_29 : decode cX7_isBodyLeftOut 29 = .ok (.goto 4, 3) := by decide +kernel
theorem dX7_isBodyLeftOut_32 : decode cX7_isBodyLeftOut 32 = .ok (.iconst 0, 1) := by decide +kernel
theorem dX7_isBodyLeftOut_33 : decode cX7_isBodyLeftOut 33 = .ok (.ireturn, 1) := by decide +kernel
theorem wX7_isBodyLeftOut {x : GX} {n0 sl0 : Nat} (X : Cx x cX7_isBodyLeftOut RX7 (some .boolean) n0 sl0 0 0) {out : Int32 × Mm} (hE : Ends x n0 sl0 (some (pI out.1)) out.2) (hn : xn x = 1) (fu : Nat)   (a0 : Int32)  (M : Mm) (h : fX7_isBodyLeftOut fu  a0 M = some out) : Gw x M 0 [(0, pI a0)] [] := by
  unfold fX7_isBodyLeftOut at h
  refine g_iload_n X (pc := 0) 0 rfl rfl dX7_isBodyLeftOut_0 ?_
  refine g_sipush X (pc := 1) (v := 400) dX7_isBodyLeftOut_1 (by decide) ?_
  refine g_icmp_eq X (pc := 4) (tgt := 32) dX7_isBodyLeftOut_4 (by decide) (fun hc => ?_) (fun hc => ?_)
  · have h := (if_pos hc).symm.trans h
    refine g_iconst X (pc := 32) (v := 0) dX7_isBodyLeftOut_32 (by decide) ?_
    obtain ⟨hz, rfl⟩ := rN_some h
    exact g_nreturn X rfl hz hE dX7_isBodyLeftOut_33
  · have h := (if_neg hc).symm.trans h
    refine g_iload_n X (pc := 7) 0 rfl rfl dX7_isBodyLeftOut_7 ?_
    refine g_sipush X (pc := 8) (v := 413) dX7_isBodyLeftOut_8 (by decide) ?_
    refine g_icmp_eq X (pc := 11) (tgt := 32) dX7_isBodyLeftOut_11 (by decide) (fun hc => ?_) (fun hc => ?_)
    · have h := (if_pos hc).symm.trans h
      refine g_iconst X (pc := 32) (v := 0) dX7_isBodyLeftOut_32 (by decide) ?_
      obtain ⟨hz, rfl⟩ := rN_some h
      exact g_nreturn X rfl hz hE dX7_isBodyLeftOut_33
    · have h := (if_neg hc).symm.trans h
      refine g_iload_n X (pc := 14) 0 rfl rfl dX7_isBodyLeftOut_14 ?_
      refine g_sipush X (pc := 15) (v := 431) dX7_isBodyLeftOut_15 (by decide) ?_
      refine g_icmp_eq X (pc := 18) (tgt := 32) dX7_isBodyLeftOut_18 (by decide) (fun hc => ?_) (fun hc => ?_)
      · have h := (if_pos hc).symm.trans h
        refine g_iconst X (pc := 32) (v := 0) dX7_isBodyLeftOut_32 (by decide) ?_
        obtain ⟨hz, rfl⟩ := rN_some h
        exact g_nreturn X rfl hz hE dX7_isBodyLeftOut_33
      · have h := (if_neg hc).symm.trans h
        refine g_iload_n X (pc := 21) 0 rfl rfl dX7_isBodyLeftOut_21 ?_
        refine g_sipush X (pc := 22) (v := 501) dX7_isBodyLeftOut_22 (by decide) ?_
        refine g_icmp_eq X (pc := 25) (tgt := 32) dX7_isBodyLeftOut_25 (by decide) (fun hc => ?_) (fun hc => ?_)
        · have h := (if_pos hc).symm.trans h
          refine g_iconst X (pc := 32) (v := 0) dX7_isBodyLeftOut_32 (by decide) ?_
          obtain ⟨hz, rfl⟩ := rN_some h
          exact g_nreturn X rfl hz hE dX7_isBodyLeftOut_33
        · have h := (if_neg hc).symm.trans h
          refine g_iconst X (pc := 28) (v := 1) dX7_isBodyLeftOut_28 (by decide) ?_
          refine g_goto X (pc := 29) (tgt := 33) dX7_isBodyLeftOut_29 (by decide) ?_
          obtain ⟨hz, rfl⟩ := rN_some h
          exact g_nreturn X rfl hz hE dX7_isBodyLeftOut_33
theorem hyX7_isBodyLeftOut : yX7_isBodyLeftOut.cls ≠ "java/lang/invoke/MethodHandle" ∧ yX7_isBodyLeftOut.cls ≠ "java/lang/invoke/VarHandle" ∧ (parseMethodDescriptor yX7_isBodyLeftOut.desc).map (fun d => d.parameters.length) = some 1 := ⟨by decide +kernel, by decide +kernel, by decide +kernel⟩
theorem ctX7_isBodyLeftOut (l : Launch) (E : Nat → Nat) (D : va_G) (dA : Nat → ClassId) (lo : Nat) (H0 : Heap) (fu : Nat) (a0 : Int32) (M : Mm) (out : Int32 × Mm) (h : fX7_isBodyLeftOut fu a0 M = some out) : Ct l E D dA lo H0 yX7_isBodyLeftOut cX7_isBodyLeftOut 1 (some .boolean) 0 0 [pI a0] M (some (pI out.1)) out.2 := by
  refine ct_of (by decide +kernel) (Nat.le_of_ble_eq_true rfl) ?_
  intro x hl he hd ha ho hh hn hin X hE
  exact wX7_isBodyLeftOut X hE hn fu a0 M h
/-! WebHost$Requests.phrase(I)Ljava/lang/String; -/
def fX7_phrase (fu : Nat)  (a0 : Int32)  (M : Mm) : Option (Option Nat × Mm) :=
    if a0 = (200 : Int32) then (
    some ((some 14), M))
    else (
    if a0 = (304 : Int32) then (
    some ((some 15), M))
    else (
    if a0 = (400 : Int32) then (
    some ((some 16), M))
    else (
    if a0 = (404 : Int32) then (
    some ((some 17), M))
    else (
    if a0 = (405 : Int32) then (
    some ((some 18), M))
    else (
    if a0 = (413 : Int32) then (
    some ((some 19), M))
    else (
    if a0 = (431 : Int32) then (
    some ((some 20), M))
    else (
    if a0 = (500 : Int32) then (
    some ((some 21), M))
    else (
    some ((some 22), M)))))))))
theorem dX7_phrase_0 : decode cX7_phrase 0 = .ok (.iload_n 0, 1) := by decide +kernel
theorem dX7_phrase_1 : decode cX7_phrase 1 = .ok (.lookupswitch 107 #[(200, 75), (304, 79), (400, 83), (404, 87), (405, 91), (413, 95), (431, 99), (500, 103)], 75) := by decide +kernel
theorem dX7_phrase_76 : decode cX7_phrase 76 = .ok (.ldc_w 311, 3) := by decide +kernel
theorem dX7_phrase_79 : decode cX7_phrase 79 = .ok (.areturn, 1) := by decide +kernel
theorem dX7_phrase_80 : decode cX7_phrase 80 = .ok (.ldc_w 313, 3) := by decide +kernel
theorem dX7_phrase_83 : decode cX7_phrase 83 = .ok (.areturn, 1) := by decide +kernel
theorem dX7_phrase_84 : decode cX7_phrase 84 = .ok (.ldc_w 315, 3) := by decide +kernel
theorem dX7_phrase_87 : decode cX7_phrase 87 = .ok (.areturn, 1) := by decide +kernel
theorem dX7_phrase_88 : decode cX7_phrase 88 = .ok (.ldc_w 317, 3) := by decide +kernel
theorem dX7_phrase_91 : decode cX7_phrase 91 = .ok (.areturn, 1) := by decide +kernel
theorem dX7_phrase_92 : decode cX7_phrase 92 = .ok (.ldc_w 319, 3) := by decide +kernel
theorem dX7_phrase_95 : decode cX7_phrase 95 = .ok (.areturn, 1) := by decide +kernel
theorem dX7_phrase_96 : decode cX7_phrase 96 = .ok (.ldc_w 321, 3) := by decide +kernel
theorem dX7_phrase_99 : decode cX7_phrase 99 = .ok (.areturn, 1) := by decide +kernel
theorem dX7_phrase_100 : decode cX7_phrase 100 = .ok (.ldc_w 323, 3) := by decide +kernel
theorem dX7_phrase_103 : decode cX7_phrase 103 = .ok (.areturn, 1) := by decide +kernel
theorem dX7_phrase_104 : decode cX7_phrase 104 = .ok (.ldc_w 325, 3) := by decide +kernel
theorem dX7_phrase_107 : decode cX7_phrase 107 = .ok (.areturn, 1) := by decide +kernel
theorem dX7_phrase_108 : decode cX7_phrase 108 = .ok (.ldc_w 327, 3) := by decide +kernel
theorem dX7_phrase_111 : decode cX7_phrase 111 = .ok (.areturn, 1) := by decide +kernel
theorem wX7_phrase {x : GX} {n0 sl0 : Nat} (X : Cx x cX7_phrase RX7 (some (.object "java/lang/String")) n0 sl0 0 0) {out : Option Nat × Mm} (hE : Ends x n0 sl0 (some (pR out.1)) out.2) (hn : xn x = 1) (fu : Nat)   (a0 : Int32)  (M : Mm) (h : fX7_phrase fu  a0 M = some out) : Gw x M 0 [(0, pI a0)] [] := by
  unfold fX7_phrase at h
  refine g_iload_n X (pc := 0) 0 rfl rfl dX7_phrase_0 ?_
  by_cases hc0 : a0 = (200 : Int32)
  · have h := (if_pos hc0).symm.trans h
    refine g_look X (pc := 1) (tgt := 76) hc0 dX7_phrase_1 (by decide) rfl (by decide) ?_
    refine g_ldcwS X (pc := 76) (List.mem_of_getElem? (i := 14) rfl) dX7_phrase_76 ?_
    obtain rfl := Option.some.inj h
    exact g_areturn X rfl (Or.inl ⟨_, rfl⟩) hE dX7_phrase_79
  have h := (if_neg hc0).symm.trans h
  by_cases hc1 : a0 = (304 : Int32)
  · have h := (if_pos hc1).symm.trans h
    refine g_look X (pc := 1) (tgt := 80) hc1 dX7_phrase_1 (by decide) rfl (by decide) ?_
    refine g_ldcwS X (pc := 80) (List.mem_of_getElem? (i := 15) rfl) dX7_phrase_80 ?_
    obtain rfl := Option.some.inj h
    exact g_areturn X rfl (Or.inl ⟨_, rfl⟩) hE dX7_phrase_83
  have h := (if_neg hc1).symm.trans h
  by_cases hc2 : a0 = (400 : Int32)
  · have h := (if_pos hc2).symm.trans h
    refine g_look X (pc := 1) (tgt := 84) hc2 dX7_phrase_1 (by decide) rfl (by decide) ?_
    refine g_ldcwS X (pc := 84) (List.mem_of_getElem? (i := 16) rfl) dX7_phrase_84 ?_
    obtain rfl := Option.some.inj h
    exact g_areturn X rfl (Or.inl ⟨_, rfl⟩) hE dX7_phrase_87
  have h := (if_neg hc2).symm.trans h
  by_cases hc3 : a0 = (404 : Int32)
  · have h := (if_pos hc3).symm.trans h
    refine g_look X (pc := 1) (tgt := 88) hc3 dX7_phrase_1 (by decide) rfl (by decide) ?_
    refine g_ldcwS X (pc := 88) (List.mem_of_getElem? (i := 17) rfl) dX7_phrase_88 ?_
    obtain rfl := Option.some.inj h
    exact g_areturn X rfl (Or.inl ⟨_, rfl⟩) hE dX7_phrase_91
  have h := (if_neg hc3).symm.trans h
  by_cases hc4 : a0 = (405 : Int32)
  · have h := (if_pos hc4).symm.trans h
    refine g_look X (pc := 1) (tgt := 92) hc4 dX7_phrase_1 (by decide) rfl (by decide) ?_
    refine g_ldcwS X (pc := 92) (List.mem_of_getElem? (i := 18) rfl) dX7_phrase_92 ?_
    obtain rfl := Option.some.inj h
    exact g_areturn X rfl (Or.inl ⟨_, rfl⟩) hE dX7_phrase_95
  have h := (if_neg hc4).symm.trans h
  by_cases hc5 : a0 = (413 : Int32)
  · have h := (if_pos hc5).symm.trans h
    refine g_look X (pc := 1) (tgt := 96) hc5 dX7_phrase_1 (by decide) rfl (by decide) ?_
    refine g_ldcwS X (pc := 96) (List.mem_of_getElem? (i := 19) rfl) dX7_phrase_96 ?_
    obtain rfl := Option.some.inj h
    exact g_areturn X rfl (Or.inl ⟨_, rfl⟩) hE dX7_phrase_99
  have h := (if_neg hc5).symm.trans h
  by_cases hc6 : a0 = (431 : Int32)
  · have h := (if_pos hc6).symm.trans h
    refine g_look X (pc := 1) (tgt := 100) hc6 dX7_phrase_1 (by decide) rfl (by decide) ?_
    refine g_ldcwS X (pc := 100) (List.mem_of_getElem? (i := 20) rfl) dX7_phrase_100 ?_
    obtain rfl := Option.some.inj h
    exact g_areturn X rfl (Or.inl ⟨_, rfl⟩) hE dX7_phrase_103
  have h := (if_neg hc6).symm.trans h
  by_cases hc7 : a0 = (500 : Int32)
  · have h := (if_pos hc7).symm.trans h
    refine g_look X (pc := 1) (tgt := 104) hc7 dX7_phrase_1 (by decide) rfl (by decide) ?_
    refine g_ldcwS X (pc := 104) (List.mem_of_getElem? (i := 21) rfl) dX7_phrase_104 ?_
    obtain rfl := Option.some.inj h
    exact g_areturn X rfl (Or.inl ⟨_, rfl⟩) hE dX7_phrase_107
  have h := (if_neg hc7).symm.trans h
  refine g_lookup X (pc := 1) (tgt := 108) dX7_phrase_1 (by decide) (lk_cons hc0 (by decide) (lk_cons hc1 (by decide) (lk_cons hc2 (by decide) (lk_cons hc3 (by decide) (lk_cons hc4 (by decide) (lk_cons hc5 (by decide) (lk_cons hc6 (by decide) (lk_cons hc7 (by decide) lk_nil)))))))) (by decide) ?_
  refine g_ldcwS X (pc := 108) (List.mem_of_getElem? (i := 22) rfl) dX7_phrase_108 ?_
  obtain rfl := Option.some.inj h
  exact g_areturn X rfl (Or.inl ⟨_, rfl⟩) hE dX7_phrase_111
theorem hyX7_phrase : yX7_phrase.cls ≠ "java/lang/invoke/MethodHandle" ∧ yX7_phrase.cls ≠ "java/lang/invoke/VarHandle" ∧ (parseMethodDescriptor yX7_phrase.desc).map (fun d => d.parameters.length) = some 1 := ⟨by decide +kernel, by decide +kernel, by decide +kernel⟩
theorem ctX7_phrase (l : Launch) (E : Nat → Nat) (D : va_G) (dA : Nat → ClassId) (lo : Nat) (H0 : Heap) (fu : Nat) (a0 : Int32) (M : Mm) (out : Option Nat × Mm) (h : fX7_phrase fu a0 M = some out) : Ct l E D dA lo H0 yX7_phrase cX7_phrase 1 (some (.object "java/lang/String")) 0 0 [pI a0] M (some (pR out.1)) out.2 := by
  refine ct_of (by decide +kernel) (Nat.le_of_ble_eq_true rfl) ?_
  intro x hl he hd ha ho hh hn hin X hE
  exact wX7_phrase X hE hn fu a0 M h
/-! WebHost$Requests.pathEndsWith(Ljava/lang/String;)Z -/
def fX7_pathEndsWith_L18 (fu : Nat)  : Nat → Nat → Option Nat → Int32 → Int32 → Mm → Option (Int32 × Mm)
  | 0, _, _, _, _, _ => none
  | n + 1, a0, a1, a2, a3, M =>
    (rcS a1).bind fun q1 =>
    b2 (fJ0_length_8abf5 fu q1  M) fun v3 M2 =>
    if v3 ≤ a3 then (
    rN .boolean (1 : Int32) M2)
    else (
    (gR M2 7 451 (some a0)).bind fun v4 =>
    b2 (fX11_one fu  v4 (a2 + a3) M2) fun v6 M5 =>
    (rcS a1).bind fun q7 =>
    b2 (fJ0_charAt_5068e fu q7 a3 M5) fun v9 M8 =>
    if v6 = v9 then (
    fX7_pathEndsWith_L18 fu  n a0 a1 a2 (a3 + (1 : Int32)) M8)
    else (
    rN .boolean (0 : Int32) M8))
def fX7_pathEndsWith (fu : Nat)  (a0 : Nat) (a1 : Option Nat)  (M : Mm) : Option (Int32 × Mm) :=
    (gI M 7 452 (some a0)).bind fun v1 =>
    (rcS a1).bind fun q2 =>
    b2 (fJ0_length_8abf5 fu q2  M) fun v4 M3 =>
    if 0 ≤ (v1 - v4) then (
    fX7_pathEndsWith_L18 fu  fu a0 a1 (v1 - v4) (0 : Int32) M3)
    else (
    rN .boolean (0 : Int32) M3)
theorem dX7_pathEndsWith_0 : decode cX7_pathEndsWith 0 = .ok (.aload_n 0, 1) := by decide +kernel
theorem dX7_pathEndsWith_1 : decode cX7_pathEndsWith 1 = .ok (.getfield 214, 3) := by decide +kernel
theorem dX7_pathEndsWith_4 : decode cX7_pathEndsWith 4 = .ok (.aload_n 1, 1) := by decide +kernel
theorem dX7_pathEndsWith_5 : decode cX7_pathEndsWith 5 = .ok (.invokevirtual 156, 3) := by decide +kernel
theorem dX7_pathEndsWith_8 : decode cX7_pathEndsWith 8 = .ok (.isub, 1) := by decide +kernel
theorem dX7_pathEndsWith_9 : decode cX7_pathEndsWith 9 = .ok (.istore_n 2, 1) := by decide +kernel
theorem dX7_pathEndsWith_10 : decode cX7_pathEndsWith 10 = .ok (.iload_n 2, 1) := by decide +kernel
theorem dX7_pathEndsWith_11 : decode cX7_pathEndsWith 11 = .ok (.ifCond .ge 5, 3) := by decide +kernel
theorem dX7_pathEndsWith_14 : decode cX7_pathEndsWith 14 = .ok (.iconst 0, 1) := by decide +kernel
theorem dX7_pathEndsWith_15 : decode cX7_pathEndsWith 15 = .ok (.ireturn, 1) := by decide +kernel
theorem dX7_pathEndsWith_16 : decode cX7_pathEndsWith 16 = .ok (.iconst 0, 1) := by decide +kernel
theorem dX7_pathEndsWith_17 : decode cX7_pathEndsWith 17 = .ok (.istore_n 3, 1) := by decide +kernel
theorem dX7_pathEndsWith_18 : decode cX7_pathEndsWith 18 = .ok (.iload_n 3, 1) := by decide +kernel
theorem dX7_pathEndsWith_19 : decode cX7_pathEndsWith 19 = .ok (.aload_n 1, 1) := by decide +kernel
theorem dX7_pathEndsWith_20 : decode cX7_pathEndsWith 20 = .ok (.invokevirtual 156, 3) := by decide +kernel
theorem dX7_pathEndsWith_23 : decode cX7_pathEndsWith 23 = .ok (.if_icmp .ge 29, 3) := by decide +kernel
theorem dX7_pathEndsWith_26 : decode cX7_pathEndsWith 26 = .ok (.aload_n 0, 1) := by decide +kernel
theorem dX7_pathEndsWith_27 : decode cX7_pathEndsWith 27 = .ok (.getfield 25, 3) := by decide +kernel
theorem dX7_pathEndsWith_30 : decode cX7_pathEndsWith 30 = .ok (.iload_n 2, 1) := by decide +kernel
theorem dX7_pathEndsWith_31 : decode cX7_pathEndsWith 31 = .ok (.iload_n 3, 1) := by decide +kernel
theorem dX7_pathEndsWith_32 : decode cX7_pathEndsWith 32 = .ok (.iadd, 1) := by decide +kernel
theorem dX7_pathEndsWith_33 : decode cX7_pathEndsWith 33 = .ok (.invokestatic 97, 3) := by decide +kernel
theorem dX7_pathEndsWith_36 : decode cX7_pathEndsWith 36 = .ok (.aload_n 1, 1) := by decide +kernel
theorem dX7_pathEndsWith_37 : decode cX7_pathEndsWith 37 = .ok (.iload_n 3, 1) := by decide +kernel
theorem dX7_pathEndsWith_38 : decode cX7_pathEndsWith 38 = .ok (.invokevirtual 161, 3) := by decide +kernel
theorem dX7_pathEndsWith_41 : decode cX7_pathEndsWith 41 = .ok (.if_icmp .eq 5, 3) := by decide +kernel
theorem dX7_pathEndsWith_44 : decode cX7_pathEndsWith 44 = .ok (.iconst 0, 1) := by decide +kernel
theorem dX7_pathEndsWith_45 : decode cX7_pathEndsWith 45 = .ok (.ireturn, 1) := by decide +kernel
theorem dX7_pathEndsWith_46 : decode cX7_pathEndsWith 46 = .ok (.iinc 3 1, 3) := by decide +kernel
theorem dX7_pathEndsWith_49 : decode cX7_pathEndsWith 49 = .ok (.goto (-31), 3) := by decide +kernel
theorem dX7_pathEndsWith_52 : decode cX7_pathEndsWith 52 = .ok (.iconst 1, 1) := by decide +kernel
theorem dX7_pathEndsWith_53 : decode cX7_pathEndsWith 53 = .ok (.ireturn, 1) := by decide +kernel
theorem wX7_pathEndsWith_L18 {x : GX} {n0 sl0 : Nat} (X : Cx x cX7_pathEndsWith RX7 (some .boolean) n0 sl0 5 106) {out : Int32 × Mm} (hE : Ends x n0 sl0 (some (pI out.1)) out.2) (hn : xn x = 4) (fu : Nat)   : ∀ (n : Nat) (a0 : Nat) (a1 : Option Nat) (a2 : Int32) (a3 : Int32)  (M : Mm), fX7_pathEndsWith_L18 fu  n a0 a1 a2 a3 M = some out → Gw x M 18 [(0, pR (some a0)), (1, pR a1), (2, pI a2), (3, pI a3)] [] := by
  intro n
  induction n with
  | zero =>
    intro a0 a1 a2 a3 M h
    have h : (none : Option (Int32 × Mm)) = some out := h
    cases h
  | succ n ih =>
    intro a0 a1 a2 a3 M h
    rw [fX7_pathEndsWith_L18] at h
    refine g_iload_n X (pc := 18) 3 rfl rfl dX7_pathEndsWith_18 ?_
    refine g_aload_n X (pc := 19) 1 rfl rfl dX7_pathEndsWith_19 ?_
    obtain ⟨q1, eq1, h⟩ := bd h
    obtain ⟨v3, M2, eM2, h⟩ := b2d h
    refine g_callVS X (pc := 20) (M' := M2) (ro := some (pI v3)) (as := []) (as' := []) (st := [pI a3]) eq1 (ctJ0_length_8abf5 _ _ _ _ _ _ fu q1  M _ eM2) tb_1214 tb_1211 tb_1212 tb_1213 tb_21 ⟨rfl, hyJ0_length_8abf5⟩ rfl rfl ⟨by decide, by decide⟩ (Nat.le_of_ble_eq_true rfl) dX7_pathEndsWith_20 ?_
    refine g_icmp_ge X (pc := 23) (tgt := 52) dX7_pathEndsWith_23 (by decide) (fun hc => ?_) (fun hc => ?_)
    · have h := (if_pos hc).symm.trans h
      refine g_iconst X (pc := 52) (v := 1) dX7_pathEndsWith_52 (by decide) ?_
      obtain ⟨hz, rfl⟩ := rN_some h
      exact g_nreturn X rfl hz hE dX7_pathEndsWith_53
    · have h := (if_neg hc).symm.trans h
      refine g_aload_n X (pc := 26) 0 rfl rfl dX7_pathEndsWith_26 ?_
      obtain ⟨v4, ev4, h⟩ := bd h
      refine g_getR X (pc := 27) fk_7_3 rfl rfl ev4 tb_259 dX7_pathEndsWith_27 ?_
      refine g_iload_n X (pc := 30) 2 rfl rfl dX7_pathEndsWith_30 ?_
      refine g_iload_n X (pc := 31) 3 rfl rfl dX7_pathEndsWith_31 ?_
      refine g_iadd X (pc := 32) dX7_pathEndsWith_32 ?_
      obtain ⟨v6, M5, eM5, h⟩ := b2d h
      refine g_callSN X (pc := 33) (M' := M5) (ro := some (pI v6)) (as := [pR v4, pI (a2 + a3)]) (as' := [pI (a2 + a3), pR v4]) (st := []) (ctX11_one _ _ _ _ _ _ fu  v4 (a2 + a3) M2 _ eM5) tb_415 (List.mem_of_getElem? (i := 24) rfl) tb_414 tb_1 hyX11_one rfl rfl ⟨by decide, by decide⟩ (Nat.le_of_ble_eq_true rfl) dX7_pathEndsWith_33 ?_
      refine g_aload_n X (pc := 36) 1 rfl rfl dX7_pathEndsWith_36 ?_
      refine g_iload_n X (pc := 37) 3 rfl rfl dX7_pathEndsWith_37 ?_
      obtain ⟨q7, eq7, h⟩ := bd h
      obtain ⟨v9, M8, eM8, h⟩ := b2d h
      refine g_callVS X (pc := 38) (M' := M8) (ro := some (pI v9)) (as := [pI a3]) (as' := [pI a3]) (st := [pI v6]) eq7 (ctJ0_charAt_5068e _ _ _ _ _ _ fu q7 a3 M5 _ eM8) tb_1224 tb_1221 tb_1222 tb_1223 tb_21 ⟨rfl, hyJ0_charAt_5068e⟩ rfl rfl ⟨by decide, by decide⟩ (Nat.le_of_ble_eq_true rfl) dX7_pathEndsWith_38 ?_
      refine g_icmp_eq X (pc := 41) (tgt := 46) dX7_pathEndsWith_41 (by decide) (fun hc => ?_) (fun hc => ?_)
      · have h := (if_pos hc).symm.trans h
        refine g_iinc X (pc := 46) 3 [(3, pI (a3 + (1 : Int32))), (0, pR (some a0)), (1, pR a1), (2, pI a2)] rfl (iinc_e (by decide)) (lt_n hn (by decide)) rfl dX7_pathEndsWith_46 ?_
        refine g_goto X (pc := 49) (tgt := 18) dX7_pathEndsWith_49 (by decide) ?_
        refine g_sub [1, 2, 3, 0] [(0, pR (some a0)), (1, pR a1), (2, pI a2), (3, pI (a3 + (1 : Int32)))] rfl ?_
        exact ih a0 a1 a2 (a3 + (1 : Int32)) M8 h
      · have h := (if_neg hc).symm.trans h
        refine g_iconst X (pc := 44) (v := 0) dX7_pathEndsWith_44 (by decide) ?_
        obtain ⟨hz, rfl⟩ := rN_some h
        exact g_nreturn X rfl hz hE dX7_pathEndsWith_45
theorem wX7_pathEndsWith {x : GX} {n0 sl0 : Nat} (X : Cx x cX7_pathEndsWith RX7 (some .boolean) n0 sl0 5 106) {out : Int32 × Mm} (hE : Ends x n0 sl0 (some (pI out.1)) out.2) (hn : xn x = 4) (fu : Nat)   (a0 : Nat) (a1 : Option Nat)  (M : Mm) (h : fX7_pathEndsWith fu  a0 a1 M = some out) : Gw x M 0 [(0, pR (some a0)), (1, pR a1)] [] := by
  unfold fX7_pathEndsWith at h
  refine g_aload_n X (pc := 0) 0 rfl rfl dX7_pathEndsWith_0 ?_
  obtain ⟨v1, ev1, h⟩ := bd h
  refine g_getI X (pc := 1) fk_7_4 rfl rfl ev1 tb_260 dX7_pathEndsWith_1 ?_
  refine g_aload_n X (pc := 4) 1 rfl rfl dX7_pathEndsWith_4 ?_
  obtain ⟨q2, eq2, h⟩ := bd h
  obtain ⟨v4, M3, eM3, h⟩ := b2d h
  refine g_callVS X (pc := 5) (M' := M3) (ro := some (pI v4)) (as := []) (as' := []) (st := [pI v1]) eq2 (ctJ0_length_8abf5 _ _ _ _ _ _ fu q2  M _ eM3) tb_1214 tb_1211 tb_1212 tb_1213 tb_21 ⟨rfl, hyJ0_length_8abf5⟩ rfl rfl ⟨by decide, by decide⟩ (Nat.le_of_ble_eq_true rfl) dX7_pathEndsWith_5 ?_
  refine g_isub X (pc := 8) dX7_pathEndsWith_8 ?_
  refine g_istore_n X (pc := 9) [(2, pI (v1 - v4)), (0, pR (some a0)), (1, pR a1)] rfl (lt_n hn (by decide)) rfl dX7_pathEndsWith_9 ?_
  refine g_iload_n X (pc := 10) 0 rfl rfl dX7_pathEndsWith_10 ?_
  refine g_if_ge X (pc := 11) (tgt := 16) dX7_pathEndsWith_11 (by decide) (fun hc => ?_) (fun hc => ?_)
  · have h := (if_pos hc).symm.trans h
    refine g_iconst X (pc := 16) (v := 0) dX7_pathEndsWith_16 (by decide) ?_
    refine g_istore_n X (pc := 17) [(3, pI (0 : Int32)), (2, pI (v1 - v4)), (0, pR (some a0)), (1, pR a1)] rfl (lt_n hn (by decide)) rfl dX7_pathEndsWith_17 ?_
    refine g_sub [2, 3, 1, 0] [(0, pR (some a0)), (1, pR a1), (2, pI (v1 - v4)), (3, pI (0 : Int32))] rfl ?_
    exact wX7_pathEndsWith_L18 X hE hn fu   fu a0 a1 (v1 - v4) (0 : Int32) M3 h
  · have h := (if_neg hc).symm.trans h
    refine g_iconst X (pc := 14) (v := 0) dX7_pathEndsWith_14 (by decide) ?_
    obtain ⟨hz, rfl⟩ := rN_some h
    exact g_nreturn X rfl hz hE dX7_pathEndsWith_15
theorem hyX7_pathEndsWith : yX7_pathEndsWith.cls ≠ "java/lang/invoke/MethodHandle" ∧ yX7_pathEndsWith.cls ≠ "java/lang/invoke/VarHandle" ∧ (parseMethodDescriptor yX7_pathEndsWith.desc).map (fun d => d.parameters.length) = some 1 := ⟨by decide +kernel, by decide +kernel, by decide +kernel⟩
theorem ctX7_pathEndsWith (l : Launch) (E : Nat → Nat) (D : va_G) (dA : Nat → ClassId) (lo : Nat) (H0 : Heap) (fu : Nat) (a0 : Nat) (a1 : Option Nat) (M : Mm) (out : Int32 × Mm) (h : fX7_pathEndsWith fu a0 a1 M = some out) : Ct l E D dA lo H0 yX7_pathEndsWith cX7_pathEndsWith 4 (some .boolean) 5 106 [pR (some a0), pR a1] M (some (pI out.1)) out.2 := by
  refine ct_of (by decide +kernel) (Nat.le_of_ble_eq_true rfl) ?_
  intro x hl he hd ha ho hh hn hin X hE
  exact wX7_pathEndsWith X hE hn fu a0 a1 M h
/-! WebHost$Requests.contentType()Ljava/lang/String; -/
def fX7_contentType (fu : Nat)  (a0 : Nat)  (M : Mm) : Option (Option Nat × Mm) :=
    (rc M 7 (some a0)).bind fun q1 =>
    b2 (fX7_pathEndsWith fu q1 (some 27) M) fun v3 M2 =>
    if v3 = 0 then (
    (rc M2 7 (some a0)).bind fun q4 =>
    b2 (fX7_pathEndsWith fu q4 (some 29) M2) fun v6 M5 =>
    if v6 = 0 then (
    (rc M5 7 (some a0)).bind fun q7 =>
    b2 (fX7_pathEndsWith fu q7 (some 31) M5) fun v9 M8 =>
    if v9 = 0 then (
    (rc M8 7 (some a0)).bind fun q10 =>
    b2 (fX7_pathEndsWith fu q10 (some 33) M8) fun v12 M11 =>
    if v12 = 0 then (
    (rc M11 7 (some a0)).bind fun q13 =>
    b2 (fX7_pathEndsWith fu q13 (some 35) M11) fun v15 M14 =>
    if v15 = 0 then (
    some ((some 37), M14))
    else (
    some ((some 36), M14)))
    else (
    some ((some 34), M11)))
    else (
    some ((some 32), M8)))
    else (
    some ((some 30), M5)))
    else (
    some ((some 28), M2))
theorem dX7_contentType_0 : decode cX7_contentType 0 = .ok (.aload_n 0, 1) := by decide +kernel
theorem dX7_contentType_1 : decode cX7_contentType 1 = .ok (.ldc_w 329, 3) := by decide +kernel
theorem dX7_contentType_4 : decode cX7_contentType 4 = .ok (.invokevirtual 331, 3) := by decide +kernel
theorem dX7_contentType_7 : decode cX7_contentType 7 = .ok (.ifCond .eq 7, 3) := by decide +kernel
theorem dX7_contentType_10 : decode cX7_contentType 10 = .ok (.ldc_w 335, 3) := by decide +kernel
theorem dX7_contentType_13 : decode cX7_contentType 13 = .ok (.areturn, 1) := by decide +kernel
theorem dX7_contentType_14 : decode cX7_contentType 14 = .ok (.aload_n 0, 1) := by decide +kernel
theorem dX7_contentType_15 : decode cX7_contentType 15 = .ok (.ldc_w 337, 3) := by decide +kernel
theorem dX7_contentType_18 : decode cX7_contentType 18 = .ok (.invokevirtual 331, 3) := by decide +kernel
theorem dX7_contentType_21 : decode cX7_contentType 21 = .ok (.ifCond .eq 7, 3) := by decide +kernel
theorem dX7_contentType_24 : decode cX7_contentType 24 = .ok (.ldc_w 339, 3) := by decide +kernel
theorem dX7_contentType_27 : decode cX7_contentType 27 = .ok (.areturn, 1) := by decide +kernel
theorem dX7_contentType_28 : decode cX7_contentType 28 = .ok (.aload_n 0, 1) := by decide +kernel
theorem dX7_contentType_29 : decode cX7_contentType 29 = .ok (.ldc_w 341, 3) := by decide +kernel
theorem dX7_contentType_32 : decode cX7_contentType 32 = .ok (.invokevirtual 331, 3) := by decide +kernel
theorem dX7_contentType_35 : decode cX7_contentType 35 = .ok (.ifCond .eq 7, 3) := by decide +kernel
theorem dX7_contentType_38 : decode cX7_contentType 38 = .ok (.ldc_w 343, 3) := by decide +kernel
theorem dX7_contentType_41 : decode cX7_contentType 41 = .ok (.areturn, 1) := by decide +kernel
theorem dX7_contentType_42 : decode cX7_contentType 42 = .ok (.aload_n 0, 1) := by decide +kernel
theorem dX7_contentType_43 : decode cX7_contentType 43 = .ok (.ldc_w 345, 3) := by decide +kernel
theorem dX7_contentType_46 : decode cX7_contentType 46 = .ok (.invokevirtual 331, 3) := by decide +kernel
theorem dX7_contentType_49 : decode cX7_contentType 49 = .ok (.ifCond .eq 7, 3) := by decide +kernel
theorem dX7_contentType_52 : decode cX7_contentType 52 = .ok (.ldc_w 285, 3) := by decide +kernel
theorem dX7_contentType_55 : decode cX7_contentType 55 = .ok (.areturn, 1) := by decide +kernel
theorem dX7_contentType_56 : decode cX7_contentType 56 = .ok (.aload_n 0, 1) := by decide +kernel
theorem dX7_contentType_57 : decode cX7_contentType 57 = .ok (.ldc_w 347, 3) := by decide +kernel
theorem dX7_contentType_60 : decode cX7_contentType 60 = .ok (.invokevirtual 331, 3) := by decide +kernel
theorem dX7_contentType_63 : decode cX7_contentType 63 = .ok (.ifCond .eq 9, 3) := by decide +kernel
theorem dX7_contentType_66 : decode cX7_contentType 66 = .ok (.ldc_w 349, 3) := by decide +kernel
theorem dX7_contentType_69 : decode cX7_contentType 69 = .ok (.goto 6, 3) := by decide +kernel
theorem dX7_contentType_72 : decode cX7_contentType 72 = .ok (.ldc_w 351, 3) := by decide +kernel
theorem dX7_contentType_75 : decode cX7_contentType 75 = .ok (.areturn, 1) := by decide +kernel
theorem wX7_contentType {x : GX} {n0 sl0 : Nat} (X : Cx x cX7_contentType RX7 (some (.object "java/lang/String")) n0 sl0 6 129) {out : Option Nat × Mm} (hE : Ends x n0 sl0 (some (pR out.1)) out.2) (hn : xn x = 1) (fu : Nat)   (a0 : Nat)  (M : Mm) (h : fX7_contentType fu  a0 M = some out) : Gw x M 0 [(0, pR (some a0))] [] := by
  unfold fX7_contentType at h
  refine g_aload_n X (pc := 0) 0 rfl rfl dX7_contentType_0 ?_
  refine g_ldcwS X (pc := 1) (List.mem_of_getElem? (i := 27) rfl) dX7_contentType_1 ?_
  obtain ⟨q1, eq1, h⟩ := bd h
  obtain ⟨v3, M2, eM2, h⟩ := b2d h
  refine g_callV X (pc := 4) (M' := M2) (ro := some (pI v3)) (c := 7) rfl (by decide) (as := [pR (some 27)]) (as' := [pR (some 27)]) (st := []) eq1 (ctX7_pathEndsWith _ _ _ _ _ _ fu q1 (some 27) M _ eM2) tb_1449 tb_1446 tb_1448 ts_59 tb_7 ⟨rfl, hyX7_pathEndsWith⟩ rfl rfl ⟨by decide, by decide⟩ (Nat.le_of_ble_eq_true rfl) dX7_contentType_4 ?_
  refine g_if_eq X (pc := 7) (tgt := 14) dX7_contentType_7 (by decide) (fun hc => ?_) (fun hc => ?_)
  · have h := (if_pos hc).symm.trans h
    refine g_aload_n X (pc := 14) 0 rfl rfl dX7_contentType_14 ?_
    refine g_ldcwS X (pc := 15) (List.mem_of_getElem? (i := 29) rfl) dX7_contentType_15 ?_
    obtain ⟨q4, eq4, h⟩ := bd h
    obtain ⟨v6, M5, eM5, h⟩ := b2d h
    refine g_callV X (pc := 18) (M' := M5) (ro := some (pI v6)) (c := 7) rfl (by decide) (as := [pR (some 29)]) (as' := [pR (some 29)]) (st := []) eq4 (ctX7_pathEndsWith _ _ _ _ _ _ fu q4 (some 29) M2 _ eM5) tb_1449 tb_1446 tb_1448 ts_59 tb_7 ⟨rfl, hyX7_pathEndsWith⟩ rfl rfl ⟨by decide, by decide⟩ (Nat.le_of_ble_eq_true rfl) dX7_contentType_18 ?_
    refine g_if_eq X (pc := 21) (tgt := 28) dX7_contentType_21 (by decide) (fun hc => ?_) (fun hc => ?_)
    · have h := (if_pos hc).symm.trans h
      refine g_aload_n X (pc := 28) 0 rfl rfl dX7_contentType_28 ?_
      refine g_ldcwS X (pc := 29) (List.mem_of_getElem? (i := 31) rfl) dX7_contentType_29 ?_
      obtain ⟨q7, eq7, h⟩ := bd h
      obtain ⟨v9, M8, eM8, h⟩ := b2d h
      refine g_callV X (pc := 32) (M' := M8) (ro := some (pI v9)) (c := 7) rfl (by decide) (as := [pR (some 31)]) (as' := [pR (some 31)]) (st := []) eq7 (ctX7_pathEndsWith _ _ _ _ _ _ fu q7 (some 31) M5 _ eM8) tb_1449 tb_1446 tb_1448 ts_59 tb_7 ⟨rfl, hyX7_pathEndsWith⟩ rfl rfl ⟨by decide, by decide⟩ (Nat.le_of_ble_eq_true rfl) dX7_contentType_32 ?_
      refine g_if_eq X (pc := 35) (tgt := 42) dX7_contentType_35 (by decide) (fun hc => ?_) (fun hc => ?_)
      · have h := (if_pos hc).symm.trans h
        refine g_aload_n X (pc := 42) 0 rfl rfl dX7_contentType_42 ?_
        refine g_ldcwS X (pc := 43) (List.mem_of_getElem? (i := 33) rfl) dX7_contentType_43 ?_
        obtain ⟨q10, eq10, h⟩ := bd h
        obtain ⟨v12, M11, eM11, h⟩ := b2d h
        refine g_callV X (pc := 46) (M' := M11) (ro := some (pI v12)) (c := 7) rfl (by decide) (as := [pR (some 33)]) (as' := [pR (some 33)]) (st := []) eq10 (ctX7_pathEndsWith _ _ _ _ _ _ fu q10 (some 33) M8 _ eM11) tb_1449 tb_1446 tb_1448 ts_59 tb_7 ⟨rfl, hyX7_pathEndsWith⟩ rfl rfl ⟨by decide, by decide⟩ (Nat.le_of_ble_eq_true rfl) dX7_contentType_46 ?_
        refine g_if_eq X (pc := 49) (tgt := 56) dX7_contentType_49 (by decide) (fun hc => ?_) (fun hc => ?_)
        · have h := (if_pos hc).symm.trans h
          refine g_aload_n X (pc := 56) 0 rfl rfl dX7_contentType_56 ?_
          refine g_ldcwS X (pc := 57) (List.mem_of_getElem? (i := 35) rfl) dX7_contentType_57 ?_
          obtain ⟨q13, eq13, h⟩ := bd h
          obtain ⟨v15, M14, eM14, h⟩ := b2d h
          refine g_callV X (pc := 60) (M' := M14) (ro := some (pI v15)) (c := 7) rfl (by decide) (as := [pR (some 35)]) (as' := [pR (some 35)]) (st := []) eq13 (ctX7_pathEndsWith _ _ _ _ _ _ fu q13 (some 35) M11 _ eM14) tb_1449 tb_1446 tb_1448 ts_59 tb_7 ⟨rfl, hyX7_pathEndsWith⟩ rfl rfl ⟨by decide, by decide⟩ (Nat.le_of_ble_eq_true rfl) dX7_contentType_60 ?_
          refine g_if_eq X (pc := 63) (tgt := 72) dX7_contentType_63 (by decide) (fun hc => ?_) (fun hc => ?_)
          · have h := (if_pos hc).symm.trans h
            refine g_ldcwS X (pc := 72) (List.mem_of_getElem? (i := 37) rfl) dX7_contentType_72 ?_
            obtain rfl := Option.some.inj h
            exact g_areturn X rfl (Or.inl ⟨_, rfl⟩) hE dX7_contentType_75
          · have h := (if_neg hc).symm.trans h
            refine g_ldcwS X (pc := 66) (List.mem_of_getElem? (i := 36) rfl) dX7_contentType_66 ?_
            refine g_goto X (pc := 69) (tgt := 75) dX7_contentType_69 (by decide) ?_
            obtain rfl := Option.some.inj h
            exact g_areturn X rfl (Or.inl ⟨_, rfl⟩) hE dX7_contentType_75
        · have h := (if_neg hc).symm.trans h
          refine g_ldcwS X (pc := 52) (List.mem_of_getElem? (i := 34) rfl) dX7_contentType_52 ?_
          obtain rfl := Option.some.inj h
          exact g_areturn X rfl (Or.inl ⟨_, rfl⟩) hE dX7_contentType_55
      · have h := (if_neg hc).symm.trans h
        refine g_ldcwS X (pc := 38) (List.mem_of_getElem? (i := 32) rfl) dX7_contentType_38 ?_
        obtain rfl := Option.some.inj h
        exact g_areturn X rfl (Or.inl ⟨_, rfl⟩) hE dX7_contentType_41
    · have h := (if_neg hc).symm.trans h
      refine g_ldcwS X (pc := 24) (List.mem_of_getElem? (i := 30) rfl) dX7_contentType_24 ?_
      obtain rfl := Option.some.inj h
      exact g_areturn X rfl (Or.inl ⟨_, rfl⟩) hE dX7_contentType_27
  · have h := (if_neg hc).symm.trans h
    refine g_ldcwS X (pc := 10) (List.mem_of_getElem? (i := 28) rfl) dX7_contentType_10 ?_
    obtain rfl := Option.some.inj h
    exact g_areturn X rfl (Or.inl ⟨_, rfl⟩) hE dX7_contentType_13
theorem hyX7_contentType : yX7_contentType.cls ≠ "java/lang/invoke/MethodHandle" ∧ yX7_contentType.cls ≠ "java/lang/invoke/VarHandle" ∧ (parseMethodDescriptor yX7_contentType.desc).map (fun d => d.parameters.length) = some 0 := ⟨by decide +kernel, by decide +kernel, by decide +kernel⟩
theorem ctX7_contentType (l : Launch) (E : Nat → Nat) (D : va_G) (dA : Nat → ClassId) (lo : Nat) (H0 : Heap) (fu : Nat) (a0 : Nat) (M : Mm) (out : Option Nat × Mm) (h : fX7_contentType fu a0 M = some out) : Ct l E D dA lo H0 yX7_contentType cX7_contentType 1 (some (.object "java/lang/String")) 6 129 [pR (some a0)] M (some (pR out.1)) out.2 := by
  refine ct_of (by decide +kernel) (Nat.le_of_ble_eq_true rfl) ?_
  intro x hl he hd ha ho hh hn hin X hE
  exact wX7_contentType X hE hn fu a0 M h
/-! WebHost$Requests.giveBody(LWebHost$Connection;II)V -/
def fX7_giveBody (fu : Nat)  (a0 : Nat) (a1 : Option Nat) (a2 : Int32) (a3 : Int32)  (M : Mm) : Option (Mm) :=
    if a2 = (200 : Int32) then (
    (gR M 7 448 (some a0)).bind fun v11 =>
    (gI M 7 466 (some a0)).bind fun v12 =>
    (rc M 8 v11).bind fun q13 =>
    b2 (fX8_placeOf fu q13 v12 M) fun v15 M14 =>
    (pF M14 1 75 a1 v15).bind fun M16 =>
    (pF M16 1 76 a1 a3).bind fun M17 =>
    some M17)
    else (
    (rc M 1 a1).bind fun q1 =>
    (fX1_writeNumber fu q1 a2 M).bind fun M2 =>
    (rc M2 1 a1).bind fun q3 =>
    (fX1_write fu q3 (some 24) M2).bind fun M4 =>
    b2 (fX7_phrase fu  a2 M4) fun v6 M5 =>
    (rc M5 1 a1).bind fun q7 =>
    (fX1_write fu q7 v6 M5).bind fun M8 =>
    (rc M8 1 a1).bind fun q9 =>
    (fX1_write fu q9 (some 42) M8).bind fun M10 =>
    some M10)
theorem dX7_giveBody_0 : decode cX7_giveBody 0 = .ok (.iload_n 2, 1) := by decide +kernel
theorem dX7_giveBody_1 : decode cX7_giveBody 1 = .ok (.sipush 200, 3) := by decide +kernel
theorem dX7_giveBody_4 : decode cX7_giveBody 4 = .ok (.if_icmp .ne 24, 3) := by decide +kernel
theorem dX7_giveBody_7 : decode cX7_giveBody 7 = .ok (.aload_n 1, 1) := by decide +kernel
theorem dX7_giveBody_8 : decode cX7_giveBody 8 = .ok (.aload_n 0, 1) := by decide +kernel
theorem dX7_giveBody_9 : decode cX7_giveBody 9 = .ok (.getfield 9, 3) := by decide +kernel
theorem dX7_giveBody_12 : decode cX7_giveBody 12 = .ok (.aload_n 0, 1) := by decide +kernel
theorem dX7_giveBody_13 : decode cX7_giveBody 13 = .ok (.getfield 125, 3) := by decide +kernel
theorem dX7_giveBody_16 : decode cX7_giveBody 16 = .ok (.invokevirtual 302, 3) := by decide +kernel
theorem dX7_giveBody_19 : decode cX7_giveBody 19 = .ok (.putfield 305, 3) := by decide +kernel
theorem dX7_giveBody_22 : decode cX7_giveBody 22 = .ok (.aload_n 1, 1) := by decide +kernel
theorem dX7_giveBody_23 : decode cX7_giveBody 23 = .ok (.iload_n 3, 1) := by decide +kernel
theorem dX7_giveBody_24 : decode cX7_giveBody 24 = .ok (.putfield 308, 3) := by decide +kernel
theorem dX7_giveBody_27 : decode cX7_giveBody 27 = .ok (.return_, 1) := by decide +kernel
theorem dX7_giveBody_28 : decode cX7_giveBody 28 = .ok (.aload_n 1, 1) := by decide +kernel
theorem dX7_giveBody_29 : decode cX7_giveBody 29 = .ok (.iload_n 2, 1) := by decide +kernel
theorem dX7_giveBody_30 : decode cX7_giveBody 30 = .ok (.invokevirtual 272, 3) := by decide +kernel
theorem dX7_giveBody_33 : decode cX7_giveBody 33 = .ok (.aload_n 1, 1) := by decide +kernel
theorem dX7_giveBody_34 : decode cX7_giveBody 34 = .ok (.ldc_w 275, 3) := by decide +kernel
theorem dX7_giveBody_37 : decode cX7_giveBody 37 = .ok (.invokevirtual 268, 3) := by decide +kernel
theorem dX7_giveBody_40 : decode cX7_giveBody 40 = .ok (.aload_n 1, 1) := by decide +kernel
theorem dX7_giveBody_41 : decode cX7_giveBody 41 = .ok (.iload_n 2, 1) := by decide +kernel
theorem dX7_giveBody_42 : decode cX7_giveBody 42 = .ok (.invokestatic 259, 3) := by decide +kernel
theorem dX7_giveBody_45 : decode cX7_giveBody 45 = .ok (.invokevirtual 268, 3) := by decide +kernel
theorem dX7_giveBody_48 : decode cX7_giveBody 48 = .ok (.aload_n 1, 1) := by decide +kernel
theorem dX7_giveBody_49 : decode cX7_giveBody 49 = .ok (.ldc_w 309, 3) := by decide +kernel
theorem dX7_giveBody_52 : decode cX7_giveBody 52 = .ok (.invokevirtual 268, 3) := by decide +kernel
theorem dX7_giveBody_55 : decode cX7_giveBody 55 = .ok (.return_, 1) := by decide +kernel
theorem wX7_giveBody {x : GX} {n0 sl0 : Nat} (X : Cx x cX7_giveBody RX7 none n0 sl0 6 128) {out : Mm} (hE : Ends x n0 sl0 none out) (hn : xn x = 4) (fu : Nat)   (a0 : Nat) (a1 : Option Nat) (a2 : Int32) (a3 : Int32)  (M : Mm) (h : fX7_giveBody fu  a0 a1 a2 a3 M = some out) : Gw x M 0 [(0, pR (some a0)), (1, pR a1), (2, pI a2), (3, pI a3)] [] := by
  unfold fX7_giveBody at h
  refine g_iload_n X (pc := 0) 2 rfl rfl dX7_giveBody_0 ?_
  refine g_sipush X (pc := 1) (v := 200) dX7_giveBody_1 (by decide) ?_
  refine g_icmp_ne X (pc := 4) (tgt := 28) dX7_giveBody_4 (by decide) (fun hc => ?_) (fun hc => ?_)
  · have h := (if_neg hc).symm.trans h
    refine g_aload_n X (pc := 28) 1 rfl rfl dX7_giveBody_28 ?_
    refine g_iload_n X (pc := 29) 2 rfl rfl dX7_giveBody_29 ?_
    obtain ⟨q1, eq1, h⟩ := bd h
    obtain ⟨M2, eM2, h⟩ := bd h
    refine g_callV X (pc := 30) (M' := M2) (ro := none) (c := 1) rfl (by decide) (as := [pI a2]) (as' := [pI a2]) (st := []) eq1 (ctX1_writeNumber _ _ _ _ _ _ fu q1 a2 M _ eM2) tb_1436 tb_1433 tb_1434 tb_1435 tb_18 ⟨rfl, hyX1_writeNumber⟩ rfl rfl ⟨by decide, by decide⟩ (Nat.le_of_ble_eq_true rfl) dX7_giveBody_30 ?_
    refine g_aload_n X (pc := 33) 1 rfl rfl dX7_giveBody_33 ?_
    refine g_ldcwS X (pc := 34) (List.mem_of_getElem? (i := 24) rfl) dX7_giveBody_34 ?_
    obtain ⟨q3, eq3, h⟩ := bd h
    obtain ⟨M4, eM4, h⟩ := bd h
    refine g_callV X (pc := 37) (M' := M4) (ro := none) (c := 1) rfl (by decide) (as := [pR (some 24)]) (as' := [pR (some 24)]) (st := []) eq3 (ctX1_write _ _ _ _ _ _ fu q3 (some 24) M2 _ eM4) tb_1426 tb_1423 tb_1424 tb_1425 tb_18 ⟨rfl, hyX1_write⟩ rfl rfl ⟨by decide, by decide⟩ (Nat.le_of_ble_eq_true rfl) dX7_giveBody_37 ?_
    refine g_aload_n X (pc := 40) 1 rfl rfl dX7_giveBody_40 ?_
    refine g_iload_n X (pc := 41) 2 rfl rfl dX7_giveBody_41 ?_
    obtain ⟨v6, M5, eM5, h⟩ := b2d h
    refine g_callS X (pc := 42) (M' := M5) (ro := some (pR v6)) (as := [pI a2]) (as' := [pI a2]) (st := [pR a1]) (ctX7_phrase _ _ _ _ _ _ fu  a2 M4 _ eM5) tb_1411 tb_1409 tb_1410 tb_7 hyX7_phrase rfl rfl ⟨by decide, by decide⟩ (Nat.le_of_ble_eq_true rfl) dX7_giveBody_42 ?_
    obtain ⟨q7, eq7, h⟩ := bd h
    obtain ⟨M8, eM8, h⟩ := bd h
    refine g_callV X (pc := 45) (M' := M8) (ro := none) (c := 1) rfl (by decide) (as := [pR v6]) (as' := [pR v6]) (st := []) eq7 (ctX1_write _ _ _ _ _ _ fu q7 v6 M5 _ eM8) tb_1426 tb_1423 tb_1424 tb_1425 tb_18 ⟨rfl, hyX1_write⟩ rfl rfl ⟨by decide, by decide⟩ (Nat.le_of_ble_eq_true rfl) dX7_giveBody_45 ?_
    refine g_aload_n X (pc := 48) 1 rfl rfl dX7_giveBody_48 ?_
    refine g_ldcwS X (pc := 49) (List.mem_of_getElem? (i := 42) rfl) dX7_giveBody_49 ?_
    obtain ⟨q9, eq9, h⟩ := bd h
    obtain ⟨M10, eM10, h⟩ := bd h
    refine g_callV X (pc := 52) (M' := M10) (ro := none) (c := 1) rfl (by decide) (as := [pR (some 42)]) (as' := [pR (some 42)]) (st := []) eq9 (ctX1_write _ _ _ _ _ _ fu q9 (some 42) M8 _ eM10) tb_1426 tb_1423 tb_1424 tb_1425 tb_18 ⟨rfl, hyX1_write⟩ rfl rfl ⟨by decide, by decide⟩ (Nat.le_of_ble_eq_true rfl) dX7_giveBody_52 ?_
    obtain rfl := Option.some.inj h
    exact g_return X hE dX7_giveBody_55
  · have h := (if_pos hc).symm.trans h
    refine g_aload_n X (pc := 7) 1 rfl rfl dX7_giveBody_7 ?_
    refine g_aload_n X (pc := 8) 0 rfl rfl dX7_giveBody_8 ?_
    obtain ⟨v11, ev11, h⟩ := bd h
    refine g_getR X (pc := 9) fk_7_0 rfl rfl ev11 tb_256 dX7_giveBody_9 ?_
    refine g_aload_n X (pc := 12) 0 rfl rfl dX7_giveBody_12 ?_
    obtain ⟨v12, ev12, h⟩ := bd h
    refine g_getI X (pc := 13) fk_7_18 rfl rfl ev12 tb_274 dX7_giveBody_13 ?_
    obtain ⟨q13, eq13, h⟩ := bd h
    obtain ⟨v15, M14, eM14, h⟩ := b2d h
    refine g_callV X (pc := 16) (M' := M14) (ro := some (pI v15)) (c := 8) rfl (by decide) (as := [pI v12]) (as' := [pI v12]) (st := [pR a1]) eq13 (ctX8_placeOf _ _ _ _ _ _ fu q13 v12 M _ eM14) tb_1379 tb_1473 tb_1377 tb_1378 tb_2 ⟨rfl, hyX8_placeOf⟩ rfl rfl ⟨by decide, by decide⟩ (Nat.le_of_ble_eq_true rfl) dX7_giveBody_16 ?_
    obtain ⟨M16, eM16, h⟩ := bd h
    refine g_putI X (pc := 19) fk_1_11 rfl rfl rfl eM16 tb_984 (Or.inl rfl) dX7_giveBody_19 ?_
    refine g_aload_n X (pc := 22) 1 rfl rfl dX7_giveBody_22 ?_
    refine g_iload_n X (pc := 23) 3 rfl rfl dX7_giveBody_23 ?_
    obtain ⟨M17, eM17, h⟩ := bd h
    refine g_putI X (pc := 24) fk_1_12 rfl rfl rfl eM17 tb_986 (Or.inl rfl) dX7_giveBody_24 ?_
    obtain rfl := Option.some.inj h
    exact g_return X hE dX7_giveBody_27
theorem hyX7_giveBody : yX7_giveBody.cls ≠ "java/lang/invoke/MethodHandle" ∧ yX7_giveBody.cls ≠ "java/lang/invoke/VarHandle" ∧ (parseMethodDescriptor yX7_giveBody.desc).map (fun d => d.parameters.length) = some 3 := ⟨by decide +kernel, by decide +kernel, by decide +kernel⟩
theorem ctX7_giveBody (l : Launch) (E : Nat → Nat) (D : va_G) (dA : Nat → ClassId) (lo : Nat) (H0 : Heap) (fu : Nat) (a0 : Nat) (a1 : Option Nat) (a2 : Int32) (a3 : Int32) (M : Mm) (out : Mm) (h : fX7_giveBody fu a0 a1 a2 a3 M = some out) : Ct l E D dA lo H0 yX7_giveBody cX7_giveBody 4 none 6 128 [pR (some a0), pR a1, pI a2, pI a3] M none out := by
  refine ct_of (by decide +kernel) (Nat.le_of_ble_eq_true rfl) ?_
  intro x hl he hd ha ho hh hn hin X hE
  exact wX7_giveBody X hE hn fu a0 a1 a2 a3 M h
/-! WebHost$Requests.give(LWebHost$Connection;I)V -/
def fX7_give_L229 (fu : Nat)  (a0 : Nat) (a1 : Option Nat) (a2 : Int32) (a5 : Int32)  (M : Mm) : Option (Mm) :=
    (rc M 1 a1).bind fun q1 =>
    (fX1_write fu q1 (some 41) M).bind fun M2 =>
    if a2 = (304 : Int32) then (
    some M2)
    else (
    (gI M2 7 453 (some a0)).bind fun v3 =>
    if v3 = (1 : Int32) then (
    some M2)
    else (
    (rc M2 7 (some a0)).bind fun q4 =>
    (fX7_giveBody fu q4 a1 a2 a5 M2).bind fun M5 =>
    some M5))
def fX7_give_L215 (fu : Nat)  (a0 : Nat) (a1 : Option Nat) (a2 : Int32) (a5 : Int32)  (M : Mm) : Option (Mm) :=
    (gI M 1 74 a1).bind fun v1 =>
    if v1 = 0 then (
    fX7_give_L229 fu  a0 a1 a2 a5 M)
    else (
    (rc M 1 a1).bind fun q2 =>
    (fX1_write fu q2 (some 40) M).bind fun M3 =>
    fX7_give_L229 fu  a0 a1 a2 a5 M3)
def fX7_give_L201 (fu : Nat)  (a0 : Nat) (a1 : Option Nat) (a2 : Int32) (a5 : Int32)  (M : Mm) : Option (Mm) :=
    if a2 = (405 : Int32) then (
    (rc M 1 a1).bind fun q1 =>
    (fX1_write fu q1 (some 39) M).bind fun M2 =>
    fX7_give_L215 fu  a0 a1 a2 a5 M2)
    else (
    fX7_give_L215 fu  a0 a1 a2 a5 M)
def fX7_give_L179 (fu : Nat)  (a0 : Nat) (a1 : Option Nat) (a2 : Int32) (a5 : Int32)  (M : Mm) : Option (Mm) :=
    (rc M 1 a1).bind fun q1 =>
    (fX1_write fu q1 (some 38) M).bind fun M2 =>
    (gR M2 7 448 (some a0)).bind fun v3 =>
    (gI M2 7 466 (some a0)).bind fun v4 =>
    (rc M2 8 v3).bind fun q5 =>
    b2 (fX8_markOf fu q5 v4 M2) fun v7 M6 =>
    (rc M6 1 a1).bind fun q8 =>
    (fX1_writeMark fu q8 v7 M6).bind fun M9 =>
    fX7_give_L201 fu  a0 a1 a2 a5 M9
def fX7_give_L167 (fu : Nat)  (a0 : Nat) (a1 : Option Nat) (a2 : Int32) (a4 : Int32) (a5 : Int32)  (M : Mm) : Option (Mm) :=
    if a4 = 0 then (
    if a2 = (304 : Int32) then (
    fX7_give_L179 fu  a0 a1 a2 a5 M)
    else (
    fX7_give_L201 fu  a0 a1 a2 a5 M))
    else (
    fX7_give_L179 fu  a0 a1 a2 a5 M)
def fX7_give_L164 (fu : Nat)  (a0 : Nat) (a1 : Option Nat) (a2 : Int32) (a4 : Int32) (a5 : Int32) (s0 : Option Nat) (s1 : Option Nat) (M : Mm) : Option (Mm) :=
    (rc M 1 s0).bind fun q1 =>
    (fX1_write fu q1 s1 M).bind fun M2 =>
    fX7_give_L167 fu  a0 a1 a2 a4 a5 M2
def fX7_give_L95 (fu : Nat)  (a0 : Nat) (a1 : Option Nat) (a2 : Int32) (a3 : Option Nat) (a4 : Int32) (s0 : Int32) (M : Mm) : Option (Mm) :=
    (rc M 1 a1).bind fun q1 =>
    (fX1_write fu q1 (some 23) M).bind fun M2 =>
    (rc M2 1 a1).bind fun q3 =>
    (fX1_writeNumber fu q3 a2 M2).bind fun M4 =>
    (rc M4 1 a1).bind fun q5 =>
    (fX1_write fu q5 (some 24) M4).bind fun M6 =>
    (rc M6 1 a1).bind fun q7 =>
    (fX1_write fu q7 a3 M6).bind fun M8 =>
    if a2 = (304 : Int32) then (
    fX7_give_L167 fu  a0 a1 a2 a4 s0 M8)
    else (
    (rc M8 1 a1).bind fun q9 =>
    (fX1_write fu q9 (some 25) M8).bind fun M10 =>
    (rc M10 1 a1).bind fun q11 =>
    (fX1_writeNumber fu q11 s0 M10).bind fun M12 =>
    (rc M12 1 a1).bind fun q13 =>
    (fX1_write fu q13 (some 26) M12).bind fun M14 =>
    if a4 = 0 then (
    fX7_give_L164 fu  a0 a1 a2 a4 s0 a1 (some 34) M14)
    else (
    (rc M14 7 (some a0)).bind fun q15 =>
    b2 (fX7_contentType fu q15  M14) fun v17 M16 =>
    fX7_give_L164 fu  a0 a1 a2 a4 s0 a1 v17 M16))
def fX7_give_L68 (fu : Nat)  (a0 : Nat) (a1 : Option Nat) (a2 : Int32) (a3 : Option Nat) (s0 : Int32) (M : Mm) : Option (Mm) :=
    if s0 = 0 then (
    (rcS a3).bind fun q1 =>
    b2 (fJ0_length_8abf5 fu q1  M) fun v3 M2 =>
    fX7_give_L95 fu  a0 a1 a2 a3 s0 (v3 + (5 : Int32)) M2)
    else (
    (gR M 7 448 (some a0)).bind fun v4 =>
    (gI M 7 466 (some a0)).bind fun v5 =>
    (rc M 8 v4).bind fun q6 =>
    b2 (fX8_sizeOf fu q6 v5 M) fun v8 M7 =>
    fX7_give_L95 fu  a0 a1 a2 a3 s0 v8 M7)
def fX7_give_L48 (fu : Nat)  (a0 : Nat) (a1 : Option Nat) (a2 : Int32) (s0 : Option Nat) (s1 : Int32) (M : Mm) : Option (Mm) :=
    (pZ M 1 74 s0 s1).bind fun M1 =>
    b2 (fX7_phrase fu  a2 M1) fun v3 M2 =>
    if a2 = (200 : Int32) then (
    fX7_give_L68 fu  a0 a1 a2 v3 (1 : Int32) M2)
    else (
    fX7_give_L68 fu  a0 a1 a2 v3 (0 : Int32) M2)
def fX7_give_L43 (fu : Nat)  (a0 : Nat) (a1 : Option Nat) (a2 : Int32) (s0 : Option Nat) (M : Mm) : Option (Mm) :=
    fX7_give_L48 fu  a0 a1 a2 s0 (1 : Int32) M
def fX7_give (fu : Nat)  (a0 : Nat) (a1 : Option Nat) (a2 : Int32)  (M : Mm) : Option (Mm) :=
    (gR M 7 449 (some a0)).bind fun v1 =>
    (gR M 10 640 v1).bind fun v2 =>
    (gA M 101 v2 (4 : Int32)).bind fun v3 =>
    (pA M 101 v2 (4 : Int32) (v3 + (1 : Int32))).bind fun M4 =>
    (gI M4 1 69 a1).bind fun v5 =>
    (rc M4 1 a1).bind fun q6 =>
    (fX1_clearAnswer fu q6 v5 M4).bind fun M7 =>
    (rc M7 7 (some a0)).bind fun q8 =>
    b2 (fX7_isPersistent fu q8  M7) fun v10 M9 =>
    if v10 = 0 then (
    fX7_give_L43 fu  a0 a1 a2 a1 M9)
    else (
    b2 (fX7_isBodyLeftOut fu  a2 M9) fun v12 M11 =>
    if v12 = 0 then (
    fX7_give_L43 fu  a0 a1 a2 a1 M11)
    else (
    if a2 = (500 : Int32) then (
    fX7_give_L43 fu  a0 a1 a2 a1 M11)
    else (
    fX7_give_L48 fu  a0 a1 a2 a1 (0 : Int32) M11)))
theorem dX7_give_0 : decode cX7_give 0 = .ok (.aload_n 0, 1) := by decide +kernel
theorem dX7_give_1 : decode cX7_give 1 = .ok (.getfield 15, 3) := by decide +kernel
theorem dX7_give_4 : decode cX7_give 4 = .ok (.getfield 244, 3) := by decide +kernel
theorem dX7_give_7 : decode cX7_give 7 = .ok (.iconst 4, 1) := by decide +kernel
theorem dX7_give_8 : decode cX7_give 8 = .ok (.dup2, 1) := by decide +kernel
theorem dX7_give_9 : decode cX7_give 9 = .ok (.iaload, 1) := by decide +kernel
theorem dX7_give_10 : decode cX7_give 10 = .ok (.iconst 1, 1) := by decide +kernel
theorem dX7_give_11 : decode cX7_give 11 = .ok (.iadd, 1) := by decide +kernel
theorem dX7_give_12 : decode cX7_give 12 = .ok (.iastore, 1) := by decide +kernel
theorem dX7_give_13 : decode cX7_give 13 = .ok (.aload_n 1, 1) := by decide +kernel
theorem dX7_give_14 : decode cX7_give 14 = .ok (.aload_n 1, 1) := by decide +kernel
theorem dX7_give_15 : decode cX7_give 15 = .ok (.getfield 250, 3) := by decide +kernel
theorem dX7_give_18 : decode cX7_give 18 = .ok (.invokevirtual 253, 3) := by decide +kernel
theorem dX7_give_21 : decode cX7_give 21 = .ok (.aload_n 1, 1) := by decide +kernel
theorem dX7_give_22 : decode cX7_give 22 = .ok (.aload_n 0, 1) := by decide +kernel
theorem dX7_give_23 : decode cX7_give 23 = .ok (.invokevirtual 256, 3) := by decide +kernel
theorem dX7_give_26 : decode cX7_give 26 = .ok (.ifCond .eq 17, 3) := by decide +kernel
theorem dX7_give_29 : decode cX7_give 29 = .ok (.iload_n 2, 1) := by decide +kernel
theorem dX7_give_30 : decode cX7_give 30 = .ok (.invokestatic 60, 3) := by decide +kernel
theorem dX7_give_33 : decode cX7_give 33 = .ok (.ifCond .eq 10, 3) := by decide +kernel
theorem dX7_give_36 : decode cX7_give 36 = .ok (.iload_n 2, 1) := by decide +kernel
theorem dX7_give_37 : decode cX7_give 37 = .ok (.sipush 500, 3) := by decide +kernel
theorem dX7_give_40 : decode cX7_give 40 = .ok (.if_icmp .ne 7, 3) := by decide +kernel
theorem dX7_give_43 : decode cX7_give 43 = .ok (.iconst 1, 1) := by decide +kernel
theorem dX7_give_44 : decode cX7_give 44 = .ok (.goto 4, 3) := by decide +kernel
theorem dX7_give_47 : decode cX7_give 47 = .ok (.iconst 0, 1) := by decide +kernel
theorem dX7_give_48 : decode cX7_give 48 = .ok (.putfield 81, 3) := by decide +kernel
theorem dX7_give_51 : decode cX7_give 51 = .ok (.iload_n 2, 1) := by decide +kernel
theorem dX7_give_52 : decode cX7_give 52 = .ok (.invokestatic 259, 3) := by decide +kernel
theorem dX7_give_55 : decode cX7_give 55 = .ok (.astore_n 3, 1) := by decide +kernel
theorem dX7_give_56 : decode cX7_give 56 = .ok (.iload_n 2, 1) := by decide +kernel
theorem dX7_give_57 : decode cX7_give 57 = .ok (.sipush 200, 3) := by decide +kernel
theorem dX7_give_60 : decode cX7_give 60 = .ok (.if_icmp .ne 7, 3) := by decide +kernel
theorem dX7_give_63 : decode cX7_give 63 = .ok (.iconst 1, 1) := by decide +kernel
theorem dX7_give_64 : decode cX7_give 64 = .ok (.goto 4, 3) := by decide +kernel
theorem dX7_give_67 : decode cX7_give 67 = .ok (.iconst 0, 1) := by decide +kernel
theorem dX7_give_68 : decode cX7_give 68 = .ok (.istore 4, 2) := by decide +kernel
theorem dX7_give_70 : decode cX7_give 70 = .ok (.iload 4, 2) := by decide +kernel
theorem dX7_give_72 : decode cX7_give 72 = .ok (.ifCond .eq 17, 3) := by decide +kernel
theorem dX7_give_75 : decode cX7_give 75 = .ok (.aload_n 0, 1) := by decide +kernel
theorem dX7_give_76 : decode cX7_give 76 = .ok (.getfield 9, 3) := by decide +kernel
theorem dX7_give_79 : decode cX7_give 79 = .ok (.aload_n 0, 1) := by decide +kernel
theorem dX7_give_80 : decode cX7_give 80 = .ok (.getfield 125, 3) := by decide +kernel
theorem dX7_give_83 : decode cX7_give 83 = .ok (.invokevirtual 263, 3) := by decide +kernel
theorem dX7_give_86 : decode cX7_give 86 = .ok (.goto 9, 3) := by decide +kernel
theorem dX7_give_89 : decode cX7_give 89 = .ok (.aload_n 3, 1) := by decide +kernel
theorem dX7_give_90 : decode cX7_give 90 = .ok (.invokevirtual 156, 3) := by decide +kernel
theorem dX7_give_93 : decode cX7_give 93 = .ok (.iconst 5, 1) := by decide +kernel
theorem dX7_give_94 : decode cX7_give 94 = .ok (.iadd, 1) := by decide +kernel
theorem dX7_give_95 : decode cX7_give 95 = .ok (.istore 5, 2) := by decide +kernel
theorem dX7_give_97 : decode cX7_give 97 = .ok (.aload_n 1, 1) := by decide +kernel
theorem dX7_give_98 : decode cX7_give 98 = .ok (.ldc_w 266, 3) := by decide +kernel
theorem dX7_give_101 : decode cX7_give 101 = .ok (.invokevirtual 268, 3) := by decide +kernel
theorem dX7_give_104 : decode cX7_give 104 = .ok (.aload_n 1, 1) := by decide +kernel
theorem dX7_give_105 : decode cX7_give 105 = .ok (.iload_n 2, 1) := by decide +kernel
theorem dX7_give_106 : decode cX7_give 106 = .ok (.invokevirtual 272, 3) := by decide +kernel
theorem dX7_give_109 : decode cX7_give 109 = .ok (.aload_n 1, 1) := by decide +kernel
theorem dX7_give_110 : decode cX7_give 110 = .ok (.ldc_w 275, 3) := by decide +kernel
theorem dX7_give_113 : decode cX7_give 113 = .ok (.invokevirtual 268, 3) := by decide +kernel
theorem dX7_give_116 : decode cX7_give 116 = .ok (.aload_n 1, 1) := by decide +kernel
theorem dX7_give_117 : decode cX7_give 117 = .ok (.aload_n 3, 1) := by decide +kernel
theorem dX7_give_118 : decode cX7_give 118 = .ok (.invokevirtual 268, 3) := by decide +kernel
theorem dX7_give_121 : decode cX7_give 121 = .ok (.iload_n 2, 1) := by decide +kernel
theorem dX7_give_122 : decode cX7_give 122 = .ok (.sipush 304, 3) := by decide +kernel
theorem dX7_give_125 : decode cX7_give 125 = .ok (.if_icmp .eq 42, 3) := by decide +kernel
theorem dX7_give_128 : decode cX7_give 128 = .ok (.aload_n 1, 1) := by decide +kernel
theorem dX7_give_129 : decode cX7_give 129 = .ok (.ldc_w 277, 3) := by decide +kernel
theorem dX7_give_132 : decode cX7_give 132 = .ok (.invokevirtual 268, 3) := by decide +kernel
theorem dX7_give_135 : decode cX7_give 135 = .ok (.aload_n 1, 1) := by decide +kernel
theorem dX7_give_136 : decode cX7_give 136 = .ok (.iload 5, 2) := by decide +kernel
theorem dX7_give_138 : decode cX7_give 138 = .ok (.invokevirtual 272, 3) := by decide +kernel
theorem dX7_give_141 : decode cX7_give 141 = .ok (.aload_n 1, 1) := by decide +kernel
theorem dX7_give_142 : decode cX7_give 142 = .ok (.ldc_w 279, 3) := by decide +kernel
theorem dX7_give_145 : decode cX7_give 145 = .ok (.invokevirtual 268, 3) := by decide +kernel
theorem dX7_give_148 : decode cX7_give 148 = .ok (.aload_n 1, 1) := by decide +kernel
theorem dX7_give_149 : decode cX7_give 149 = .ok (.iload 4, 2) := by decide +kernel
theorem dX7_give_151 : decode cX7_give 151 = .ok (.ifCond .eq 10, 3) := by decide +kernel
theorem dX7_give_154 : decode cX7_give 154 = .ok (.aload_n 0, 1) := by decide +kernel
theorem dX7_give_155 : decode cX7_give 155 = .ok (.invokevirtual 281, 3) := by decide +kernel
theorem dX7_give_158 : decode cX7_give 158 = .ok (.goto 6, 3) := by decide +kernel
theorem dX7_give_161 : decode cX7_give 161 = .ok (.ldc_w 285, 3) := by decide +kernel
theorem dX7_give_164 : decode cX7_give 164 = .ok (.invokevirtual 268, 3) := by decide +kernel
theorem dX7_give_167 : decode cX7_give 167 = .ok (.iload 4, 2) := by decide +kernel
theorem dX7_give_169 : decode cX7_give 169 = .ok (.ifCond .ne 10, 3) := by decide +kernel
theorem dX7_give_172 : decode cX7_give 172 = .ok (.iload_n 2, 1) := by decide +kernel
theorem dX7_give_173 : decode cX7_give 173 = .ok (.sipush 304, 3) := by decide +kernel
theorem dX7_give_176 : decode cX7_give 176 = .ok (.if_icmp .ne 25, 3) := by decide +kernel
theorem dX7_give_179 : decode cX7_give 179 = .ok (.aload_n 1, 1) := by decide +kernel
theorem dX7_give_180 : decode cX7_give 180 = .ok (.ldc_w 287, 3) := by decide +kernel
theorem dX7_give_183 : decode cX7_give 183 = .ok (.invokevirtual 268, 3) := by decide +kernel
theorem dX7_give_186 : decode cX7_give 186 = .ok (.aload_n 1, 1) := by decide +kernel
theorem dX7_give_187 : decode cX7_give 187 = .ok (.aload_n 0, 1) := by decide +kernel
theorem dX7_give_188 : decode cX7_give 188 = .ok (.getfield 9, 3) := by decide +kernel
theorem dX7_give_191 : decode cX7_give 191 = .ok (.aload_n 0, 1) := by decide +kernel
theorem dX7_give_192 : decode cX7_give 192 = .ok (.getfield 125, 3) := by decide +kernel
theorem dX7_give_195 : decode cX7_give 195 = .ok (.invokevirtual 238, 3) := by decide +kernel
theorem dX7_give_198 : decode cX7_give 198 = .ok (.invokevirtual 289, 3) := by decide +kernel
theorem dX7_give_201 : decode cX7_give 201 = .ok (.iload_n 2, 1) := by decide +kernel
theorem dX7_give_202 : decode cX7_give 202 = .ok (.sipush 405, 3) := by decide +kernel
theorem dX7_give_205 : decode cX7_give 205 = .ok (.if_icmp .ne 10, 3) := by decide +kernel
theorem dX7_give_208 : decode cX7_give 208 = .ok (.aload_n 1, 1) := by decide +kernel
theorem dX7_give_209 : decode cX7_give 209 = .ok (.ldc_w 292, 3) := by decide +kernel
theorem dX7_give_212 : decode cX7_give 212 = .ok (.invokevirtual 268, 3) := by decide +kernel
theorem dX7_give_215 : decode cX7_give 215 = .ok (.aload_n 1, 1) := by decide +kernel
theorem dX7_give_216 : decode cX7_give 216 = .ok (.getfield 81, 3) := by decide +kernel
theorem dX7_give_219 : decode cX7_give 219 = .ok (.ifCond .eq 10, 3) := by decide +kernel
theorem dX7_give_222 : decode cX7_give 222 = .ok (.aload_n 1, 1) := by decide +kernel
theorem dX7_give_223 : decode cX7_give 223 = .ok (.ldc_w 294, 3) := by decide +kernel
theorem dX7_give_226 : decode cX7_give 226 = .ok (.invokevirtual 268, 3) := by decide +kernel
theorem dX7_give_229 : decode cX7_give 229 = .ok (.aload_n 1, 1) := by decide +kernel
theorem dX7_give_230 : decode cX7_give 230 = .ok (.ldc_w 296, 3) := by decide +kernel
theorem dX7_give_233 : decode cX7_give 233 = .ok (.invokevirtual 268, 3) := by decide +kernel
theorem dX7_give_236 : decode cX7_give 236 = .ok (.iload_n 2, 1) := by decide +kernel
theorem dX7_give_237 : decode cX7_give 237 = .ok (.sipush 304, 3) := by decide +kernel
theorem dX7_give_240 : decode cX7_give 240 = .ok (.if_icmp .eq 19, 3) := by decide +kernel
theorem dX7_give_243 : decode cX7_give 243 = .ok (.aload_n 0, 1) := by decide +kernel
theorem dX7_give_244 : decode cX7_give 244 = .ok (.getfield 101, 3) := by decide +kernel
theorem dX7_give_247 : decode cX7_give 247 = .ok (.iconst 1, 1) := by decide +kernel
theorem dX7_give_248 : decode cX7_give 248 = .ok (.if_icmp .eq 11, 3) := by decide +kernel
theorem dX7_give_251 : decode cX7_give 251 = .ok (.aload_n 0, 1) := by decide +kernel
theorem dX7_give_252 : decode cX7_give 252 = .ok (.aload_n 1, 1) := by decide +kernel
theorem dX7_give_253 : decode cX7_give 253 = .ok (.iload_n 2, 1) := by decide +kernel
theorem dX7_give_254 : decode cX7_give 254 = .ok (.iload 5, 2) := by decide +kernel
theorem dX7_give_256 : decode cX7_give 256 = .ok (.invokevirtual 298, 3) := by decide +kernel
theorem dX7_give_259 : decode cX7_give 259 = .ok (.return_, 1) := by decide +kernel
theorem wX7_give_L229 {x : GX} {n0 sl0 : Nat} (X : Cx x cX7_give RX7 none n0 sl0 7 151) {out : Mm} (hE : Ends x n0 sl0 none out) (hn : xn x = 6) (fu : Nat)   (a0 : Nat) (a1 : Option Nat) (a2 : Int32) (a5 : Int32)  (M : Mm) (h : fX7_give_L229 fu  a0 a1 a2 a5 M = some out) : Gw x M 229 [(0, pR (some a0)), (1, pR a1), (2, pI a2), (5, pI a5)] [] := by
  unfold fX7_give_L229 at h
  refine g_aload_n X (pc := 229) 1 rfl rfl dX7_give_229 ?_
  refine g_ldcwS X (pc := 230) (List.mem_of_getElem? (i := 41) rfl) dX7_give_230 ?_
  obtain ⟨q1, eq1, h⟩ := bd h
  obtain ⟨M2, eM2, h⟩ := bd h
  refine g_callV X (pc := 233) (M' := M2) (ro := none) (c := 1) rfl (by decide) (as := [pR (some 41)]) (as' := [pR (some 41)]) (st := []) eq1 (ctX1_write _ _ _ _ _ _ fu q1 (some 41) M _ eM2) tb_1426 tb_1423 tb_1424 tb_1425 tb_18 ⟨rfl, hyX1_write⟩ rfl rfl ⟨by decide, by decide⟩ (Nat.le_of_ble_eq_true rfl) dX7_give_233 ?_
  refine g_iload_n X (pc := 236) 2 rfl rfl dX7_give_236 ?_
  refine g_sipush X (pc := 237) (v := 304) dX7_give_237 (by decide) ?_
  refine g_icmp_eq X (pc := 240) (tgt := 259) dX7_give_240 (by decide) (fun hc => ?_) (fun hc => ?_)
  · have h := (if_pos hc).symm.trans h
    obtain rfl := Option.some.inj h
    exact g_return X hE dX7_give_259
  · have h := (if_neg hc).symm.trans h
    refine g_aload_n X (pc := 243) 0 rfl rfl dX7_give_243 ?_
    obtain ⟨v3, ev3, h⟩ := bd h
    refine g_getI X (pc := 244) fk_7_5 rfl rfl ev3 tb_261 dX7_give_244 ?_
    refine g_iconst X (pc := 247) (v := 1) dX7_give_247 (by decide) ?_
    refine g_icmp_eq X (pc := 248) (tgt := 259) dX7_give_248 (by decide) (fun hc => ?_) (fun hc => ?_)
    · have h := (if_pos hc).symm.trans h
      obtain rfl := Option.some.inj h
      exact g_return X hE dX7_give_259
    · have h := (if_neg hc).symm.trans h
      refine g_aload_n X (pc := 251) 0 rfl rfl dX7_give_251 ?_
      refine g_aload_n X (pc := 252) 1 rfl rfl dX7_give_252 ?_
      refine g_iload_n X (pc := 253) 2 rfl rfl dX7_give_253 ?_
      refine g_iload X (pc := 254) 3 rfl dX7_give_254 ?_
      obtain ⟨q4, eq4, h⟩ := bd h
      obtain ⟨M5, eM5, h⟩ := bd h
      refine g_callV X (pc := 256) (M' := M5) (ro := none) (c := 7) rfl (by decide) (as := [pR a1, pI a2, pI a5]) (as' := [pI a5, pI a2, pR a1]) (st := []) eq4 (ctX7_giveBody _ _ _ _ _ _ fu q4 a1 a2 a5 M2 _ eM5) tb_1472 tb_1469 tb_1471 ts_60 tb_7 ⟨rfl, hyX7_giveBody⟩ rfl rfl ⟨by decide, by decide⟩ (Nat.le_of_ble_eq_true rfl) dX7_give_256 ?_
      obtain rfl := Option.some.inj h
      exact g_return X hE dX7_give_259
theorem wX7_give_L215 {x : GX} {n0 sl0 : Nat} (X : Cx x cX7_give RX7 none n0 sl0 7 151) {out : Mm} (hE : Ends x n0 sl0 none out) (hn : xn x = 6) (fu : Nat)   (a0 : Nat) (a1 : Option Nat) (a2 : Int32) (a5 : Int32)  (M : Mm) (h : fX7_give_L215 fu  a0 a1 a2 a5 M = some out) : Gw x M 215 [(0, pR (some a0)), (1, pR a1), (2, pI a2), (5, pI a5)] [] := by
  unfold fX7_give_L215 at h
  refine g_aload_n X (pc := 215) 1 rfl rfl dX7_give_215 ?_
  obtain ⟨v1, ev1, h⟩ := bd h
  refine g_getI X (pc := 216) fk_1_10 rfl rfl ev1 tb_979 dX7_give_216 ?_
  refine g_if_eq X (pc := 219) (tgt := 229) dX7_give_219 (by decide) (fun hc => ?_) (fun hc => ?_)
  · have h := (if_pos hc).symm.trans h
    exact wX7_give_L229 X hE hn fu   a0 a1 a2 a5 M h
  · have h := (if_neg hc).symm.trans h
    refine g_aload_n X (pc := 222) 1 rfl rfl dX7_give_222 ?_
    refine g_ldcwS X (pc := 223) (List.mem_of_getElem? (i := 40) rfl) dX7_give_223 ?_
    obtain ⟨q2, eq2, h⟩ := bd h
    obtain ⟨M3, eM3, h⟩ := bd h
    refine g_callV X (pc := 226) (M' := M3) (ro := none) (c := 1) rfl (by decide) (as := [pR (some 40)]) (as' := [pR (some 40)]) (st := []) eq2 (ctX1_write _ _ _ _ _ _ fu q2 (some 40) M _ eM3) tb_1426 tb_1423 tb_1424 tb_1425 tb_18 ⟨rfl, hyX1_write⟩ rfl rfl ⟨by decide, by decide⟩ (Nat.le_of_ble_eq_true rfl) dX7_give_226 ?_
    exact wX7_give_L229 X hE hn fu   a0 a1 a2 a5 M3 h
theorem wX7_give_L201 {x : GX} {n0 sl0 : Nat} (X : Cx x cX7_give RX7 none n0 sl0 7 151) {out : Mm} (hE : Ends x n0 sl0 none out) (hn : xn x = 6) (fu : Nat)   (a0 : Nat) (a1 : Option Nat) (a2 : Int32) (a5 : Int32)  (M : Mm) (h : fX7_give_L201 fu  a0 a1 a2 a5 M = some out) : Gw x M 201 [(0, pR (some a0)), (1, pR a1), (2, pI a2), (5, pI a5)] [] := by
  unfold fX7_give_L201 at h
  refine g_iload_n X (pc := 201) 2 rfl rfl dX7_give_201 ?_
  refine g_sipush X (pc := 202) (v := 405) dX7_give_202 (by decide) ?_
  refine g_icmp_ne X (pc := 205) (tgt := 215) dX7_give_205 (by decide) (fun hc => ?_) (fun hc => ?_)
  · have h := (if_neg hc).symm.trans h
    exact wX7_give_L215 X hE hn fu   a0 a1 a2 a5 M h
  · have h := (if_pos hc).symm.trans h
    refine g_aload_n X (pc := 208) 1 rfl rfl dX7_give_208 ?_
    refine g_ldcwS X (pc := 209) (List.mem_of_getElem? (i := 39) rfl) dX7_give_209 ?_
    obtain ⟨q1, eq1, h⟩ := bd h
    obtain ⟨M2, eM2, h⟩ := bd h
    refine g_callV X (pc := 212) (M' := M2) (ro := none) (c := 1) rfl (by decide) (as := [pR (some 39)]) (as' := [pR (some 39)]) (st := []) eq1 (ctX1_write _ _ _ _ _ _ fu q1 (some 39) M _ eM2) tb_1426 tb_1423 tb_1424 tb_1425 tb_18 ⟨rfl, hyX1_write⟩ rfl rfl ⟨by decide, by decide⟩ (Nat.le_of_ble_eq_true rfl) dX7_give_212 ?_
    exact wX7_give_L215 X hE hn fu   a0 a1 a2 a5 M2 h
theorem wX7_give_L179 {x : GX} {n0 sl0 : Nat} (X : Cx x cX7_give RX7 none n0 sl0 7 151) {out : Mm} (hE : Ends x n0 sl0 none out) (hn : xn x = 6) (fu : Nat)   (a0 : Nat) (a1 : Option Nat) (a2 : Int32) (a5 : Int32)  (M : Mm) (h : fX7_give_L179 fu  a0 a1 a2 a5 M = some out) : Gw x M 179 [(0, pR (some a0)), (1, pR a1), (2, pI a2), (5, pI a5)] [] := by
  unfold fX7_give_L179 at h
  refine g_aload_n X (pc := 179) 1 rfl rfl dX7_give_179 ?_
  refine g_ldcwS X (pc := 180) (List.mem_of_getElem? (i := 38) rfl) dX7_give_180 ?_
  obtain ⟨q1, eq1, h⟩ := bd h
  obtain ⟨M2, eM2, h⟩ := bd h
  refine g_callV X (pc := 183) (M' := M2) (ro := none) (c := 1) rfl (by decide) (as := [pR (some 38)]) (as' := [pR (some 38)]) (st := []) eq1 (ctX1_write _ _ _ _ _ _ fu q1 (some 38) M _ eM2) tb_1426 tb_1423 tb_1424 tb_1425 tb_18 ⟨rfl, hyX1_write⟩ rfl rfl ⟨by decide, by decide⟩ (Nat.le_of_ble_eq_true rfl) dX7_give_183 ?_
  refine g_aload_n X (pc := 186) 1 rfl rfl dX7_give_186 ?_
  refine g_aload_n X (pc := 187) 0 rfl rfl dX7_give_187 ?_
  obtain ⟨v3, ev3, h⟩ := bd h
  refine g_getR X (pc := 188) fk_7_0 rfl rfl ev3 tb_256 dX7_give_188 ?_
  refine g_aload_n X (pc := 191) 0 rfl rfl dX7_give_191 ?_
  obtain ⟨v4, ev4, h⟩ := bd h
  refine g_getI X (pc := 192) fk_7_18 rfl rfl ev4 tb_274 dX7_give_192 ?_
  obtain ⟨q5, eq5, h⟩ := bd h
  obtain ⟨v7, M6, eM6, h⟩ := b2d h
  refine g_callV X (pc := 195) (M' := M6) (ro := some (pI v7)) (c := 8) rfl (by decide) (as := [pI v4]) (as' := [pI v4]) (st := [pR a1]) eq5 (ctX8_markOf _ _ _ _ _ _ fu q5 v4 M2 _ eM6) tb_1387 tb_1393 tb_1385 tb_1386 tb_2 ⟨rfl, hyX8_markOf⟩ rfl rfl ⟨by decide, by decide⟩ (Nat.le_of_ble_eq_true rfl) dX7_give_195 ?_
  obtain ⟨q8, eq8, h⟩ := bd h
  obtain ⟨M9, eM9, h⟩ := bd h
  refine g_callV X (pc := 198) (M' := M9) (ro := none) (c := 1) rfl (by decide) (as := [pI v7]) (as' := [pI v7]) (st := []) eq8 (ctX1_writeMark _ _ _ _ _ _ fu q8 v7 M6 _ eM9) tb_1464 tb_1461 tb_1462 tb_1463 tb_18 ⟨rfl, hyX1_writeMark⟩ rfl rfl ⟨by decide, by decide⟩ (Nat.le_of_ble_eq_true rfl) dX7_give_198 ?_
  exact wX7_give_L201 X hE hn fu   a0 a1 a2 a5 M9 h
theorem wX7_give_L167 {x : GX} {n0 sl0 : Nat} (X : Cx x cX7_give RX7 none n0 sl0 7 151) {out : Mm} (hE : Ends x n0 sl0 none out) (hn : xn x = 6) (fu : Nat)   (a0 : Nat) (a1 : Option Nat) (a2 : Int32) (a4 : Int32) (a5 : Int32)  (M : Mm) (h : fX7_give_L167 fu  a0 a1 a2 a4 a5 M = some out) : Gw x M 167 [(0, pR (some a0)), (1, pR a1), (2, pI a2), (4, pI a4), (5, pI a5)] [] := by
  unfold fX7_give_L167 at h
  refine g_iload X (pc := 167) 3 rfl dX7_give_167 ?_
  refine g_if_ne X (pc := 169) (tgt := 179) dX7_give_169 (by decide) (fun hc => ?_) (fun hc => ?_)
  · have h := (if_neg hc).symm.trans h
    refine g_sub [0, 1, 2, 4] [(0, pR (some a0)), (1, pR a1), (2, pI a2), (5, pI a5)] rfl ?_
    exact wX7_give_L179 X hE hn fu   a0 a1 a2 a5 M h
  · have h := (if_pos hc).symm.trans h
    refine g_iload_n X (pc := 172) 2 rfl rfl dX7_give_172 ?_
    refine g_sipush X (pc := 173) (v := 304) dX7_give_173 (by decide) ?_
    refine g_icmp_ne X (pc := 176) (tgt := 201) dX7_give_176 (by decide) (fun hc => ?_) (fun hc => ?_)
    · have h := (if_neg hc).symm.trans h
      refine g_sub [0, 1, 2, 4] [(0, pR (some a0)), (1, pR a1), (2, pI a2), (5, pI a5)] rfl ?_
      exact wX7_give_L201 X hE hn fu   a0 a1 a2 a5 M h
    · have h := (if_pos hc).symm.trans h
      refine g_sub [0, 1, 2, 4] [(0, pR (some a0)), (1, pR a1), (2, pI a2), (5, pI a5)] rfl ?_
      exact wX7_give_L179 X hE hn fu   a0 a1 a2 a5 M h
theorem wX7_give_L164 {x : GX} {n0 sl0 : Nat} (X : Cx x cX7_give RX7 none n0 sl0 7 151) {out : Mm} (hE : Ends x n0 sl0 none out) (hn : xn x = 6) (fu : Nat)   (a0 : Nat) (a1 : Option Nat) (a2 : Int32) (a4 : Int32) (a5 : Int32) (s0 : Option Nat) (s1 : Option Nat) (M : Mm) (h : fX7_give_L164 fu  a0 a1 a2 a4 a5 s0 s1 M = some out) : Gw x M 164 [(0, pR (some a0)), (1, pR a1), (2, pI a2), (4, pI a4), (5, pI a5)] [pR s1, pR s0] := by
  unfold fX7_give_L164 at h
  obtain ⟨q1, eq1, h⟩ := bd h
  obtain ⟨M2, eM2, h⟩ := bd h
  refine g_callV X (pc := 164) (M' := M2) (ro := none) (c := 1) rfl (by decide) (as := [pR s1]) (as' := [pR s1]) (st := []) eq1 (ctX1_write _ _ _ _ _ _ fu q1 s1 M _ eM2) tb_1426 tb_1423 tb_1424 tb_1425 tb_18 ⟨rfl, hyX1_write⟩ rfl rfl ⟨by decide, by decide⟩ (Nat.le_of_ble_eq_true rfl) dX7_give_164 ?_
  exact wX7_give_L167 X hE hn fu   a0 a1 a2 a4 a5 M2 h
theorem wX7_give_L95 {x : GX} {n0 sl0 : Nat} (X : Cx x cX7_give RX7 none n0 sl0 7 151) {out : Mm} (hE : Ends x n0 sl0 none out) (hn : xn x = 6) (fu : Nat)   (a0 : Nat) (a1 : Option Nat) (a2 : Int32) (a3 : Option Nat) (a4 : Int32) (s0 : Int32) (M : Mm) (h : fX7_give_L95 fu  a0 a1 a2 a3 a4 s0 M = some out) : Gw x M 95 [(0, pR (some a0)), (1, pR a1), (2, pI a2), (3, pR a3), (4, pI a4)] [pI s0] := by
  unfold fX7_give_L95 at h
  refine g_istore X (pc := 95) [(5, pI s0), (0, pR (some a0)), (1, pR a1), (2, pI a2), (3, pR a3), (4, pI a4)] (lt_n hn (by decide)) rfl dX7_give_95 ?_
  refine g_aload_n X (pc := 97) 2 rfl rfl dX7_give_97 ?_
  refine g_ldcwS X (pc := 98) (List.mem_of_getElem? (i := 23) rfl) dX7_give_98 ?_
  obtain ⟨q1, eq1, h⟩ := bd h
  obtain ⟨M2, eM2, h⟩ := bd h
  refine g_callV X (pc := 101) (M' := M2) (ro := none) (c := 1) rfl (by decide) (as := [pR (some 23)]) (as' := [pR (some 23)]) (st := []) eq1 (ctX1_write _ _ _ _ _ _ fu q1 (some 23) M _ eM2) tb_1426 tb_1423 tb_1424 tb_1425 tb_18 ⟨rfl, hyX1_write⟩ rfl rfl ⟨by decide, by decide⟩ (Nat.le_of_ble_eq_true rfl) dX7_give_101 ?_
  refine g_aload_n X (pc := 104) 2 rfl rfl dX7_give_104 ?_
  refine g_iload_n X (pc := 105) 3 rfl rfl dX7_give_105 ?_
  obtain ⟨q3, eq3, h⟩ := bd h
  obtain ⟨M4, eM4, h⟩ := bd h
  refine g_callV X (pc := 106) (M' := M4) (ro := none) (c := 1) rfl (by decide) (as := [pI a2]) (as' := [pI a2]) (st := []) eq3 (ctX1_writeNumber _ _ _ _ _ _ fu q3 a2 M2 _ eM4) tb_1436 tb_1433 tb_1434 tb_1435 tb_18 ⟨rfl, hyX1_writeNumber⟩ rfl rfl ⟨by decide, by decide⟩ (Nat.le_of_ble_eq_true rfl) dX7_give_106 ?_
  refine g_aload_n X (pc := 109) 2 rfl rfl dX7_give_109 ?_
  refine g_ldcwS X (pc := 110) (List.mem_of_getElem? (i := 24) rfl) dX7_give_110 ?_
  obtain ⟨q5, eq5, h⟩ := bd h
  obtain ⟨M6, eM6, h⟩ := bd h
  refine g_callV X (pc := 113) (M' := M6) (ro := none) (c := 1) rfl (by decide) (as := [pR (some 24)]) (as' := [pR (some 24)]) (st := []) eq5 (ctX1_write _ _ _ _ _ _ fu q5 (some 24) M4 _ eM6) tb_1426 tb_1423 tb_1424 tb_1425 tb_18 ⟨rfl, hyX1_write⟩ rfl rfl ⟨by decide, by decide⟩ (Nat.le_of_ble_eq_true rfl) dX7_give_113 ?_
  refine g_aload_n X (pc := 116) 2 rfl rfl dX7_give_116 ?_
  refine g_aload_n X (pc := 117) 4 rfl rfl dX7_give_117 ?_
  obtain ⟨q7, eq7, h⟩ := bd h
  obtain ⟨M8, eM8, h⟩ := bd h
  refine g_callV X (pc := 118) (M' := M8) (ro := none) (c := 1) rfl (by decide) (as := [pR a3]) (as' := [pR a3]) (st := []) eq7 (ctX1_write _ _ _ _ _ _ fu q7 a3 M6 _ eM8) tb_1426 tb_1423 tb_1424 tb_1425 tb_18 ⟨rfl, hyX1_write⟩ rfl rfl ⟨by decide, by decide⟩ (Nat.le_of_ble_eq_true rfl) dX7_give_118 ?_
  refine g_iload_n X (pc := 121) 3 rfl rfl dX7_give_121 ?_
  refine g_sipush X (pc := 122) (v := 304) dX7_give_122 (by decide) ?_
  refine g_icmp_eq X (pc := 125) (tgt := 167) dX7_give_125 (by decide) (fun hc => ?_) (fun hc => ?_)
  · have h := (if_pos hc).symm.trans h
    refine g_sub [1, 2, 3, 5, 0] [(0, pR (some a0)), (1, pR a1), (2, pI a2), (4, pI a4), (5, pI s0)] rfl ?_
    exact wX7_give_L167 X hE hn fu   a0 a1 a2 a4 s0 M8 h
  · have h := (if_neg hc).symm.trans h
    refine g_aload_n X (pc := 128) 2 rfl rfl dX7_give_128 ?_
    refine g_ldcwS X (pc := 129) (List.mem_of_getElem? (i := 25) rfl) dX7_give_129 ?_
    obtain ⟨q9, eq9, h⟩ := bd h
    obtain ⟨M10, eM10, h⟩ := bd h
    refine g_callV X (pc := 132) (M' := M10) (ro := none) (c := 1) rfl (by decide) (as := [pR (some 25)]) (as' := [pR (some 25)]) (st := []) eq9 (ctX1_write _ _ _ _ _ _ fu q9 (some 25) M8 _ eM10) tb_1426 tb_1423 tb_1424 tb_1425 tb_18 ⟨rfl, hyX1_write⟩ rfl rfl ⟨by decide, by decide⟩ (Nat.le_of_ble_eq_true rfl) dX7_give_132 ?_
    refine g_aload_n X (pc := 135) 2 rfl rfl dX7_give_135 ?_
    refine g_iload X (pc := 136) 0 rfl dX7_give_136 ?_
    obtain ⟨q11, eq11, h⟩ := bd h
    obtain ⟨M12, eM12, h⟩ := bd h
    refine g_callV X (pc := 138) (M' := M12) (ro := none) (c := 1) rfl (by decide) (as := [pI s0]) (as' := [pI s0]) (st := []) eq11 (ctX1_writeNumber _ _ _ _ _ _ fu q11 s0 M10 _ eM12) tb_1436 tb_1433 tb_1434 tb_1435 tb_18 ⟨rfl, hyX1_writeNumber⟩ rfl rfl ⟨by decide, by decide⟩ (Nat.le_of_ble_eq_true rfl) dX7_give_138 ?_
    refine g_aload_n X (pc := 141) 2 rfl rfl dX7_give_141 ?_
    refine g_ldcwS X (pc := 142) (List.mem_of_getElem? (i := 26) rfl) dX7_give_142 ?_
    obtain ⟨q13, eq13, h⟩ := bd h
    obtain ⟨M14, eM14, h⟩ := bd h
    refine g_callV X (pc := 145) (M' := M14) (ro := none) (c := 1) rfl (by decide) (as := [pR (some 26)]) (as' := [pR (some 26)]) (st := []) eq13 (ctX1_write _ _ _ _ _ _ fu q13 (some 26) M12 _ eM14) tb_1426 tb_1423 tb_1424 tb_1425 tb_18 ⟨rfl, hyX1_write⟩ rfl rfl ⟨by decide, by decide⟩ (Nat.le_of_ble_eq_true rfl) dX7_give_145 ?_
    refine g_aload_n X (pc := 148) 2 rfl rfl dX7_give_148 ?_
    refine g_iload X (pc := 149) 5 rfl dX7_give_149 ?_
    refine g_if_eq X (pc := 151) (tgt := 161) dX7_give_151 (by decide) (fun hc => ?_) (fun hc => ?_)
    · have h := (if_pos hc).symm.trans h
      refine g_ldcwS X (pc := 161) (List.mem_of_getElem? (i := 34) rfl) dX7_give_161 ?_
      refine g_sub [1, 2, 3, 5, 0] [(0, pR (some a0)), (1, pR a1), (2, pI a2), (4, pI a4), (5, pI s0)] rfl ?_
      exact wX7_give_L164 X hE hn fu   a0 a1 a2 a4 s0 a1 (some 34) M14 h
    · have h := (if_neg hc).symm.trans h
      refine g_aload_n X (pc := 154) 1 rfl rfl dX7_give_154 ?_
      obtain ⟨q15, eq15, h⟩ := bd h
      obtain ⟨v17, M16, eM16, h⟩ := b2d h
      refine g_callV X (pc := 155) (M' := M16) (ro := some (pR v17)) (c := 7) rfl (by decide) (as := []) (as' := []) (st := [pR a1]) eq15 (ctX7_contentType _ _ _ _ _ _ fu q15  M14 _ eM16) tb_1444 tb_1441 tb_1443 ts_58 tb_7 ⟨rfl, hyX7_contentType⟩ rfl rfl ⟨by decide, by decide⟩ (Nat.le_of_ble_eq_true rfl) dX7_give_155 ?_
      refine g_goto X (pc := 158) (tgt := 164) dX7_give_158 (by decide) ?_
      refine g_sub [1, 2, 3, 5, 0] [(0, pR (some a0)), (1, pR a1), (2, pI a2), (4, pI a4), (5, pI s0)] rfl ?_
      exact wX7_give_L164 X hE hn fu   a0 a1 a2 a4 s0 a1 v17 M16 h
theorem wX7_give_L68 {x : GX} {n0 sl0 : Nat} (X : Cx x cX7_give RX7 none n0 sl0 7 151) {out : Mm} (hE : Ends x n0 sl0 none out) (hn : xn x = 6) (fu : Nat)   (a0 : Nat) (a1 : Option Nat) (a2 : Int32) (a3 : Option Nat) (s0 : Int32) (M : Mm) (h : fX7_give_L68 fu  a0 a1 a2 a3 s0 M = some out) : Gw x M 68 [(0, pR (some a0)), (1, pR a1), (2, pI a2), (3, pR a3)] [pI s0] := by
  unfold fX7_give_L68 at h
  refine g_istore X (pc := 68) [(4, pI s0), (0, pR (some a0)), (1, pR a1), (2, pI a2), (3, pR a3)] (lt_n hn (by decide)) rfl dX7_give_68 ?_
  refine g_iload X (pc := 70) 0 rfl dX7_give_70 ?_
  refine g_if_eq X (pc := 72) (tgt := 89) dX7_give_72 (by decide) (fun hc => ?_) (fun hc => ?_)
  · have h := (if_pos hc).symm.trans h
    refine g_aload_n X (pc := 89) 4 rfl rfl dX7_give_89 ?_
    obtain ⟨q1, eq1, h⟩ := bd h
    obtain ⟨v3, M2, eM2, h⟩ := b2d h
    refine g_callVS X (pc := 90) (M' := M2) (ro := some (pI v3)) (as := []) (as' := []) (st := []) eq1 (ctJ0_length_8abf5 _ _ _ _ _ _ fu q1  M _ eM2) tb_1214 tb_1211 tb_1212 tb_1213 tb_21 ⟨rfl, hyJ0_length_8abf5⟩ rfl rfl ⟨by decide, by decide⟩ (Nat.le_of_ble_eq_true rfl) dX7_give_90 ?_
    refine g_iconst X (pc := 93) (v := 5) dX7_give_93 (by decide) ?_
    refine g_iadd X (pc := 94) dX7_give_94 ?_
    refine g_sub [1, 2, 3, 4, 0] [(0, pR (some a0)), (1, pR a1), (2, pI a2), (3, pR a3), (4, pI s0)] rfl ?_
    exact wX7_give_L95 X hE hn fu   a0 a1 a2 a3 s0 (v3 + (5 : Int32)) M2 h
  · have h := (if_neg hc).symm.trans h
    refine g_aload_n X (pc := 75) 1 rfl rfl dX7_give_75 ?_
    obtain ⟨v4, ev4, h⟩ := bd h
    refine g_getR X (pc := 76) fk_7_0 rfl rfl ev4 tb_256 dX7_give_76 ?_
    refine g_aload_n X (pc := 79) 1 rfl rfl dX7_give_79 ?_
    obtain ⟨v5, ev5, h⟩ := bd h
    refine g_getI X (pc := 80) fk_7_18 rfl rfl ev5 tb_274 dX7_give_80 ?_
    obtain ⟨q6, eq6, h⟩ := bd h
    obtain ⟨v8, M7, eM7, h⟩ := b2d h
    refine g_callV X (pc := 83) (M' := M7) (ro := some (pI v8)) (c := 8) rfl (by decide) (as := [pI v5]) (as' := [pI v5]) (st := []) eq6 (ctX8_sizeOf _ _ _ _ _ _ fu q6 v5 M _ eM7) tb_1383 tb_1421 tb_1381 tb_1382 tb_2 ⟨rfl, hyX8_sizeOf⟩ rfl rfl ⟨by decide, by decide⟩ (Nat.le_of_ble_eq_true rfl) dX7_give_83 ?_
    refine g_goto X (pc := 86) (tgt := 95) dX7_give_86 (by decide) ?_
    refine g_sub [1, 2, 3, 4, 0] [(0, pR (some a0)), (1, pR a1), (2, pI a2), (3, pR a3), (4, pI s0)] rfl ?_
    exact wX7_give_L95 X hE hn fu   a0 a1 a2 a3 s0 v8 M7 h
theorem wX7_give_L48 {x : GX} {n0 sl0 : Nat} (X : Cx x cX7_give RX7 none n0 sl0 7 151) {out : Mm} (hE : Ends x n0 sl0 none out) (hn : xn x = 6) (fu : Nat)   (a0 : Nat) (a1 : Option Nat) (a2 : Int32) (s0 : Option Nat) (s1 : Int32) (M : Mm) (h : fX7_give_L48 fu  a0 a1 a2 s0 s1 M = some out) : Gw x M 48 [(0, pR (some a0)), (1, pR a1), (2, pI a2)] [pI s1, pR s0] := by
  unfold fX7_give_L48 at h
  obtain ⟨M1, eM1, h⟩ := bd h
  refine g_putZ X (pc := 48) fk_1_10 rfl rfl rfl eM1 tb_979 (Or.inl rfl) dX7_give_48 ?_
  refine g_iload_n X (pc := 51) 2 rfl rfl dX7_give_51 ?_
  obtain ⟨v3, M2, eM2, h⟩ := b2d h
  refine g_callS X (pc := 52) (M' := M2) (ro := some (pR v3)) (as := [pI a2]) (as' := [pI a2]) (st := []) (ctX7_phrase _ _ _ _ _ _ fu  a2 M1 _ eM2) tb_1411 tb_1409 tb_1410 tb_7 hyX7_phrase rfl rfl ⟨by decide, by decide⟩ (Nat.le_of_ble_eq_true rfl) dX7_give_52 ?_
  refine g_astore_n X (pc := 55) [(3, pR v3), (0, pR (some a0)), (1, pR a1), (2, pI a2)] rfl (lt_n hn (by decide)) rfl dX7_give_55 ?_
  refine g_iload_n X (pc := 56) 3 rfl rfl dX7_give_56 ?_
  refine g_sipush X (pc := 57) (v := 200) dX7_give_57 (by decide) ?_
  refine g_icmp_ne X (pc := 60) (tgt := 67) dX7_give_60 (by decide) (fun hc => ?_) (fun hc => ?_)
  · have h := (if_neg hc).symm.trans h
    refine g_iconst X (pc := 67) (v := 0) dX7_give_67 (by decide) ?_
    refine g_sub [1, 2, 3, 0] [(0, pR (some a0)), (1, pR a1), (2, pI a2), (3, pR v3)] rfl ?_
    exact wX7_give_L68 X hE hn fu   a0 a1 a2 v3 (0 : Int32) M2 h
  · have h := (if_pos hc).symm.trans h
    refine g_iconst X (pc := 63) (v := 1) dX7_give_63 (by decide) ?_
    refine g_goto X (pc := 64) (tgt := 68) dX7_give_64 (by decide) ?_
    refine g_sub [1, 2, 3, 0] [(0, pR (some a0)), (1, pR a1), (2, pI a2), (3, pR v3)] rfl ?_
    exact wX7_give_L68 X hE hn fu   a0 a1 a2 v3 (1 : Int32) M2 h
theorem wX7_give_L43 {x : GX} {n0 sl0 : Nat} (X : Cx x cX7_give RX7 none n0 sl0 7 151) {out : Mm} (hE : Ends x n0 sl0 none out) (hn : xn x = 6) (fu : Nat)   (a0 : Nat) (a1 : Option Nat) (a2 : Int32) (s0 : Option Nat) (M : Mm) (h : fX7_give_L43 fu  a0 a1 a2 s0 M = some out) : Gw x M 43 [(0, pR (some a0)), (1, pR a1), (2, pI a2)] [pR s0] := by
  unfold fX7_give_L43 at h
  refine g_iconst X (pc := 43) (v := 1) dX7_give_43 (by decide) ?_
  refine g_goto X (pc := 44) (tgt := 48) dX7_give_44 (by decide) ?_
  exact wX7_give_L48 X hE hn fu   a0 a1 a2 s0 (1 : Int32) M h
theorem wX7_give {x : GX} {n0 sl0 : Nat} (X : Cx x cX7_give RX7 none n0 sl0 7 151) {out : Mm} (hE : Ends x n0 sl0 none out) (hn : xn x = 6) (fu : Nat)   (a0 : Nat) (a1 : Option Nat) (a2 : Int32)  (M : Mm) (h : fX7_give fu  a0 a1 a2 M = some out) : Gw x M 0 [(0, pR (some a0)), (1, pR a1), (2, pI a2)] [] := by
  unfold fX7_give at h
  refine g_aload_n X (pc := 0) 0 rfl rfl dX7_give_0 ?_
  obtain ⟨v1, ev1, h⟩ := bd h
  refine g_getR X (pc := 1) fk_7_1 rfl rfl ev1 tb_257 dX7_give_1 ?_
  obtain ⟨v2, ev2, h⟩ := bd h
  refine g_getR X (pc := 4) fk_10_0 rfl rfl ev2 tb_66 dX7_give_4 ?_
  refine g_iconst X (pc := 7) (v := 4) dX7_give_7 (by decide) ?_
  refine g_dup2 X (pc := 8) rfl rfl dX7_give_8 ?_
  obtain ⟨v3, ev3, h⟩ := bd h
  refine g_iaload X (pc := 9) ev3 dX7_give_9 ?_
  refine g_iconst X (pc := 10) (v := 1) dX7_give_10 (by decide) ?_
  refine g_iadd X (pc := 11) dX7_give_11 ?_
  obtain ⟨M4, eM4, h⟩ := bd h
  refine g_iastore X (pc := 12) eM4 dX7_give_12 ?_
  refine g_aload_n X (pc := 13) 1 rfl rfl dX7_give_13 ?_
  refine g_aload_n X (pc := 14) 1 rfl rfl dX7_give_14 ?_
  obtain ⟨v5, ev5, h⟩ := bd h
  refine g_getI X (pc := 15) fk_1_5 rfl rfl ev5 tb_971 dX7_give_15 ?_
  obtain ⟨q6, eq6, h⟩ := bd h
  obtain ⟨M7, eM7, h⟩ := bd h
  refine g_callV X (pc := 18) (M' := M7) (ro := none) (c := 1) rfl (by decide) (as := [pI v5]) (as' := [pI v5]) (st := []) eq6 (ctX1_clearAnswer _ _ _ _ _ _ fu q6 v5 M4 _ eM7) tb_1050 tb_1401 tb_1048 tb_1049 tb_18 ⟨rfl, hyX1_clearAnswer⟩ rfl rfl ⟨by decide, by decide⟩ (Nat.le_of_ble_eq_true rfl) dX7_give_18 ?_
  refine g_aload_n X (pc := 21) 1 rfl rfl dX7_give_21 ?_
  refine g_aload_n X (pc := 22) 0 rfl rfl dX7_give_22 ?_
  obtain ⟨q8, eq8, h⟩ := bd h
  obtain ⟨v10, M9, eM9, h⟩ := b2d h
  refine g_callV X (pc := 23) (M' := M9) (ro := some (pI v10)) (c := 7) rfl (by decide) (as := []) (as' := []) (st := [pR a1]) eq8 (ctX7_isPersistent _ _ _ _ _ _ fu q8  M7 _ eM9) tb_1405 tb_1402 tb_1404 ts_56 tb_7 ⟨rfl, hyX7_isPersistent⟩ rfl rfl ⟨by decide, by decide⟩ (Nat.le_of_ble_eq_true rfl) dX7_give_23 ?_
  refine g_if_eq X (pc := 26) (tgt := 43) dX7_give_26 (by decide) (fun hc => ?_) (fun hc => ?_)
  · have h := (if_pos hc).symm.trans h
    exact wX7_give_L43 X hE hn fu   a0 a1 a2 a1 M9 h
  · have h := (if_neg hc).symm.trans h
    refine g_iload_n X (pc := 29) 2 rfl rfl dX7_give_29 ?_
    obtain ⟨v12, M11, eM11, h⟩ := b2d h
    refine g_callS X (pc := 30) (M' := M11) (ro := some (pI v12)) (as := [pI a2]) (as' := [pI a2]) (st := [pR a1]) (ctX7_isBodyLeftOut _ _ _ _ _ _ fu  a2 M9 _ eM11) tb_1408 tb_1406 tb_1407 tb_7 hyX7_isBodyLeftOut rfl rfl ⟨by decide, by decide⟩ (Nat.le_of_ble_eq_true rfl) dX7_give_30 ?_
    refine g_if_eq X (pc := 33) (tgt := 43) dX7_give_33 (by decide) (fun hc => ?_) (fun hc => ?_)
    · have h := (if_pos hc).symm.trans h
      exact wX7_give_L43 X hE hn fu   a0 a1 a2 a1 M11 h
    · have h := (if_neg hc).symm.trans h
      refine g_iload_n X (pc := 36) 2 rfl rfl dX7_give_36 ?_
      refine g_sipush X (pc := 37) (v := 500) dX7_give_37 (by decide) ?_
      refine g_icmp_ne X (pc := 40) (tgt := 47) dX7_give_40 (by decide) (fun hc => ?_) (fun hc => ?_)
      · have h := (if_neg hc).symm.trans h
        refine g_iconst X (pc := 47) (v := 0) dX7_give_47 (by decide) ?_
        exact wX7_give_L48 X hE hn fu   a0 a1 a2 a1 (0 : Int32) M11 h
      · have h := (if_pos hc).symm.trans h
        exact wX7_give_L43 X hE hn fu   a0 a1 a2 a1 M11 h
theorem hyX7_give : yX7_give.cls ≠ "java/lang/invoke/MethodHandle" ∧ yX7_give.cls ≠ "java/lang/invoke/VarHandle" ∧ (parseMethodDescriptor yX7_give.desc).map (fun d => d.parameters.length) = some 2 := ⟨by decide +kernel, by decide +kernel, by decide +kernel⟩
theorem ctX7_give (l : Launch) (E : Nat → Nat) (D : va_G) (dA : Nat → ClassId) (lo : Nat) (H0 : Heap) (fu : Nat) (a0 : Nat) (a1 : Option Nat) (a2 : Int32) (M : Mm) (out : Mm) (h : fX7_give fu a0 a1 a2 M = some out) : Ct l E D dA lo H0 yX7_give cX7_give 6 none 7 151 [pR (some a0), pR a1, pI a2] M none out := by
  refine ct_of (by decide +kernel) (Nat.le_of_ble_eq_true rfl) ?_
  intro x hl he hd ha ho hh hn hin X hE
  exact wX7_give X hE hn fu a0 a1 a2 M h
/-! WebHost$Requests.lookAt(LWebHost$Connection;)V -/
def fX7_lookAt_L81 (fu : Nat)  (a2 : Option Nat) (s0 : Option Nat) (s1 : Int32) (M : Mm) : Option (Mm) :=
    (pF M 0 3 s0 s1).bind fun M1 =>
    (rc M1 0 a2).bind fun q2 =>
    (fX0_leaveBody fu q2  M1).bind fun M3 =>
    some M3
def fX7_lookAt_L31 (fu : Nat)  (a0 : Nat) (a1 : Option Nat) (a2 : Option Nat)  (M : Mm) : Option (Mm) :=
    (rc M 7 (some a0)).bind fun q1 =>
    b2 (fX7_copyHead fu q1 a2 M) fun v3 M2 =>
    if v3 ≤ 0 then (
    (rc M2 0 a2).bind fun q4 =>
    b2 (fX0_held fu q4  M2) fun v6 M5 =>
    if v6 < (4096 : Int32) then (
    (gI M5 1 64 a1).bind fun v7 =>
    if v7 = (7 : Int32) then (
    (pZ M5 1 74 a1 (1 : Int32)).bind fun M8 =>
    some M8)
    else (
    some M5))
    else (
    (rc M5 0 a2).bind fun q9 =>
    (fX0_leave fu q9 (4096 : Int32) M5).bind fun M10 =>
    (rc M10 7 (some a0)).bind fun q11 =>
    (fX7_forget fu q11  M10).bind fun M12 =>
    (rc M12 7 (some a0)).bind fun q13 =>
    (fX7_give fu q13 a1 (431 : Int32) M12).bind fun M14 =>
    some M14))
    else (
    (rc M2 0 a2).bind fun q15 =>
    (fX0_leave fu q15 v3 M2).bind fun M16 =>
    (rc M16 7 (some a0)).bind fun q17 =>
    b2 (fX7_readHead fu q17 v3 M16) fun v19 M18 =>
    (rc M18 7 (some a0)).bind fun q20 =>
    (fX7_give fu q20 a1 v19 M18).bind fun M21 =>
    b2 (fX7_isBodyLeftOut fu  v19 M21) fun v23 M22 =>
    if v23 = 0 then (
    fX7_lookAt_L81 fu  a2 a2 (0 : Int32) M22)
    else (
    (gI M22 7 460 (some a0)).bind fun v24 =>
    fX7_lookAt_L81 fu  a2 a2 v24 M22))
def fX7_lookAt (fu : Nat)  (a0 : Nat) (a1 : Option Nat)  (M : Mm) : Option (Mm) :=
    (gR M 1 80 a1).bind fun v1 =>
    (rc M 0 v1).bind fun q2 =>
    (fX0_leaveBody fu q2  M).bind fun M3 =>
    (rc M3 1 a1).bind fun q4 =>
    b2 (fX1_isReady fu q4  M3) fun v6 M5 =>
    if v6 = 0 then (
    some M5)
    else (
    b2 (fX7_emptyLines fu  v1 M5) fun v8 M7 =>
    if v8 ≤ 0 then (
    fX7_lookAt_L31 fu  a0 a1 v1 M7)
    else (
    (rc M7 0 v1).bind fun q9 =>
    (fX0_leave fu q9 v8 M7).bind fun M10 =>
    fX7_lookAt_L31 fu  a0 a1 v1 M10))
theorem dX7_lookAt_0 : decode cX7_lookAt 0 = .ok (.aload_n 1, 1) := by decide +kernel
theorem dX7_lookAt_1 : decode cX7_lookAt 1 = .ok (.getfield 28, 3) := by decide +kernel
theorem dX7_lookAt_4 : decode cX7_lookAt 4 = .ok (.astore_n 2, 1) := by decide +kernel
theorem dX7_lookAt_5 : decode cX7_lookAt 5 = .ok (.aload_n 2, 1) := by decide +kernel
theorem dX7_lookAt_6 : decode cX7_lookAt 6 = .ok (.invokevirtual 34, 3) := by decide +kernel
theorem dX7_lookAt_9 : decode cX7_lookAt 9 = .ok (.aload_n 1, 1) := by decide +kernel
theorem dX7_lookAt_10 : decode cX7_lookAt 10 = .ok (.invokevirtual 37, 3) := by decide +kernel
theorem dX7_lookAt_13 : decode cX7_lookAt 13 = .ok (.ifCond .ne 4, 3) := by decide +kernel
theorem dX7_lookAt_16 : decode cX7_lookAt 16 = .ok (.return_, 1) := by decide +kernel
theorem dX7_lookAt_17 : decode cX7_lookAt 17 = .ok (.aload_n 2, 1) := by decide +kernel
theorem dX7_lookAt_18 : decode cX7_lookAt 18 = .ok (.invokestatic 41, 3) := by decide +kernel
theorem dX7_lookAt_21 : decode cX7_lookAt 21 = .ok (.istore_n 3, 1) := by decide +kernel
theorem dX7_lookAt_22 : decode cX7_lookAt 22 = .ok (.iload_n 3, 1) := by decide +kernel
theorem dX7_lookAt_23 : decode cX7_lookAt 23 = .ok (.ifCond .le 8, 3) := by decide +kernel
theorem dX7_lookAt_26 : decode cX7_lookAt 26 = .ok (.aload_n 2, 1) := by decide +kernel
theorem dX7_lookAt_27 : decode cX7_lookAt 27 = .ok (.iload_n 3, 1) := by decide +kernel
theorem dX7_lookAt_28 : decode cX7_lookAt 28 = .ok (.invokevirtual 45, 3) := by decide +kernel
theorem dX7_lookAt_31 : decode cX7_lookAt 31 = .ok (.aload_n 0, 1) := by decide +kernel
theorem dX7_lookAt_32 : decode cX7_lookAt 32 = .ok (.aload_n 2, 1) := by decide +kernel
theorem dX7_lookAt_33 : decode cX7_lookAt 33 = .ok (.invokevirtual 49, 3) := by decide +kernel
theorem dX7_lookAt_36 : decode cX7_lookAt 36 = .ok (.istore 4, 2) := by decide +kernel
theorem dX7_lookAt_38 : decode cX7_lookAt 38 = .ok (.iload 4, 2) := by decide +kernel
theorem dX7_lookAt_40 : decode cX7_lookAt 40 = .ok (.ifCond .le 51, 3) := by decide +kernel
theorem dX7_lookAt_43 : decode cX7_lookAt 43 = .ok (.aload_n 2, 1) := by decide +kernel
theorem dX7_lookAt_44 : decode cX7_lookAt 44 = .ok (.iload 4, 2) := by decide +kernel
theorem dX7_lookAt_46 : decode cX7_lookAt 46 = .ok (.invokevirtual 45, 3) := by decide +kernel
theorem dX7_lookAt_49 : decode cX7_lookAt 49 = .ok (.aload_n 0, 1) := by decide +kernel
theorem dX7_lookAt_50 : decode cX7_lookAt 50 = .ok (.iload 4, 2) := by decide +kernel
theorem dX7_lookAt_52 : decode cX7_lookAt 52 = .ok (.invokevirtual 52, 3) := by decide +kernel
theorem dX7_lookAt_55 : decode cX7_lookAt 55 = .ok (.istore 5, 2) := by decide +kernel
theorem dX7_lookAt_57 : decode cX7_lookAt 57 = .ok (.aload_n 0, 1) := by decide +kernel
theorem dX7_lookAt_58 : decode cX7_lookAt 58 = .ok (.aload_n 1, 1) := by decide +kernel
theorem dX7_lookAt_59 : decode cX7_lookAt 59 = .ok (.iload 5, 2) := by decide +kernel
theorem dX7_lookAt_61 : decode cX7_lookAt 61 = .ok (.invokevirtual 56, 3) := by decide +kernel
theorem dX7_lookAt_64 : decode cX7_lookAt 64 = .ok (.aload_n 2, 1) := by decide +kernel
theorem dX7_lookAt_65 : decode cX7_lookAt 65 = .ok (.iload 5, 2) := by decide +kernel
theorem dX7_lookAt_67 : decode cX7_lookAt 67 = .ok (.invokestatic 60, 3) := by decide +kernel
theorem dX7_lookAt_70 : decode cX7_lookAt 70 = .ok (.ifCond .eq 10, 3) := by decide +kernel
theorem dX7_lookAt_73 : decode cX7_lookAt 73 = .ok (.aload_n 0, 1) := by decide +kernel
theorem dX7_lookAt_74 : decode cX7_lookAt 74 = .ok (.getfield 64, 3) := by decide +kernel
theorem dX7_lookAt_77 : decode cX7_lookAt 77 = .ok (.goto 4, 3) := by decide +kernel
theorem dX7_lookAt_80 : decode cX7_lookAt 80 = .ok (.iconst 0, 1) := by decide +kernel
theorem dX7_lookAt_81 : decode cX7_lookAt 81 = .ok (.putfield 68, 3) := by decide +kernel
theorem dX7_lookAt_84 : decode cX7_lookAt 84 = .ok (.aload_n 2, 1) := by decide +kernel
theorem dX7_lookAt_85 : decode cX7_lookAt 85 = .ok (.invokevirtual 34, 3) := by decide +kernel
theorem dX7_lookAt_88 : decode cX7_lookAt 88 = .ok (.goto 49, 3) := by decide +kernel
theorem dX7_lookAt_91 : decode cX7_lookAt 91 = .ok (.aload_n 2, 1) := by decide +kernel
theorem dX7_lookAt_92 : decode cX7_lookAt 92 = .ok (.invokevirtual 71, 3) := by decide +kernel
theorem dX7_lookAt_95 : decode cX7_lookAt 95 = .ok (.sipush 4096, 3) := by decide +kernel
theorem dX7_lookAt_98 : decode cX7_lookAt 98 = .ok (.if_icmp .lt 25, 3) := by decide +kernel
theorem dX7_lookAt_101 : decode cX7_lookAt 101 = .ok (.aload_n 2, 1) := by decide +kernel
theorem dX7_lookAt_102 : decode cX7_lookAt 102 = .ok (.sipush 4096, 3) := by decide +kernel
theorem dX7_lookAt_105 : decode cX7_lookAt 105 = .ok (.invokevirtual 45, 3) := by decide +kernel
theorem dX7_lookAt_108 : decode cX7_lookAt 108 = .ok (.aload_n 0, 1) := by decide +kernel
theorem dX7_lookAt_109 : decode cX7_lookAt 109 = .ok (.invokevirtual 75, 3) := by decide +kernel
theorem dX7_lookAt_112 : decode cX7_lookAt 112 = .ok (.aload_n 0, 1) := by decide +kernel
theorem dX7_lookAt_113 : decode cX7_lookAt 113 = .ok (.aload_n 1, 1) := by decide +kernel
theorem dX7_lookAt_114 : decode cX7_lookAt 114 = .ok (.sipush 431, 3) := by decide +kernel
theorem dX7_lookAt_117 : decode cX7_lookAt 117 = .ok (.invokevirtual 56, 3) := by decide +kernel
theorem dX7_lookAt_120 : decode cX7_lookAt 120 = .ok (.goto 17, 3) := by decide +kernel
theorem dX7_lookAt_123 : decode cX7_lookAt 123 = .ok (.aload_n 1, 1) := by decide +kernel
theorem dX7_lookAt_124 : decode cX7_lookAt 124 = .ok (.getfield 78, 3) := by decide +kernel
theorem dX7_lookAt_127 : decode cX7_lookAt 127 = .ok (.bipush 7, 2) := by decide +kernel
theorem dX7_lookAt_129 : decode cX7_lookAt 129 = .ok (.if_icmp .ne 8, 3) := by decide +kernel
theorem dX7_lookAt_132 : decode cX7_lookAt 132 = .ok (.aload_n 1, 1) := by decide +kernel
theorem dX7_lookAt_133 : decode cX7_lookAt 133 = .ok (.iconst 1, 1) := by decide +kernel
theorem dX7_lookAt_134 : decode cX7_lookAt 134 = .ok (.putfield 81, 3) := by decide +kernel
theorem dX7_lookAt_137 : decode cX7_lookAt 137 = .ok (.return_, 1) := by decide +kernel
theorem wX7_lookAt_L81 {x : GX} {n0 sl0 : Nat} (X : Cx x cX7_lookAt RX7 none n0 sl0 10 230) {out : Mm} (hE : Ends x n0 sl0 none out) (hn : xn x = 6) (fu : Nat)   (a2 : Option Nat) (s0 : Option Nat) (s1 : Int32) (M : Mm) (h : fX7_lookAt_L81 fu  a2 s0 s1 M = some out) : Gw x M 81 [(2, pR a2)] [pI s1, pR s0] := by
  unfold fX7_lookAt_L81 at h
  obtain ⟨M1, eM1, h⟩ := bd h
  refine g_putI X (pc := 81) fk_0_3 rfl rfl rfl eM1 tb_866 (Or.inl rfl) dX7_lookAt_81 ?_
  refine g_aload_n X (pc := 84) 0 rfl rfl dX7_lookAt_84 ?_
  obtain ⟨q2, eq2, h⟩ := bd h
  obtain ⟨M3, eM3, h⟩ := bd h
  refine g_callV X (pc := 85) (M' := M3) (ro := none) (c := 0) rfl (by decide) (as := []) (as' := []) (st := []) eq2 (ctX0_leaveBody _ _ _ _ _ _ fu q2  M1 _ eM3) tb_1165 tb_1162 tb_1163 tb_1164 tb_19 ⟨rfl, hyX0_leaveBody⟩ rfl rfl ⟨by decide, by decide⟩ (Nat.le_of_ble_eq_true rfl) dX7_lookAt_85 ?_
  refine g_goto X (pc := 88) (tgt := 137) dX7_lookAt_88 (by decide) ?_
  obtain rfl := Option.some.inj h
  exact g_return X hE dX7_lookAt_137
theorem wX7_lookAt_L31 {x : GX} {n0 sl0 : Nat} (X : Cx x cX7_lookAt RX7 none n0 sl0 10 230) {out : Mm} (hE : Ends x n0 sl0 none out) (hn : xn x = 6) (fu : Nat)   (a0 : Nat) (a1 : Option Nat) (a2 : Option Nat)  (M : Mm) (h : fX7_lookAt_L31 fu  a0 a1 a2 M = some out) : Gw x M 31 [(0, pR (some a0)), (1, pR a1), (2, pR a2)] [] := by
  unfold fX7_lookAt_L31 at h
  refine g_aload_n X (pc := 31) 0 rfl rfl dX7_lookAt_31 ?_
  refine g_aload_n X (pc := 32) 2 rfl rfl dX7_lookAt_32 ?_
  obtain ⟨q1, eq1, h⟩ := bd h
  obtain ⟨v3, M2, eM2, h⟩ := b2d h
  refine g_callV X (pc := 33) (M' := M2) (ro := some (pI v3)) (c := 7) rfl (by decide) (as := [pR a2]) (as' := [pR a2]) (st := []) eq1 (ctX7_copyHead _ _ _ _ _ _ fu q1 a2 M _ eM2) tb_1187 tb_1184 tb_1186 ts_40 tb_7 ⟨rfl, hyX7_copyHead⟩ rfl rfl ⟨by decide, by decide⟩ (Nat.le_of_ble_eq_true rfl) dX7_lookAt_33 ?_
  refine g_istore X (pc := 36) [(4, pI v3), (0, pR (some a0)), (1, pR a1), (2, pR a2)] (lt_n hn (by decide)) rfl dX7_lookAt_36 ?_
  refine g_iload X (pc := 38) 0 rfl dX7_lookAt_38 ?_
  refine g_if_le X (pc := 40) (tgt := 91) dX7_lookAt_40 (by decide) (fun hc => ?_) (fun hc => ?_)
  · have h := (if_pos hc).symm.trans h
    refine g_aload_n X (pc := 91) 3 rfl rfl dX7_lookAt_91 ?_
    obtain ⟨q4, eq4, h⟩ := bd h
    obtain ⟨v6, M5, eM5, h⟩ := b2d h
    refine g_callV X (pc := 92) (M' := M5) (ro := some (pI v6)) (c := 0) rfl (by decide) (as := []) (as' := []) (st := []) eq4 (ctX0_held _ _ _ _ _ _ fu q4  M2 _ eM5) tb_605 tb_1178 tb_603 tb_604 tb_19 ⟨rfl, hyX0_held⟩ rfl rfl ⟨by decide, by decide⟩ (Nat.le_of_ble_eq_true rfl) dX7_lookAt_92 ?_
    refine g_sipush X (pc := 95) (v := 4096) dX7_lookAt_95 (by decide) ?_
    refine g_icmp_lt X (pc := 98) (tgt := 123) dX7_lookAt_98 (by decide) (fun hc => ?_) (fun hc => ?_)
    · have h := (if_pos hc).symm.trans h
      refine g_aload_n X (pc := 123) 2 rfl rfl dX7_lookAt_123 ?_
      obtain ⟨v7, ev7, h⟩ := bd h
      refine g_getI X (pc := 124) fk_1_0 rfl rfl ev7 tb_958 dX7_lookAt_124 ?_
      refine g_bipush X (pc := 127) (v := 7) dX7_lookAt_127 (by decide) ?_
      refine g_icmp_ne X (pc := 129) (tgt := 137) dX7_lookAt_129 (by decide) (fun hc => ?_) (fun hc => ?_)
      · have h := (if_neg hc).symm.trans h
        obtain rfl := Option.some.inj h
        exact g_return X hE dX7_lookAt_137
      · have h := (if_pos hc).symm.trans h
        refine g_aload_n X (pc := 132) 2 rfl rfl dX7_lookAt_132 ?_
        refine g_iconst X (pc := 133) (v := 1) dX7_lookAt_133 (by decide) ?_
        obtain ⟨M8, eM8, h⟩ := bd h
        refine g_putZ X (pc := 134) fk_1_10 rfl rfl rfl eM8 tb_979 (Or.inl rfl) dX7_lookAt_134 ?_
        obtain rfl := Option.some.inj h
        exact g_return X hE dX7_lookAt_137
    · have h := (if_neg hc).symm.trans h
      refine g_aload_n X (pc := 101) 3 rfl rfl dX7_lookAt_101 ?_
      refine g_sipush X (pc := 102) (v := 4096) dX7_lookAt_102 (by decide) ?_
      obtain ⟨q9, eq9, h⟩ := bd h
      obtain ⟨M10, eM10, h⟩ := bd h
      refine g_callV X (pc := 105) (M' := M10) (ro := none) (c := 0) rfl (by decide) (as := [pI (4096 : Int32)]) (as' := [pI (4096 : Int32)]) (st := []) eq9 (ctX0_leave _ _ _ _ _ _ fu q9 (4096 : Int32) M5 _ eM10) tb_1170 tb_1183 tb_1168 tb_1169 tb_19 ⟨rfl, hyX0_leave⟩ rfl rfl ⟨by decide, by decide⟩ (Nat.le_of_ble_eq_true rfl) dX7_lookAt_105 ?_
      refine g_aload_n X (pc := 108) 1 rfl rfl dX7_lookAt_108 ?_
      obtain ⟨q11, eq11, h⟩ := bd h
      obtain ⟨M12, eM12, h⟩ := bd h
      refine g_callV X (pc := 109) (M' := M12) (ro := none) (c := 7) rfl (by decide) (as := []) (as' := []) (st := []) eq11 (ctX7_forget _ _ _ _ _ _ fu q11  M10 _ eM12) tb_1201 tb_1198 tb_1200 ts_43 tb_7 ⟨rfl, hyX7_forget⟩ rfl rfl ⟨by decide, by decide⟩ (Nat.le_of_ble_eq_true rfl) dX7_lookAt_109 ?_
      refine g_aload_n X (pc := 112) 1 rfl rfl dX7_lookAt_112 ?_
      refine g_aload_n X (pc := 113) 2 rfl rfl dX7_lookAt_113 ?_
      refine g_sipush X (pc := 114) (v := 431) dX7_lookAt_114 (by decide) ?_
      obtain ⟨q13, eq13, h⟩ := bd h
      obtain ⟨M14, eM14, h⟩ := bd h
      refine g_callV X (pc := 117) (M' := M14) (ro := none) (c := 7) rfl (by decide) (as := [pR a1, pI (431 : Int32)]) (as' := [pI (431 : Int32), pR a1]) (st := []) eq13 (ctX7_give _ _ _ _ _ _ fu q13 a1 (431 : Int32) M12 _ eM14) tb_1400 tb_1397 tb_1399 ts_55 tb_7 ⟨rfl, hyX7_give⟩ rfl rfl ⟨by decide, by decide⟩ (Nat.le_of_ble_eq_true rfl) dX7_lookAt_117 ?_
      refine g_goto X (pc := 120) (tgt := 137) dX7_lookAt_120 (by decide) ?_
      obtain rfl := Option.some.inj h
      exact g_return X hE dX7_lookAt_137
  · have h := (if_neg hc).symm.trans h
    refine g_aload_n X (pc := 43) 3 rfl rfl dX7_lookAt_43 ?_
    refine g_iload X (pc := 44) 0 rfl dX7_lookAt_44 ?_
    obtain ⟨q15, eq15, h⟩ := bd h
    obtain ⟨M16, eM16, h⟩ := bd h
    refine g_callV X (pc := 46) (M' := M16) (ro := none) (c := 0) rfl (by decide) (as := [pI v3]) (as' := [pI v3]) (st := []) eq15 (ctX0_leave _ _ _ _ _ _ fu q15 v3 M2 _ eM16) tb_1170 tb_1183 tb_1168 tb_1169 tb_19 ⟨rfl, hyX0_leave⟩ rfl rfl ⟨by decide, by decide⟩ (Nat.le_of_ble_eq_true rfl) dX7_lookAt_46 ?_
    refine g_aload_n X (pc := 49) 1 rfl rfl dX7_lookAt_49 ?_
    refine g_iload X (pc := 50) 0 rfl dX7_lookAt_50 ?_
    obtain ⟨q17, eq17, h⟩ := bd h
    obtain ⟨v19, M18, eM18, h⟩ := b2d h
    refine g_callV X (pc := 52) (M' := M18) (ro := some (pI v19)) (c := 7) rfl (by decide) (as := [pI v3]) (as' := [pI v3]) (st := []) eq17 (ctX7_readHead _ _ _ _ _ _ fu q17 v3 M16 _ eM18) tb_1197 tb_1194 tb_1196 ts_42 tb_7 ⟨rfl, hyX7_readHead⟩ rfl rfl ⟨by decide, by decide⟩ (Nat.le_of_ble_eq_true rfl) dX7_lookAt_52 ?_
    refine g_istore X (pc := 55) [(5, pI v19), (4, pI v3), (0, pR (some a0)), (1, pR a1), (2, pR a2)] (lt_n hn (by decide)) rfl dX7_lookAt_55 ?_
    refine g_aload_n X (pc := 57) 2 rfl rfl dX7_lookAt_57 ?_
    refine g_aload_n X (pc := 58) 3 rfl rfl dX7_lookAt_58 ?_
    refine g_iload X (pc := 59) 0 rfl dX7_lookAt_59 ?_
    obtain ⟨q20, eq20, h⟩ := bd h
    obtain ⟨M21, eM21, h⟩ := bd h
    refine g_callV X (pc := 61) (M' := M21) (ro := none) (c := 7) rfl (by decide) (as := [pR a1, pI v19]) (as' := [pI v19, pR a1]) (st := []) eq20 (ctX7_give _ _ _ _ _ _ fu q20 a1 v19 M18 _ eM21) tb_1400 tb_1397 tb_1399 ts_55 tb_7 ⟨rfl, hyX7_give⟩ rfl rfl ⟨by decide, by decide⟩ (Nat.le_of_ble_eq_true rfl) dX7_lookAt_61 ?_
    refine g_aload_n X (pc := 64) 4 rfl rfl dX7_lookAt_64 ?_
    refine g_iload X (pc := 65) 0 rfl dX7_lookAt_65 ?_
    obtain ⟨v23, M22, eM22, h⟩ := b2d h
    refine g_callS X (pc := 67) (M' := M22) (ro := some (pI v23)) (as := [pI v19]) (as' := [pI v19]) (st := [pR a2]) (ctX7_isBodyLeftOut _ _ _ _ _ _ fu  v19 M21 _ eM22) tb_1408 tb_1406 tb_1407 tb_7 hyX7_isBodyLeftOut rfl rfl ⟨by decide, by decide⟩ (Nat.le_of_ble_eq_true rfl) dX7_lookAt_67 ?_
    refine g_if_eq X (pc := 70) (tgt := 80) dX7_lookAt_70 (by decide) (fun hc => ?_) (fun hc => ?_)
    · have h := (if_pos hc).symm.trans h
      refine g_iconst X (pc := 80) (v := 0) dX7_lookAt_80 (by decide) ?_
      refine g_sub [4] [(2, pR a2)] rfl ?_
      exact wX7_lookAt_L81 X hE hn fu   a2 a2 (0 : Int32) M22 h
    · have h := (if_neg hc).symm.trans h
      refine g_aload_n X (pc := 73) 2 rfl rfl dX7_lookAt_73 ?_
      obtain ⟨v24, ev24, h⟩ := bd h
      refine g_getI X (pc := 74) fk_7_12 rfl rfl ev24 tb_268 dX7_lookAt_74 ?_
      refine g_goto X (pc := 77) (tgt := 81) dX7_lookAt_77 (by decide) ?_
      refine g_sub [4] [(2, pR a2)] rfl ?_
      exact wX7_lookAt_L81 X hE hn fu   a2 a2 v24 M22 h
theorem wX7_lookAt {x : GX} {n0 sl0 : Nat} (X : Cx x cX7_lookAt RX7 none n0 sl0 10 230) {out : Mm} (hE : Ends x n0 sl0 none out) (hn : xn x = 6) (fu : Nat)   (a0 : Nat) (a1 : Option Nat)  (M : Mm) (h : fX7_lookAt fu  a0 a1 M = some out) : Gw x M 0 [(0, pR (some a0)), (1, pR a1)] [] := by
  unfold fX7_lookAt at h
  refine g_aload_n X (pc := 0) 1 rfl rfl dX7_lookAt_0 ?_
  obtain ⟨v1, ev1, h⟩ := bd h
  refine g_getR X (pc := 1) fk_1_16 rfl rfl ev1 tb_994 dX7_lookAt_1 ?_
  refine g_astore_n X (pc := 4) [(2, pR v1), (0, pR (some a0)), (1, pR a1)] rfl (lt_n hn (by decide)) rfl dX7_lookAt_4 ?_
  refine g_aload_n X (pc := 5) 0 rfl rfl dX7_lookAt_5 ?_
  obtain ⟨q2, eq2, h⟩ := bd h
  obtain ⟨M3, eM3, h⟩ := bd h
  refine g_callV X (pc := 6) (M' := M3) (ro := none) (c := 0) rfl (by decide) (as := []) (as' := []) (st := []) eq2 (ctX0_leaveBody _ _ _ _ _ _ fu q2  M _ eM3) tb_1165 tb_1162 tb_1163 tb_1164 tb_19 ⟨rfl, hyX0_leaveBody⟩ rfl rfl ⟨by decide, by decide⟩ (Nat.le_of_ble_eq_true rfl) dX7_lookAt_6 ?_
  refine g_aload_n X (pc := 9) 2 rfl rfl dX7_lookAt_9 ?_
  obtain ⟨q4, eq4, h⟩ := bd h
  obtain ⟨v6, M5, eM5, h⟩ := b2d h
  refine g_callV X (pc := 10) (M' := M5) (ro := some (pI v6)) (c := 1) rfl (by decide) (as := []) (as' := []) (st := []) eq4 (ctX1_isReady _ _ _ _ _ _ fu q4  M3 _ eM5) tb_1174 tb_1171 tb_1172 tb_1173 tb_18 ⟨rfl, hyX1_isReady⟩ rfl rfl ⟨by decide, by decide⟩ (Nat.le_of_ble_eq_true rfl) dX7_lookAt_10 ?_
  refine g_if_ne X (pc := 13) (tgt := 17) dX7_lookAt_13 (by decide) (fun hc => ?_) (fun hc => ?_)
  · have h := (if_neg hc).symm.trans h
    refine g_aload_n X (pc := 17) 0 rfl rfl dX7_lookAt_17 ?_
    obtain ⟨v8, M7, eM7, h⟩ := b2d h
    refine g_callS X (pc := 18) (M' := M7) (ro := some (pI v8)) (as := [pR v1]) (as' := [pR v1]) (st := []) (ctX7_emptyLines _ _ _ _ _ _ fu  v1 M5 _ eM7) tb_1177 tb_1175 tb_1176 tb_7 hyX7_emptyLines rfl rfl ⟨by decide, by decide⟩ (Nat.le_of_ble_eq_true rfl) dX7_lookAt_18 ?_
    refine g_istore_n X (pc := 21) [(3, pI v8), (2, pR v1), (0, pR (some a0)), (1, pR a1)] rfl (lt_n hn (by decide)) rfl dX7_lookAt_21 ?_
    refine g_iload_n X (pc := 22) 0 rfl rfl dX7_lookAt_22 ?_
    refine g_if_le X (pc := 23) (tgt := 31) dX7_lookAt_23 (by decide) (fun hc => ?_) (fun hc => ?_)
    · have h := (if_pos hc).symm.trans h
      refine g_sub [2, 3, 1] [(0, pR (some a0)), (1, pR a1), (2, pR v1)] rfl ?_
      exact wX7_lookAt_L31 X hE hn fu   a0 a1 v1 M7 h
    · have h := (if_neg hc).symm.trans h
      refine g_aload_n X (pc := 26) 1 rfl rfl dX7_lookAt_26 ?_
      refine g_iload_n X (pc := 27) 0 rfl rfl dX7_lookAt_27 ?_
      obtain ⟨q9, eq9, h⟩ := bd h
      obtain ⟨M10, eM10, h⟩ := bd h
      refine g_callV X (pc := 28) (M' := M10) (ro := none) (c := 0) rfl (by decide) (as := [pI v8]) (as' := [pI v8]) (st := []) eq9 (ctX0_leave _ _ _ _ _ _ fu q9 v8 M7 _ eM10) tb_1170 tb_1183 tb_1168 tb_1169 tb_19 ⟨rfl, hyX0_leave⟩ rfl rfl ⟨by decide, by decide⟩ (Nat.le_of_ble_eq_true rfl) dX7_lookAt_28 ?_
      refine g_sub [2, 3, 1] [(0, pR (some a0)), (1, pR a1), (2, pR v1)] rfl ?_
      exact wX7_lookAt_L31 X hE hn fu   a0 a1 v1 M10 h
  · have h := (if_pos hc).symm.trans h
    obtain rfl := Option.some.inj h
    exact g_return X hE dX7_lookAt_16
theorem hyX7_lookAt : yX7_lookAt.cls ≠ "java/lang/invoke/MethodHandle" ∧ yX7_lookAt.cls ≠ "java/lang/invoke/VarHandle" ∧ (parseMethodDescriptor yX7_lookAt.desc).map (fun d => d.parameters.length) = some 1 := ⟨by decide +kernel, by decide +kernel, by decide +kernel⟩
theorem ctX7_lookAt (l : Launch) (E : Nat → Nat) (D : va_G) (dA : Nat → ClassId) (lo : Nat) (H0 : Heap) (fu : Nat) (a0 : Nat) (a1 : Option Nat) (M : Mm) (out : Mm) (h : fX7_lookAt fu a0 a1 M = some out) : Ct l E D dA lo H0 yX7_lookAt cX7_lookAt 6 none 10 230 [pR (some a0), pR a1] M none out := by
  refine ct_of (by decide +kernel) (Nat.le_of_ble_eq_true rfl) ?_
  intro x hl he hd ha ho hh hn hin X hE
  exact wX7_lookAt X hE hn fu a0 a1 M h
