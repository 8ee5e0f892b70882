/-! ===== walks of methods, printed by a program of ours ===== -/
/-! WebHost.arrive(I)I -/
def fX11_arrive_L167 (fu : Nat)  (a0 : Nat) (a3 : Int32)  (M : Mm) : Option (Int32 × Mm) :=
    (pF M 11 711 (some a0) (0 : Int32)).bind fun M1 =>
    (gR M1 11 705 (some a0)).bind fun v2 =>
    (gI M1 10 642 v2).bind fun v3 =>
    some ((v3 - a3), M1)
def fX11_arrive (fu : Nat)  (a0 : Nat) (a1 : Int32)  (M : Mm) : Option (Int32 × Mm) :=
    (rc M 11 (some a0)).bind fun q1 =>
    b2 (fX11_refusal fu q1 a1 M) fun v3 M2 =>
    if v3 = 0 then (
    (gI M2 11 711 (some a0)).bind fun v4 =>
    if v4 < (1 : Int32) then (
    some ((-3 : Int32), M2))
    else (
    (gI M2 11 711 (some a0)).bind fun v5 =>
    if v5 ≤ (1514 : Int32) then (
    (gR M2 11 705 (some a0)).bind fun v6 =>
    (gI M2 10 642 v6).bind fun v7 =>
    (rc M2 11 (some a0)).bind fun q8 =>
    (fX11_goOn fu q8 a1 M2).bind fun M9 =>
    (gR M9 11 705 (some a0)).bind fun v10 =>
    (gR M9 10 640 v10).bind fun v11 =>
    (gA M9 101 v11 (0 : Int32)).bind fun v12 =>
    (pA M9 101 v11 (0 : Int32) (v12 + (1 : Int32))).bind fun M13 =>
    (gR M13 11 707 (some a0)).bind fun v14 =>
    (gR M13 11 710 (some a0)).bind fun v15 =>
    (gI M13 11 711 (some a0)).bind fun v16 =>
    (rc M13 3 v14).bind fun q17 =>
    b2 (fX3_read fu q17 v15 v16 M13) fun v19 M18 =>
    if v19 = (2054 : Int32) then (
    (gR M18 11 706 (some a0)).bind fun v37 =>
    (gR M18 11 710 (some a0)).bind fun v38 =>
    (gI M18 11 711 (some a0)).bind fun v39 =>
    (rc M18 4 v37).bind fun q40 =>
    (fX4_takeArp fu q40 v38 v39 M18).bind fun M41 =>
    fX11_arrive_L167 fu  a0 v7 M41)
    else (
    if v19 = (1 : Int32) then (
    (gR M18 11 707 (some a0)).bind fun v34 =>
    (rc M18 3 v34).bind fun q35 =>
    (fX3_echo fu q35  M18).bind fun M36 =>
    fX11_arrive_L167 fu  a0 v7 M36)
    else (
    if v19 = (6 : Int32) then (
    (gR M18 11 707 (some a0)).bind fun v20 =>
    (rc M18 3 v20).bind fun q21 =>
    b2 (fX3_readSegment fu q21  M18) fun v23 M22 =>
    if v23 = 0 then (
    fX11_arrive_L167 fu  a0 v7 M22)
    else (
    (gR M22 11 708 (some a0)).bind fun v24 =>
    (rc M22 9 v24).bind fun q25 =>
    b2 (fX9_take fu q25  M22) fun v27 M26 =>
    if v27 = none then (
    fX11_arrive_L167 fu  a0 v7 M26)
    else (
    (gR M26 11 709 (some a0)).bind fun v28 =>
    (rc M26 7 v28).bind fun q29 =>
    (fX7_lookAt fu q29 v27 M26).bind fun M30 =>
    (gR M30 11 708 (some a0)).bind fun v31 =>
    (rc M30 9 v31).bind fun q32 =>
    (fX9_sendAllDue fu q32 v27 M30).bind fun M33 =>
    fX11_arrive_L167 fu  a0 v7 M33)))
    else (
    fX11_arrive_L167 fu  a0 v7 M18))))
    else (
    some ((-3 : Int32), M2))))
    else (
    some (v3, M2))
theorem dX11_arrive_0 : decode cX11_arrive 0 = .ok (.aload_n 0, 1) := by decide +kernel
theorem dX11_arrive_1 : decode cX11_arrive 1 = .ok (.iload_n 1, 1) := by decide +kernel
theorem dX11_arrive_2 : decode cX11_arrive 2 = .ok (.invokevirtual 115, 3) := by decide +kernel
theorem dX11_arrive_5 : decode cX11_arrive 5 = .ok (.istore_n 2, 1) := by decide +kernel
theorem dX11_arrive_6 : decode cX11_arrive 6 = .ok (.iload_n 2, 1) := by decide +kernel
theorem dX11_arrive_7 : decode cX11_arrive 7 = .ok (.ifCond .eq 5, 3) := by decide +kernel
theorem dX11_arrive_10 : decode cX11_arrive 10 = .ok (.iload_n 2, 1) := by decide +kernel
theorem dX11_arrive_11 : decode cX11_arrive 11 = .ok (.ireturn, 1) := by decide +kernel
theorem dX11_arrive_12 : decode cX11_arrive 12 = .ok (.aload_n 0, 1) := by decide +kernel
theorem dX11_arrive_13 : decode cX11_arrive 13 = .ok (.getfield 63, 3) := by decide +kernel
theorem dX11_arrive_16 : decode cX11_arrive 16 = .ok (.iconst 1, 1) := by decide +kernel
theorem dX11_arrive_17 : decode cX11_arrive 17 = .ok (.if_icmp .lt 13, 3) := by decide +kernel
theorem dX11_arrive_20 : decode cX11_arrive 20 = .ok (.aload_n 0, 1) := by decide +kernel
theorem dX11_arrive_21 : decode cX11_arrive 21 = .ok (.getfield 63, 3) := by decide +kernel
theorem dX11_arrive_24 : decode cX11_arrive 24 = .ok (.sipush 1514, 3) := by decide +kernel
theorem dX11_arrive_27 : decode cX11_arrive 27 = .ok (.if_icmp .le 6, 3) := by decide +kernel
theorem dX11_arrive_30 : decode cX11_arrive 30 = .ok (.bipush (-3), 2) := by decide +kernel
theorem dX11_arrive_32 : decode cX11_arrive 32 = .ok (.ireturn, 1) := by decide +kernel
theorem dX11_arrive_33 : decode cX11_arrive 33 = .ok (.aload_n 0, 1) := by decide +kernel
theorem dX11_arrive_34 : decode cX11_arrive 34 = .ok (.getfield 19, 3) := by decide +kernel
theorem dX11_arrive_37 : decode cX11_arrive 37 = .ok (.getfield 119, 3) := by decide +kernel
theorem dX11_arrive_40 : decode cX11_arrive 40 = .ok (.istore_n 3, 1) := by decide +kernel
theorem dX11_arrive_41 : decode cX11_arrive 41 = .ok (.aload_n 0, 1) := by decide +kernel
theorem dX11_arrive_42 : decode cX11_arrive 42 = .ok (.iload_n 1, 1) := by decide +kernel
theorem dX11_arrive_43 : decode cX11_arrive 43 = .ok (.invokevirtual 122, 3) := by decide +kernel
theorem dX11_arrive_46 : decode cX11_arrive 46 = .ok (.aload_n 0, 1) := by decide +kernel
theorem dX11_arrive_47 : decode cX11_arrive 47 = .ok (.getfield 19, 3) := by decide +kernel
theorem dX11_arrive_50 : decode cX11_arrive 50 = .ok (.getfield 126, 3) := by decide +kernel
theorem dX11_arrive_53 : decode cX11_arrive 53 = .ok (.iconst 0, 1) := by decide +kernel
theorem dX11_arrive_54 : decode cX11_arrive 54 = .ok (.dup2, 1) := by decide +kernel
theorem dX11_arrive_55 : decode cX11_arrive 55 = .ok (.iaload, 1) := by decide +kernel
theorem dX11_arrive_56 : decode cX11_arrive 56 = .ok (.iconst 1, 1) := by decide +kernel
theorem dX11_arrive_57 : decode cX11_arrive 57 = .ok (.iadd, 1) := by decide +kernel
theorem dX11_arrive_58 : decode cX11_arrive 58 = .ok (.iastore, 1) := by decide +kernel
theorem dX11_arrive_59 : decode cX11_arrive 59 = .ok (.aload_n 0, 1) := by decide +kernel
theorem dX11_arrive_60 : decode cX11_arrive 60 = .ok (.getfield 37, 3) := by decide +kernel
theorem dX11_arrive_63 : decode cX11_arrive 63 = .ok (.aload_n 0, 1) := by decide +kernel
theorem dX11_arrive_64 : decode cX11_arrive 64 = .ok (.getfield 59, 3) := by decide +kernel
theorem dX11_arrive_67 : decode cX11_arrive 67 = .ok (.aload_n 0, 1) := by decide +kernel
theorem dX11_arrive_68 : decode cX11_arrive 68 = .ok (.getfield 63, 3) := by decide +kernel
theorem dX11_arrive_71 : decode cX11_arrive 71 = .ok (.invokevirtual 130, 3) := by decide +kernel
theorem dX11_arrive_74 : decode cX11_arrive 74 = .ok (.istore 4, 2) := by decide +kernel
theorem dX11_arrive_76 : decode cX11_arrive 76 = .ok (.iload 4, 2) := by decide +kernel
theorem dX11_arrive_78 : decode cX11_arrive 78 = .ok (.sipush 2054, 3) := by decide +kernel
theorem dX11_arrive_81 : decode cX11_arrive 81 = .ok (.if_icmp .ne 21, 3) := by decide +kernel
theorem dX11_arrive_84 : decode cX11_arrive 84 = .ok (.aload_n 0, 1) := by decide +kernel
theorem dX11_arrive_85 : decode cX11_arrive 85 = .ok (.getfield 28, 3) := by decide +kernel
theorem dX11_arrive_88 : decode cX11_arrive 88 = .ok (.aload_n 0, 1) := by decide +kernel
theorem dX11_arrive_89 : decode cX11_arrive 89 = .ok (.getfield 59, 3) := by decide +kernel
theorem dX11_arrive_92 : decode cX11_arrive 92 = .ok (.aload_n 0, 1) := by decide +kernel
theorem dX11_arrive_93 : decode cX11_arrive 93 = .ok (.getfield 63, 3) := by decide +kernel
theorem dX11_arrive_96 : decode cX11_arrive 96 = .ok (.invokevirtual 134, 3) := by decide +kernel
theorem dX11_arrive_99 : decode cX11_arrive 99 = .ok (.goto 68, 3) := by decide +kernel
theorem dX11_arrive_102 : decode cX11_arrive 102 = .ok (.iload 4, 2) := by decide +kernel
theorem dX11_arrive_104 : decode cX11_arrive 104 = .ok (.iconst 1, 1) := by decide +kernel
theorem dX11_arrive_105 : decode cX11_arrive 105 = .ok (.if_icmp .ne 13, 3) := by decide +kernel
theorem dX11_arrive_108 : decode cX11_arrive 108 = .ok (.aload_n 0, 1) := by decide +kernel
theorem dX11_arrive_109 : decode cX11_arrive 109 = .ok (.getfield 37, 3) := by decide +kernel
theorem dX11_arrive_112 : decode cX11_arrive 112 = .ok (.invokevirtual 137, 3) := by decide +kernel
theorem dX11_arrive_115 : decode cX11_arrive 115 = .ok (.goto 52, 3) := by decide +kernel
theorem dX11_arrive_118 : decode cX11_arrive 118 = .ok (.iload 4, 2) := by decide +kernel
theorem dX11_arrive_120 : decode cX11_arrive 120 = .ok (.bipush 6, 2) := by decide +kernel
theorem dX11_arrive_122 : decode cX11_arrive 122 = .ok (.if_icmp .ne 45, 3) := by decide +kernel
theorem dX11_arrive_125 : decode cX11_arrive 125 = .ok (.aload_n 0, 1) := by decide +kernel
theorem dX11_arrive_126 : decode cX11_arrive 126 = .ok (.getfield 37, 3) := by decide +kernel
theorem dX11_arrive_129 : decode cX11_arrive 129 = .ok (.invokevirtual 140, 3) := by decide +kernel
theorem dX11_arrive_132 : decode cX11_arrive 132 = .ok (.ifCond .eq 35, 3) := by decide +kernel
theorem dX11_arrive_135 : decode cX11_arrive 135 = .ok (.aload_n 0, 1) := by decide +kernel
theorem dX11_arrive_136 : decode cX11_arrive 136 = .ok (.getfield 46, 3) := by decide +kernel
theorem dX11_arrive_139 : decode cX11_arrive 139 = .ok (.invokevirtual 143, 3) := by decide +kernel
theorem dX11_arrive_142 : decode cX11_arrive 142 = .ok (.astore 5, 2) := by decide +kernel
theorem dX11_arrive_144 : decode cX11_arrive 144 = .ok (.aload 5, 2) := by decide +kernel
theorem dX11_arrive_146 : decode cX11_arrive 146 = .ok (.ifnull 21, 3) := by decide +kernel
theorem dX11_arrive_149 : decode cX11_arrive 149 = .ok (.aload_n 0, 1) := by decide +kernel
theorem dX11_arrive_150 : decode cX11_arrive 150 = .ok (.getfield 55, 3) := by decide +kernel
theorem dX11_arrive_153 : decode cX11_arrive 153 = .ok (.aload 5, 2) := by decide +kernel
theorem dX11_arrive_155 : decode cX11_arrive 155 = .ok (.invokevirtual 147, 3) := by decide +kernel
theorem dX11_arrive_158 : decode cX11_arrive 158 = .ok (.aload_n 0, 1) := by decide +kernel
theorem dX11_arrive_159 : decode cX11_arrive 159 = .ok (.getfield 46, 3) := by decide +kernel
theorem dX11_arrive_162 : decode cX11_arrive 162 = .ok (.aload 5, 2) := by decide +kernel
theorem dX11_arrive_164 : decode cX11_arrive 164 = .ok (.invokevirtual 151, 3) := by decide +kernel
theorem dX11_arrive_167 : decode cX11_arrive 167 = .ok (.aload_n 0, 1) := by decide +kernel
theorem dX11_arrive_168 : decode cX11_arrive 168 = .ok (.iconst 0, 1) := by decide +kernel
theorem dX11_arrive_169 : decode cX11_arrive 169 = .ok (.putfield 63, 3) := by decide +kernel
theorem dX11_arrive_172 : decode cX11_arrive 172 = .ok (.aload_n 0, 1) := by decide +kernel
theorem dX11_arrive_173 : decode cX11_arrive 173 = .ok (.getfield 19, 3) := by decide +kernel
theorem dX11_arrive_176 : decode cX11_arrive 176 = .ok (.getfield 119, 3) := by decide +kernel
theorem dX11_arrive_179 : decode cX11_arrive 179 = .ok (.iload_n 3, 1) := by decide +kernel
theorem dX11_arrive_180 : decode cX11_arrive 180 = .ok (.isub, 1) := by decide +kernel
theorem dX11_arrive_181 : decode cX11_arrive 181 = .ok (.ireturn, 1) := by decide +kernel
theorem wX11_arrive_L167 {x : GX} {n0 sl0 : Nat} (X : Cx x cX11_arrive RX11 (some .int) n0 sl0 11 255) {out : Int32 × Mm} (hE : Ends x n0 sl0 (some (pI out.1)) out.2) (hn : xn x = 6) (fu : Nat)   (a0 : Nat) (a3 : Int32)  (M : Mm) (h : fX11_arrive_L167 fu  a0 a3 M = some out) : Gw x M 167 [(0, pR (some a0)), (3, pI a3)] [] := by
  unfold fX11_arrive_L167 at h
  refine g_aload_n X (pc := 167) 0 rfl rfl dX11_arrive_167 ?_
  refine g_iconst X (pc := 168) (v := 0) dX11_arrive_168 (by decide) ?_
  obtain ⟨M1, eM1, h⟩ := bd h
  refine g_putI X (pc := 169) fk_11_7 rfl rfl rfl eM1 tb_321 (Or.inl rfl) dX11_arrive_169 ?_
  refine g_aload_n X (pc := 172) 0 rfl rfl dX11_arrive_172 ?_
  obtain ⟨v2, ev2, h⟩ := bd h
  refine g_getR X (pc := 173) fk_11_1 rfl rfl ev2 tb_315 dX11_arrive_173 ?_
  obtain ⟨v3, ev3, h⟩ := bd h
  refine g_getI X (pc := 176) fk_10_2 rfl rfl ev3 tb_73 dX11_arrive_176 ?_
  refine g_iload_n X (pc := 179) 1 rfl rfl dX11_arrive_179 ?_
  refine g_isub X (pc := 180) dX11_arrive_180 ?_
  obtain rfl := Option.some.inj h
  exact g_ireturn X hE dX11_arrive_181
theorem wX11_arrive {x : GX} {n0 sl0 : Nat} (X : Cx x cX11_arrive RX11 (some .int) n0 sl0 11 255) {out : Int32 × Mm} (hE : Ends x n0 sl0 (some (pI out.1)) out.2) (hn : xn x = 6) (fu : Nat)   (a0 : Nat) (a1 : Int32)  (M : Mm) (h : fX11_arrive fu  a0 a1 M = some out) : Gw x M 0 [(0, pR (some a0)), (1, pI a1)] [] := by
  unfold fX11_arrive at h
  refine g_aload_n X (pc := 0) 0 rfl rfl dX11_arrive_0 ?_
  refine g_iload_n X (pc := 1) 1 rfl rfl dX11_arrive_1 ?_
  obtain ⟨q1, eq1, h⟩ := bd h
  obtain ⟨v3, M2, eM2, h⟩ := b2d h
  refine g_callV X (pc := 2) (M' := M2) (ro := some (pI v3)) (c := 11) rfl (by decide) (as := [pI a1]) (as' := [pI a1]) (st := []) eq1 (ctX11_refusal _ _ _ _ _ _ fu q1 a1 M _ eM2) tb_461 tb_458 tb_460 ts_4 tb_1 ⟨rfl, hyX11_refusal⟩ rfl rfl ⟨by decide, by decide⟩ (Nat.le_of_ble_eq_true rfl) dX11_arrive_2 ?_
  refine g_istore_n X (pc := 5) [(2, pI v3), (0, pR (some a0)), (1, pI a1)] rfl (lt_n hn (by decide)) rfl dX11_arrive_5 ?_
  refine g_iload_n X (pc := 6) 0 rfl rfl dX11_arrive_6 ?_
  refine g_if_eq X (pc := 7) (tgt := 12) dX11_arrive_7 (by decide) (fun hc => ?_) (fun hc => ?_)
  · have h := (if_pos hc).symm.trans h
    refine g_aload_n X (pc := 12) 1 rfl rfl dX11_arrive_12 ?_
    obtain ⟨v4, ev4, h⟩ := bd h
    refine g_getI X (pc := 13) fk_11_7 rfl rfl ev4 tb_321 dX11_arrive_13 ?_
    refine g_iconst X (pc := 16) (v := 1) dX11_arrive_16 (by decide) ?_
    refine g_icmp_lt X (pc := 17) (tgt := 30) dX11_arrive_17 (by decide) (fun hc => ?_) (fun hc => ?_)
    · have h := (if_pos hc).symm.trans h
      refine g_bipush X (pc := 30) (v := (-3)) dX11_arrive_30 (by decide) ?_
      obtain rfl := Option.some.inj h
      exact g_ireturn X hE dX11_arrive_32
    · have h := (if_neg hc).symm.trans h
      refine g_aload_n X (pc := 20) 1 rfl rfl dX11_arrive_20 ?_
      obtain ⟨v5, ev5, h⟩ := bd h
      refine g_getI X (pc := 21) fk_11_7 rfl rfl ev5 tb_321 dX11_arrive_21 ?_
      refine g_sipush X (pc := 24) (v := 1514) dX11_arrive_24 (by decide) ?_
      refine g_icmp_le X (pc := 27) (tgt := 33) dX11_arrive_27 (by decide) (fun hc => ?_) (fun hc => ?_)
      · have h := (if_pos hc).symm.trans h
        refine g_aload_n X (pc := 33) 1 rfl rfl dX11_arrive_33 ?_
        obtain ⟨v6, ev6, h⟩ := bd h
        refine g_getR X (pc := 34) fk_11_1 rfl rfl ev6 tb_315 dX11_arrive_34 ?_
        obtain ⟨v7, ev7, h⟩ := bd h
        refine g_getI X (pc := 37) fk_10_2 rfl rfl ev7 tb_73 dX11_arrive_37 ?_
        refine g_istore_n X (pc := 40) [(3, pI v7), (2, pI v3), (0, pR (some a0)), (1, pI a1)] rfl (lt_n hn (by decide)) rfl dX11_arrive_40 ?_
        refine g_aload_n X (pc := 41) 2 rfl rfl dX11_arrive_41 ?_
        refine g_iload_n X (pc := 42) 3 rfl rfl dX11_arrive_42 ?_
        obtain ⟨q8, eq8, h⟩ := bd h
        obtain ⟨M9, eM9, h⟩ := bd h
        refine g_callV X (pc := 43) (M' := M9) (ro := none) (c := 11) rfl (by decide) (as := [pI a1]) (as' := [pI a1]) (st := []) eq8 (ctX11_goOn _ _ _ _ _ _ fu q8 a1 M2 _ eM9) tb_467 tb_464 tb_466 ts_5 tb_1 ⟨rfl, hyX11_goOn⟩ rfl rfl ⟨by decide, by decide⟩ (Nat.le_of_ble_eq_true rfl) dX11_arrive_43 ?_
        refine g_aload_n X (pc := 46) 2 rfl rfl dX11_arrive_46 ?_
        obtain ⟨v10, ev10, h⟩ := bd h
        refine g_getR X (pc := 47) fk_11_1 rfl rfl ev10 tb_315 dX11_arrive_47 ?_
        obtain ⟨v11, ev11, h⟩ := bd h
        refine g_getR X (pc := 50) fk_10_0 rfl rfl ev11 tb_63 dX11_arrive_50 ?_
        refine g_iconst X (pc := 53) (v := 0) dX11_arrive_53 (by decide) ?_
        refine g_dup2 X (pc := 54) rfl rfl dX11_arrive_54 ?_
        obtain ⟨v12, ev12, h⟩ := bd h
        refine g_iaload X (pc := 55) ev12 dX11_arrive_55 ?_
        refine g_iconst X (pc := 56) (v := 1) dX11_arrive_56 (by decide) ?_
        refine g_iadd X (pc := 57) dX11_arrive_57 ?_
        obtain ⟨M13, eM13, h⟩ := bd h
        refine g_iastore X (pc := 58) eM13 dX11_arrive_58 ?_
        refine g_aload_n X (pc := 59) 2 rfl rfl dX11_arrive_59 ?_
        obtain ⟨v14, ev14, h⟩ := bd h
        refine g_getR X (pc := 60) fk_11_3 rfl rfl ev14 tb_317 dX11_arrive_60 ?_
        refine g_aload_n X (pc := 63) 2 rfl rfl dX11_arrive_63 ?_
        obtain ⟨v15, ev15, h⟩ := bd h
        refine g_getR X (pc := 64) fk_11_6 rfl rfl ev15 tb_320 dX11_arrive_64 ?_
        refine g_aload_n X (pc := 67) 2 rfl rfl dX11_arrive_67 ?_
        obtain ⟨v16, ev16, h⟩ := bd h
        refine g_getI X (pc := 68) fk_11_7 rfl rfl ev16 tb_321 dX11_arrive_68 ?_
        obtain ⟨q17, eq17, h⟩ := bd h
        obtain ⟨v19, M18, eM18, h⟩ := b2d h
        refine g_callV X (pc := 71) (M' := M18) (ro := some (pI v19)) (c := 3) rfl (by decide) (as := [pR v15, pI v16]) (as' := [pI v16, pR v15]) (st := []) eq17 (ctX3_read _ _ _ _ _ _ fu q17 v15 v16 M13 _ eM18) tb_711 tb_708 tb_709 tb_710 tb_5 ⟨rfl, hyX3_read⟩ rfl rfl ⟨by decide, by decide⟩ (Nat.le_of_ble_eq_true rfl) dX11_arrive_71 ?_
        refine g_istore X (pc := 74) [(4, pI v19), (3, pI v7), (2, pI v3), (0, pR (some a0)), (1, pI a1)] (lt_n hn (by decide)) rfl dX11_arrive_74 ?_
        refine g_iload X (pc := 76) 0 rfl dX11_arrive_76 ?_
        refine g_sipush X (pc := 78) (v := 2054) dX11_arrive_78 (by decide) ?_
        refine g_icmp_ne X (pc := 81) (tgt := 102) dX11_arrive_81 (by decide) (fun hc => ?_) (fun hc => ?_)
        · have h := (if_neg hc).symm.trans h
          refine g_iload X (pc := 102) 0 rfl dX11_arrive_102 ?_
          refine g_iconst X (pc := 104) (v := 1) dX11_arrive_104 (by decide) ?_
          refine g_icmp_ne X (pc := 105) (tgt := 118) dX11_arrive_105 (by decide) (fun hc => ?_) (fun hc => ?_)
          · have h := (if_neg hc).symm.trans h
            refine g_iload X (pc := 118) 0 rfl dX11_arrive_118 ?_
            refine g_bipush X (pc := 120) (v := 6) dX11_arrive_120 (by decide) ?_
            refine g_icmp_ne X (pc := 122) (tgt := 167) dX11_arrive_122 (by decide) (fun hc => ?_) (fun hc => ?_)
            · have h := (if_neg hc).symm.trans h
              refine g_sub [3, 1] [(0, pR (some a0)), (3, pI v7)] rfl ?_
              exact wX11_arrive_L167 X hE hn fu   a0 v7 M18 h
            · have h := (if_pos hc).symm.trans h
              refine g_aload_n X (pc := 125) 3 rfl rfl dX11_arrive_125 ?_
              obtain ⟨v20, ev20, h⟩ := bd h
              refine g_getR X (pc := 126) fk_11_3 rfl rfl ev20 tb_317 dX11_arrive_126 ?_
              obtain ⟨q21, eq21, h⟩ := bd h
              obtain ⟨v23, M22, eM22, h⟩ := b2d h
              refine g_callV X (pc := 129) (M' := M22) (ro := some (pI v23)) (c := 3) rfl (by decide) (as := []) (as' := []) (st := []) eq21 (ctX3_readSegment _ _ _ _ _ _ fu q21  M18 _ eM22) tb_818 tb_815 tb_816 tb_817 tb_5 ⟨rfl, hyX3_readSegment⟩ rfl rfl ⟨by decide, by decide⟩ (Nat.le_of_ble_eq_true rfl) dX11_arrive_129 ?_
              refine g_if_eq X (pc := 132) (tgt := 167) dX11_arrive_132 (by decide) (fun hc => ?_) (fun hc => ?_)
              · have h := (if_pos hc).symm.trans h
                refine g_sub [3, 1] [(0, pR (some a0)), (3, pI v7)] rfl ?_
                exact wX11_arrive_L167 X hE hn fu   a0 v7 M22 h
              · have h := (if_neg hc).symm.trans h
                refine g_aload_n X (pc := 135) 3 rfl rfl dX11_arrive_135 ?_
                obtain ⟨v24, ev24, h⟩ := bd h
                refine g_getR X (pc := 136) fk_11_4 rfl rfl ev24 tb_318 dX11_arrive_136 ?_
                obtain ⟨q25, eq25, h⟩ := bd h
                obtain ⟨v27, M26, eM26, h⟩ := b2d h
                refine g_callV X (pc := 139) (M' := M26) (ro := some (pR v27)) (c := 9) rfl (by decide) (as := []) (as' := []) (st := []) eq25 (ctX9_take _ _ _ _ _ _ fu q25  M22 _ eM26) tb_823 tb_820 tb_821 tb_822 tb_6 ⟨rfl, hyX9_take⟩ rfl rfl ⟨by decide, by decide⟩ (Nat.le_of_ble_eq_true rfl) dX11_arrive_139 ?_
                refine g_astore X (pc := 142) [(5, pR v27), (4, pI v19), (3, pI v7), (2, pI v3), (0, pR (some a0)), (1, pI a1)] (lt_n hn (by decide)) rfl dX11_arrive_142 ?_
                refine g_aload X (pc := 144) 0 rfl dX11_arrive_144 ?_
                refine g_ifnull X (pc := 146) (tgt := 167) dX11_arrive_146 (by decide) (fun hc => ?_) (fun hc => ?_)
                · have h := (if_pos hc).symm.trans h
                  refine g_sub [4, 2] [(0, pR (some a0)), (3, pI v7)] rfl ?_
                  exact wX11_arrive_L167 X hE hn fu   a0 v7 M26 h
                · have h := (if_neg hc).symm.trans h
                  refine g_aload_n X (pc := 149) 4 rfl rfl dX11_arrive_149 ?_
                  obtain ⟨v28, ev28, h⟩ := bd h
                  refine g_getR X (pc := 150) fk_11_5 rfl rfl ev28 tb_319 dX11_arrive_150 ?_
                  refine g_aload X (pc := 153) 0 rfl dX11_arrive_153 ?_
                  obtain ⟨q29, eq29, h⟩ := bd h
                  obtain ⟨M30, eM30, h⟩ := bd h
                  refine g_callV X (pc := 155) (M' := M30) (ro := none) (c := 7) rfl (by decide) (as := [pR v27]) (as' := [pR v27]) (st := []) eq29 (ctX7_lookAt _ _ _ _ _ _ fu q29 v27 M26 _ eM30) tb_1161 tb_1158 tb_1159 tb_1160 tb_7 ⟨rfl, hyX7_lookAt⟩ rfl rfl ⟨by decide, by decide⟩ (Nat.le_of_ble_eq_true rfl) dX11_arrive_155 ?_
                  refine g_aload_n X (pc := 158) 4 rfl rfl dX11_arrive_158 ?_
                  obtain ⟨v31, ev31, h⟩ := bd h
                  refine g_getR X (pc := 159) fk_11_4 rfl rfl ev31 tb_318 dX11_arrive_159 ?_
                  refine g_aload X (pc := 162) 0 rfl dX11_arrive_162 ?_
                  obtain ⟨q32, eq32, h⟩ := bd h
                  obtain ⟨M33, eM33, h⟩ := bd h
                  refine g_callV X (pc := 164) (M' := M33) (ro := none) (c := 9) rfl (by decide) (as := [pR v27]) (as' := [pR v27]) (st := []) eq32 (ctX9_sendAllDue _ _ _ _ _ _ fu q32 v27 M30 _ eM33) tb_1478 tb_1475 tb_1476 tb_1477 tb_6 ⟨rfl, hyX9_sendAllDue⟩ rfl rfl ⟨by decide, by decide⟩ (Nat.le_of_ble_eq_true rfl) dX11_arrive_164 ?_
                  refine g_sub [4, 2] [(0, pR (some a0)), (3, pI v7)] rfl ?_
                  exact wX11_arrive_L167 X hE hn fu   a0 v7 M33 h
          · have h := (if_pos hc).symm.trans h
            refine g_aload_n X (pc := 108) 3 rfl rfl dX11_arrive_108 ?_
            obtain ⟨v34, ev34, h⟩ := bd h
            refine g_getR X (pc := 109) fk_11_3 rfl rfl ev34 tb_317 dX11_arrive_109 ?_
            obtain ⟨q35, eq35, h⟩ := bd h
            obtain ⟨M36, eM36, h⟩ := bd h
            refine g_callV X (pc := 112) (M' := M36) (ro := none) (c := 3) rfl (by decide) (as := []) (as' := []) (st := []) eq35 (ctX3_echo _ _ _ _ _ _ fu q35  M18 _ eM36) tb_810 tb_807 tb_808 tb_809 tb_5 ⟨rfl, hyX3_echo⟩ rfl rfl ⟨by decide, by decide⟩ (Nat.le_of_ble_eq_true rfl) dX11_arrive_112 ?_
            refine g_goto X (pc := 115) (tgt := 167) dX11_arrive_115 (by decide) ?_
            refine g_sub [3, 1] [(0, pR (some a0)), (3, pI v7)] rfl ?_
            exact wX11_arrive_L167 X hE hn fu   a0 v7 M36 h
        · have h := (if_pos hc).symm.trans h
          refine g_aload_n X (pc := 84) 3 rfl rfl dX11_arrive_84 ?_
          obtain ⟨v37, ev37, h⟩ := bd h
          refine g_getR X (pc := 85) fk_11_2 rfl rfl ev37 tb_316 dX11_arrive_85 ?_
          refine g_aload_n X (pc := 88) 3 rfl rfl dX11_arrive_88 ?_
          obtain ⟨v38, ev38, h⟩ := bd h
          refine g_getR X (pc := 89) fk_11_6 rfl rfl ev38 tb_320 dX11_arrive_89 ?_
          refine g_aload_n X (pc := 92) 3 rfl rfl dX11_arrive_92 ?_
          obtain ⟨v39, ev39, h⟩ := bd h
          refine g_getI X (pc := 93) fk_11_7 rfl rfl ev39 tb_321 dX11_arrive_93 ?_
          obtain ⟨q40, eq40, h⟩ := bd h
          obtain ⟨M41, eM41, h⟩ := bd h
          refine g_callV X (pc := 96) (M' := M41) (ro := none) (c := 4) rfl (by decide) (as := [pR v38, pI v39]) (as' := [pI v39, pR v38]) (st := []) eq40 (ctX4_takeArp _ _ _ _ _ _ fu q40 v38 v39 M18 _ eM41) tb_796 tb_793 tb_794 tb_795 tb_4 ⟨rfl, hyX4_takeArp⟩ rfl rfl ⟨by decide, by decide⟩ (Nat.le_of_ble_eq_true rfl) dX11_arrive_96 ?_
          refine g_goto X (pc := 99) (tgt := 167) dX11_arrive_99 (by decide) ?_
          refine g_sub [3, 1] [(0, pR (some a0)), (3, pI v7)] rfl ?_
          exact wX11_arrive_L167 X hE hn fu   a0 v7 M41 h
      · have h := (if_neg hc).symm.trans h
        refine g_bipush X (pc := 30) (v := (-3)) dX11_arrive_30 (by decide) ?_
        obtain rfl := Option.some.inj h
        exact g_ireturn X hE dX11_arrive_32
  · have h := (if_neg hc).symm.trans h
    refine g_iload_n X (pc := 10) 0 rfl rfl dX11_arrive_10 ?_
    obtain rfl := Option.some.inj h
    exact g_ireturn X hE dX11_arrive_11
theorem hyX11_arrive : yX11_arrive.cls ≠ "java/lang/invoke/MethodHandle" ∧ yX11_arrive.cls ≠ "java/lang/invoke/VarHandle" ∧ (parseMethodDescriptor yX11_arrive.desc).map (fun d => d.parameters.length) = some 1 := ⟨by decide +kernel, by decide +kernel, by decide +kernel⟩
theorem ctX11_arrive (l : Launch) (E : Nat → Nat) (D : va_G) (dA : Nat → ClassId) (lo : Nat) (H0 : Heap) (fu : Nat) (a0 : Nat) (a1 : Int32) (M : Mm) (out : Int32 × Mm) (h : fX11_arrive fu a0 a1 M = some out) : Ct l E D dA lo H0 yX11_arrive cX11_arrive 6 (some .int) 11 255 [pR (some a0), pI a1] M (some (pI out.1)) out.2 := by
  refine ct_of (by decide +kernel) (Nat.le_of_ble_eq_true rfl) ?_
  intro x hl he hd ha ho hh hn hin X hE
  exact wX11_arrive X hE hn fu a0 a1 M h
/-! WebHost.pass(I)I -/
def fX11_pass (fu : Nat)  (a0 : Nat) (a1 : Int32)  (M : Mm) : Option (Int32 × Mm) :=
    (rc M 11 (some a0)).bind fun q1 =>
    b2 (fX11_refusal fu q1 a1 M) fun v3 M2 =>
    if v3 = 0 then (
    (gR M2 11 705 (some a0)).bind fun v4 =>
    (gI M2 10 642 v4).bind fun v5 =>
    (rc M2 11 (some a0)).bind fun q6 =>
    (fX11_goOn fu q6 a1 M2).bind fun M7 =>
    (gR M7 11 705 (some a0)).bind fun v8 =>
    (gI M7 10 642 v8).bind fun v9 =>
    some ((v9 - v5), M7))
    else (
    some (v3, M2))
theorem dX11_pass_0 : decode cX11_pass 0 = .ok (.aload_n 0, 1) := by decide +kernel
theorem dX11_pass_1 : decode cX11_pass 1 = .ok (.iload_n 1, 1) := by decide +kernel
theorem dX11_pass_2 : decode cX11_pass 2 = .ok (.invokevirtual 115, 3) := by decide +kernel
theorem dX11_pass_5 : decode cX11_pass 5 = .ok (.istore_n 2, 1) := by decide +kernel
theorem dX11_pass_6 : decode cX11_pass 6 = .ok (.iload_n 2, 1) := by decide +kernel
theorem dX11_pass_7 : decode cX11_pass 7 = .ok (.ifCond .eq 5, 3) := by decide +kernel
theorem dX11_pass_10 : decode cX11_pass 10 = .ok (.iload_n 2, 1) := by decide +kernel
theorem dX11_pass_11 : decode cX11_pass 11 = .ok (.ireturn, 1) := by decide +kernel
theorem dX11_pass_12 : decode cX11_pass 12 = .ok (.aload_n 0, 1) := by decide +kernel
theorem dX11_pass_13 : decode cX11_pass 13 = .ok (.getfield 19, 3) := by decide +kernel
theorem dX11_pass_16 : decode cX11_pass 16 = .ok (.getfield 119, 3) := by decide +kernel
theorem dX11_pass_19 : decode cX11_pass 19 = .ok (.istore_n 3, 1) := by decide +kernel
theorem dX11_pass_20 : decode cX11_pass 20 = .ok (.aload_n 0, 1) := by decide +kernel
theorem dX11_pass_21 : decode cX11_pass 21 = .ok (.iload_n 1, 1) := by decide +kernel
theorem dX11_pass_22 : decode cX11_pass 22 = .ok (.invokevirtual 122, 3) := by decide +kernel
theorem dX11_pass_25 : decode cX11_pass 25 = .ok (.aload_n 0, 1) := by decide +kernel
theorem dX11_pass_26 : decode cX11_pass 26 = .ok (.getfield 19, 3) := by decide +kernel
theorem dX11_pass_29 : decode cX11_pass 29 = .ok (.getfield 119, 3) := by decide +kernel
theorem dX11_pass_32 : decode cX11_pass 32 = .ok (.iload_n 3, 1) := by decide +kernel
theorem dX11_pass_33 : decode cX11_pass 33 = .ok (.isub, 1) := by decide +kernel
theorem dX11_pass_34 : decode cX11_pass 34 = .ok (.ireturn, 1) := by decide +kernel
theorem wX11_pass {x : GX} {n0 sl0 : Nat} (X : Cx x cX11_pass RX11 (some .int) n0 sl0 7 165) {out : Int32 × Mm} (hE : Ends x n0 sl0 (some (pI out.1)) out.2) (hn : xn x = 4) (fu : Nat)   (a0 : Nat) (a1 : Int32)  (M : Mm) (h : fX11_pass fu  a0 a1 M = some out) : Gw x M 0 [(0, pR (some a0)), (1, pI a1)] [] := by
  unfold fX11_pass at h
  refine g_aload_n X (pc := 0) 0 rfl rfl dX11_pass_0 ?_
  refine g_iload_n X (pc := 1) 1 rfl rfl dX11_pass_1 ?_
  obtain ⟨q1, eq1, h⟩ := bd h
  obtain ⟨v3, M2, eM2, h⟩ := b2d h
  refine g_callV X (pc := 2) (M' := M2) (ro := some (pI v3)) (c := 11) rfl (by decide) (as := [pI a1]) (as' := [pI a1]) (st := []) eq1 (ctX11_refusal _ _ _ _ _ _ fu q1 a1 M _ eM2) tb_461 tb_458 tb_460 ts_4 tb_1 ⟨rfl, hyX11_refusal⟩ rfl rfl ⟨by decide, by decide⟩ (Nat.le_of_ble_eq_true rfl) dX11_pass_2 ?_
  refine g_istore_n X (pc := 5) [(2, pI v3), (0, pR (some a0)), (1, pI a1)] rfl (lt_n hn (by decide)) rfl dX11_pass_5 ?_
  refine g_iload_n X (pc := 6) 0 rfl rfl dX11_pass_6 ?_
  refine g_if_eq X (pc := 7) (tgt := 12) dX11_pass_7 (by decide) (fun hc => ?_) (fun hc => ?_)
  · have h := (if_pos hc).symm.trans h
    refine g_aload_n X (pc := 12) 1 rfl rfl dX11_pass_12 ?_
    obtain ⟨v4, ev4, h⟩ := bd h
    refine g_getR X (pc := 13) fk_11_1 rfl rfl ev4 tb_315 dX11_pass_13 ?_
    obtain ⟨v5, ev5, h⟩ := bd h
    refine g_getI X (pc := 16) fk_10_2 rfl rfl ev5 tb_73 dX11_pass_16 ?_
    refine g_istore_n X (pc := 19) [(3, pI v5), (2, pI v3), (0, pR (some a0)), (1, pI a1)] rfl (lt_n hn (by decide)) rfl dX11_pass_19 ?_
    refine g_aload_n X (pc := 20) 2 rfl rfl dX11_pass_20 ?_
    refine g_iload_n X (pc := 21) 3 rfl rfl dX11_pass_21 ?_
    obtain ⟨q6, eq6, h⟩ := bd h
    obtain ⟨M7, eM7, h⟩ := bd h
    refine g_callV X (pc := 22) (M' := M7) (ro := none) (c := 11) rfl (by decide) (as := [pI a1]) (as' := [pI a1]) (st := []) eq6 (ctX11_goOn _ _ _ _ _ _ fu q6 a1 M2 _ eM7) tb_467 tb_464 tb_466 ts_5 tb_1 ⟨rfl, hyX11_goOn⟩ rfl rfl ⟨by decide, by decide⟩ (Nat.le_of_ble_eq_true rfl) dX11_pass_22 ?_
    refine g_aload_n X (pc := 25) 2 rfl rfl dX11_pass_25 ?_
    obtain ⟨v8, ev8, h⟩ := bd h
    refine g_getR X (pc := 26) fk_11_1 rfl rfl ev8 tb_315 dX11_pass_26 ?_
    obtain ⟨v9, ev9, h⟩ := bd h
    refine g_getI X (pc := 29) fk_10_2 rfl rfl ev9 tb_73 dX11_pass_29 ?_
    refine g_iload_n X (pc := 32) 0 rfl rfl dX11_pass_32 ?_
    refine g_isub X (pc := 33) dX11_pass_33 ?_
    obtain rfl := Option.some.inj h
    exact g_ireturn X hE dX11_pass_34
  · have h := (if_neg hc).symm.trans h
    refine g_iload_n X (pc := 10) 0 rfl rfl dX11_pass_10 ?_
    obtain rfl := Option.some.inj h
    exact g_ireturn X hE dX11_pass_11
theorem hyX11_pass : yX11_pass.cls ≠ "java/lang/invoke/MethodHandle" ∧ yX11_pass.cls ≠ "java/lang/invoke/VarHandle" ∧ (parseMethodDescriptor yX11_pass.desc).map (fun d => d.parameters.length) = some 1 := ⟨by decide +kernel, by decide +kernel, by decide +kernel⟩
theorem ctX11_pass (l : Launch) (E : Nat → Nat) (D : va_G) (dA : Nat → ClassId) (lo : Nat) (H0 : Heap) (fu : Nat) (a0 : Nat) (a1 : Int32) (M : Mm) (out : Int32 × Mm) (h : fX11_pass fu a0 a1 M = some out) : Ct l E D dA lo H0 yX11_pass cX11_pass 4 (some .int) 7 165 [pR (some a0), pI a1] M (some (pI out.1)) out.2 := by
  refine ct_of (by decide +kernel) (Nat.le_of_ble_eq_true rfl) ?_
  intro x hl he hd ha ho hh hn hin X hE
  exact wX11_pass X hE hn fu a0 a1 M h
/-! WebHost.now()I -/
def fX11_now (fu : Nat)  (a0 : Nat)  (M : Mm) : Option (Int32 × Mm) :=
    (gI M 11 712 (some a0)).bind fun v1 =>
    if v1 = 0 then (
    some ((-1 : Int32), M))
    else (
    (gR M 11 705 (some a0)).bind fun v2 =>
    (gI M 10 641 v2).bind fun v3 =>
    some (v3, M))
theorem dX11_now_0 : decode cX11_now 0 = .ok (.aload_n 0, 1) := by decide +kernel
theorem dX11_now_1 : decode cX11_now 1 = .ok (.getfield 89, 3) := by decide +kernel
theorem dX11_now_4 : decode cX11_now 4 = .ok (.ifCond .eq 13, 3) := by decide +kernel
theorem dX11_now_7 : decode cX11_now 7 = .ok (.aload_n 0, 1) := by decide +kernel
theorem dX11_now_8 : decode cX11_now 8 = .ok (.getfield 19, 3) := by decide +kernel
theorem dX11_now_11 : decode cX11_now 11 = .ok (.getfield 154, 3) := by decide +kernel
theorem dX11_now_14 : decode cX11_now 14 = .ok (.goto 4, 3) := by decide +kernel
theorem dX11_now_17 : decode cX11_now 17 = .ok (.iconst (-1), 1) := by decide +kernel
theorem dX11_now_18 : decode cX11_now 18 = .ok (.ireturn, 1) := by decide +kernel
theorem wX11_now {x : GX} {n0 sl0 : Nat} (X : Cx x cX11_now RX11 (some .int) n0 sl0 0 0) {out : Int32 × Mm} (hE : Ends x n0 sl0 (some (pI out.1)) out.2) (hn : xn x = 1) (fu : Nat)   (a0 : Nat)  (M : Mm) (h : fX11_now fu  a0 M = some out) : Gw x M 0 [(0, pR (some a0))] [] := by
  unfold fX11_now at h
  refine g_aload_n X (pc := 0) 0 rfl rfl dX11_now_0 ?_
  obtain ⟨v1, ev1, h⟩ := bd h
  refine g_getI X (pc := 1) fk_11_8 rfl rfl ev1 tb_322 dX11_now_1 ?_
  refine g_if_eq X (pc := 4) (tgt := 17) dX11_now_4 (by decide) (fun hc => ?_) (fun hc => ?_)
  · have h := (if_pos hc).symm.trans h
    refine g_iconst X (pc := 17) (v := (-1)) dX11_now_17 (by decide) ?_
    obtain rfl := Option.some.inj h
    exact g_ireturn X hE dX11_now_18
  · have h := (if_neg hc).symm.trans h
    refine g_aload_n X (pc := 7) 0 rfl rfl dX11_now_7 ?_
    obtain ⟨v2, ev2, h⟩ := bd h
    refine g_getR X (pc := 8) fk_11_1 rfl rfl ev2 tb_315 dX11_now_8 ?_
    obtain ⟨v3, ev3, h⟩ := bd h
    refine g_getI X (pc := 11) fk_10_1 rfl rfl ev3 tb_70 dX11_now_11 ?_
    refine g_goto X (pc := 14) (tgt := 18) dX11_now_14 (by decide) ?_
    obtain rfl := Option.some.inj h
    exact g_ireturn X hE dX11_now_18
theorem hyX11_now : yX11_now.cls ≠ "java/lang/invoke/MethodHandle" ∧ yX11_now.cls ≠ "java/lang/invoke/VarHandle" ∧ (parseMethodDescriptor yX11_now.desc).map (fun d => d.parameters.length) = some 0 := ⟨by decide +kernel, by decide +kernel, by decide +kernel⟩
theorem ctX11_now (l : Launch) (E : Nat → Nat) (D : va_G) (dA : Nat → ClassId) (lo : Nat) (H0 : Heap) (fu : Nat) (a0 : Nat) (M : Mm) (out : Int32 × Mm) (h : fX11_now fu a0 M = some out) : Ct l E D dA lo H0 yX11_now cX11_now 1 (some .int) 0 0 [pR (some a0)] M (some (pI out.1)) out.2 := by
  refine ct_of (by decide +kernel) (Nat.le_of_ble_eq_true rfl) ?_
  intro x hl he hd ha ho hh hn hin X hE
  exact wX11_now X hE hn fu a0 M h
/-! WebHost.sent()I -/
def fX11_sent (fu : Nat)  (a0 : Nat)  (M : Mm) : Option (Int32 × Mm) :=
    (gI M 11 712 (some a0)).bind fun v1 =>
    if v1 = 0 then (
    some ((-1 : Int32), M))
    else (
    (gR M 11 705 (some a0)).bind fun v2 =>
    (gI M 10 642 v2).bind fun v3 =>
    some (v3, M))
theorem dX11_sent_0 : decode cX11_sent 0 = .ok (.aload_n 0, 1) := by decide +kernel
theorem dX11_sent_1 : decode cX11_sent 1 = .ok (.getfield 89, 3) := by decide +kernel
theorem dX11_sent_4 : decode cX11_sent 4 = .ok (.ifCond .eq 13, 3) := by decide +kernel
theorem dX11_sent_7 : decode cX11_sent 7 = .ok (.aload_n 0, 1) := by decide +kernel
theorem dX11_sent_8 : decode cX11_sent 8 = .ok (.getfield 19, 3) := by decide +kernel
theorem dX11_sent_11 : decode cX11_sent 11 = .ok (.getfield 119, 3) := by decide +kernel
theorem dX11_sent_14 : decode cX11_sent 14 = .ok (.goto 4, 3) := by decide +kernel
theorem dX11_sent_17 : decode cX11_sent 17 = .ok (.iconst (-1), 1) := by decide +kernel
theorem dX11_sent_18 : decode cX11_sent 18 = .ok (.ireturn, 1) := by decide +kernel
theorem wX11_sent {x : GX} {n0 sl0 : Nat} (X : Cx x cX11_sent RX11 (some .int) n0 sl0 0 0) {out : Int32 × Mm} (hE : Ends x n0 sl0 (some (pI out.1)) out.2) (hn : xn x = 1) (fu : Nat)   (a0 : Nat)  (M : Mm) (h : fX11_sent fu  a0 M = some out) : Gw x M 0 [(0, pR (some a0))] [] := by
  unfold fX11_sent at h
  refine g_aload_n X (pc := 0) 0 rfl rfl dX11_sent_0 ?_
  obtain ⟨v1, ev1, h⟩ := bd h
  refine g_getI X (pc := 1) fk_11_8 rfl rfl ev1 tb_322 dX11_sent_1 ?_
  refine g_if_eq X (pc := 4) (tgt := 17) dX11_sent_4 (by decide) (fun hc => ?_) (fun hc => ?_)
  · have h := (if_pos hc).symm.trans h
    refine g_iconst X (pc := 17) (v := (-1)) dX11_sent_17 (by decide) ?_
    obtain rfl := Option.some.inj h
    exact g_ireturn X hE dX11_sent_18
  · have h := (if_neg hc).symm.trans h
    refine g_aload_n X (pc := 7) 0 rfl rfl dX11_sent_7 ?_
    obtain ⟨v2, ev2, h⟩ := bd h
    refine g_getR X (pc := 8) fk_11_1 rfl rfl ev2 tb_315 dX11_sent_8 ?_
    obtain ⟨v3, ev3, h⟩ := bd h
    refine g_getI X (pc := 11) fk_10_2 rfl rfl ev3 tb_73 dX11_sent_11 ?_
    refine g_goto X (pc := 14) (tgt := 18) dX11_sent_14 (by decide) ?_
    obtain rfl := Option.some.inj h
    exact g_ireturn X hE dX11_sent_18
theorem hyX11_sent : yX11_sent.cls ≠ "java/lang/invoke/MethodHandle" ∧ yX11_sent.cls ≠ "java/lang/invoke/VarHandle" ∧ (parseMethodDescriptor yX11_sent.desc).map (fun d => d.parameters.length) = some 0 := ⟨by decide +kernel, by decide +kernel, by decide +kernel⟩
theorem ctX11_sent (l : Launch) (E : Nat → Nat) (D : va_G) (dA : Nat → ClassId) (lo : Nat) (H0 : Heap) (fu : Nat) (a0 : Nat) (M : Mm) (out : Int32 × Mm) (h : fX11_sent fu a0 M = some out) : Ct l E D dA lo H0 yX11_sent cX11_sent 1 (some .int) 0 0 [pR (some a0)] M (some (pI out.1)) out.2 := by
  refine ct_of (by decide +kernel) (Nat.le_of_ble_eq_true rfl) ?_
  intro x hl he hd ha ho hh hn hin X hE
  exact wX11_sent X hE hn fu a0 M h
/-! WebHost.frameBack(I)LWebHost$Packet; -/
def fX11_frameBack (fu : Nat)  (a0 : Nat) (a1 : Int32)  (M : Mm) : Option (Option Nat × Mm) :=
    (gI M 11 712 (some a0)).bind fun v1 =>
    if v1 = 0 then (
    some (none, M))
    else (
    (gR M 11 705 (some a0)).bind fun v2 =>
    (rc M 10 v2).bind fun q3 =>
    b2 (fX10_back fu q3 a1 M) fun v5 M4 =>
    some (v5, M4))
theorem dX11_frameBack_0 : decode cX11_frameBack 0 = .ok (.aload_n 0, 1) := by decide +kernel
theorem dX11_frameBack_1 : decode cX11_frameBack 1 = .ok (.getfield 89, 3) := by decide +kernel
theorem dX11_frameBack_4 : decode cX11_frameBack 4 = .ok (.ifCond .eq 14, 3) := by decide +kernel
theorem dX11_frameBack_7 : decode cX11_frameBack 7 = .ok (.aload_n 0, 1) := by decide +kernel
theorem dX11_frameBack_8 : decode cX11_frameBack 8 = .ok (.getfield 19, 3) := by decide +kernel
theorem dX11_frameBack_11 : decode cX11_frameBack 11 = .ok (.iload_n 1, 1) := by decide +kernel
theorem dX11_frameBack_12 : decode cX11_frameBack 12 = .ok (.invokevirtual 239, 3) := by decide +kernel
theorem dX11_frameBack_15 : decode cX11_frameBack 15 = .ok (.goto 4, 3) := by decide +kernel
theorem dX11_frameBack_18 : decode cX11_frameBack 18 = .ok (.aconst_null, 1) := by decide +kernel
theorem dX11_frameBack_19 : decode cX11_frameBack 19 = .ok (.areturn, 1) := by decide +kernel
theorem wX11_frameBack {x : GX} {n0 sl0 : Nat} (X : Cx x cX11_frameBack RX11 (some (.object "WebHost$Packet")) n0 sl0 1 21) {out : Option Nat × Mm} (hE : Ends x n0 sl0 (some (pR out.1)) out.2) (hn : xn x = 2) (fu : Nat)   (a0 : Nat) (a1 : Int32)  (M : Mm) (h : fX11_frameBack fu  a0 a1 M = some out) : Gw x M 0 [(0, pR (some a0)), (1, pI a1)] [] := by
  unfold fX11_frameBack at h
  refine g_aload_n X (pc := 0) 0 rfl rfl dX11_frameBack_0 ?_
  obtain ⟨v1, ev1, h⟩ := bd h
  refine g_getI X (pc := 1) fk_11_8 rfl rfl ev1 tb_322 dX11_frameBack_1 ?_
  refine g_if_eq X (pc := 4) (tgt := 18) dX11_frameBack_4 (by decide) (fun hc => ?_) (fun hc => ?_)
  · have h := (if_pos hc).symm.trans h
    refine g_null X (pc := 18) dX11_frameBack_18 ?_
    obtain rfl := Option.some.inj h
    exact g_areturn X rfl (Or.inl ⟨_, rfl⟩) hE dX11_frameBack_19
  · have h := (if_neg hc).symm.trans h
    refine g_aload_n X (pc := 7) 0 rfl rfl dX11_frameBack_7 ?_
    obtain ⟨v2, ev2, h⟩ := bd h
    refine g_getR X (pc := 8) fk_11_1 rfl rfl ev2 tb_315 dX11_frameBack_8 ?_
    refine g_iload_n X (pc := 11) 1 rfl rfl dX11_frameBack_11 ?_
    obtain ⟨q3, eq3, h⟩ := bd h
    obtain ⟨v5, M4, eM4, h⟩ := b2d h
    refine g_callV X (pc := 12) (M' := M4) (ro := some (pR v5)) (c := 10) rfl (by decide) (as := [pI a1]) (as' := [pI a1]) (st := []) eq3 (ctX10_back _ _ _ _ _ _ fu q3 a1 M _ eM4) tb_1503 tb_1500 tb_1501 tb_1502 tb_3 ⟨rfl, hyX10_back⟩ rfl rfl ⟨by decide, by decide⟩ (Nat.le_of_ble_eq_true rfl) dX11_frameBack_12 ?_
    refine g_goto X (pc := 15) (tgt := 19) dX11_frameBack_15 (by decide) ?_
    obtain rfl := Option.some.inj h
    exact g_areturn X rfl (Or.inl ⟨_, rfl⟩) hE dX11_frameBack_19
theorem hyX11_frameBack : yX11_frameBack.cls ≠ "java/lang/invoke/MethodHandle" ∧ yX11_frameBack.cls ≠ "java/lang/invoke/VarHandle" ∧ (parseMethodDescriptor yX11_frameBack.desc).map (fun d => d.parameters.length) = some 1 := ⟨by decide +kernel, by decide +kernel, by decide +kernel⟩
theorem ctX11_frameBack (l : Launch) (E : Nat → Nat) (D : va_G) (dA : Nat → ClassId) (lo : Nat) (H0 : Heap) (fu : Nat) (a0 : Nat) (a1 : Int32) (M : Mm) (out : Option Nat × Mm) (h : fX11_frameBack fu a0 a1 M = some out) : Ct l E D dA lo H0 yX11_frameBack cX11_frameBack 2 (some (.object "WebHost$Packet")) 1 21 [pR (some a0), pI a1] M (some (pR out.1)) out.2 := by
  refine ct_of (by decide +kernel) (Nat.le_of_ble_eq_true rfl) ?_
  intro x hl he hd ha ho hh hn hin X hE
  exact wX11_frameBack X hE hn fu a0 a1 M h
/-! WebHost.length(I)I -/
def fX11_length (fu : Nat)  (a0 : Nat) (a1 : Int32)  (M : Mm) : Option (Int32 × Mm) :=
    (rc M 11 (some a0)).bind fun q1 =>
    b2 (fX11_frameBack fu q1 a1 M) fun v3 M2 =>
    if v3 = none then (
    some ((-1 : Int32), M2))
    else (
    (gI M2 6 385 v3).bind fun v4 =>
    some (v4, M2))
theorem dX11_length_0 : decode cX11_length 0 = .ok (.aload_n 0, 1) := by decide +kernel
theorem dX11_length_1 : decode cX11_length 1 = .ok (.iload_n 1, 1) := by decide +kernel
theorem dX11_length_2 : decode cX11_length 2 = .ok (.invokevirtual 157, 3) := by decide +kernel
theorem dX11_length_5 : decode cX11_length 5 = .ok (.astore_n 2, 1) := by decide +kernel
theorem dX11_length_6 : decode cX11_length 6 = .ok (.aload_n 2, 1) := by decide +kernel
theorem dX11_length_7 : decode cX11_length 7 = .ok (.ifnonnull 7, 3) := by decide +kernel
theorem dX11_length_10 : decode cX11_length 10 = .ok (.iconst (-1), 1) := by decide +kernel
theorem dX11_length_11 : decode cX11_length 11 = .ok (.goto 7, 3) := by decide +kernel
theorem dX11_length_14 : decode cX11_length 14 = .ok (.aload_n 2, 1) := by decide +kernel
theorem dX11_length_15 : decode cX11_length 15 = .ok (.getfield 161, 3) := by decide +kernel
theorem dX11_length_18 : decode cX11_length 18 = .ok (.ireturn, 1) := by decide +kernel
theorem wX11_length {x : GX} {n0 sl0 : Nat} (X : Cx x cX11_length RX11 (some .int) n0 sl0 2 42) {out : Int32 × Mm} (hE : Ends x n0 sl0 (some (pI out.1)) out.2) (hn : xn x = 3) (fu : Nat)   (a0 : Nat) (a1 : Int32)  (M : Mm) (h : fX11_length fu  a0 a1 M = some out) : Gw x M 0 [(0, pR (some a0)), (1, pI a1)] [] := by
  unfold fX11_length at h
  refine g_aload_n X (pc := 0) 0 rfl rfl dX11_length_0 ?_
  refine g_iload_n X (pc := 1) 1 rfl rfl dX11_length_1 ?_
  obtain ⟨q1, eq1, h⟩ := bd h
  obtain ⟨v3, M2, eM2, h⟩ := b2d h
  refine g_callV X (pc := 2) (M' := M2) (ro := some (pR v3)) (c := 11) rfl (by decide) (as := [pI a1]) (as' := [pI a1]) (st := []) eq1 (ctX11_frameBack _ _ _ _ _ _ fu q1 a1 M _ eM2) tb_1499 tb_1496 tb_1498 ts_61 tb_1 ⟨rfl, hyX11_frameBack⟩ rfl rfl ⟨by decide, by decide⟩ (Nat.le_of_ble_eq_true rfl) dX11_length_2 ?_
  refine g_astore_n X (pc := 5) [(2, pR v3), (0, pR (some a0)), (1, pI a1)] rfl (lt_n hn (by decide)) rfl dX11_length_5 ?_
  refine g_aload_n X (pc := 6) 0 rfl rfl dX11_length_6 ?_
  refine g_ifnonnull X (pc := 7) (tgt := 14) dX11_length_7 (by decide) (fun hc => ?_) (fun hc => ?_)
  · have h := (if_neg hc).symm.trans h
    refine g_aload_n X (pc := 14) 0 rfl rfl dX11_length_14 ?_
    obtain ⟨v4, ev4, h⟩ := bd h
    refine g_getI X (pc := 15) fk_6_1 rfl rfl ev4 tb_546 dX11_length_15 ?_
    obtain rfl := Option.some.inj h
    exact g_ireturn X hE dX11_length_18
  · have h := (if_pos hc).symm.trans h
    refine g_iconst X (pc := 10) (v := (-1)) dX11_length_10 (by decide) ?_
    refine g_goto X (pc := 11) (tgt := 18) dX11_length_11 (by decide) ?_
    obtain rfl := Option.some.inj h
    exact g_ireturn X hE dX11_length_18
theorem hyX11_length : yX11_length.cls ≠ "java/lang/invoke/MethodHandle" ∧ yX11_length.cls ≠ "java/lang/invoke/VarHandle" ∧ (parseMethodDescriptor yX11_length.desc).map (fun d => d.parameters.length) = some 1 := ⟨by decide +kernel, by decide +kernel, by decide +kernel⟩
theorem ctX11_length (l : Launch) (E : Nat → Nat) (D : va_G) (dA : Nat → ClassId) (lo : Nat) (H0 : Heap) (fu : Nat) (a0 : Nat) (a1 : Int32) (M : Mm) (out : Int32 × Mm) (h : fX11_length fu a0 a1 M = some out) : Ct l E D dA lo H0 yX11_length cX11_length 3 (some .int) 2 42 [pR (some a0), pI a1] M (some (pI out.1)) out.2 := by
  refine ct_of (by decide +kernel) (Nat.le_of_ble_eq_true rfl) ?_
  intro x hl he hd ha ho hh hn hin X hE
  exact wX11_length X hE hn fu a0 a1 M h
/-! WebHost.at(II)I -/
def fX11_at (fu : Nat)  (a0 : Nat) (a1 : Int32) (a2 : Int32)  (M : Mm) : Option (Int32 × Mm) :=
    (rc M 11 (some a0)).bind fun q1 =>
    b2 (fX11_frameBack fu q1 a1 M) fun v3 M2 =>
    if v3 = none then (
    some ((-1 : Int32), M2))
    else (
    if a2 < 0 then (
    some ((-1 : Int32), M2))
    else (
    (gI M2 6 385 v3).bind fun v4 =>
    if v4 ≤ a2 then (
    some ((-1 : Int32), M2))
    else (
    (gR M2 6 384 v3).bind fun v5 =>
    (aL M2 100 v5).bind fun v6 =>
    if a2 < v6 then (
    (gR M2 6 384 v3).bind fun v7 =>
    (gA M2 100 v7 a2).bind fun v8 =>
    some ((v8 &&& (255 : Int32)), M2))
    else (
    some ((-1 : Int32), M2)))))
theorem dX11_at_0 : decode cX11_at 0 = .ok (.aload_n 0, 1) := by decide +kernel
theorem dX11_at_1 : decode cX11_at 1 = .ok (.iload_n 1, 1) := by decide +kernel
theorem dX11_at_2 : decode cX11_at 2 = .ok (.invokevirtual 157, 3) := by decide +kernel
theorem dX11_at_5 : decode cX11_at 5 = .ok (.astore_n 3, 1) := by decide +kernel
theorem dX11_at_6 : decode cX11_at 6 = .ok (.aload_n 3, 1) := by decide +kernel
theorem dX11_at_7 : decode cX11_at 7 = .ok (.ifnull 24, 3) := by decide +kernel
theorem dX11_at_10 : decode cX11_at 10 = .ok (.iload_n 2, 1) := by decide +kernel
theorem dX11_at_11 : decode cX11_at 11 = .ok (.ifCond .lt 20, 3) := by decide +kernel
theorem dX11_at_14 : decode cX11_at 14 = .ok (.iload_n 2, 1) := by decide +kernel
theorem dX11_at_15 : decode cX11_at 15 = .ok (.aload_n 3, 1) := by decide +kernel
theorem dX11_at_16 : decode cX11_at 16 = .ok (.getfield 161, 3) := by decide +kernel
theorem dX11_at_19 : decode cX11_at 19 = .ok (.if_icmp .ge 12, 3) := by decide +kernel
theorem dX11_at_22 : decode cX11_at 22 = .ok (.iload_n 2, 1) := by decide +kernel
theorem dX11_at_23 : decode cX11_at 23 = .ok (.aload_n 3, 1) := by decide +kernel
theorem dX11_at_24 : decode cX11_at 24 = .ok (.getfield 166, 3) := by decide +kernel
theorem dX11_at_27 : decode cX11_at 27 = .ok (.arraylength, 1) := by decide +kernel
theorem dX11_at_28 : decode cX11_at 28 = .ok (.if_icmp .lt 5, 3) := by decide +kernel
theorem dX11_at_31 : decode cX11_at 31 = .ok (.iconst (-1), 1) := by decide +kernel
theorem dX11_at_32 : decode cX11_at 32 = .ok (.ireturn, 1) := by decide +kernel
theorem dX11_at_33 : decode cX11_at 33 = .ok (.aload_n 3, 1) := by decide +kernel
theorem dX11_at_34 : decode cX11_at 34 = .ok (.getfield 166, 3) := by decide +kernel
theorem dX11_at_37 : decode cX11_at 37 = .ok (.iload_n 2, 1) := by decide +kernel
theorem dX11_at_38 : decode cX11_at 38 = .ok (.baload, 1) := by decide +kernel
theorem dX11_at_39 : decode cX11_at 39 = .ok (.sipush 255, 3) := by decide +kernel
theorem dX11_at_42 : decode cX11_at 42 = .ok (.iand, 1) := by decide +kernel
theorem dX11_at_43 : decode cX11_at 43 = .ok (.ireturn, 1) := by decide +kernel
theorem wX11_at {x : GX} {n0 sl0 : Nat} (X : Cx x cX11_at RX11 (some .int) n0 sl0 2 42) {out : Int32 × Mm} (hE : Ends x n0 sl0 (some (pI out.1)) out.2) (hn : xn x = 4) (fu : Nat)   (a0 : Nat) (a1 : Int32) (a2 : Int32)  (M : Mm) (h : fX11_at fu  a0 a1 a2 M = some out) : Gw x M 0 [(0, pR (some a0)), (1, pI a1), (2, pI a2)] [] := by
  unfold fX11_at at h
  refine g_aload_n X (pc := 0) 0 rfl rfl dX11_at_0 ?_
  refine g_iload_n X (pc := 1) 1 rfl rfl dX11_at_1 ?_
  obtain ⟨q1, eq1, h⟩ := bd h
  obtain ⟨v3, M2, eM2, h⟩ := b2d h
  refine g_callV X (pc := 2) (M' := M2) (ro := some (pR v3)) (c := 11) rfl (by decide) (as := [pI a1]) (as' := [pI a1]) (st := []) eq1 (ctX11_frameBack _ _ _ _ _ _ fu q1 a1 M _ eM2) tb_1499 tb_1496 tb_1498 ts_61 tb_1 ⟨rfl, hyX11_frameBack⟩ rfl rfl ⟨by decide, by decide⟩ (Nat.le_of_ble_eq_true rfl) dX11_at_2 ?_
  refine g_astore_n X (pc := 5) [(3, pR v3), (0, pR (some a0)), (1, pI a1), (2, pI a2)] rfl (lt_n hn (by decide)) rfl dX11_at_5 ?_
  refine g_aload_n X (pc := 6) 0 rfl rfl dX11_at_6 ?_
  refine g_ifnull X (pc := 7) (tgt := 31) dX11_at_7 (by decide) (fun hc => ?_) (fun hc => ?_)
  · have h := (if_pos hc).symm.trans h
    refine g_iconst X (pc := 31) (v := (-1)) dX11_at_31 (by decide) ?_
    obtain rfl := Option.some.inj h
    exact g_ireturn X hE dX11_at_32
  · have h := (if_neg hc).symm.trans h
    refine g_iload_n X (pc := 10) 3 rfl rfl dX11_at_10 ?_
    refine g_if_lt X (pc := 11) (tgt := 31) dX11_at_11 (by decide) (fun hc => ?_) (fun hc => ?_)
    · have h := (if_pos hc).symm.trans h
      refine g_iconst X (pc := 31) (v := (-1)) dX11_at_31 (by decide) ?_
      obtain rfl := Option.some.inj h
      exact g_ireturn X hE dX11_at_32
    · have h := (if_neg hc).symm.trans h
      refine g_iload_n X (pc := 14) 3 rfl rfl dX11_at_14 ?_
      refine g_aload_n X (pc := 15) 0 rfl rfl dX11_at_15 ?_
      obtain ⟨v4, ev4, h⟩ := bd h
      refine g_getI X (pc := 16) fk_6_1 rfl rfl ev4 tb_546 dX11_at_16 ?_
      refine g_icmp_ge X (pc := 19) (tgt := 31) dX11_at_19 (by decide) (fun hc => ?_) (fun hc => ?_)
      · have h := (if_pos hc).symm.trans h
        refine g_iconst X (pc := 31) (v := (-1)) dX11_at_31 (by decide) ?_
        obtain rfl := Option.some.inj h
        exact g_ireturn X hE dX11_at_32
      · have h := (if_neg hc).symm.trans h
        refine g_iload_n X (pc := 22) 3 rfl rfl dX11_at_22 ?_
        refine g_aload_n X (pc := 23) 0 rfl rfl dX11_at_23 ?_
        obtain ⟨v5, ev5, h⟩ := bd h
        refine g_getR X (pc := 24) fk_6_0 rfl rfl ev5 tb_543 dX11_at_24 ?_
        obtain ⟨v6, ev6, h⟩ := bd h
        refine g_alen X (pc := 27) (k := 0) rfl (by decide) ev6 dX11_at_27 ?_
        refine g_icmp_lt X (pc := 28) (tgt := 33) dX11_at_28 (by decide) (fun hc => ?_) (fun hc => ?_)
        · have h := (if_pos hc).symm.trans h
          refine g_aload_n X (pc := 33) 0 rfl rfl dX11_at_33 ?_
          obtain ⟨v7, ev7, h⟩ := bd h
          refine g_getR X (pc := 34) fk_6_0 rfl rfl ev7 tb_543 dX11_at_34 ?_
          refine g_iload_n X (pc := 37) 3 rfl rfl dX11_at_37 ?_
          obtain ⟨v8, ev8, h⟩ := bd h
          refine g_baload X (pc := 38) ev8 dX11_at_38 ?_
          refine g_sipush X (pc := 39) (v := 255) dX11_at_39 (by decide) ?_
          refine g_iand X (pc := 42) dX11_at_42 ?_
          obtain rfl := Option.some.inj h
          exact g_ireturn X hE dX11_at_43
        · have h := (if_neg hc).symm.trans h
          refine g_iconst X (pc := 31) (v := (-1)) dX11_at_31 (by decide) ?_
          obtain rfl := Option.some.inj h
          exact g_ireturn X hE dX11_at_32
theorem hyX11_at : yX11_at.cls ≠ "java/lang/invoke/MethodHandle" ∧ yX11_at.cls ≠ "java/lang/invoke/VarHandle" ∧ (parseMethodDescriptor yX11_at.desc).map (fun d => d.parameters.length) = some 2 := ⟨by decide +kernel, by decide +kernel, by decide +kernel⟩
theorem ctX11_at (l : Launch) (E : Nat → Nat) (D : va_G) (dA : Nat → ClassId) (lo : Nat) (H0 : Heap) (fu : Nat) (a0 : Nat) (a1 : Int32) (a2 : Int32) (M : Mm) (out : Int32 × Mm) (h : fX11_at fu a0 a1 a2 M = some out) : Ct l E D dA lo H0 yX11_at cX11_at 4 (some .int) 2 42 [pR (some a0), pI a1, pI a2] M (some (pI out.1)) out.2 := by
  refine ct_of (by decide +kernel) (Nat.le_of_ble_eq_true rfl) ?_
  intro x hl he hd ha ho hh hn hin X hE
  exact wX11_at X hE hn fu a0 a1 a2 M h
/-! WebHost.time(I)I -/
def fX11_time (fu : Nat)  (a0 : Nat) (a1 : Int32)  (M : Mm) : Option (Int32 × Mm) :=
    (rc M 11 (some a0)).bind fun q1 =>
    b2 (fX11_frameBack fu q1 a1 M) fun v3 M2 =>
    if v3 = none then (
    some ((-1 : Int32), M2))
    else (
    (gI M2 6 386 v3).bind fun v4 =>
    some (v4, M2))
theorem dX11_time_0 : decode cX11_time 0 = .ok (.aload_n 0, 1) := by decide +kernel
theorem dX11_time_1 : decode cX11_time 1 = .ok (.iload_n 1, 1) := by decide +kernel
theorem dX11_time_2 : decode cX11_time 2 = .ok (.invokevirtual 157, 3) := by decide +kernel
theorem dX11_time_5 : decode cX11_time 5 = .ok (.astore_n 2, 1) := by decide +kernel
theorem dX11_time_6 : decode cX11_time 6 = .ok (.aload_n 2, 1) := by decide +kernel
theorem dX11_time_7 : decode cX11_time 7 = .ok (.ifnonnull 7, 3) := by decide +kernel
theorem dX11_time_10 : decode cX11_time 10 = .ok (.iconst (-1), 1) := by decide +kernel
theorem dX11_time_11 : decode cX11_time 11 = .ok (.goto 7, 3) := by decide +kernel
theorem dX11_time_14 : decode cX11_time 14 = .ok (.aload_n 2, 1) := by decide +kernel
theorem dX11_time_15 : decode cX11_time 15 = .ok (.getfield 169, 3) := by decide +kernel
theorem dX11_time_18 : decode cX11_time 18 = .ok (.ireturn, 1) := by decide +kernel
theorem wX11_time {x : GX} {n0 sl0 : Nat} (X : Cx x cX11_time RX11 (some .int) n0 sl0 2 42) {out : Int32 × Mm} (hE : Ends x n0 sl0 (some (pI out.1)) out.2) (hn : xn x = 3) (fu : Nat)   (a0 : Nat) (a1 : Int32)  (M : Mm) (h : fX11_time fu  a0 a1 M = some out) : Gw x M 0 [(0, pR (some a0)), (1, pI a1)] [] := by
  unfold fX11_time at h
  refine g_aload_n X (pc := 0) 0 rfl rfl dX11_time_0 ?_
  refine g_iload_n X (pc := 1) 1 rfl rfl dX11_time_1 ?_
  obtain ⟨q1, eq1, h⟩ := bd h
  obtain ⟨v3, M2, eM2, h⟩ := b2d h
  refine g_callV X (pc := 2) (M' := M2) (ro := some (pR v3)) (c := 11) rfl (by decide) (as := [pI a1]) (as' := [pI a1]) (st := []) eq1 (ctX11_frameBack _ _ _ _ _ _ fu q1 a1 M _ eM2) tb_1499 tb_1496 tb_1498 ts_61 tb_1 ⟨rfl, hyX11_frameBack⟩ rfl rfl ⟨by decide, by decide⟩ (Nat.le_of_ble_eq_true rfl) dX11_time_2 ?_
  refine g_astore_n X (pc := 5) [(2, pR v3), (0, pR (some a0)), (1, pI a1)] rfl (lt_n hn (by decide)) rfl dX11_time_5 ?_
  refine g_aload_n X (pc := 6) 0 rfl rfl dX11_time_6 ?_
  refine g_ifnonnull X (pc := 7) (tgt := 14) dX11_time_7 (by decide) (fun hc => ?_) (fun hc => ?_)
  · have h := (if_neg hc).symm.trans h
    refine g_aload_n X (pc := 14) 0 rfl rfl dX11_time_14 ?_
    obtain ⟨v4, ev4, h⟩ := bd h
    refine g_getI X (pc := 15) fk_6_2 rfl rfl ev4 tb_548 dX11_time_15 ?_
    obtain rfl := Option.some.inj h
    exact g_ireturn X hE dX11_time_18
  · have h := (if_pos hc).symm.trans h
    refine g_iconst X (pc := 10) (v := (-1)) dX11_time_10 (by decide) ?_
    refine g_goto X (pc := 11) (tgt := 18) dX11_time_11 (by decide) ?_
    obtain rfl := Option.some.inj h
    exact g_ireturn X hE dX11_time_18
theorem hyX11_time : yX11_time.cls ≠ "java/lang/invoke/MethodHandle" ∧ yX11_time.cls ≠ "java/lang/invoke/VarHandle" ∧ (parseMethodDescriptor yX11_time.desc).map (fun d => d.parameters.length) = some 1 := ⟨by decide +kernel, by decide +kernel, by decide +kernel⟩
theorem ctX11_time (l : Launch) (E : Nat → Nat) (D : va_G) (dA : Nat → ClassId) (lo : Nat) (H0 : Heap) (fu : Nat) (a0 : Nat) (a1 : Int32) (M : Mm) (out : Int32 × Mm) (h : fX11_time fu a0 a1 M = some out) : Ct l E D dA lo H0 yX11_time cX11_time 3 (some .int) 2 42 [pR (some a0), pI a1] M (some (pI out.1)) out.2 := by
  refine ct_of (by decide +kernel) (Nat.le_of_ble_eq_true rfl) ?_
  intro x hl he hd ha ho hh hn hin X hE
  exact wX11_time X hE hn fu a0 a1 M h
/-! WebHost.connectionAt(I)LWebHost$Connection; -/
def fX11_connectionAt (fu : Nat)  (a0 : Nat) (a1 : Int32)  (M : Mm) : Option (Option Nat × Mm) :=
    (gI M 11 712 (some a0)).bind fun v1 =>
    if v1 = 0 then (
    some (none, M))
    else (
    (gR M 11 708 (some a0)).bind fun v2 =>
    (rc M 9 v2).bind fun q3 =>
    b2 (fX9_connectionAt fu q3 a1 M) fun v5 M4 =>
    some (v5, M4))
theorem dX11_connectionAt_0 : decode cX11_connectionAt 0 = .ok (.aload_n 0, 1) := by decide +kernel
theorem dX11_connectionAt_1 : decode cX11_connectionAt 1 = .ok (.getfield 89, 3) := by decide +kernel
theorem dX11_connectionAt_4 : decode cX11_connectionAt 4 = .ok (.ifCond .eq 14, 3) := by decide +kernel
theorem dX11_connectionAt_7 : decode cX11_connectionAt 7 = .ok (.aload_n 0, 1) := by decide +kernel
theorem dX11_connectionAt_8 : decode cX11_connectionAt 8 = .ok (.getfield 46, 3) := by decide +kernel
theorem dX11_connectionAt_11 : decode cX11_connectionAt 11 = .ok (.iload_n 1, 1) := by decide +kernel
theorem dX11_connectionAt_12 : decode cX11_connectionAt 12 = .ok (.invokevirtual 242, 3) := by decide +kernel
theorem dX11_connectionAt_15 : decode cX11_connectionAt 15 = .ok (.goto 4, 3) := by decide +kernel
theorem dX11_connectionAt_18 : decode cX11_connectionAt 18 = .ok (.aconst_null, 1) := by decide +kernel
theorem dX11_connectionAt_19 : decode cX11_connectionAt 19 = .ok (.areturn, 1) := by decide +kernel
theorem wX11_connectionAt {x : GX} {n0 sl0 : Nat} (X : Cx x cX11_connectionAt RX11 (some (.object "WebHost$Connection")) n0 sl0 1 22) {out : Option Nat × Mm} (hE : Ends x n0 sl0 (some (pR out.1)) out.2) (hn : xn x = 2) (fu : Nat)   (a0 : Nat) (a1 : Int32)  (M : Mm) (h : fX11_connectionAt fu  a0 a1 M = some out) : Gw x M 0 [(0, pR (some a0)), (1, pI a1)] [] := by
  unfold fX11_connectionAt at h
  refine g_aload_n X (pc := 0) 0 rfl rfl dX11_connectionAt_0 ?_
  obtain ⟨v1, ev1, h⟩ := bd h
  refine g_getI X (pc := 1) fk_11_8 rfl rfl ev1 tb_322 dX11_connectionAt_1 ?_
  refine g_if_eq X (pc := 4) (tgt := 18) dX11_connectionAt_4 (by decide) (fun hc => ?_) (fun hc => ?_)
  · have h := (if_pos hc).symm.trans h
    refine g_null X (pc := 18) dX11_connectionAt_18 ?_
    obtain rfl := Option.some.inj h
    exact g_areturn X rfl (Or.inl ⟨_, rfl⟩) hE dX11_connectionAt_19
  · have h := (if_neg hc).symm.trans h
    refine g_aload_n X (pc := 7) 0 rfl rfl dX11_connectionAt_7 ?_
    obtain ⟨v2, ev2, h⟩ := bd h
    refine g_getR X (pc := 8) fk_11_4 rfl rfl ev2 tb_318 dX11_connectionAt_8 ?_
    refine g_iload_n X (pc := 11) 1 rfl rfl dX11_connectionAt_11 ?_
    obtain ⟨q3, eq3, h⟩ := bd h
    obtain ⟨v5, M4, eM4, h⟩ := b2d h
    refine g_callV X (pc := 12) (M' := M4) (ro := some (pR v5)) (c := 9) rfl (by decide) (as := [pI a1]) (as' := [pI a1]) (st := []) eq3 (ctX9_connectionAt _ _ _ _ _ _ fu q3 a1 M _ eM4) tb_491 tb_1520 tb_489 tb_490 tb_6 ⟨rfl, hyX9_connectionAt⟩ rfl rfl ⟨by decide, by decide⟩ (Nat.le_of_ble_eq_true rfl) dX11_connectionAt_12 ?_
    refine g_goto X (pc := 15) (tgt := 19) dX11_connectionAt_15 (by decide) ?_
    obtain rfl := Option.some.inj h
    exact g_areturn X rfl (Or.inl ⟨_, rfl⟩) hE dX11_connectionAt_19
theorem hyX11_connectionAt : yX11_connectionAt.cls ≠ "java/lang/invoke/MethodHandle" ∧ yX11_connectionAt.cls ≠ "java/lang/invoke/VarHandle" ∧ (parseMethodDescriptor yX11_connectionAt.desc).map (fun d => d.parameters.length) = some 1 := ⟨by decide +kernel, by decide +kernel, by decide +kernel⟩
theorem ctX11_connectionAt (l : Launch) (E : Nat → Nat) (D : va_G) (dA : Nat → ClassId) (lo : Nat) (H0 : Heap) (fu : Nat) (a0 : Nat) (a1 : Int32) (M : Mm) (out : Option Nat × Mm) (h : fX11_connectionAt fu a0 a1 M = some out) : Ct l E D dA lo H0 yX11_connectionAt cX11_connectionAt 2 (some (.object "WebHost$Connection")) 1 22 [pR (some a0), pI a1] M (some (pR out.1)) out.2 := by
  refine ct_of (by decide +kernel) (Nat.le_of_ble_eq_true rfl) ?_
  intro x hl he hd ha ho hh hn hin X hE
  exact wX11_connectionAt X hE hn fu a0 a1 M h
/-! WebHost.state(I)I -/
def fX11_state (fu : Nat)  (a0 : Nat) (a1 : Int32)  (M : Mm) : Option (Int32 × Mm) :=
    if a1 < 0 then (
    some ((-1 : Int32), M))
    else (
    if a1 < (16 : Int32) then (
    (rc M 11 (some a0)).bind fun q1 =>
    b2 (fX11_connectionAt fu q1 a1 M) fun v3 M2 =>
    if v3 = none then (
    some ((0 : Int32), M2))
    else (
    (gI M2 1 64 v3).bind fun v4 =>
    some (v4, M2)))
    else (
    some ((-1 : Int32), M)))
theorem dX11_state_0 : decode cX11_state 0 = .ok (.iload_n 1, 1) := by decide +kernel
theorem dX11_state_1 : decode cX11_state 1 = .ok (.ifCond .lt 9, 3) := by decide +kernel
theorem dX11_state_4 : decode cX11_state 4 = .ok (.iload_n 1, 1) := by decide +kernel
theorem dX11_state_5 : decode cX11_state 5 = .ok (.bipush 16, 2) := by decide +kernel
theorem dX11_state_7 : decode cX11_state 7 = .ok (.if_icmp .lt 5, 3) := by decide +kernel
theorem dX11_state_10 : decode cX11_state 10 = .ok (.iconst (-1), 1) := by decide +kernel
theorem dX11_state_11 : decode cX11_state 11 = .ok (.ireturn, 1) := by decide +kernel
theorem dX11_state_12 : decode cX11_state 12 = .ok (.aload_n 0, 1) := by decide +kernel
theorem dX11_state_13 : decode cX11_state 13 = .ok (.iload_n 1, 1) := by decide +kernel
theorem dX11_state_14 : decode cX11_state 14 = .ok (.invokevirtual 172, 3) := by decide +kernel
theorem dX11_state_17 : decode cX11_state 17 = .ok (.astore_n 2, 1) := by decide +kernel
theorem dX11_state_18 : decode cX11_state 18 = .ok (.aload_n 2, 1) := by decide +kernel
theorem dX11_state_19 : decode cX11_state 19 = .ok (.ifnonnull 7, 3) := by decide +kernel
theorem dX11_state_22 : decode cX11_state 22 = .ok (.iconst 0, 1) := by decide +kernel
theorem dX11_state_23 : decode cX11_state 23 = .ok (.goto 7, 3) := by decide +kernel
theorem dX11_state_26 : decode cX11_state 26 = .ok (.aload_n 2, 1) := by decide +kernel
theorem dX11_state_27 : decode cX11_state 27 = .ok (.getfield 176, 3) := by decide +kernel
theorem dX11_state_30 : decode cX11_state 30 = .ok (.ireturn, 1) := by decide +kernel
theorem wX11_state {x : GX} {n0 sl0 : Nat} (X : Cx x cX11_state RX11 (some .int) n0 sl0 2 43) {out : Int32 × Mm} (hE : Ends x n0 sl0 (some (pI out.1)) out.2) (hn : xn x = 3) (fu : Nat)   (a0 : Nat) (a1 : Int32)  (M : Mm) (h : fX11_state fu  a0 a1 M = some out) : Gw x M 0 [(0, pR (some a0)), (1, pI a1)] [] := by
  unfold fX11_state at h
  refine g_iload_n X (pc := 0) 1 rfl rfl dX11_state_0 ?_
  refine g_if_lt X (pc := 1) (tgt := 10) dX11_state_1 (by decide) (fun hc => ?_) (fun hc => ?_)
  · have h := (if_pos hc).symm.trans h
    refine g_iconst X (pc := 10) (v := (-1)) dX11_state_10 (by decide) ?_
    obtain rfl := Option.some.inj h
    exact g_ireturn X hE dX11_state_11
  · have h := (if_neg hc).symm.trans h
    refine g_iload_n X (pc := 4) 1 rfl rfl dX11_state_4 ?_
    refine g_bipush X (pc := 5) (v := 16) dX11_state_5 (by decide) ?_
    refine g_icmp_lt X (pc := 7) (tgt := 12) dX11_state_7 (by decide) (fun hc => ?_) (fun hc => ?_)
    · have h := (if_pos hc).symm.trans h
      refine g_aload_n X (pc := 12) 0 rfl rfl dX11_state_12 ?_
      refine g_iload_n X (pc := 13) 1 rfl rfl dX11_state_13 ?_
      obtain ⟨q1, eq1, h⟩ := bd h
      obtain ⟨v3, M2, eM2, h⟩ := b2d h
      refine g_callV X (pc := 14) (M' := M2) (ro := some (pR v3)) (c := 11) rfl (by decide) (as := [pI a1]) (as' := [pI a1]) (st := []) eq1 (ctX11_connectionAt _ _ _ _ _ _ fu q1 a1 M _ eM2) tb_1519 tb_1516 tb_1518 ts_62 tb_1 ⟨rfl, hyX11_connectionAt⟩ rfl rfl ⟨by decide, by decide⟩ (Nat.le_of_ble_eq_true rfl) dX11_state_14 ?_
      refine g_astore_n X (pc := 17) [(2, pR v3), (0, pR (some a0)), (1, pI a1)] rfl (lt_n hn (by decide)) rfl dX11_state_17 ?_
      refine g_aload_n X (pc := 18) 0 rfl rfl dX11_state_18 ?_
      refine g_ifnonnull X (pc := 19) (tgt := 26) dX11_state_19 (by decide) (fun hc => ?_) (fun hc => ?_)
      · have h := (if_neg hc).symm.trans h
        refine g_aload_n X (pc := 26) 0 rfl rfl dX11_state_26 ?_
        obtain ⟨v4, ev4, h⟩ := bd h
        refine g_getI X (pc := 27) fk_1_0 rfl rfl ev4 tb_960 dX11_state_27 ?_
        obtain rfl := Option.some.inj h
        exact g_ireturn X hE dX11_state_30
      · have h := (if_pos hc).symm.trans h
        refine g_iconst X (pc := 22) (v := 0) dX11_state_22 (by decide) ?_
        refine g_goto X (pc := 23) (tgt := 30) dX11_state_23 (by decide) ?_
        obtain rfl := Option.some.inj h
        exact g_ireturn X hE dX11_state_30
    · have h := (if_neg hc).symm.trans h
      refine g_iconst X (pc := 10) (v := (-1)) dX11_state_10 (by decide) ?_
      obtain rfl := Option.some.inj h
      exact g_ireturn X hE dX11_state_11
theorem hyX11_state : yX11_state.cls ≠ "java/lang/invoke/MethodHandle" ∧ yX11_state.cls ≠ "java/lang/invoke/VarHandle" ∧ (parseMethodDescriptor yX11_state.desc).map (fun d => d.parameters.length) = some 1 := ⟨by decide +kernel, by decide +kernel, by decide +kernel⟩
theorem ctX11_state (l : Launch) (E : Nat → Nat) (D : va_G) (dA : Nat → ClassId) (lo : Nat) (H0 : Heap) (fu : Nat) (a0 : Nat) (a1 : Int32) (M : Mm) (out : Int32 × Mm) (h : fX11_state fu a0 a1 M = some out) : Ct l E D dA lo H0 yX11_state cX11_state 3 (some .int) 2 43 [pR (some a0), pI a1] M (some (pI out.1)) out.2 := by
  refine ct_of (by decide +kernel) (Nat.le_of_ble_eq_true rfl) ?_
  intro x hl he hd ha ho hh hn hin X hE
  exact wX11_state X hE hn fu a0 a1 M h
/-! WebHost.look(II)J -/
def fX11_look (fu : Nat)  (a0 : Nat) (a1 : Int32) (a2 : Int32)  (M : Mm) : Option (Int64 × Mm) :=
    (rc M 11 (some a0)).bind fun q1 =>
    b2 (fX11_connectionAt fu q1 a1 M) fun v3 M2 =>
    if v3 = none then (
    some ((4294967296 : Int64), M2))
    else (
    if a2 < 0 then (
    some ((4294967296 : Int64), M2))
    else (
    if a2 ≤ (14 : Int32) then (
    (rc M2 1 v3).bind fun q4 =>
    b2 (fX1_number fu q4 a2 M2) fun v6 M5 =>
    some (((Int32.toInt64 v6) &&& (4294967295 : Int64)), M5))
    else (
    some ((4294967296 : Int64), M2))))
theorem dX11_look_0 : decode cX11_look 0 = .ok (.aload_n 0, 1) := by decide +kernel
theorem dX11_look_1 : decode cX11_look 1 = .ok (.iload_n 1, 1) := by decide +kernel
theorem dX11_look_2 : decode cX11_look 2 = .ok (.invokevirtual 172, 3) := by decide +kernel
theorem dX11_look_5 : decode cX11_look 5 = .ok (.astore_n 3, 1) := by decide +kernel
theorem dX11_look_6 : decode cX11_look 6 = .ok (.aload_n 3, 1) := by decide +kernel
theorem dX11_look_7 : decode cX11_look 7 = .ok (.ifnull 13, 3) := by decide +kernel
theorem dX11_look_10 : decode cX11_look 10 = .ok (.iload_n 2, 1) := by decide +kernel
theorem dX11_look_11 : decode cX11_look 11 = .ok (.ifCond .lt 9, 3) := by decide +kernel
theorem dX11_look_14 : decode cX11_look 14 = .ok (.iload_n 2, 1) := by decide +kernel
theorem dX11_look_15 : decode cX11_look 15 = .ok (.bipush 14, 2) := by decide +kernel
theorem dX11_look_17 : decode cX11_look 17 = .ok (.if_icmp .le 7, 3) := by decide +kernel
theorem dX11_look_20 : decode cX11_look 20 = .ok (.ldc2_w 181, 3) := by decide +kernel
theorem dX11_look_23 : decode cX11_look 23 = .ok (.lreturn, 1) := by decide +kernel
theorem dX11_look_24 : decode cX11_look 24 = .ok (.aload_n 3, 1) := by decide +kernel
theorem dX11_look_25 : decode cX11_look 25 = .ok (.iload_n 2, 1) := by decide +kernel
theorem dX11_look_26 : decode cX11_look 26 = .ok (.invokevirtual 183, 3) := by decide +kernel
theorem dX11_look_29 : decode cX11_look 29 = .ok (.i2l, 1) := by decide +kernel
theorem dX11_look_30 : decode cX11_look 30 = .ok (.ldc2_w 186, 3) := by decide +kernel
theorem dX11_look_33 : decode cX11_look 33 = .ok (.land, 1) := by decide +kernel
theorem dX11_look_34 : decode cX11_look 34 = .ok (.lreturn, 1) := by decide +kernel
theorem wX11_look {x : GX} {n0 sl0 : Nat} (X : Cx x cX11_look RX11 (some .long) n0 sl0 3 61) {out : Int64 × Mm} (hE : Ends x n0 sl0 (some (pL out.1)) out.2) (hn : xn x = 4) (fu : Nat)   (a0 : Nat) (a1 : Int32) (a2 : Int32)  (M : Mm) (h : fX11_look fu  a0 a1 a2 M = some out) : Gw x M 0 [(0, pR (some a0)), (1, pI a1), (2, pI a2)] [] := by
  unfold fX11_look at h
  refine g_aload_n X (pc := 0) 0 rfl rfl dX11_look_0 ?_
  refine g_iload_n X (pc := 1) 1 rfl rfl dX11_look_1 ?_
  obtain ⟨q1, eq1, h⟩ := bd h
  obtain ⟨v3, M2, eM2, h⟩ := b2d h
  refine g_callV X (pc := 2) (M' := M2) (ro := some (pR v3)) (c := 11) rfl (by decide) (as := [pI a1]) (as' := [pI a1]) (st := []) eq1 (ctX11_connectionAt _ _ _ _ _ _ fu q1 a1 M _ eM2) tb_1519 tb_1516 tb_1518 ts_62 tb_1 ⟨rfl, hyX11_connectionAt⟩ rfl rfl ⟨by decide, by decide⟩ (Nat.le_of_ble_eq_true rfl) dX11_look_2 ?_
  refine g_astore_n X (pc := 5) [(3, pR v3), (0, pR (some a0)), (1, pI a1), (2, pI a2)] rfl (lt_n hn (by decide)) rfl dX11_look_5 ?_
  refine g_aload_n X (pc := 6) 0 rfl rfl dX11_look_6 ?_
  refine g_ifnull X (pc := 7) (tgt := 20) dX11_look_7 (by decide) (fun hc => ?_) (fun hc => ?_)
  · have h := (if_pos hc).symm.trans h
    refine g_ldc2 X (pc := 20) tb_1525 dX11_look_20 ?_
    obtain rfl := Option.some.inj h
    exact g_lreturn X hE dX11_look_23
  · have h := (if_neg hc).symm.trans h
    refine g_iload_n X (pc := 10) 3 rfl rfl dX11_look_10 ?_
    refine g_if_lt X (pc := 11) (tgt := 20) dX11_look_11 (by decide) (fun hc => ?_) (fun hc => ?_)
    · have h := (if_pos hc).symm.trans h
      refine g_ldc2 X (pc := 20) tb_1525 dX11_look_20 ?_
      obtain rfl := Option.some.inj h
      exact g_lreturn X hE dX11_look_23
    · have h := (if_neg hc).symm.trans h
      refine g_iload_n X (pc := 14) 3 rfl rfl dX11_look_14 ?_
      refine g_bipush X (pc := 15) (v := 14) dX11_look_15 (by decide) ?_
      refine g_icmp_le X (pc := 17) (tgt := 24) dX11_look_17 (by decide) (fun hc => ?_) (fun hc => ?_)
      · have h := (if_pos hc).symm.trans h
        refine g_aload_n X (pc := 24) 0 rfl rfl dX11_look_24 ?_
        refine g_iload_n X (pc := 25) 3 rfl rfl dX11_look_25 ?_
        obtain ⟨q4, eq4, h⟩ := bd h
        obtain ⟨v6, M5, eM5, h⟩ := b2d h
        refine g_callV X (pc := 26) (M' := M5) (ro := some (pI v6)) (c := 1) rfl (by decide) (as := [pI a2]) (as' := [pI a2]) (st := []) eq4 (ctX1_number _ _ _ _ _ _ fu q4 a2 M2 _ eM5) tb_1529 tb_1526 tb_1527 tb_1528 tb_18 ⟨rfl, hyX1_number⟩ rfl rfl ⟨by decide, by decide⟩ (Nat.le_of_ble_eq_true rfl) dX11_look_26 ?_
        refine g_i2l X (pc := 29) dX11_look_29 ?_
        refine g_ldc2 X (pc := 30) tb_1531 dX11_look_30 ?_
        refine g_land X (pc := 33) dX11_look_33 ?_
        obtain rfl := Option.some.inj h
        exact g_lreturn X hE dX11_look_34
      · have h := (if_neg hc).symm.trans h
        refine g_ldc2 X (pc := 20) tb_1525 dX11_look_20 ?_
        obtain rfl := Option.some.inj h
        exact g_lreturn X hE dX11_look_23
theorem hyX11_look : yX11_look.cls ≠ "java/lang/invoke/MethodHandle" ∧ yX11_look.cls ≠ "java/lang/invoke/VarHandle" ∧ (parseMethodDescriptor yX11_look.desc).map (fun d => d.parameters.length) = some 2 := ⟨by decide +kernel, by decide +kernel, by decide +kernel⟩
theorem ctX11_look (l : Launch) (E : Nat → Nat) (D : va_G) (dA : Nat → ClassId) (lo : Nat) (H0 : Heap) (fu : Nat) (a0 : Nat) (a1 : Int32) (a2 : Int32) (M : Mm) (out : Int64 × Mm) (h : fX11_look fu a0 a1 a2 M = some out) : Ct l E D dA lo H0 yX11_look cX11_look 4 (some .long) 3 61 [pR (some a0), pI a1, pI a2] M (some (pL out.1)) out.2 := by
  refine ct_of (by decide +kernel) (Nat.le_of_ble_eq_true rfl) ?_
  intro x hl he hd ha ho hh hn hin X hE
  exact wX11_look X hE hn fu a0 a1 a2 M h
/-! WebHost.cached(I)Z -/
def fX11_cached (fu : Nat)  (a0 : Nat) (a1 : Int32)  (M : Mm) : Option (Int32 × Mm) :=
    (gI M 11 712 (some a0)).bind fun v1 =>
    if v1 = 0 then (
    rN .boolean (0 : Int32) M)
    else (
    (gR M 11 706 (some a0)).bind fun v2 =>
    (rc M 4 v2).bind fun q3 =>
    b2 (fX4_counting fu q3 a1 M) fun v5 M4 =>
    if v5 < 0 then (
    rN .boolean (0 : Int32) M4)
    else (
    rN .boolean (1 : Int32) M4))
theorem dX11_cached_0 : decode cX11_cached 0 = .ok (.aload_n 0, 1) := by decide +kernel
theorem dX11_cached_1 : decode cX11_cached 1 = .ok (.getfield 89, 3) := by decide +kernel
theorem dX11_cached_4 : decode cX11_cached 4 = .ok (.ifCond .eq 18, 3) := by decide +kernel
theorem dX11_cached_7 : decode cX11_cached 7 = .ok (.aload_n 0, 1) := by decide +kernel
theorem dX11_cached_8 : decode cX11_cached 8 = .ok (.getfield 28, 3) := by decide +kernel
theorem dX11_cached_11 : decode cX11_cached 11 = .ok (.iload_n 1, 1) := by decide +kernel
theorem dX11_cached_12 : decode cX11_cached 12 = .ok (.invokevirtual 188, 3) := by decide +kernel
theorem dX11_cached_15 : decode cX11_cached 15 = .ok (.ifCond .lt 7, 3) := by decide +kernel
theorem dX11_cached_18 : decode cX11_cached 18 = .ok (.iconst 1, 1) := by decide +kernel
theorem dX11_cached_19 : decode cX11_cached 19 = .ok (.goto 4, 3) := by decide +kernel
theorem dX11_cached_22 : decode cX11_cached 22 = .ok (.iconst 0, 1) := by decide +kernel
theorem dX11_cached_23 : decode cX11_cached 23 = .ok (.ireturn, 1) := by decide +kernel
theorem wX11_cached {x : GX} {n0 sl0 : Nat} (X : Cx x cX11_cached RX11 (some .boolean) n0 sl0 2 44) {out : Int32 × Mm} (hE : Ends x n0 sl0 (some (pI out.1)) out.2) (hn : xn x = 2) (fu : Nat)   (a0 : Nat) (a1 : Int32)  (M : Mm) (h : fX11_cached fu  a0 a1 M = some out) : Gw x M 0 [(0, pR (some a0)), (1, pI a1)] [] := by
  unfold fX11_cached at h
  refine g_aload_n X (pc := 0) 0 rfl rfl dX11_cached_0 ?_
  obtain ⟨v1, ev1, h⟩ := bd h
  refine g_getI X (pc := 1) fk_11_8 rfl rfl ev1 tb_322 dX11_cached_1 ?_
  refine g_if_eq X (pc := 4) (tgt := 22) dX11_cached_4 (by decide) (fun hc => ?_) (fun hc => ?_)
  · have h := (if_pos hc).symm.trans h
    refine g_iconst X (pc := 22) (v := 0) dX11_cached_22 (by decide) ?_
    obtain ⟨hz, rfl⟩ := rN_some h
    exact g_nreturn X rfl hz hE dX11_cached_23
  · have h := (if_neg hc).symm.trans h
    refine g_aload_n X (pc := 7) 0 rfl rfl dX11_cached_7 ?_
    obtain ⟨v2, ev2, h⟩ := bd h
    refine g_getR X (pc := 8) fk_11_2 rfl rfl ev2 tb_316 dX11_cached_8 ?_
    refine g_iload_n X (pc := 11) 1 rfl rfl dX11_cached_11 ?_
    obtain ⟨q3, eq3, h⟩ := bd h
    obtain ⟨v5, M4, eM4, h⟩ := b2d h
    refine g_callV X (pc := 12) (M' := M4) (ro := some (pI v5)) (c := 4) rfl (by decide) (as := [pI a1]) (as' := [pI a1]) (st := []) eq3 (ctX4_counting _ _ _ _ _ _ fu q3 a1 M _ eM4) tb_636 tb_1536 tb_634 tb_635 tb_4 ⟨rfl, hyX4_counting⟩ rfl rfl ⟨by decide, by decide⟩ (Nat.le_of_ble_eq_true rfl) dX11_cached_12 ?_
    refine g_if_lt X (pc := 15) (tgt := 22) dX11_cached_15 (by decide) (fun hc => ?_) (fun hc => ?_)
    · have h := (if_pos hc).symm.trans h
      refine g_iconst X (pc := 22) (v := 0) dX11_cached_22 (by decide) ?_
      obtain ⟨hz, rfl⟩ := rN_some h
      exact g_nreturn X rfl hz hE dX11_cached_23
    · have h := (if_neg hc).symm.trans h
      refine g_iconst X (pc := 18) (v := 1) dX11_cached_18 (by decide) ?_
      refine g_goto X (pc := 19) (tgt := 23) dX11_cached_19 (by decide) ?_
      obtain ⟨hz, rfl⟩ := rN_some h
      exact g_nreturn X rfl hz hE dX11_cached_23
theorem hyX11_cached : yX11_cached.cls ≠ "java/lang/invoke/MethodHandle" ∧ yX11_cached.cls ≠ "java/lang/invoke/VarHandle" ∧ (parseMethodDescriptor yX11_cached.desc).map (fun d => d.parameters.length) = some 1 := ⟨by decide +kernel, by decide +kernel, by decide +kernel⟩
theorem ctX11_cached (l : Launch) (E : Nat → Nat) (D : va_G) (dA : Nat → ClassId) (lo : Nat) (H0 : Heap) (fu : Nat) (a0 : Nat) (a1 : Int32) (M : Mm) (out : Int32 × Mm) (h : fX11_cached fu a0 a1 M = some out) : Ct l E D dA lo H0 yX11_cached cX11_cached 2 (some .boolean) 2 44 [pR (some a0), pI a1] M (some (pI out.1)) out.2 := by
  refine ct_of (by decide +kernel) (Nat.le_of_ble_eq_true rfl) ?_
  intro x hl he hd ha ho hh hn hin X hE
  exact wX11_cached X hE hn fu a0 a1 M h
/-! WebHost.waiting()I -/
def fX11_waiting (fu : Nat)  (a0 : Nat)  (M : Mm) : Option (Int32 × Mm) :=
    (gI M 11 712 (some a0)).bind fun v1 =>
    if v1 = 0 then (
    some ((0 : Int32), M))
    else (
    (gR M 11 706 (some a0)).bind fun v2 =>
    (gI M 4 260 v2).bind fun v3 =>
    some (v3, M))
theorem dX11_waiting_0 : decode cX11_waiting 0 = .ok (.aload_n 0, 1) := by decide +kernel
theorem dX11_waiting_1 : decode cX11_waiting 1 = .ok (.getfield 89, 3) := by decide +kernel
theorem dX11_waiting_4 : decode cX11_waiting 4 = .ok (.ifCond .eq 13, 3) := by decide +kernel
theorem dX11_waiting_7 : decode cX11_waiting 7 = .ok (.aload_n 0, 1) := by decide +kernel
theorem dX11_waiting_8 : decode cX11_waiting 8 = .ok (.getfield 28, 3) := by decide +kernel
theorem dX11_waiting_11 : decode cX11_waiting 11 = .ok (.getfield 191, 3) := by decide +kernel
theorem dX11_waiting_14 : decode cX11_waiting 14 = .ok (.goto 4, 3) := by decide +kernel
theorem dX11_waiting_17 : decode cX11_waiting 17 = .ok (.iconst 0, 1) := by decide +kernel
theorem dX11_waiting_18 : decode cX11_waiting 18 = .ok (.ireturn, 1) := by decide +kernel
theorem wX11_waiting {x : GX} {n0 sl0 : Nat} (X : Cx x cX11_waiting RX11 (some .int) n0 sl0 0 0) {out : Int32 × Mm} (hE : Ends x n0 sl0 (some (pI out.1)) out.2) (hn : xn x = 1) (fu : Nat)   (a0 : Nat)  (M : Mm) (h : fX11_waiting fu  a0 M = some out) : Gw x M 0 [(0, pR (some a0))] [] := by
  unfold fX11_waiting at h
  refine g_aload_n X (pc := 0) 0 rfl rfl dX11_waiting_0 ?_
  obtain ⟨v1, ev1, h⟩ := bd h
  refine g_getI X (pc := 1) fk_11_8 rfl rfl ev1 tb_322 dX11_waiting_1 ?_
  refine g_if_eq X (pc := 4) (tgt := 17) dX11_waiting_4 (by decide) (fun hc => ?_) (fun hc => ?_)
  · have h := (if_pos hc).symm.trans h
    refine g_iconst X (pc := 17) (v := 0) dX11_waiting_17 (by decide) ?_
    obtain rfl := Option.some.inj h
    exact g_ireturn X hE dX11_waiting_18
  · have h := (if_neg hc).symm.trans h
    refine g_aload_n X (pc := 7) 0 rfl rfl dX11_waiting_7 ?_
    obtain ⟨v2, ev2, h⟩ := bd h
    refine g_getR X (pc := 8) fk_11_2 rfl rfl ev2 tb_316 dX11_waiting_8 ?_
    obtain ⟨v3, ev3, h⟩ := bd h
    refine g_getI X (pc := 11) fk_4_4 rfl rfl ev3 tb_108 dX11_waiting_11 ?_
    refine g_goto X (pc := 14) (tgt := 18) dX11_waiting_14 (by decide) ?_
    obtain rfl := Option.some.inj h
    exact g_ireturn X hE dX11_waiting_18
theorem hyX11_waiting : yX11_waiting.cls ≠ "java/lang/invoke/MethodHandle" ∧ yX11_waiting.cls ≠ "java/lang/invoke/VarHandle" ∧ (parseMethodDescriptor yX11_waiting.desc).map (fun d => d.parameters.length) = some 0 := ⟨by decide +kernel, by decide +kernel, by decide +kernel⟩
theorem ctX11_waiting (l : Launch) (E : Nat → Nat) (D : va_G) (dA : Nat → ClassId) (lo : Nat) (H0 : Heap) (fu : Nat) (a0 : Nat) (M : Mm) (out : Int32 × Mm) (h : fX11_waiting fu a0 M = some out) : Ct l E D dA lo H0 yX11_waiting cX11_waiting 1 (some .int) 0 0 [pR (some a0)] M (some (pI out.1)) out.2 := by
  refine ct_of (by decide +kernel) (Nat.le_of_ble_eq_true rfl) ?_
  intro x hl he hd ha ho hh hn hin X hE
  exact wX11_waiting X hE hn fu a0 M h
/-! WebHost.counted(I)I -/
def fX11_counted (fu : Nat)  (a0 : Nat) (a1 : Int32)  (M : Mm) : Option (Int32 × Mm) :=
    (gI M 11 712 (some a0)).bind fun v1 =>
    if v1 = 0 then (
    some ((-1 : Int32), M))
    else (
    if a1 < 0 then (
    some ((-1 : Int32), M))
    else (
    if a1 < (8 : Int32) then (
    (gR M 11 705 (some a0)).bind fun v2 =>
    (gR M 10 640 v2).bind fun v3 =>
    (gA M 101 v3 a1).bind fun v4 =>
    some (v4, M))
    else (
    some ((-1 : Int32), M))))
theorem dX11_counted_0 : decode cX11_counted 0 = .ok (.aload_n 0, 1) := by decide +kernel
theorem dX11_counted_1 : decode cX11_counted 1 = .ok (.getfield 89, 3) := by decide +kernel
theorem dX11_counted_4 : decode cX11_counted 4 = .ok (.ifCond .eq 13, 3) := by decide +kernel
theorem dX11_counted_7 : decode cX11_counted 7 = .ok (.iload_n 1, 1) := by decide +kernel
theorem dX11_counted_8 : decode cX11_counted 8 = .ok (.ifCond .lt 9, 3) := by decide +kernel
theorem dX11_counted_11 : decode cX11_counted 11 = .ok (.iload_n 1, 1) := by decide +kernel
theorem dX11_counted_12 : decode cX11_counted 12 = .ok (.bipush 8, 2) := by decide +kernel
theorem dX11_counted_14 : decode cX11_counted 14 = .ok (.if_icmp .lt 5, 3) := by decide +kernel
theorem dX11_counted_17 : decode cX11_counted 17 = .ok (.iconst (-1), 1) := by decide +kernel
theorem dX11_counted_18 : decode cX11_counted 18 = .ok (.ireturn, 1) := by decide +kernel
theorem dX11_counted_19 : decode cX11_counted 19 = .ok (.aload_n 0, 1) := by decide +kernel
theorem dX11_counted_20 : decode cX11_counted 20 = .ok (.getfield 19, 3) := by decide +kernel
theorem dX11_counted_23 : decode cX11_counted 23 = .ok (.getfield 126, 3) := by decide +kernel
theorem dX11_counted_26 : decode cX11_counted 26 = .ok (.iload_n 1, 1) := by decide +kernel
theorem dX11_counted_27 : decode cX11_counted 27 = .ok (.iaload, 1) := by decide +kernel
theorem dX11_counted_28 : decode cX11_counted 28 = .ok (.ireturn, 1) := by decide +kernel
theorem wX11_counted {x : GX} {n0 sl0 : Nat} (X : Cx x cX11_counted RX11 (some .int) n0 sl0 0 0) {out : Int32 × Mm} (hE : Ends x n0 sl0 (some (pI out.1)) out.2) (hn : xn x = 2) (fu : Nat)   (a0 : Nat) (a1 : Int32)  (M : Mm) (h : fX11_counted fu  a0 a1 M = some out) : Gw x M 0 [(0, pR (some a0)), (1, pI a1)] [] := by
  unfold fX11_counted at h
  refine g_aload_n X (pc := 0) 0 rfl rfl dX11_counted_0 ?_
  obtain ⟨v1, ev1, h⟩ := bd h
  refine g_getI X (pc := 1) fk_11_8 rfl rfl ev1 tb_322 dX11_counted_1 ?_
  refine g_if_eq X (pc := 4) (tgt := 17) dX11_counted_4 (by decide) (fun hc => ?_) (fun hc => ?_)
  · have h := (if_pos hc).symm.trans h
    refine g_iconst X (pc := 17) (v := (-1)) dX11_counted_17 (by decide) ?_
    obtain rfl := Option.some.inj h
    exact g_ireturn X hE dX11_counted_18
  · have h := (if_neg hc).symm.trans h
    refine g_iload_n X (pc := 7) 1 rfl rfl dX11_counted_7 ?_
    refine g_if_lt X (pc := 8) (tgt := 17) dX11_counted_8 (by decide) (fun hc => ?_) (fun hc => ?_)
    · have h := (if_pos hc).symm.trans h
      refine g_iconst X (pc := 17) (v := (-1)) dX11_counted_17 (by decide) ?_
      obtain rfl := Option.some.inj h
      exact g_ireturn X hE dX11_counted_18
    · have h := (if_neg hc).symm.trans h
      refine g_iload_n X (pc := 11) 1 rfl rfl dX11_counted_11 ?_
      refine g_bipush X (pc := 12) (v := 8) dX11_counted_12 (by decide) ?_
      refine g_icmp_lt X (pc := 14) (tgt := 19) dX11_counted_14 (by decide) (fun hc => ?_) (fun hc => ?_)
      · have h := (if_pos hc).symm.trans h
        refine g_aload_n X (pc := 19) 0 rfl rfl dX11_counted_19 ?_
        obtain ⟨v2, ev2, h⟩ := bd h
        refine g_getR X (pc := 20) fk_11_1 rfl rfl ev2 tb_315 dX11_counted_20 ?_
        obtain ⟨v3, ev3, h⟩ := bd h
        refine g_getR X (pc := 23) fk_10_0 rfl rfl ev3 tb_63 dX11_counted_23 ?_
        refine g_iload_n X (pc := 26) 1 rfl rfl dX11_counted_26 ?_
        obtain ⟨v4, ev4, h⟩ := bd h
        refine g_iaload X (pc := 27) ev4 dX11_counted_27 ?_
        obtain rfl := Option.some.inj h
        exact g_ireturn X hE dX11_counted_28
      · have h := (if_neg hc).symm.trans h
        refine g_iconst X (pc := 17) (v := (-1)) dX11_counted_17 (by decide) ?_
        obtain rfl := Option.some.inj h
        exact g_ireturn X hE dX11_counted_18
theorem hyX11_counted : yX11_counted.cls ≠ "java/lang/invoke/MethodHandle" ∧ yX11_counted.cls ≠ "java/lang/invoke/VarHandle" ∧ (parseMethodDescriptor yX11_counted.desc).map (fun d => d.parameters.length) = some 1 := ⟨by decide +kernel, by decide +kernel, by decide +kernel⟩
theorem ctX11_counted (l : Launch) (E : Nat → Nat) (D : va_G) (dA : Nat → ClassId) (lo : Nat) (H0 : Heap) (fu : Nat) (a0 : Nat) (a1 : Int32) (M : Mm) (out : Int32 × Mm) (h : fX11_counted fu a0 a1 M = some out) : Ct l E D dA lo H0 yX11_counted cX11_counted 2 (some .int) 0 0 [pR (some a0), pI a1] M (some (pI out.1)) out.2 := by
  refine ct_of (by decide +kernel) (Nat.le_of_ble_eq_true rfl) ?_
  intro x hl he hd ha ho hh hn hin X hE
  exact wX11_counted X hE hn fu a0 a1 M h
/-! WebHost.damage(II)Z -/
def fX11_damage_L35 (fu : Nat)  (a0 : Nat) (a1 : Int32) (a2 : Int32)  (M : Mm) : Option (Int32 × Mm) :=
    (gR M 11 704 (some a0)).bind fun v1 =>
    (gR M 8 512 v1).bind fun v2 =>
    (pA M 100 v2 a1 (Int8.toInt32 (Int32.toInt8 (Int8.toInt32 (Int32.toInt8 a2))))).bind fun M3 =>
    rN .boolean (1 : Int32) M3
def fX11_damage (fu : Nat)  (a0 : Nat) (a1 : Int32) (a2 : Int32)  (M : Mm) : Option (Int32 × Mm) :=
    if a1 < 0 then (
    rN .boolean (0 : Int32) M)
    else (
    (gR M 11 704 (some a0)).bind fun v1 =>
    (gR M 8 512 v1).bind fun v2 =>
    (aL M 100 v2).bind fun v3 =>
    if v3 ≤ a1 then (
    rN .boolean (0 : Int32) M)
    else (
    (gI M 11 712 (some a0)).bind fun v4 =>
    if v4 = 0 then (
    fX11_damage_L35 fu  a0 a1 a2 M)
    else (
    (gR M 11 708 (some a0)).bind fun v5 =>
    (rc M 9 v5).bind fun q6 =>
    b2 (fX9_isBusy fu q6  M) fun v8 M7 =>
    if v8 = 0 then (
    fX11_damage_L35 fu  a0 a1 a2 M7)
    else (
    rN .boolean (0 : Int32) M7))))
theorem dX11_damage_0 : decode cX11_damage 0 = .ok (.iload_n 1, 1) := by decide +kernel
theorem dX11_damage_1 : decode cX11_damage 1 = .ok (.ifCond .lt 32, 3) := by decide +kernel
theorem dX11_damage_4 : decode cX11_damage 4 = .ok (.iload_n 1, 1) := by decide +kernel
theorem dX11_damage_5 : decode cX11_damage 5 = .ok (.aload_n 0, 1) := by decide +kernel
theorem dX11_damage_6 : decode cX11_damage 6 = .ok (.getfield 10, 3) := by decide +kernel
theorem dX11_damage_9 : decode cX11_damage 9 = .ok (.getfield 194, 3) := by decide +kernel
theorem dX11_damage_12 : decode cX11_damage 12 = .ok (.arraylength, 1) := by decide +kernel
theorem dX11_damage_13 : decode cX11_damage 13 = .ok (.if_icmp .ge 20, 3) := by decide +kernel
theorem dX11_damage_16 : decode cX11_damage 16 = .ok (.aload_n 0, 1) := by decide +kernel
theorem dX11_damage_17 : decode cX11_damage 17 = .ok (.getfield 89, 3) := by decide +kernel
theorem dX11_damage_20 : decode cX11_damage 20 = .ok (.ifCond .eq 15, 3) := by decide +kernel
theorem dX11_damage_23 : decode cX11_damage 23 = .ok (.aload_n 0, 1) := by decide +kernel
theorem dX11_damage_24 : decode cX11_damage 24 = .ok (.getfield 46, 3) := by decide +kernel
theorem dX11_damage_27 : decode cX11_damage 27 = .ok (.invokevirtual 197, 3) := by decide +kernel
theorem dX11_damage_30 : decode cX11_damage 30 = .ok (.ifCond .eq 5, 3) := by decide +kernel
theorem dX11_damage_33 : decode cX11_damage 33 = .ok (.iconst 0, 1) := by decide +kernel
theorem dX11_damage_34 : decode cX11_damage 34 = .ok (.ireturn, 1) := by decide +kernel
theorem dX11_damage_35 : decode cX11_damage 35 = .ok (.aload_n 0, 1) := by decide +kernel
theorem dX11_damage_36 : decode cX11_damage 36 = .ok (.getfield 10, 3) := by decide +kernel
theorem dX11_damage_39 : decode cX11_damage 39 = .ok (.getfield 194, 3) := by decide +kernel
theorem dX11_damage_42 : decode cX11_damage 42 = .ok (.iload_n 1, 1) := by decide +kernel
theorem dX11_damage_43 : decode cX11_damage 43 = .ok (.iload_n 2, 1) := by decide +kernel
theorem dX11_damage_44 : decode cX11_damage 44 = .ok (.i2b, 1) := by decide +kernel
theorem dX11_damage_45 : decode cX11_damage 45 = .ok (.bastore, 1) := by decide +kernel
theorem dX11_damage_46 : decode cX11_damage 46 = .ok (.iconst 1, 1) := by decide +kernel
theorem dX11_damage_47 : decode cX11_damage 47 = .ok (.ireturn, 1) := by decide +kernel
theorem wX11_damage_L35 {x : GX} {n0 sl0 : Nat} (X : Cx x cX11_damage RX11 (some .boolean) n0 sl0 4 82) {out : Int32 × Mm} (hE : Ends x n0 sl0 (some (pI out.1)) out.2) (hn : xn x = 3) (fu : Nat)   (a0 : Nat) (a1 : Int32) (a2 : Int32)  (M : Mm) (h : fX11_damage_L35 fu  a0 a1 a2 M = some out) : Gw x M 35 [(0, pR (some a0)), (1, pI a1), (2, pI a2)] [] := by
  unfold fX11_damage_L35 at h
  refine g_aload_n X (pc := 35) 0 rfl rfl dX11_damage_35 ?_
  obtain ⟨v1, ev1, h⟩ := bd h
  refine g_getR X (pc := 36) fk_11_0 rfl rfl ev1 tb_314 dX11_damage_36 ?_
  obtain ⟨v2, ev2, h⟩ := bd h
  refine g_getR X (pc := 39) fk_8_0 rfl rfl ev2 tb_41 dX11_damage_39 ?_
  refine g_iload_n X (pc := 42) 1 rfl rfl dX11_damage_42 ?_
  refine g_iload_n X (pc := 43) 2 rfl rfl dX11_damage_43 ?_
  refine g_i2b X (pc := 44) dX11_damage_44 ?_
  obtain ⟨M3, eM3, h⟩ := bd h
  refine g_bastore X (pc := 45) eM3 dX11_damage_45 ?_
  refine g_iconst X (pc := 46) (v := 1) dX11_damage_46 (by decide) ?_
  obtain ⟨hz, rfl⟩ := rN_some h
  exact g_nreturn X rfl hz hE dX11_damage_47
theorem wX11_damage {x : GX} {n0 sl0 : Nat} (X : Cx x cX11_damage RX11 (some .boolean) n0 sl0 4 82) {out : Int32 × Mm} (hE : Ends x n0 sl0 (some (pI out.1)) out.2) (hn : xn x = 3) (fu : Nat)   (a0 : Nat) (a1 : Int32) (a2 : Int32)  (M : Mm) (h : fX11_damage fu  a0 a1 a2 M = some out) : Gw x M 0 [(0, pR (some a0)), (1, pI a1), (2, pI a2)] [] := by
  unfold fX11_damage at h
  refine g_iload_n X (pc := 0) 1 rfl rfl dX11_damage_0 ?_
  refine g_if_lt X (pc := 1) (tgt := 33) dX11_damage_1 (by decide) (fun hc => ?_) (fun hc => ?_)
  · have h := (if_pos hc).symm.trans h
    refine g_iconst X (pc := 33) (v := 0) dX11_damage_33 (by decide) ?_
    obtain ⟨hz, rfl⟩ := rN_some h
    exact g_nreturn X rfl hz hE dX11_damage_34
  · have h := (if_neg hc).symm.trans h
    refine g_iload_n X (pc := 4) 1 rfl rfl dX11_damage_4 ?_
    refine g_aload_n X (pc := 5) 0 rfl rfl dX11_damage_5 ?_
    obtain ⟨v1, ev1, h⟩ := bd h
    refine g_getR X (pc := 6) fk_11_0 rfl rfl ev1 tb_314 dX11_damage_6 ?_
    obtain ⟨v2, ev2, h⟩ := bd h
    refine g_getR X (pc := 9) fk_8_0 rfl rfl ev2 tb_41 dX11_damage_9 ?_
    obtain ⟨v3, ev3, h⟩ := bd h
    refine g_alen X (pc := 12) (k := 0) rfl (by decide) ev3 dX11_damage_12 ?_
    refine g_icmp_ge X (pc := 13) (tgt := 33) dX11_damage_13 (by decide) (fun hc => ?_) (fun hc => ?_)
    · have h := (if_pos hc).symm.trans h
      refine g_iconst X (pc := 33) (v := 0) dX11_damage_33 (by decide) ?_
      obtain ⟨hz, rfl⟩ := rN_some h
      exact g_nreturn X rfl hz hE dX11_damage_34
    · have h := (if_neg hc).symm.trans h
      refine g_aload_n X (pc := 16) 0 rfl rfl dX11_damage_16 ?_
      obtain ⟨v4, ev4, h⟩ := bd h
      refine g_getI X (pc := 17) fk_11_8 rfl rfl ev4 tb_322 dX11_damage_17 ?_
      refine g_if_eq X (pc := 20) (tgt := 35) dX11_damage_20 (by decide) (fun hc => ?_) (fun hc => ?_)
      · have h := (if_pos hc).symm.trans h
        exact wX11_damage_L35 X hE hn fu   a0 a1 a2 M h
      · have h := (if_neg hc).symm.trans h
        refine g_aload_n X (pc := 23) 0 rfl rfl dX11_damage_23 ?_
        obtain ⟨v5, ev5, h⟩ := bd h
        refine g_getR X (pc := 24) fk_11_4 rfl rfl ev5 tb_318 dX11_damage_24 ?_
        obtain ⟨q6, eq6, h⟩ := bd h
        obtain ⟨v8, M7, eM7, h⟩ := b2d h
        refine g_callV X (pc := 27) (M' := M7) (ro := some (pI v8)) (c := 9) rfl (by decide) (as := []) (as' := []) (st := []) eq6 (ctX9_isBusy _ _ _ _ _ _ fu q6  M _ eM7) tb_1552 tb_1549 tb_1550 tb_1551 tb_6 ⟨rfl, hyX9_isBusy⟩ rfl rfl ⟨by decide, by decide⟩ (Nat.le_of_ble_eq_true rfl) dX11_damage_27 ?_
        refine g_if_eq X (pc := 30) (tgt := 35) dX11_damage_30 (by decide) (fun hc => ?_) (fun hc => ?_)
        · have h := (if_pos hc).symm.trans h
          exact wX11_damage_L35 X hE hn fu   a0 a1 a2 M7 h
        · have h := (if_neg hc).symm.trans h
          refine g_iconst X (pc := 33) (v := 0) dX11_damage_33 (by decide) ?_
          obtain ⟨hz, rfl⟩ := rN_some h
          exact g_nreturn X rfl hz hE dX11_damage_34
theorem hyX11_damage : yX11_damage.cls ≠ "java/lang/invoke/MethodHandle" ∧ yX11_damage.cls ≠ "java/lang/invoke/VarHandle" ∧ (parseMethodDescriptor yX11_damage.desc).map (fun d => d.parameters.length) = some 2 := ⟨by decide +kernel, by decide +kernel, by decide +kernel⟩
theorem ctX11_damage (l : Launch) (E : Nat → Nat) (D : va_G) (dA : Nat → ClassId) (lo : Nat) (H0 : Heap) (fu : Nat) (a0 : Nat) (a1 : Int32) (a2 : Int32) (M : Mm) (out : Int32 × Mm) (h : fX11_damage fu a0 a1 a2 M = some out) : Ct l E D dA lo H0 yX11_damage cX11_damage 3 (some .boolean) 4 82 [pR (some a0), pI a1, pI a2] M (some (pI out.1)) out.2 := by
  refine ct_of (by decide +kernel) (Nat.le_of_ble_eq_true rfl) ?_
  intro x hl he hd ha ho hh hn hin X hE
  exact wX11_damage X hE hn fu a0 a1 a2 M h
/-! WebHost.strays()I -/
def fX11_strays (fu : Nat)  (a0 : Nat)  (M : Mm) : Option (Int32 × Mm) :=
    (gI M 11 712 (some a0)).bind fun v1 =>
    if v1 = 0 then (
    some ((0 : Int32), M))
    else (
    (gR M 11 705 (some a0)).bind fun v2 =>
    (gI M 10 643 v2).bind fun v3 =>
    some (v3, M))
theorem dX11_strays_0 : decode cX11_strays 0 = .ok (.aload_n 0, 1) := by decide +kernel
theorem dX11_strays_1 : decode cX11_strays 1 = .ok (.getfield 89, 3) := by decide +kernel
theorem dX11_strays_4 : decode cX11_strays 4 = .ok (.ifCond .eq 13, 3) := by decide +kernel
theorem dX11_strays_7 : decode cX11_strays 7 = .ok (.aload_n 0, 1) := by decide +kernel
theorem dX11_strays_8 : decode cX11_strays 8 = .ok (.getfield 19, 3) := by decide +kernel
theorem dX11_strays_11 : decode cX11_strays 11 = .ok (.getfield 200, 3) := by decide +kernel
theorem dX11_strays_14 : decode cX11_strays 14 = .ok (.goto 4, 3) := by decide +kernel
theorem dX11_strays_17 : decode cX11_strays 17 = .ok (.iconst 0, 1) := by decide +kernel
theorem dX11_strays_18 : decode cX11_strays 18 = .ok (.ireturn, 1) := by decide +kernel
theorem wX11_strays {x : GX} {n0 sl0 : Nat} (X : Cx x cX11_strays RX11 (some .int) n0 sl0 0 0) {out : Int32 × Mm} (hE : Ends x n0 sl0 (some (pI out.1)) out.2) (hn : xn x = 1) (fu : Nat)   (a0 : Nat)  (M : Mm) (h : fX11_strays fu  a0 M = some out) : Gw x M 0 [(0, pR (some a0))] [] := by
  unfold fX11_strays at h
  refine g_aload_n X (pc := 0) 0 rfl rfl dX11_strays_0 ?_
  obtain ⟨v1, ev1, h⟩ := bd h
  refine g_getI X (pc := 1) fk_11_8 rfl rfl ev1 tb_322 dX11_strays_1 ?_
  refine g_if_eq X (pc := 4) (tgt := 17) dX11_strays_4 (by decide) (fun hc => ?_) (fun hc => ?_)
  · have h := (if_pos hc).symm.trans h
    refine g_iconst X (pc := 17) (v := 0) dX11_strays_17 (by decide) ?_
    obtain rfl := Option.some.inj h
    exact g_ireturn X hE dX11_strays_18
  · have h := (if_neg hc).symm.trans h
    refine g_aload_n X (pc := 7) 0 rfl rfl dX11_strays_7 ?_
    obtain ⟨v2, ev2, h⟩ := bd h
    refine g_getR X (pc := 8) fk_11_1 rfl rfl ev2 tb_315 dX11_strays_8 ?_
    obtain ⟨v3, ev3, h⟩ := bd h
    refine g_getI X (pc := 11) fk_10_3 rfl rfl ev3 tb_75 dX11_strays_11 ?_
    refine g_goto X (pc := 14) (tgt := 18) dX11_strays_14 (by decide) ?_
    obtain rfl := Option.some.inj h
    exact g_ireturn X hE dX11_strays_18
theorem hyX11_strays : yX11_strays.cls ≠ "java/lang/invoke/MethodHandle" ∧ yX11_strays.cls ≠ "java/lang/invoke/VarHandle" ∧ (parseMethodDescriptor yX11_strays.desc).map (fun d => d.parameters.length) = some 0 := ⟨by decide +kernel, by decide +kernel, by decide +kernel⟩
theorem ctX11_strays (l : Launch) (E : Nat → Nat) (D : va_G) (dA : Nat → ClassId) (lo : Nat) (H0 : Heap) (fu : Nat) (a0 : Nat) (M : Mm) (out : Int32 × Mm) (h : fX11_strays fu a0 M = some out) : Ct l E D dA lo H0 yX11_strays cX11_strays 1 (some .int) 0 0 [pR (some a0)] M (some (pI out.1)) out.2 := by
  refine ct_of (by decide +kernel) (Nat.le_of_ble_eq_true rfl) ?_
  intro x hl he hd ha ho hh hn hin X hE
  exact wX11_strays X hE hn fu a0 M h
/-! WebHostModel$Connection.<init>()V -/
def fX12_init (fu : Nat)  (a0 : Nat)  (M : Mm) : Option (Mm) :=
    b2 (mkA M 100 (512 : Int32)) fun v1 M2 =>
    (pG M2 12 793 (some a0) (some v1)).bind fun M3 =>
    b2 (mkA M3 100 (4096 : Int32)) fun v4 M5 =>
    (pG M5 12 800 (some a0) (some v4)).bind fun M6 =>
    b2 (mkA M6 102 (4096 : Int32)) fun v7 M8 =>
    (pG M8 12 801 (some a0) (some v7)).bind fun M9 =>
    some M9
theorem dX12_init_0 : decode cX12_init 0 = .ok (.aload_n 0, 1) := by decide +kernel
theorem dX12_init_1 : decode cX12_init 1 = .ok (.invokespecial 3, 3) := by decide +kernel
theorem dX12_init_4 : decode cX12_init 4 = .ok (.aload_n 0, 1) := by decide +kernel
theorem dX12_init_5 : decode cX12_init 5 = .ok (.sipush 512, 3) := by decide +kernel
theorem dX12_init_8 : decode cX12_init 8 = .ok (.newarray .byte, 2) := by decide +kernel
theorem dX12_init_10 : decode cX12_init 10 = .ok (.putfield 9, 3) := by decide +kernel
theorem dX12_init_13 : decode cX12_init 13 = .ok (.aload_n 0, 1) := by decide +kernel
theorem dX12_init_14 : decode cX12_init 14 = .ok (.sipush 4096, 3) := by decide +kernel
theorem dX12_init_17 : decode cX12_init 17 = .ok (.newarray .byte, 2) := by decide +kernel
theorem dX12_init_19 : decode cX12_init 19 = .ok (.putfield 15, 3) := by decide +kernel
theorem dX12_init_22 : decode cX12_init 22 = .ok (.aload_n 0, 1) := by decide +kernel
theorem dX12_init_23 : decode cX12_init 23 = .ok (.sipush 4096, 3) := by decide +kernel
theorem dX12_init_26 : decode cX12_init 26 = .ok (.newarray .boolean, 2) := by decide +kernel
theorem dX12_init_28 : decode cX12_init 28 = .ok (.putfield 18, 3) := by decide +kernel
theorem dX12_init_31 : decode cX12_init 31 = .ok (.return_, 1) := by decide +kernel
theorem wX12_init {x : GX} {n0 sl0 : Nat} (X : Cx x cX12_init RX12 none n0 sl0 1 12) {out : Mm} (hE : Ends x n0 sl0 none out) (hn : xn x = 1) (hin : (xt x).name = "<init>") (fu : Nat)   (a0 : Nat)  (M : Mm) (h : fX12_init fu  a0 M = some out) : Gw x M 0 [(0, pR (some a0))] [] := by
  unfold fX12_init at h
  refine g_aload_n X (pc := 0) 0 rfl rfl dX12_init_0 ?_
  refine g_objInit X (pc := 1) (o := (some a0)) ⟨_, rfl⟩ tb_1579 tb_32 tb_33 ⟨by decide, Nat.le_of_ble_eq_true rfl⟩ dX12_init_1 ?_
  refine g_aload_n X (pc := 4) 0 rfl rfl dX12_init_4 ?_
  refine g_sipush X (pc := 5) (v := 512) dX12_init_5 (by decide) ?_
  obtain ⟨v1, M2, eM2, h⟩ := b2d h
  refine g_newarray X (pc := 8) (at9 := .byte) (k := 0) rfl (by decide) rfl (by decide) (fun _ _ q => q) tb_53 eM2 dX12_init_8 ?_
  obtain ⟨M3, eM3, h⟩ := bd h
  refine g_putG X (pc := 10) fk_12_25 rfl rfl rfl eM3 tb_1605 (Or.inr ⟨rfl, hin, rfl⟩) dX12_init_10 ?_
  refine g_aload_n X (pc := 13) 0 rfl rfl dX12_init_13 ?_
  refine g_sipush X (pc := 14) (v := 4096) dX12_init_14 (by decide) ?_
  obtain ⟨v4, M5, eM5, h⟩ := b2d h
  refine g_newarray X (pc := 17) (at9 := .byte) (k := 0) rfl (by decide) rfl (by decide) (fun _ _ q => q) tb_53 eM5 dX12_init_17 ?_
  obtain ⟨M6, eM6, h⟩ := bd h
  refine g_putG X (pc := 19) fk_12_32 rfl rfl rfl eM6 tb_1617 (Or.inr ⟨rfl, hin, rfl⟩) dX12_init_19 ?_
  refine g_aload_n X (pc := 22) 0 rfl rfl dX12_init_22 ?_
  refine g_sipush X (pc := 23) (v := 4096) dX12_init_23 (by decide) ?_
  obtain ⟨v7, M8, eM8, h⟩ := b2d h
  refine g_newarray X (pc := 26) (at9 := .boolean) (k := 2) rfl (by decide) rfl (by decide) (fun _ _ q => q) tb_1729 eM8 dX12_init_26 ?_
  obtain ⟨M9, eM9, h⟩ := bd h
  refine g_putG X (pc := 28) fk_12_33 rfl rfl rfl eM9 tb_1619 (Or.inr ⟨rfl, hin, rfl⟩) dX12_init_28 ?_
  obtain rfl := Option.some.inj h
  exact g_return X hE dX12_init_31
theorem hyX12_init : yX12_init.cls ≠ "java/lang/invoke/MethodHandle" ∧ yX12_init.cls ≠ "java/lang/invoke/VarHandle" ∧ (parseMethodDescriptor yX12_init.desc).map (fun d => d.parameters.length) = some 0 := ⟨by decide +kernel, by decide +kernel, by decide +kernel⟩
theorem ctX12_init (l : Launch) (E : Nat → Nat) (D : va_G) (dA : Nat → ClassId) (lo : Nat) (H0 : Heap) (fu : Nat) (a0 : Nat) (M : Mm) (out : Mm) (h : fX12_init fu a0 M = some out) : Ct l E D dA lo H0 yX12_init cX12_init 1 none 1 12 [pR (some a0)] M none out := by
  refine ct_of (by decide +kernel) (Nat.le_of_ble_eq_true rfl) ?_
  intro x hl he hd ha ho hh hn hin X hE
  exact wX12_init X hE hn hin fu a0 M h
/-! WebHostModel$Connection.behind()I -/
def fX12_behind (fu : Nat)  (a0 : Nat)  (M : Mm) : Option (Int32 × Mm) :=
    (gI M 12 797 (some a0)).bind fun v1 =>
    (gI M 12 794 (some a0)).bind fun v2 =>
    (gI M 12 796 (some a0)).bind fun v3 =>
    some (((v1 + v2) + v3), M)
theorem dX12_behind_0 : decode cX12_behind 0 = .ok (.aload_n 0, 1) := by decide +kernel
theorem dX12_behind_1 : decode cX12_behind 1 = .ok (.getfield 22, 3) := by decide +kernel
theorem dX12_behind_4 : decode cX12_behind 4 = .ok (.aload_n 0, 1) := by decide +kernel
theorem dX12_behind_5 : decode cX12_behind 5 = .ok (.getfield 26, 3) := by decide +kernel
theorem dX12_behind_8 : decode cX12_behind 8 = .ok (.iadd, 1) := by decide +kernel
theorem dX12_behind_9 : decode cX12_behind 9 = .ok (.aload_n 0, 1) := by decide +kernel
theorem dX12_behind_10 : decode cX12_behind 10 = .ok (.getfield 29, 3) := by decide +kernel
theorem dX12_behind_13 : decode cX12_behind 13 = .ok (.iadd, 1) := by decide +kernel
theorem dX12_behind_14 : decode cX12_behind 14 = .ok (.ireturn, 1) := by decide +kernel
theorem wX12_behind {x : GX} {n0 sl0 : Nat} (X : Cx x cX12_behind RX12 (some .int) n0 sl0 0 0) {out : Int32 × Mm} (hE : Ends x n0 sl0 (some (pI out.1)) out.2) (hn : xn x = 1) (fu : Nat)   (a0 : Nat)  (M : Mm) (h : fX12_behind fu  a0 M = some out) : Gw x M 0 [(0, pR (some a0))] [] := by
  unfold fX12_behind at h
  refine g_aload_n X (pc := 0) 0 rfl rfl dX12_behind_0 ?_
  obtain ⟨v1, ev1, h⟩ := bd h
  refine g_getI X (pc := 1) fk_12_29 rfl rfl ev1 tb_1612 dX12_behind_1 ?_
  refine g_aload_n X (pc := 4) 0 rfl rfl dX12_behind_4 ?_
  obtain ⟨v2, ev2, h⟩ := bd h
  refine g_getI X (pc := 5) fk_12_26 rfl rfl ev2 tb_1607 dX12_behind_5 ?_
  refine g_iadd X (pc := 8) dX12_behind_8 ?_
  refine g_aload_n X (pc := 9) 0 rfl rfl dX12_behind_9 ?_
  obtain ⟨v3, ev3, h⟩ := bd h
  refine g_getI X (pc := 10) fk_12_28 rfl rfl ev3 tb_1610 dX12_behind_10 ?_
  refine g_iadd X (pc := 13) dX12_behind_13 ?_
  obtain rfl := Option.some.inj h
  exact g_ireturn X hE dX12_behind_14
theorem hyX12_behind : yX12_behind.cls ≠ "java/lang/invoke/MethodHandle" ∧ yX12_behind.cls ≠ "java/lang/invoke/VarHandle" ∧ (parseMethodDescriptor yX12_behind.desc).map (fun d => d.parameters.length) = some 0 := ⟨by decide +kernel, by decide +kernel, by decide +kernel⟩
theorem ctX12_behind (l : Launch) (E : Nat → Nat) (D : va_G) (dA : Nat → ClassId) (lo : Nat) (H0 : Heap) (fu : Nat) (a0 : Nat) (M : Mm) (out : Int32 × Mm) (h : fX12_behind fu a0 M = some out) : Ct l E D dA lo H0 yX12_behind cX12_behind 1 (some .int) 0 0 [pR (some a0)] M (some (pI out.1)) out.2 := by
  refine ct_of (by decide +kernel) (Nat.le_of_ble_eq_true rfl) ?_
  intro x hl he hd ha ho hh hn hin X hE
  exact wX12_behind X hE hn fu a0 M h
/-! WebHostModel$Connection.left(I)I -/
def fX12_left (fu : Nat)  (a0 : Nat) (a1 : Int32)  (M : Mm) : Option (Int32 × Mm) :=
    (rc M 12 (some a0)).bind fun q1 =>
    b2 (fX12_behind fu q1  M) fun v3 M2 =>
    (gI M2 12 798 (some a0)).bind fun v4 =>
    if v4 = 0 then (
    some (((v3 + (0 : Int32)) - a1), M2))
    else (
    some (((v3 + (1 : Int32)) - a1), M2))
theorem dX12_left_0 : decode cX12_left 0 = .ok (.aload_n 0, 1) := by decide +kernel
theorem dX12_left_1 : decode cX12_left 1 = .ok (.invokevirtual 32, 3) := by decide +kernel
theorem dX12_left_4 : decode cX12_left 4 = .ok (.aload_n 0, 1) := by decide +kernel
theorem dX12_left_5 : decode cX12_left 5 = .ok (.getfield 36, 3) := by decide +kernel
theorem dX12_left_8 : decode cX12_left 8 = .ok (.ifCond .eq 7, 3) := by decide +kernel
theorem dX12_left_11 : decode cX12_left 11 = .ok (.iconst 1, 1) := by decide +kernel
theorem dX12_left_12 : decode cX12_left 12 = .ok (.goto 4, 3) := by decide +kernel
theorem dX12_left_15 : decode cX12_left 15 = .ok (.iconst 0, 1) := by decide +kernel
theorem dX12_left_16 : decode cX12_left 16 = .ok (.iadd, 1) := by decide +kernel
theorem dX12_left_17 : decode cX12_left 17 = .ok (.iload_n 1, 1) := by decide +kernel
theorem dX12_left_18 : decode cX12_left 18 = .ok (.isub, 1) := by decide +kernel
theorem dX12_left_19 : decode cX12_left 19 = .ok (.ireturn, 1) := by decide +kernel
theorem wX12_left {x : GX} {n0 sl0 : Nat} (X : Cx x cX12_left RX12 (some .int) n0 sl0 1 20) {out : Int32 × Mm} (hE : Ends x n0 sl0 (some (pI out.1)) out.2) (hn : xn x = 2) (fu : Nat)   (a0 : Nat) (a1 : Int32)  (M : Mm) (h : fX12_left fu  a0 a1 M = some out) : Gw x M 0 [(0, pR (some a0)), (1, pI a1)] [] := by
  unfold fX12_left at h
  refine g_aload_n X (pc := 0) 0 rfl rfl dX12_left_0 ?_
  obtain ⟨q1, eq1, h⟩ := bd h
  obtain ⟨v3, M2, eM2, h⟩ := b2d h
  refine g_callV X (pc := 1) (M' := M2) (ro := some (pI v3)) (c := 12) rfl (by decide) (as := []) (as' := []) (st := []) eq1 (ctX12_behind _ _ _ _ _ _ fu q1  M _ eM2) tb_2074 tb_2071 tb_2072 tb_2073 tb_9 ⟨rfl, hyX12_behind⟩ rfl rfl ⟨by decide, by decide⟩ (Nat.le_of_ble_eq_true rfl) dX12_left_1 ?_
  refine g_aload_n X (pc := 4) 0 rfl rfl dX12_left_4 ?_
  obtain ⟨v4, ev4, h⟩ := bd h
  refine g_getI X (pc := 5) fk_12_30 rfl rfl ev4 tb_1614 dX12_left_5 ?_
  refine g_if_eq X (pc := 8) (tgt := 15) dX12_left_8 (by decide) (fun hc => ?_) (fun hc => ?_)
  · have h := (if_pos hc).symm.trans h
    refine g_iconst X (pc := 15) (v := 0) dX12_left_15 (by decide) ?_
    refine g_iadd X (pc := 16) dX12_left_16 ?_
    refine g_iload_n X (pc := 17) 1 rfl rfl dX12_left_17 ?_
    refine g_isub X (pc := 18) dX12_left_18 ?_
    obtain rfl := Option.some.inj h
    exact g_ireturn X hE dX12_left_19
  · have h := (if_neg hc).symm.trans h
    refine g_iconst X (pc := 11) (v := 1) dX12_left_11 (by decide) ?_
    refine g_goto X (pc := 12) (tgt := 16) dX12_left_12 (by decide) ?_
    refine g_iadd X (pc := 16) dX12_left_16 ?_
    refine g_iload_n X (pc := 17) 1 rfl rfl dX12_left_17 ?_
    refine g_isub X (pc := 18) dX12_left_18 ?_
    obtain rfl := Option.some.inj h
    exact g_ireturn X hE dX12_left_19
theorem hyX12_left : yX12_left.cls ≠ "java/lang/invoke/MethodHandle" ∧ yX12_left.cls ≠ "java/lang/invoke/VarHandle" ∧ (parseMethodDescriptor yX12_left.desc).map (fun d => d.parameters.length) = some 1 := ⟨by decide +kernel, by decide +kernel, by decide +kernel⟩
theorem ctX12_left (l : Launch) (E : Nat → Nat) (D : va_G) (dA : Nat → ClassId) (lo : Nat) (H0 : Heap) (fu : Nat) (a0 : Nat) (a1 : Int32) (M : Mm) (out : Int32 × Mm) (h : fX12_left fu a0 a1 M = some out) : Ct l E D dA lo H0 yX12_left cX12_left 2 (some .int) 1 20 [pR (some a0), pI a1] M (some (pI out.1)) out.2 := by
  refine ct_of (by decide +kernel) (Nat.le_of_ble_eq_true rfl) ?_
  intro x hl he hd ha ho hh hn hin X hE
  exact wX12_left X hE hn fu a0 a1 M h
/-! WebHostModel$Connection.held()I -/
def fX12_held (fu : Nat)  (a0 : Nat)  (M : Mm) : Option (Int32 × Mm) :=
    (gI M 12 804 (some a0)).bind fun v1 =>
    (gI M 12 803 (some a0)).bind fun v2 =>
    (gI M 12 809 (some a0)).bind fun v3 =>
    if v3 = 0 then (
    some (((v1 - v2) - (0 : Int32)), M))
    else (
    some (((v1 - v2) - (1 : Int32)), M))
theorem dX12_held_0 : decode cX12_held 0 = .ok (.aload_n 0, 1) := by decide +kernel
theorem dX12_held_1 : decode cX12_held 1 = .ok (.getfield 40, 3) := by decide +kernel
theorem dX12_held_4 : decode cX12_held 4 = .ok (.aload_n 0, 1) := by decide +kernel
theorem dX12_held_5 : decode cX12_held 5 = .ok (.getfield 43, 3) := by decide +kernel
theorem dX12_held_8 : decode cX12_held 8 = .ok (.isub, 1) := by decide +kernel
theorem dX12_held_9 : decode cX12_held 9 = .ok (.aload_n 0, 1) := by decide +kernel
theorem dX12_held_10 : decode cX12_held 10 = .ok (.getfield 46, 3) := by decide +kernel
theorem dX12_held_13 : decode cX12_held 13 = .ok (.ifCond .eq 7, 3) := by decide +kernel
theorem dX12_held_16 : decode cX12_held 16 = .ok (.iconst 1, 1) := by decide +kernel
theorem dX12_held_17 : decode cX12_held 17 = .ok (.goto 4, 3) := by decide +kernel
theorem dX12_held_20 : decode cX12_held 20 = .ok (.iconst 0, 1) := by decide +kernel
theorem dX12_held_21 : decode cX12_held 21 = .ok (.isub, 1) := by decide +kernel
theorem dX12_held_22 : decode cX12_held 22 = .ok (.ireturn, 1) := by decide +kernel
theorem wX12_held {x : GX} {n0 sl0 : Nat} (X : Cx x cX12_held RX12 (some .int) n0 sl0 0 0) {out : Int32 × Mm} (hE : Ends x n0 sl0 (some (pI out.1)) out.2) (hn : xn x = 1) (fu : Nat)   (a0 : Nat)  (M : Mm) (h : fX12_held fu  a0 M = some out) : Gw x M 0 [(0, pR (some a0))] [] := by
  unfold fX12_held at h
  refine g_aload_n X (pc := 0) 0 rfl rfl dX12_held_0 ?_
  obtain ⟨v1, ev1, h⟩ := bd h
  refine g_getI X (pc := 1) fk_12_36 rfl rfl ev1 tb_1624 dX12_held_1 ?_
  refine g_aload_n X (pc := 4) 0 rfl rfl dX12_held_4 ?_
  obtain ⟨v2, ev2, h⟩ := bd h
  refine g_getI X (pc := 5) fk_12_35 rfl rfl ev2 tb_1622 dX12_held_5 ?_
  refine g_isub X (pc := 8) dX12_held_8 ?_
  refine g_aload_n X (pc := 9) 0 rfl rfl dX12_held_9 ?_
  obtain ⟨v3, ev3, h⟩ := bd h
  refine g_getI X (pc := 10) fk_12_41 rfl rfl ev3 tb_1630 dX12_held_10 ?_
  refine g_if_eq X (pc := 13) (tgt := 20) dX12_held_13 (by decide) (fun hc => ?_) (fun hc => ?_)
  · have h := (if_pos hc).symm.trans h
    refine g_iconst X (pc := 20) (v := 0) dX12_held_20 (by decide) ?_
    refine g_isub X (pc := 21) dX12_held_21 ?_
    obtain rfl := Option.some.inj h
    exact g_ireturn X hE dX12_held_22
  · have h := (if_neg hc).symm.trans h
    refine g_iconst X (pc := 16) (v := 1) dX12_held_16 (by decide) ?_
    refine g_goto X (pc := 17) (tgt := 21) dX12_held_17 (by decide) ?_
    refine g_isub X (pc := 21) dX12_held_21 ?_
    obtain rfl := Option.some.inj h
    exact g_ireturn X hE dX12_held_22
theorem hyX12_held : yX12_held.cls ≠ "java/lang/invoke/MethodHandle" ∧ yX12_held.cls ≠ "java/lang/invoke/VarHandle" ∧ (parseMethodDescriptor yX12_held.desc).map (fun d => d.parameters.length) = some 0 := ⟨by decide +kernel, by decide +kernel, by decide +kernel⟩
theorem ctX12_held (l : Launch) (E : Nat → Nat) (D : va_G) (dA : Nat → ClassId) (lo : Nat) (H0 : Heap) (fu : Nat) (a0 : Nat) (M : Mm) (out : Int32 × Mm) (h : fX12_held fu a0 M = some out) : Ct l E D dA lo H0 yX12_held cX12_held 1 (some .int) 0 0 [pR (some a0)] M (some (pI out.1)) out.2 := by
  refine ct_of (by decide +kernel) (Nat.le_of_ble_eq_true rfl) ?_
  intro x hl he hd ha ho hh hn hin X hE
  exact wX12_held X hE hn fu a0 M h
/-! WebHostModel$Connection.open()I -/
def fX12_open (fu : Nat)  (a0 : Nat)  (M : Mm) : Option (Int32 × Mm) :=
    (rc M 12 (some a0)).bind fun q1 =>
    b2 (fX12_held fu q1  M) fun v3 M2 =>
    some (((4096 : Int32) - v3), M2)
theorem dX12_open_0 : decode cX12_open 0 = .ok (.sipush 4096, 3) := by decide +kernel
theorem dX12_open_3 : decode cX12_open 3 = .ok (.aload_n 0, 1) := by decide +kernel
theorem dX12_open_4 : decode cX12_open 4 = .ok (.invokevirtual 49, 3) := by decide +kernel
theorem dX12_open_7 : decode cX12_open 7 = .ok (.isub, 1) := by decide +kernel
theorem dX12_open_8 : decode cX12_open 8 = .ok (.ireturn, 1) := by decide +kernel
theorem wX12_open {x : GX} {n0 sl0 : Nat} (X : Cx x cX12_open RX12 (some .int) n0 sl0 1 20) {out : Int32 × Mm} (hE : Ends x n0 sl0 (some (pI out.1)) out.2) (hn : xn x = 1) (fu : Nat)   (a0 : Nat)  (M : Mm) (h : fX12_open fu  a0 M = some out) : Gw x M 0 [(0, pR (some a0))] [] := by
  unfold fX12_open at h
  refine g_sipush X (pc := 0) (v := 4096) dX12_open_0 (by decide) ?_
  refine g_aload_n X (pc := 3) 0 rfl rfl dX12_open_3 ?_
  obtain ⟨q1, eq1, h⟩ := bd h
  obtain ⟨v3, M2, eM2, h⟩ := b2d h
  refine g_callV X (pc := 4) (M' := M2) (ro := some (pI v3)) (c := 12) rfl (by decide) (as := []) (as' := []) (st := [pI (4096 : Int32)]) eq1 (ctX12_held _ _ _ _ _ _ fu q1  M _ eM2) tb_2112 tb_2109 tb_2110 tb_2111 tb_9 ⟨rfl, hyX12_held⟩ rfl rfl ⟨by decide, by decide⟩ (Nat.le_of_ble_eq_true rfl) dX12_open_4 ?_
  refine g_isub X (pc := 7) dX12_open_7 ?_
  obtain rfl := Option.some.inj h
  exact g_ireturn X hE dX12_open_8
theorem hyX12_open : yX12_open.cls ≠ "java/lang/invoke/MethodHandle" ∧ yX12_open.cls ≠ "java/lang/invoke/VarHandle" ∧ (parseMethodDescriptor yX12_open.desc).map (fun d => d.parameters.length) = some 0 := ⟨by decide +kernel, by decide +kernel, by decide +kernel⟩
theorem ctX12_open (l : Launch) (E : Nat → Nat) (D : va_G) (dA : Nat → ClassId) (lo : Nat) (H0 : Heap) (fu : Nat) (a0 : Nat) (M : Mm) (out : Int32 × Mm) (h : fX12_open fu a0 M = some out) : Ct l E D dA lo H0 yX12_open cX12_open 1 (some .int) 1 20 [pR (some a0)] M (some (pI out.1)) out.2 := by
  refine ct_of (by decide +kernel) (Nat.le_of_ble_eq_true rfl) ?_
  intro x hl he hd ha ho hh hn hin X hE
  exact wX12_open X hE hn fu a0 M h
/-! WebHostModel$Datagram.<init>()V -/
def fX13_init (fu : Nat)  (a0 : Nat)  (M : Mm) : Option (Mm) :=
    b2 (mkA M 100 (4096 : Int32)) fun v1 M2 =>
    (pG M2 13 839 (some a0) (some v1)).bind fun M3 =>
    b2 (mkA M3 102 (4096 : Int32)) fun v4 M5 =>
    (pG M5 13 840 (some a0) (some v4)).bind fun M6 =>
    some M6
theorem dX13_init_0 : decode cX13_init 0 = .ok (.aload_n 0, 1) := by decide +kernel
theorem dX13_init_1 : decode cX13_init 1 = .ok (.invokespecial 1, 3) := by decide +kernel
theorem dX13_init_4 : decode cX13_init 4 = .ok (.aload_n 0, 1) := by decide +kernel
theorem dX13_init_5 : decode cX13_init 5 = .ok (.sipush 4096, 3) := by decide +kernel
theorem dX13_init_8 : decode cX13_init 8 = .ok (.newarray .byte, 2) := by decide +kernel
theorem dX13_init_10 : decode cX13_init 10 = .ok (.putfield 7, 3) := by decide +kernel
theorem dX13_init_13 : decode cX13_init 13 = .ok (.aload_n 0, 1) := by decide +kernel
theorem dX13_init_14 : decode cX13_init 14 = .ok (.sipush 4096, 3) := by decide +kernel
theorem dX13_init_17 : decode cX13_init 17 = .ok (.newarray .boolean, 2) := by decide +kernel
theorem dX13_init_19 : decode cX13_init 19 = .ok (.putfield 13, 3) := by decide +kernel
theorem dX13_init_22 : decode cX13_init 22 = .ok (.return_, 1) := by decide +kernel
theorem wX13_init {x : GX} {n0 sl0 : Nat} (X : Cx x cX13_init RX13 none n0 sl0 1 12) {out : Mm} (hE : Ends x n0 sl0 none out) (hn : xn x = 1) (hin : (xt x).name = "<init>") (fu : Nat)   (a0 : Nat)  (M : Mm) (h : fX13_init fu  a0 M = some out) : Gw x M 0 [(0, pR (some a0))] [] := by
  unfold fX13_init at h
  refine g_aload_n X (pc := 0) 0 rfl rfl dX13_init_0 ?_
  refine g_objInit X (pc := 1) (o := (some a0)) ⟨_, rfl⟩ tb_1783 tb_32 tb_33 ⟨by decide, Nat.le_of_ble_eq_true rfl⟩ dX13_init_1 ?_
  refine g_aload_n X (pc := 4) 0 rfl rfl dX13_init_4 ?_
  refine g_sipush X (pc := 5) (v := 4096) dX13_init_5 (by decide) ?_
  obtain ⟨v1, M2, eM2, h⟩ := b2d h
  refine g_newarray X (pc := 8) (at9 := .byte) (k := 0) rfl (by decide) rfl (by decide) (fun _ _ q => q) tb_53 eM2 dX13_init_8 ?_
  obtain ⟨M3, eM3, h⟩ := bd h
  refine g_putG X (pc := 10) fk_13_7 rfl rfl rfl eM3 tb_1791 (Or.inr ⟨rfl, hin, rfl⟩) dX13_init_10 ?_
  refine g_aload_n X (pc := 13) 0 rfl rfl dX13_init_13 ?_
  refine g_sipush X (pc := 14) (v := 4096) dX13_init_14 (by decide) ?_
  obtain ⟨v4, M5, eM5, h⟩ := b2d h
  refine g_newarray X (pc := 17) (at9 := .boolean) (k := 2) rfl (by decide) rfl (by decide) (fun _ _ q => q) tb_1729 eM5 dX13_init_17 ?_
  obtain ⟨M6, eM6, h⟩ := bd h
  refine g_putG X (pc := 19) fk_13_8 rfl rfl rfl eM6 tb_1793 (Or.inr ⟨rfl, hin, rfl⟩) dX13_init_19 ?_
  obtain rfl := Option.some.inj h
  exact g_return X hE dX13_init_22
theorem hyX13_init : yX13_init.cls ≠ "java/lang/invoke/MethodHandle" ∧ yX13_init.cls ≠ "java/lang/invoke/VarHandle" ∧ (parseMethodDescriptor yX13_init.desc).map (fun d => d.parameters.length) = some 0 := ⟨by decide +kernel, by decide +kernel, by decide +kernel⟩
theorem ctX13_init (l : Launch) (E : Nat → Nat) (D : va_G) (dA : Nat → ClassId) (lo : Nat) (H0 : Heap) (fu : Nat) (a0 : Nat) (M : Mm) (out : Mm) (h : fX13_init fu a0 M = some out) : Ct l E D dA lo H0 yX13_init cX13_init 1 none 1 12 [pR (some a0)] M none out := by
  refine ct_of (by decide +kernel) (Nat.le_of_ble_eq_true rfl) ?_
  intro x hl he hd ha ho hh hn hin X hE
  exact wX13_init X hE hn hin fu a0 M h
/-! WebHostModel$Entry.<init>()V -/
def fX14_init (fu : Nat)  (a0 : Nat)  (M : Mm) : Option (Mm) :=
    some M
theorem dX14_init_0 : decode cX14_init 0 = .ok (.aload_n 0, 1) := by decide +kernel
theorem dX14_init_1 : decode cX14_init 1 = .ok (.invokespecial 1, 3) := by decide +kernel
theorem dX14_init_4 : decode cX14_init 4 = .ok (.return_, 1) := by decide +kernel
theorem wX14_init {x : GX} {n0 sl0 : Nat} (X : Cx x cX14_init RX14 none n0 sl0 1 12) {out : Mm} (hE : Ends x n0 sl0 none out) (hn : xn x = 1) (hin : (xt x).name = "<init>") (fu : Nat)   (a0 : Nat)  (M : Mm) (h : fX14_init fu  a0 M = some out) : Gw x M 0 [(0, pR (some a0))] [] := by
  unfold fX14_init at h
  refine g_aload_n X (pc := 0) 0 rfl rfl dX14_init_0 ?_
  refine g_objInit X (pc := 1) (o := (some a0)) ⟨_, rfl⟩ tb_1734 tb_32 tb_33 ⟨by decide, Nat.le_of_ble_eq_true rfl⟩ dX14_init_1 ?_
  obtain rfl := Option.some.inj h
  exact g_return X hE dX14_init_4
theorem hyX14_init : yX14_init.cls ≠ "java/lang/invoke/MethodHandle" ∧ yX14_init.cls ≠ "java/lang/invoke/VarHandle" ∧ (parseMethodDescriptor yX14_init.desc).map (fun d => d.parameters.length) = some 0 := ⟨by decide +kernel, by decide +kernel, by decide +kernel⟩
theorem ctX14_init (l : Launch) (E : Nat → Nat) (D : va_G) (dA : Nat → ClassId) (lo : Nat) (H0 : Heap) (fu : Nat) (a0 : Nat) (M : Mm) (out : Mm) (h : fX14_init fu a0 M = some out) : Ct l E D dA lo H0 yX14_init cX14_init 1 none 1 12 [pR (some a0)] M none out := by
  refine ct_of (by decide +kernel) (Nat.le_of_ble_eq_true rfl) ?_
  intro x hl he hd ha ho hh hn hin X hE
  exact wX14_init X hE hn hin fu a0 M h
/-! WebHostModel$Packet.<init>()V -/
def fX15_init (fu : Nat)  (a0 : Nat)  (M : Mm) : Option (Mm) :=
    b2 (mkA M 100 (1500 : Int32)) fun v1 M2 =>
    (pG M2 15 966 (some a0) (some v1)).bind fun M3 =>
    some M3
theorem dX15_init_0 : decode cX15_init 0 = .ok (.aload_n 0, 1) := by decide +kernel
theorem dX15_init_1 : decode cX15_init 1 = .ok (.invokespecial 1, 3) := by decide +kernel
theorem dX15_init_4 : decode cX15_init 4 = .ok (.aload_n 0, 1) := by decide +kernel
theorem dX15_init_5 : decode cX15_init 5 = .ok (.sipush 1500, 3) := by decide +kernel
theorem dX15_init_8 : decode cX15_init 8 = .ok (.newarray .byte, 2) := by decide +kernel
theorem dX15_init_10 : decode cX15_init 10 = .ok (.putfield 7, 3) := by decide +kernel
theorem dX15_init_13 : decode cX15_init 13 = .ok (.return_, 1) := by decide +kernel
theorem wX15_init {x : GX} {n0 sl0 : Nat} (X : Cx x cX15_init RX15 none n0 sl0 1 12) {out : Mm} (hE : Ends x n0 sl0 none out) (hn : xn x = 1) (hin : (xt x).name = "<init>") (fu : Nat)   (a0 : Nat)  (M : Mm) (h : fX15_init fu  a0 M = some out) : Gw x M 0 [(0, pR (some a0))] [] := by
  unfold fX15_init at h
  refine g_aload_n X (pc := 0) 0 rfl rfl dX15_init_0 ?_
  refine g_objInit X (pc := 1) (o := (some a0)) ⟨_, rfl⟩ tb_1755 tb_32 tb_33 ⟨by decide, Nat.le_of_ble_eq_true rfl⟩ dX15_init_1 ?_
  refine g_aload_n X (pc := 4) 0 rfl rfl dX15_init_4 ?_
  refine g_sipush X (pc := 5) (v := 1500) dX15_init_5 (by decide) ?_
  obtain ⟨v1, M2, eM2, h⟩ := b2d h
  refine g_newarray X (pc := 8) (at9 := .byte) (k := 0) rfl (by decide) rfl (by decide) (fun _ _ q => q) tb_53 eM2 dX15_init_8 ?_
  obtain ⟨M3, eM3, h⟩ := bd h
  refine g_putG X (pc := 10) fk_15_6 rfl rfl rfl eM3 tb_1762 (Or.inr ⟨rfl, hin, rfl⟩) dX15_init_10 ?_
  obtain rfl := Option.some.inj h
  exact g_return X hE dX15_init_13
theorem hyX15_init : yX15_init.cls ≠ "java/lang/invoke/MethodHandle" ∧ yX15_init.cls ≠ "java/lang/invoke/VarHandle" ∧ (parseMethodDescriptor yX15_init.desc).map (fun d => d.parameters.length) = some 0 := ⟨by decide +kernel, by decide +kernel, by decide +kernel⟩
theorem ctX15_init (l : Launch) (E : Nat → Nat) (D : va_G) (dA : Nat → ClassId) (lo : Nat) (H0 : Heap) (fu : Nat) (a0 : Nat) (M : Mm) (out : Mm) (h : fX15_init fu a0 M = some out) : Ct l E D dA lo H0 yX15_init cX15_init 1 none 1 12 [pR (some a0)] M none out := by
  refine ct_of (by decide +kernel) (Nat.le_of_ble_eq_true rfl) ?_
  intro x hl he hd ha ho hh hn hin X hE
  exact wX15_init X hE hn hin fu a0 M h
