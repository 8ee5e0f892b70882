/-! ===== walks of methods, printed by a program of ours ===== -/
/-! WebHost$Intake.readSegment()Z -/
def fX3_readSegment (fu : Nat)  (a0 : Nat)  (M : Mm) : Option (Int32 × Mm) :=
    (gR M 3 192 (some a0)).bind fun v1 =>
    (gI M 3 202 (some a0)).bind fun v2 =>
    b2 (fX11_one fu  v1 (v2 + (12 : Int32)) M) fun v4 M3 =>
    (some ((v4 >>> ((4 : Int32) &&& 31)) * (4 : Int32))).bind fun v5 =>
    (gI M3 3 203 (some a0)).bind fun v6 =>
    if v6 < (20 : Int32) then (
    rN .boolean (0 : Int32) M3)
    else (
    if v5 < (20 : Int32) then (
    rN .boolean (0 : Int32) M3)
    else (
    (gI M3 3 203 (some a0)).bind fun v7 =>
    if v5 ≤ v7 then (
    (gR M3 3 192 (some a0)).bind fun v8 =>
    (gI M3 3 202 (some a0)).bind fun v9 =>
    (gI M3 3 203 (some a0)).bind fun v10 =>
    (gI M3 3 193 (some a0)).bind fun v11 =>
    (gR M3 3 206 (some a0)).bind fun v12 =>
    (gI M3 4 257 v12).bind fun v13 =>
    (gI M3 3 203 (some a0)).bind fun v14 =>
    b2 (fX11_pseudoSum fu  v11 v13 v14 M3) fun v16 M15 =>
    b2 (fX11_added fu  v8 v9 v10 v16 M15) fun v18 M17 =>
    if v18 = (65535 : Int32) then (
    (gR M17 3 192 (some a0)).bind fun v19 =>
    (gI M17 3 202 (some a0)).bind fun v20 =>
    b2 (fX11_two fu  v19 v20 M17) fun v22 M21 =>
    (pF M21 3 194 (some a0) v22).bind fun M23 =>
    (gR M23 3 192 (some a0)).bind fun v24 =>
    (gI M23 3 202 (some a0)).bind fun v25 =>
    b2 (fX11_two fu  v24 (v25 + (2 : Int32)) M23) fun v27 M26 =>
    (pF M26 3 195 (some a0) v27).bind fun M28 =>
    (gR M28 3 192 (some a0)).bind fun v29 =>
    (gI M28 3 202 (some a0)).bind fun v30 =>
    b2 (fX11_four fu  v29 (v30 + (4 : Int32)) M28) fun v32 M31 =>
    (pF M31 3 196 (some a0) v32).bind fun M33 =>
    (gR M33 3 192 (some a0)).bind fun v34 =>
    (gI M33 3 202 (some a0)).bind fun v35 =>
    b2 (fX11_four fu  v34 (v35 + (8 : Int32)) M33) fun v37 M36 =>
    (pF M36 3 197 (some a0) v37).bind fun M38 =>
    (gR M38 3 192 (some a0)).bind fun v39 =>
    (gI M38 3 202 (some a0)).bind fun v40 =>
    b2 (fX11_one fu  v39 (v40 + (13 : Int32)) M38) fun v42 M41 =>
    (pF M41 3 198 (some a0) v42).bind fun M43 =>
    (gR M43 3 192 (some a0)).bind fun v44 =>
    (gI M43 3 202 (some a0)).bind fun v45 =>
    b2 (fX11_two fu  v44 (v45 + (14 : Int32)) M43) fun v47 M46 =>
    (pF M46 3 199 (some a0) v47).bind fun M48 =>
    (gI M48 3 202 (some a0)).bind fun v49 =>
    (pF M48 3 200 (some a0) (v49 + v5)).bind fun M50 =>
    (gI M50 3 203 (some a0)).bind fun v51 =>
    (pF M50 3 201 (some a0) (v51 - v5)).bind fun M52 =>
    rN .boolean (1 : Int32) M52)
    else (
    rN .boolean (0 : Int32) M17))
    else (
    rN .boolean (0 : Int32) M3)))
theorem dX3_readSegment_0 : decode cX3_readSegment 0 = .ok (.aload_n 0, 1) := by decide +kernel
theorem dX3_readSegment_1 : decode cX3_readSegment 1 = .ok (.getfield 19, 3) := by decide +kernel
theorem dX3_readSegment_4 : decode cX3_readSegment 4 = .ok (.aload_n 0, 1) := by decide +kernel
theorem dX3_readSegment_5 : decode cX3_readSegment 5 = .ok (.getfield 77, 3) := by decide +kernel
theorem dX3_readSegment_8 : decode cX3_readSegment 8 = .ok (.bipush 12, 2) := by decide +kernel
theorem dX3_readSegment_10 : decode cX3_readSegment 10 = .ok (.iadd, 1) := by decide +kernel
theorem dX3_readSegment_11 : decode cX3_readSegment 11 = .ok (.invokestatic 60, 3) := by decide +kernel
theorem dX3_readSegment_14 : decode cX3_readSegment 14 = .ok (.iconst 4, 1) := by decide +kernel
theorem dX3_readSegment_15 : decode cX3_readSegment 15 = .ok (.ishr, 1) := by decide +kernel
theorem dX3_readSegment_16 : decode cX3_readSegment 16 = .ok (.iconst 4, 1) := by decide +kernel
theorem dX3_readSegment_17 : decode cX3_readSegment 17 = .ok (.imul, 1) := by decide +kernel
theorem dX3_readSegment_18 : decode cX3_readSegment 18 = .ok (.istore_n 1, 1) := by decide +kernel
theorem dX3_readSegment_19 : decode cX3_readSegment 19 = .ok (.aload_n 0, 1) := by decide +kernel
theorem dX3_readSegment_20 : decode cX3_readSegment 20 = .ok (.getfield 80, 3) := by decide +kernel
theorem dX3_readSegment_23 : decode cX3_readSegment 23 = .ok (.bipush 20, 2) := by decide +kernel
theorem dX3_readSegment_25 : decode cX3_readSegment 25 = .ok (.if_icmp .lt 17, 3) := by decide +kernel
theorem dX3_readSegment_28 : decode cX3_readSegment 28 = .ok (.iload_n 1, 1) := by decide +kernel
theorem dX3_readSegment_29 : decode cX3_readSegment 29 = .ok (.bipush 20, 2) := by decide +kernel
theorem dX3_readSegment_31 : decode cX3_readSegment 31 = .ok (.if_icmp .lt 11, 3) := by decide +kernel
theorem dX3_readSegment_34 : decode cX3_readSegment 34 = .ok (.iload_n 1, 1) := by decide +kernel
theorem dX3_readSegment_35 : decode cX3_readSegment 35 = .ok (.aload_n 0, 1) := by decide +kernel
theorem dX3_readSegment_36 : decode cX3_readSegment 36 = .ok (.getfield 80, 3) := by decide +kernel
theorem dX3_readSegment_39 : decode cX3_readSegment 39 = .ok (.if_icmp .le 5, 3) := by decide +kernel
theorem dX3_readSegment_42 : decode cX3_readSegment 42 = .ok (.iconst 0, 1) := by decide +kernel
theorem dX3_readSegment_43 : decode cX3_readSegment 43 = .ok (.ireturn, 1) := by decide +kernel
theorem dX3_readSegment_44 : decode cX3_readSegment 44 = .ok (.aload_n 0, 1) := by decide +kernel
theorem dX3_readSegment_45 : decode cX3_readSegment 45 = .ok (.getfield 19, 3) := by decide +kernel
theorem dX3_readSegment_48 : decode cX3_readSegment 48 = .ok (.aload_n 0, 1) := by decide +kernel
theorem dX3_readSegment_49 : decode cX3_readSegment 49 = .ok (.getfield 77, 3) := by decide +kernel
theorem dX3_readSegment_52 : decode cX3_readSegment 52 = .ok (.aload_n 0, 1) := by decide +kernel
theorem dX3_readSegment_53 : decode cX3_readSegment 53 = .ok (.getfield 80, 3) := by decide +kernel
theorem dX3_readSegment_56 : decode cX3_readSegment 56 = .ok (.aload_n 0, 1) := by decide +kernel
theorem dX3_readSegment_57 : decode cX3_readSegment 57 = .ok (.getfield 67, 3) := by decide +kernel
theorem dX3_readSegment_60 : decode cX3_readSegment 60 = .ok (.aload_n 0, 1) := by decide +kernel
theorem dX3_readSegment_61 : decode cX3_readSegment 61 = .ok (.getfield 15, 3) := by decide +kernel
theorem dX3_readSegment_64 : decode cX3_readSegment 64 = .ok (.getfield 70, 3) := by decide +kernel
theorem dX3_readSegment_67 : decode cX3_readSegment 67 = .ok (.aload_n 0, 1) := by decide +kernel
theorem dX3_readSegment_68 : decode cX3_readSegment 68 = .ok (.getfield 80, 3) := by decide +kernel
theorem dX3_readSegment_71 : decode cX3_readSegment 71 = .ok (.invokestatic 159, 3) := by decide +kernel
theorem dX3_readSegment_74 : decode cX3_readSegment 74 = .ok (.invokestatic 63, 3) := by decide +kernel
theorem dX3_readSegment_77 : decode cX3_readSegment 77 = .ok (.ldc 59, 2) := by decide +kernel
theorem dX3_readSegment_79 : decode cX3_readSegment 79 = .ok (.if_icmp .eq 5, 3) := by decide +kernel
theorem dX3_readSegment_82 : decode cX3_readSegment 82 = .ok (.iconst 0, 1) := by decide +kernel
theorem dX3_readSegment_83 : decode cX3_readSegment 83 = .ok (.ireturn, 1) := by decide +kernel
theorem dX3_readSegment_84 : decode cX3_readSegment 84 = .ok (.aload_n 0, 1) := by decide +kernel
theorem dX3_readSegment_85 : decode cX3_readSegment 85 = .ok (.aload_n 0, 1) := by decide +kernel
theorem dX3_readSegment_86 : decode cX3_readSegment 86 = .ok (.getfield 19, 3) := by decide +kernel
theorem dX3_readSegment_89 : decode cX3_readSegment 89 = .ok (.aload_n 0, 1) := by decide +kernel
theorem dX3_readSegment_90 : decode cX3_readSegment 90 = .ok (.getfield 77, 3) := by decide +kernel
theorem dX3_readSegment_93 : decode cX3_readSegment 93 = .ok (.invokestatic 37, 3) := by decide +kernel
theorem dX3_readSegment_96 : decode cX3_readSegment 96 = .ok (.putfield 163, 3) := by decide +kernel
theorem dX3_readSegment_99 : decode cX3_readSegment 99 = .ok (.aload_n 0, 1) := by decide +kernel
theorem dX3_readSegment_100 : decode cX3_readSegment 100 = .ok (.aload_n 0, 1) := by decide +kernel
theorem dX3_readSegment_101 : decode cX3_readSegment 101 = .ok (.getfield 19, 3) := by decide +kernel
theorem dX3_readSegment_104 : decode cX3_readSegment 104 = .ok (.aload_n 0, 1) := by decide +kernel
theorem dX3_readSegment_105 : decode cX3_readSegment 105 = .ok (.getfield 77, 3) := by decide +kernel
theorem dX3_readSegment_108 : decode cX3_readSegment 108 = .ok (.iconst 2, 1) := by decide +kernel
theorem dX3_readSegment_109 : decode cX3_readSegment 109 = .ok (.iadd, 1) := by decide +kernel
theorem dX3_readSegment_110 : decode cX3_readSegment 110 = .ok (.invokestatic 37, 3) := by decide +kernel
theorem dX3_readSegment_113 : decode cX3_readSegment 113 = .ok (.putfield 166, 3) := by decide +kernel
theorem dX3_readSegment_116 : decode cX3_readSegment 116 = .ok (.aload_n 0, 1) := by decide +kernel
theorem dX3_readSegment_117 : decode cX3_readSegment 117 = .ok (.aload_n 0, 1) := by decide +kernel
theorem dX3_readSegment_118 : decode cX3_readSegment 118 = .ok (.getfield 19, 3) := by decide +kernel
theorem dX3_readSegment_121 : decode cX3_readSegment 121 = .ok (.aload_n 0, 1) := by decide +kernel
theorem dX3_readSegment_122 : decode cX3_readSegment 122 = .ok (.getfield 77, 3) := by decide +kernel
theorem dX3_readSegment_125 : decode cX3_readSegment 125 = .ok (.iconst 4, 1) := by decide +kernel
theorem dX3_readSegment_126 : decode cX3_readSegment 126 = .ok (.iadd, 1) := by decide +kernel
theorem dX3_readSegment_127 : decode cX3_readSegment 127 = .ok (.invokestatic 48, 3) := by decide +kernel
theorem dX3_readSegment_130 : decode cX3_readSegment 130 = .ok (.putfield 169, 3) := by decide +kernel
theorem dX3_readSegment_133 : decode cX3_readSegment 133 = .ok (.aload_n 0, 1) := by decide +kernel
theorem dX3_readSegment_134 : decode cX3_readSegment 134 = .ok (.aload_n 0, 1) := by decide +kernel
theorem dX3_readSegment_135 : decode cX3_readSegment 135 = .ok (.getfield 19, 3) := by decide +kernel
theorem dX3_readSegment_138 : decode cX3_readSegment 138 = .ok (.aload_n 0, 1) := by decide +kernel
theorem dX3_readSegment_139 : decode cX3_readSegment 139 = .ok (.getfield 77, 3) := by decide +kernel
theorem dX3_readSegment_142 : decode cX3_readSegment 142 = .ok (.bipush 8, 2) := by decide +kernel
theorem dX3_readSegment_144 : decode cX3_readSegment 144 = .ok (.iadd, 1) := by decide +kernel
theorem dX3_readSegment_145 : decode cX3_readSegment 145 = .ok (.invokestatic 48, 3) := by decide +kernel
theorem dX3_readSegment_148 : decode cX3_readSegment 148 = .ok (.putfield 172, 3) := by decide +kernel
theorem dX3_readSegment_151 : decode cX3_readSegment 151 = .ok (.aload_n 0, 1) := by decide +kernel
theorem dX3_readSegment_152 : decode cX3_readSegment 152 = .ok (.aload_n 0, 1) := by decide +kernel
theorem dX3_readSegment_153 : decode cX3_readSegment 153 = .ok (.getfield 19, 3) := by decide +kernel
theorem dX3_readSegment_156 : decode cX3_readSegment 156 = .ok (.aload_n 0, 1) := by decide +kernel
theorem dX3_readSegment_157 : decode cX3_readSegment 157 = .ok (.getfield 77, 3) := by decide +kernel
theorem dX3_readSegment_160 : decode cX3_readSegment 160 = .ok (.bipush 13, 2) := by decide +kernel
theorem dX3_readSegment_162 : decode cX3_readSegment 162 = .ok (.iadd, 1) := by decide +kernel
theorem dX3_readSegment_163 : decode cX3_readSegment 163 = .ok (.invokestatic 60, 3) := by decide +kernel
theorem dX3_readSegment_166 : decode cX3_readSegment 166 = .ok (.putfield 175, 3) := by decide +kernel
theorem dX3_readSegment_169 : decode cX3_readSegment 169 = .ok (.aload_n 0, 1) := by decide +kernel
theorem dX3_readSegment_170 : decode cX3_readSegment 170 = .ok (.aload_n 0, 1) := by decide +kernel
theorem dX3_readSegment_171 : decode cX3_readSegment 171 = .ok (.getfield 19, 3) := by decide +kernel
theorem dX3_readSegment_174 : decode cX3_readSegment 174 = .ok (.aload_n 0, 1) := by decide +kernel
theorem dX3_readSegment_175 : decode cX3_readSegment 175 = .ok (.getfield 77, 3) := by decide +kernel
theorem dX3_readSegment_178 : decode cX3_readSegment 178 = .ok (.bipush 14, 2) := by decide +kernel
theorem dX3_readSegment_180 : decode cX3_readSegment 180 = .ok (.iadd, 1) := by decide +kernel
theorem dX3_readSegment_181 : decode cX3_readSegment 181 = .ok (.invokestatic 37, 3) := by decide +kernel
theorem dX3_readSegment_184 : decode cX3_readSegment 184 = .ok (.putfield 178, 3) := by decide +kernel
theorem dX3_readSegment_187 : decode cX3_readSegment 187 = .ok (.aload_n 0, 1) := by decide +kernel
theorem dX3_readSegment_188 : decode cX3_readSegment 188 = .ok (.aload_n 0, 1) := by decide +kernel
theorem dX3_readSegment_189 : decode cX3_readSegment 189 = .ok (.getfield 77, 3) := by decide +kernel
theorem dX3_readSegment_192 : decode cX3_readSegment 192 = .ok (.iload_n 1, 1) := by decide +kernel
theorem dX3_readSegment_193 : decode cX3_readSegment 193 = .ok (.iadd, 1) := by decide +kernel
theorem dX3_readSegment_194 : decode cX3_readSegment 194 = .ok (.putfield 181, 3) := by decide +kernel
theorem dX3_readSegment_197 : decode cX3_readSegment 197 = .ok (.aload_n 0, 1) := by decide +kernel
theorem dX3_readSegment_198 : decode cX3_readSegment 198 = .ok (.aload_n 0, 1) := by decide +kernel
theorem dX3_readSegment_199 : decode cX3_readSegment 199 = .ok (.getfield 80, 3) := by decide +kernel
theorem dX3_readSegment_202 : decode cX3_readSegment 202 = .ok (.iload_n 1, 1) := by decide +kernel
theorem dX3_readSegment_203 : decode cX3_readSegment 203 = .ok (.isub, 1) := by decide +kernel
theorem dX3_readSegment_204 : decode cX3_readSegment 204 = .ok (.putfield 184, 3) := by decide +kernel
theorem dX3_readSegment_207 : decode cX3_readSegment 207 = .ok (.iconst 1, 1) := by decide +kernel
theorem dX3_readSegment_208 : decode cX3_readSegment 208 = .ok (.ireturn, 1) := by decide +kernel
theorem wX3_readSegment {x : GX} {n0 sl0 : Nat} (X : Cx x cX3_readSegment RX3 (some .boolean) n0 sl0 2 39) {out : Int32 × Mm} (hE : Ends x n0 sl0 (some (pI out.1)) out.2) (hn : xn x = 2) (fu : Nat)   (a0 : Nat)  (M : Mm) (h : fX3_readSegment fu  a0 M = some out) : Gw x M 0 [(0, pR (some a0))] [] := by
  unfold fX3_readSegment at h
  refine g_aload_n X (pc := 0) 0 rfl rfl dX3_readSegment_0 ?_
  obtain ⟨v1, ev1, h⟩ := bd h
  refine g_getR X (pc := 1) fk_3_0 rfl rfl ev1 tb_158 dX3_readSegment_1 ?_
  refine g_aload_n X (pc := 4) 0 rfl rfl dX3_readSegment_4 ?_
  obtain ⟨v2, ev2, h⟩ := bd h
  refine g_getI X (pc := 5) fk_3_10 rfl rfl ev2 tb_184 dX3_readSegment_5 ?_
  refine g_bipush X (pc := 8) (v := 12) dX3_readSegment_8 (by decide) ?_
  refine g_iadd X (pc := 10) dX3_readSegment_10 ?_
  obtain ⟨v4, M3, eM3, h⟩ := b2d h
  refine g_callSN X (pc := 11) (M' := M3) (ro := some (pI v4)) (as := [pR v1, pI (v2 + (12 : Int32))]) (as' := [pI (v2 + (12 : Int32)), pR v1]) (st := []) (ctX11_one _ _ _ _ _ _ fu  v1 (v2 + (12 : Int32)) M _ eM3) tb_415 (List.mem_of_getElem? (i := 13) rfl) tb_414 tb_1 hyX11_one rfl rfl ⟨by decide, by decide⟩ (Nat.le_of_ble_eq_true rfl) dX3_readSegment_11 ?_
  refine g_iconst X (pc := 14) (v := 4) dX3_readSegment_14 (by decide) ?_
  refine g_ishr X (pc := 15) dX3_readSegment_15 ?_
  refine g_iconst X (pc := 16) (v := 4) dX3_readSegment_16 (by decide) ?_
  refine g_imul X (pc := 17) dX3_readSegment_17 ?_
  obtain ⟨v5, ev5, h⟩ := bd h
  refine g_nmI ev5 ?_
  refine g_istore_n X (pc := 18) [(1, pI v5), (0, pR (some a0))] rfl (lt_n hn (by decide)) rfl dX3_readSegment_18 ?_
  refine g_aload_n X (pc := 19) 1 rfl rfl dX3_readSegment_19 ?_
  obtain ⟨v6, ev6, h⟩ := bd h
  refine g_getI X (pc := 20) fk_3_11 rfl rfl ev6 tb_185 dX3_readSegment_20 ?_
  refine g_bipush X (pc := 23) (v := 20) dX3_readSegment_23 (by decide) ?_
  refine g_icmp_lt X (pc := 25) (tgt := 42) dX3_readSegment_25 (by decide) (fun hc => ?_) (fun hc => ?_)
  · have h := (if_pos hc).symm.trans h
    refine g_iconst X (pc := 42) (v := 0) dX3_readSegment_42 (by decide) ?_
    obtain ⟨hz, rfl⟩ := rN_some h
    exact g_nreturn X rfl hz hE dX3_readSegment_43
  · have h := (if_neg hc).symm.trans h
    refine g_iload_n X (pc := 28) 0 rfl rfl dX3_readSegment_28 ?_
    refine g_bipush X (pc := 29) (v := 20) dX3_readSegment_29 (by decide) ?_
    refine g_icmp_lt X (pc := 31) (tgt := 42) dX3_readSegment_31 (by decide) (fun hc => ?_) (fun hc => ?_)
    · have h := (if_pos hc).symm.trans h
      refine g_iconst X (pc := 42) (v := 0) dX3_readSegment_42 (by decide) ?_
      obtain ⟨hz, rfl⟩ := rN_some h
      exact g_nreturn X rfl hz hE dX3_readSegment_43
    · have h := (if_neg hc).symm.trans h
      refine g_iload_n X (pc := 34) 0 rfl rfl dX3_readSegment_34 ?_
      refine g_aload_n X (pc := 35) 1 rfl rfl dX3_readSegment_35 ?_
      obtain ⟨v7, ev7, h⟩ := bd h
      refine g_getI X (pc := 36) fk_3_11 rfl rfl ev7 tb_185 dX3_readSegment_36 ?_
      refine g_icmp_le X (pc := 39) (tgt := 44) dX3_readSegment_39 (by decide) (fun hc => ?_) (fun hc => ?_)
      · have h := (if_pos hc).symm.trans h
        refine g_aload_n X (pc := 44) 1 rfl rfl dX3_readSegment_44 ?_
        obtain ⟨v8, ev8, h⟩ := bd h
        refine g_getR X (pc := 45) fk_3_0 rfl rfl ev8 tb_158 dX3_readSegment_45 ?_
        refine g_aload_n X (pc := 48) 1 rfl rfl dX3_readSegment_48 ?_
        obtain ⟨v9, ev9, h⟩ := bd h
        refine g_getI X (pc := 49) fk_3_10 rfl rfl ev9 tb_184 dX3_readSegment_49 ?_
        refine g_aload_n X (pc := 52) 1 rfl rfl dX3_readSegment_52 ?_
        obtain ⟨v10, ev10, h⟩ := bd h
        refine g_getI X (pc := 53) fk_3_11 rfl rfl ev10 tb_185 dX3_readSegment_53 ?_
        refine g_aload_n X (pc := 56) 1 rfl rfl dX3_readSegment_56 ?_
        obtain ⟨v11, ev11, h⟩ := bd h
        refine g_getI X (pc := 57) fk_3_1 rfl rfl ev11 tb_161 dX3_readSegment_57 ?_
        refine g_aload_n X (pc := 60) 1 rfl rfl dX3_readSegment_60 ?_
        obtain ⟨v12, ev12, h⟩ := bd h
        refine g_getR X (pc := 61) fk_3_14 rfl rfl ev12 tb_188 dX3_readSegment_61 ?_
        obtain ⟨v13, ev13, h⟩ := bd h
        refine g_getI X (pc := 64) fk_4_1 rfl rfl ev13 tb_101 dX3_readSegment_64 ?_
        refine g_aload_n X (pc := 67) 1 rfl rfl dX3_readSegment_67 ?_
        obtain ⟨v14, ev14, h⟩ := bd h
        refine g_getI X (pc := 68) fk_3_11 rfl rfl ev14 tb_185 dX3_readSegment_68 ?_
        obtain ⟨v16, M15, eM15, h⟩ := b2d h
        refine g_callSN X (pc := 71) (M' := M15) (ro := some (pI v16)) (as := [pI v11, pI v13, pI v14]) (as' := [pI v14, pI v13, pI v11]) (st := [pI v10, pI v9, pR v8]) (ctX11_pseudoSum _ _ _ _ _ _ fu  v11 v13 v14 M3 _ eM15) tb_619 (List.mem_of_getElem? (i := 21) rfl) tb_618 tb_1 hyX11_pseudoSum rfl rfl ⟨by decide, by decide⟩ (Nat.le_of_ble_eq_true rfl) dX3_readSegment_71 ?_
        obtain ⟨v18, M17, eM17, h⟩ := b2d h
        refine g_callSN X (pc := 74) (M' := M17) (ro := some (pI v18)) (as := [pR v8, pI v9, pI v10, pI v16]) (as' := [pI v16, pI v10, pI v9, pR v8]) (st := []) (ctX11_added _ _ _ _ _ _ fu  v8 v9 v10 v16 M15 _ eM17) tb_622 (List.mem_of_getElem? (i := 14) rfl) tb_621 tb_1 hyX11_added rfl rfl ⟨by decide, by decide⟩ (Nat.le_of_ble_eq_true rfl) dX3_readSegment_74 ?_
        refine g_ldc X (pc := 77) tb_718 dX3_readSegment_77 ?_
        refine g_icmp_eq X (pc := 79) (tgt := 84) dX3_readSegment_79 (by decide) (fun hc => ?_) (fun hc => ?_)
        · have h := (if_pos hc).symm.trans h
          refine g_aload_n X (pc := 84) 1 rfl rfl dX3_readSegment_84 ?_
          refine g_aload_n X (pc := 85) 1 rfl rfl dX3_readSegment_85 ?_
          obtain ⟨v19, ev19, h⟩ := bd h
          refine g_getR X (pc := 86) fk_3_0 rfl rfl ev19 tb_158 dX3_readSegment_86 ?_
          refine g_aload_n X (pc := 89) 1 rfl rfl dX3_readSegment_89 ?_
          obtain ⟨v20, ev20, h⟩ := bd h
          refine g_getI X (pc := 90) fk_3_10 rfl rfl ev20 tb_184 dX3_readSegment_90 ?_
          obtain ⟨v22, M21, eM21, h⟩ := b2d h
          refine g_callSN X (pc := 93) (M' := M21) (ro := some (pI v22)) (as := [pR v19, pI v20]) (as' := [pI v20, pR v19]) (st := [pR (some a0)]) (ctX11_two _ _ _ _ _ _ fu  v19 v20 M17 _ eM21) tb_398 (List.mem_of_getElem? (i := 11) rfl) tb_397 tb_1 hyX11_two rfl rfl ⟨by decide, by decide⟩ (Nat.le_of_ble_eq_true rfl) dX3_readSegment_93 ?_
          obtain ⟨M23, eM23, h⟩ := bd h
          refine g_putI X (pc := 96) fk_3_2 rfl rfl rfl eM23 tb_165 (Or.inl rfl) dX3_readSegment_96 ?_
          refine g_aload_n X (pc := 99) 1 rfl rfl dX3_readSegment_99 ?_
          refine g_aload_n X (pc := 100) 1 rfl rfl dX3_readSegment_100 ?_
          obtain ⟨v24, ev24, h⟩ := bd h
          refine g_getR X (pc := 101) fk_3_0 rfl rfl ev24 tb_158 dX3_readSegment_101 ?_
          refine g_aload_n X (pc := 104) 1 rfl rfl dX3_readSegment_104 ?_
          obtain ⟨v25, ev25, h⟩ := bd h
          refine g_getI X (pc := 105) fk_3_10 rfl rfl ev25 tb_184 dX3_readSegment_105 ?_
          refine g_iconst X (pc := 108) (v := 2) dX3_readSegment_108 (by decide) ?_
          refine g_iadd X (pc := 109) dX3_readSegment_109 ?_
          obtain ⟨v27, M26, eM26, h⟩ := b2d h
          refine g_callSN X (pc := 110) (M' := M26) (ro := some (pI v27)) (as := [pR v24, pI (v25 + (2 : Int32))]) (as' := [pI (v25 + (2 : Int32)), pR v24]) (st := [pR (some a0)]) (ctX11_two _ _ _ _ _ _ fu  v24 (v25 + (2 : Int32)) M23 _ eM26) tb_398 (List.mem_of_getElem? (i := 11) rfl) tb_397 tb_1 hyX11_two rfl rfl ⟨by decide, by decide⟩ (Nat.le_of_ble_eq_true rfl) dX3_readSegment_110 ?_
          obtain ⟨M28, eM28, h⟩ := bd h
          refine g_putI X (pc := 113) fk_3_3 rfl rfl rfl eM28 tb_167 (Or.inl rfl) dX3_readSegment_113 ?_
          refine g_aload_n X (pc := 116) 1 rfl rfl dX3_readSegment_116 ?_
          refine g_aload_n X (pc := 117) 1 rfl rfl dX3_readSegment_117 ?_
          obtain ⟨v29, ev29, h⟩ := bd h
          refine g_getR X (pc := 118) fk_3_0 rfl rfl ev29 tb_158 dX3_readSegment_118 ?_
          refine g_aload_n X (pc := 121) 1 rfl rfl dX3_readSegment_121 ?_
          obtain ⟨v30, ev30, h⟩ := bd h
          refine g_getI X (pc := 122) fk_3_10 rfl rfl ev30 tb_184 dX3_readSegment_122 ?_
          refine g_iconst X (pc := 125) (v := 4) dX3_readSegment_125 (by decide) ?_
          refine g_iadd X (pc := 126) dX3_readSegment_126 ?_
          obtain ⟨v32, M31, eM31, h⟩ := b2d h
          refine g_callSN X (pc := 127) (M' := M31) (ro := some (pI v32)) (as := [pR v29, pI (v30 + (4 : Int32))]) (as' := [pI (v30 + (4 : Int32)), pR v29]) (st := [pR (some a0)]) (ctX11_four _ _ _ _ _ _ fu  v29 (v30 + (4 : Int32)) M28 _ eM31) tb_394 (List.mem_of_getElem? (i := 12) rfl) tb_393 tb_1 hyX11_four rfl rfl ⟨by decide, by decide⟩ (Nat.le_of_ble_eq_true rfl) dX3_readSegment_127 ?_
          obtain ⟨M33, eM33, h⟩ := bd h
          refine g_putI X (pc := 130) fk_3_4 rfl rfl rfl eM33 tb_170 (Or.inl rfl) dX3_readSegment_130 ?_
          refine g_aload_n X (pc := 133) 1 rfl rfl dX3_readSegment_133 ?_
          refine g_aload_n X (pc := 134) 1 rfl rfl dX3_readSegment_134 ?_
          obtain ⟨v34, ev34, h⟩ := bd h
          refine g_getR X (pc := 135) fk_3_0 rfl rfl ev34 tb_158 dX3_readSegment_135 ?_
          refine g_aload_n X (pc := 138) 1 rfl rfl dX3_readSegment_138 ?_
          obtain ⟨v35, ev35, h⟩ := bd h
          refine g_getI X (pc := 139) fk_3_10 rfl rfl ev35 tb_184 dX3_readSegment_139 ?_
          refine g_bipush X (pc := 142) (v := 8) dX3_readSegment_142 (by decide) ?_
          refine g_iadd X (pc := 144) dX3_readSegment_144 ?_
          obtain ⟨v37, M36, eM36, h⟩ := b2d h
          refine g_callSN X (pc := 145) (M' := M36) (ro := some (pI v37)) (as := [pR v34, pI (v35 + (8 : Int32))]) (as' := [pI (v35 + (8 : Int32)), pR v34]) (st := [pR (some a0)]) (ctX11_four _ _ _ _ _ _ fu  v34 (v35 + (8 : Int32)) M33 _ eM36) tb_394 (List.mem_of_getElem? (i := 12) rfl) tb_393 tb_1 hyX11_four rfl rfl ⟨by decide, by decide⟩ (Nat.le_of_ble_eq_true rfl) dX3_readSegment_145 ?_
          obtain ⟨M38, eM38, h⟩ := bd h
          refine g_putI X (pc := 148) fk_3_5 rfl rfl rfl eM38 tb_172 (Or.inl rfl) dX3_readSegment_148 ?_
          refine g_aload_n X (pc := 151) 1 rfl rfl dX3_readSegment_151 ?_
          refine g_aload_n X (pc := 152) 1 rfl rfl dX3_readSegment_152 ?_
          obtain ⟨v39, ev39, h⟩ := bd h
          refine g_getR X (pc := 153) fk_3_0 rfl rfl ev39 tb_158 dX3_readSegment_153 ?_
          refine g_aload_n X (pc := 156) 1 rfl rfl dX3_readSegment_156 ?_
          obtain ⟨v40, ev40, h⟩ := bd h
          refine g_getI X (pc := 157) fk_3_10 rfl rfl ev40 tb_184 dX3_readSegment_157 ?_
          refine g_bipush X (pc := 160) (v := 13) dX3_readSegment_160 (by decide) ?_
          refine g_iadd X (pc := 162) dX3_readSegment_162 ?_
          obtain ⟨v42, M41, eM41, h⟩ := b2d h
          refine g_callSN X (pc := 163) (M' := M41) (ro := some (pI v42)) (as := [pR v39, pI (v40 + (13 : Int32))]) (as' := [pI (v40 + (13 : Int32)), pR v39]) (st := [pR (some a0)]) (ctX11_one _ _ _ _ _ _ fu  v39 (v40 + (13 : Int32)) M38 _ eM41) tb_415 (List.mem_of_getElem? (i := 13) rfl) tb_414 tb_1 hyX11_one rfl rfl ⟨by decide, by decide⟩ (Nat.le_of_ble_eq_true rfl) dX3_readSegment_163 ?_
          obtain ⟨M43, eM43, h⟩ := bd h
          refine g_putI X (pc := 166) fk_3_6 rfl rfl rfl eM43 tb_175 (Or.inl rfl) dX3_readSegment_166 ?_
          refine g_aload_n X (pc := 169) 1 rfl rfl dX3_readSegment_169 ?_
          refine g_aload_n X (pc := 170) 1 rfl rfl dX3_readSegment_170 ?_
          obtain ⟨v44, ev44, h⟩ := bd h
          refine g_getR X (pc := 171) fk_3_0 rfl rfl ev44 tb_158 dX3_readSegment_171 ?_
          refine g_aload_n X (pc := 174) 1 rfl rfl dX3_readSegment_174 ?_
          obtain ⟨v45, ev45, h⟩ := bd h
          refine g_getI X (pc := 175) fk_3_10 rfl rfl ev45 tb_184 dX3_readSegment_175 ?_
          refine g_bipush X (pc := 178) (v := 14) dX3_readSegment_178 (by decide) ?_
          refine g_iadd X (pc := 180) dX3_readSegment_180 ?_
          obtain ⟨v47, M46, eM46, h⟩ := b2d h
          refine g_callSN X (pc := 181) (M' := M46) (ro := some (pI v47)) (as := [pR v44, pI (v45 + (14 : Int32))]) (as' := [pI (v45 + (14 : Int32)), pR v44]) (st := [pR (some a0)]) (ctX11_two _ _ _ _ _ _ fu  v44 (v45 + (14 : Int32)) M43 _ eM46) tb_398 (List.mem_of_getElem? (i := 11) rfl) tb_397 tb_1 hyX11_two rfl rfl ⟨by decide, by decide⟩ (Nat.le_of_ble_eq_true rfl) dX3_readSegment_181 ?_
          obtain ⟨M48, eM48, h⟩ := bd h
          refine g_putI X (pc := 184) fk_3_7 rfl rfl rfl eM48 tb_177 (Or.inl rfl) dX3_readSegment_184 ?_
          refine g_aload_n X (pc := 187) 1 rfl rfl dX3_readSegment_187 ?_
          refine g_aload_n X (pc := 188) 1 rfl rfl dX3_readSegment_188 ?_
          obtain ⟨v49, ev49, h⟩ := bd h
          refine g_getI X (pc := 189) fk_3_10 rfl rfl ev49 tb_184 dX3_readSegment_189 ?_
          refine g_iload_n X (pc := 192) 0 rfl rfl dX3_readSegment_192 ?_
          refine g_iadd X (pc := 193) dX3_readSegment_193 ?_
          obtain ⟨M50, eM50, h⟩ := bd h
          refine g_putI X (pc := 194) fk_3_8 rfl rfl rfl eM50 tb_180 (Or.inl rfl) dX3_readSegment_194 ?_
          refine g_aload_n X (pc := 197) 1 rfl rfl dX3_readSegment_197 ?_
          refine g_aload_n X (pc := 198) 1 rfl rfl dX3_readSegment_198 ?_
          obtain ⟨v51, ev51, h⟩ := bd h
          refine g_getI X (pc := 199) fk_3_11 rfl rfl ev51 tb_185 dX3_readSegment_199 ?_
          refine g_iload_n X (pc := 202) 0 rfl rfl dX3_readSegment_202 ?_
          refine g_isub X (pc := 203) dX3_readSegment_203 ?_
          obtain ⟨M52, eM52, h⟩ := bd h
          refine g_putI X (pc := 204) fk_3_9 rfl rfl rfl eM52 tb_182 (Or.inl rfl) dX3_readSegment_204 ?_
          refine g_iconst X (pc := 207) (v := 1) dX3_readSegment_207 (by decide) ?_
          obtain ⟨hz, rfl⟩ := rN_some h
          exact g_nreturn X rfl hz hE dX3_readSegment_208
        · have h := (if_neg hc).symm.trans h
          refine g_iconst X (pc := 82) (v := 0) dX3_readSegment_82 (by decide) ?_
          obtain ⟨hz, rfl⟩ := rN_some h
          exact g_nreturn X rfl hz hE dX3_readSegment_83
      · have h := (if_neg hc).symm.trans h
        refine g_iconst X (pc := 42) (v := 0) dX3_readSegment_42 (by decide) ?_
        obtain ⟨hz, rfl⟩ := rN_some h
        exact g_nreturn X rfl hz hE dX3_readSegment_43
theorem hyX3_readSegment : yX3_readSegment.cls ≠ "java/lang/invoke/MethodHandle" ∧ yX3_readSegment.cls ≠ "java/lang/invoke/VarHandle" ∧ (parseMethodDescriptor yX3_readSegment.desc).map (fun d => d.parameters.length) = some 0 := ⟨by decide +kernel, by decide +kernel, by decide +kernel⟩
theorem ctX3_readSegment (l : Launch) (E : Nat → Nat) (D : va_G) (dA : Nat → ClassId) (lo : Nat) (H0 : Heap) (fu : Nat) (a0 : Nat) (M : Mm) (out : Int32 × Mm) (h : fX3_readSegment fu a0 M = some out) : Ct l E D dA lo H0 yX3_readSegment cX3_readSegment 2 (some .boolean) 2 39 [pR (some a0)] M (some (pI out.1)) out.2 := by
  refine ct_of (by decide +kernel) (Nat.le_of_ble_eq_true rfl) ?_
  intro x hl he hd ha ho hh hn hin X hE
  exact wX3_readSegment X hE hn fu a0 M h
/-! WebHost$Link.<init>(LWebHost$Wire;)V -/
def fX4_init (fu : Nat)  (a0 : Nat) (a1 : Option Nat)  (M : Mm) : Option (Mm) :=
    (pG M 4 261 (some a0) a1).bind fun M1 =>
    b2 (mkA M1 100 (1514 : Int32)) fun v2 M3 =>
    (pG M3 4 256 (some a0) (some v2)).bind fun M4 =>
    b2 (mkA M4 101 (16 : Int32)) fun v5 M6 =>
    (pG M6 4 266 (some a0) (some v5)).bind fun M7 =>
    b2 (mkA M7 101 (16 : Int32)) fun v8 M9 =>
    (pG M9 4 267 (some a0) (some v8)).bind fun M10 =>
    b2 (mkA M10 101 (16 : Int32)) fun v11 M12 =>
    (pG M12 4 268 (some a0) (some v11)).bind fun M13 =>
    b2 (mkA M13 101 (16 : Int32)) fun v14 M15 =>
    (pG M15 4 269 (some a0) (some v14)).bind fun M16 =>
    b2 (mkA M16 116 (8 : Int32)) fun v17 M18 =>
    (pG M18 4 270 (some a0) (some v17)).bind fun M19 =>
    some M19
theorem dX4_init_0 : decode cX4_init 0 = .ok (.aload_n 0, 1) := by decide +kernel
theorem dX4_init_1 : decode cX4_init 1 = .ok (.invokespecial 3, 3) := by decide +kernel
theorem dX4_init_4 : decode cX4_init 4 = .ok (.aload_n 0, 1) := by decide +kernel
theorem dX4_init_5 : decode cX4_init 5 = .ok (.aload_n 1, 1) := by decide +kernel
theorem dX4_init_6 : decode cX4_init 6 = .ok (.putfield 9, 3) := by decide +kernel
theorem dX4_init_9 : decode cX4_init 9 = .ok (.aload_n 0, 1) := by decide +kernel
theorem dX4_init_10 : decode cX4_init 10 = .ok (.sipush 1514, 3) := by decide +kernel
theorem dX4_init_13 : decode cX4_init 13 = .ok (.newarray .byte, 2) := by decide +kernel
theorem dX4_init_15 : decode cX4_init 15 = .ok (.putfield 15, 3) := by decide +kernel
theorem dX4_init_18 : decode cX4_init 18 = .ok (.aload_n 0, 1) := by decide +kernel
theorem dX4_init_19 : decode cX4_init 19 = .ok (.bipush 16, 2) := by decide +kernel
theorem dX4_init_21 : decode cX4_init 21 = .ok (.newarray .int, 2) := by decide +kernel
theorem dX4_init_23 : decode cX4_init 23 = .ok (.putfield 19, 3) := by decide +kernel
theorem dX4_init_26 : decode cX4_init 26 = .ok (.aload_n 0, 1) := by decide +kernel
theorem dX4_init_27 : decode cX4_init 27 = .ok (.bipush 16, 2) := by decide +kernel
theorem dX4_init_29 : decode cX4_init 29 = .ok (.newarray .int, 2) := by decide +kernel
theorem dX4_init_31 : decode cX4_init 31 = .ok (.putfield 23, 3) := by decide +kernel
theorem dX4_init_34 : decode cX4_init 34 = .ok (.aload_n 0, 1) := by decide +kernel
theorem dX4_init_35 : decode cX4_init 35 = .ok (.bipush 16, 2) := by decide +kernel
theorem dX4_init_37 : decode cX4_init 37 = .ok (.newarray .int, 2) := by decide +kernel
theorem dX4_init_39 : decode cX4_init 39 = .ok (.putfield 26, 3) := by decide +kernel
theorem dX4_init_42 : decode cX4_init 42 = .ok (.aload_n 0, 1) := by decide +kernel
theorem dX4_init_43 : decode cX4_init 43 = .ok (.bipush 16, 2) := by decide +kernel
theorem dX4_init_45 : decode cX4_init 45 = .ok (.newarray .int, 2) := by decide +kernel
theorem dX4_init_47 : decode cX4_init 47 = .ok (.putfield 29, 3) := by decide +kernel
theorem dX4_init_50 : decode cX4_init 50 = .ok (.aload_n 0, 1) := by decide +kernel
theorem dX4_init_51 : decode cX4_init 51 = .ok (.bipush 8, 2) := by decide +kernel
theorem dX4_init_53 : decode cX4_init 53 = .ok (.anewarray 32, 3) := by decide +kernel
theorem dX4_init_56 : decode cX4_init 56 = .ok (.putfield 34, 3) := by decide +kernel
theorem dX4_init_59 : decode cX4_init 59 = .ok (.return_, 1) := by decide +kernel
theorem wX4_init {x : GX} {n0 sl0 : Nat} (X : Cx x cX4_init RX4 none n0 sl0 1 12) {out : Mm} (hE : Ends x n0 sl0 none out) (hn : xn x = 2) (hin : (xt x).name = "<init>") (fu : Nat)   (a0 : Nat) (a1 : Option Nat)  (M : Mm) (h : fX4_init fu  a0 a1 M = some out) : Gw x M 0 [(0, pR (some a0)), (1, pR a1)] [] := by
  unfold fX4_init at h
  refine g_aload_n X (pc := 0) 0 rfl rfl dX4_init_0 ?_
  refine g_objInit X (pc := 1) (o := (some a0)) ⟨_, rfl⟩ tb_95 tb_32 tb_33 ⟨by decide, Nat.le_of_ble_eq_true rfl⟩ dX4_init_1 ?_
  refine g_aload_n X (pc := 4) 0 rfl rfl dX4_init_4 ?_
  refine g_aload_n X (pc := 5) 1 rfl rfl dX4_init_5 ?_
  obtain ⟨M1, eM1, h⟩ := bd h
  refine g_putG X (pc := 6) fk_4_5 rfl rfl rfl eM1 tb_109 (Or.inr ⟨rfl, hin, rfl⟩) dX4_init_6 ?_
  refine g_aload_n X (pc := 9) 0 rfl rfl dX4_init_9 ?_
  refine g_sipush X (pc := 10) (v := 1514) dX4_init_10 (by decide) ?_
  obtain ⟨v2, M3, eM3, h⟩ := b2d h
  refine g_newarray X (pc := 13) (at9 := .byte) (k := 0) rfl (by decide) rfl (by decide) (fun _ _ q => q) tb_53 eM3 dX4_init_13 ?_
  obtain ⟨M4, eM4, h⟩ := bd h
  refine g_putG X (pc := 15) fk_4_0 rfl rfl rfl eM4 tb_97 (Or.inr ⟨rfl, hin, rfl⟩) dX4_init_15 ?_
  refine g_aload_n X (pc := 18) 0 rfl rfl dX4_init_18 ?_
  refine g_bipush X (pc := 19) (v := 16) dX4_init_19 (by decide) ?_
  obtain ⟨v5, M6, eM6, h⟩ := b2d h
  refine g_newarray X (pc := 21) (at9 := .int) (k := 1) rfl (by decide) rfl (by decide) (fun _ _ q => q) tb_89 eM6 dX4_init_21 ?_
  obtain ⟨M7, eM7, h⟩ := bd h
  refine g_putG X (pc := 23) fk_4_10 rfl rfl rfl eM7 tb_114 (Or.inr ⟨rfl, hin, rfl⟩) dX4_init_23 ?_
  refine g_aload_n X (pc := 26) 0 rfl rfl dX4_init_26 ?_
  refine g_bipush X (pc := 27) (v := 16) dX4_init_27 (by decide) ?_
  obtain ⟨v8, M9, eM9, h⟩ := b2d h
  refine g_newarray X (pc := 29) (at9 := .int) (k := 1) rfl (by decide) rfl (by decide) (fun _ _ q => q) tb_89 eM9 dX4_init_29 ?_
  obtain ⟨M10, eM10, h⟩ := bd h
  refine g_putG X (pc := 31) fk_4_11 rfl rfl rfl eM10 tb_115 (Or.inr ⟨rfl, hin, rfl⟩) dX4_init_31 ?_
  refine g_aload_n X (pc := 34) 0 rfl rfl dX4_init_34 ?_
  refine g_bipush X (pc := 35) (v := 16) dX4_init_35 (by decide) ?_
  obtain ⟨v11, M12, eM12, h⟩ := b2d h
  refine g_newarray X (pc := 37) (at9 := .int) (k := 1) rfl (by decide) rfl (by decide) (fun _ _ q => q) tb_89 eM12 dX4_init_37 ?_
  obtain ⟨M13, eM13, h⟩ := bd h
  refine g_putG X (pc := 39) fk_4_12 rfl rfl rfl eM13 tb_116 (Or.inr ⟨rfl, hin, rfl⟩) dX4_init_39 ?_
  refine g_aload_n X (pc := 42) 0 rfl rfl dX4_init_42 ?_
  refine g_bipush X (pc := 43) (v := 16) dX4_init_43 (by decide) ?_
  obtain ⟨v14, M15, eM15, h⟩ := b2d h
  refine g_newarray X (pc := 45) (at9 := .int) (k := 1) rfl (by decide) rfl (by decide) (fun _ _ q => q) tb_89 eM15 dX4_init_45 ?_
  obtain ⟨M16, eM16, h⟩ := bd h
  refine g_putG X (pc := 47) fk_4_13 rfl rfl rfl eM16 tb_117 (Or.inr ⟨rfl, hin, rfl⟩) dX4_init_47 ?_
  refine g_aload_n X (pc := 50) 0 rfl rfl dX4_init_50 ?_
  refine g_bipush X (pc := 51) (v := 8) dX4_init_51 (by decide) ?_
  obtain ⟨v17, M18, eM18, h⟩ := b2d h
  refine g_anewarray X (pc := 53) (k := 3) rfl (by decide) (by decide) tb_96 eM18 dX4_init_53 ?_
  obtain ⟨M19, eM19, h⟩ := bd h
  refine g_putG X (pc := 56) fk_4_14 rfl rfl rfl eM19 tb_118 (Or.inr ⟨rfl, hin, rfl⟩) dX4_init_56 ?_
  obtain rfl := Option.some.inj h
  exact g_return X hE dX4_init_59
theorem hyX4_init : yX4_init.cls ≠ "java/lang/invoke/MethodHandle" ∧ yX4_init.cls ≠ "java/lang/invoke/VarHandle" ∧ (parseMethodDescriptor yX4_init.desc).map (fun d => d.parameters.length) = some 1 := ⟨by decide +kernel, by decide +kernel, by decide +kernel⟩
theorem ctX4_init (l : Launch) (E : Nat → Nat) (D : va_G) (dA : Nat → ClassId) (lo : Nat) (H0 : Heap) (fu : Nat) (a0 : Nat) (a1 : Option Nat) (M : Mm) (out : Mm) (h : fX4_init fu a0 a1 M = some out) : Ct l E D dA lo H0 yX4_init cX4_init 2 none 1 12 [pR (some a0), pR a1] M none out := by
  refine ct_of (by decide +kernel) (Nat.le_of_ble_eq_true rfl) ?_
  intro x hl he hd ha ho hh hn hin X hE
  exact wX4_init X hE hn hin fu a0 a1 M h
/-! WebHost$Link.restart(IIIII)V -/
def fX4_restart (fu : Nat)  (a0 : Nat) (a1 : Int32) (a2 : Int32) (a3 : Int32) (a4 : Int32) (a5 : Int32)  (M : Mm) : Option (Mm) :=
    (pF M 4 257 (some a0) a1).bind fun M1 =>
    (pF M1 4 262 (some a0) a2).bind fun M2 =>
    (pF M2 4 263 (some a0) a3).bind fun M3 =>
    (pF M3 4 258 (some a0) a4).bind fun M4 =>
    (pF M4 4 259 (some a0) a5).bind fun M5 =>
    (pF M5 4 264 (some a0) (1 : Int32)).bind fun M6 =>
    (pF M6 4 265 (some a0) (0 : Int32)).bind fun M7 =>
    (pF M7 4 260 (some a0) (0 : Int32)).bind fun M8 =>
    some M8
theorem dX4_restart_0 : decode cX4_restart 0 = .ok (.aload_n 0, 1) := by decide +kernel
theorem dX4_restart_1 : decode cX4_restart 1 = .ok (.iload_n 1, 1) := by decide +kernel
theorem dX4_restart_2 : decode cX4_restart 2 = .ok (.putfield 38, 3) := by decide +kernel
theorem dX4_restart_5 : decode cX4_restart 5 = .ok (.aload_n 0, 1) := by decide +kernel
theorem dX4_restart_6 : decode cX4_restart 6 = .ok (.iload_n 2, 1) := by decide +kernel
theorem dX4_restart_7 : decode cX4_restart 7 = .ok (.putfield 42, 3) := by decide +kernel
theorem dX4_restart_10 : decode cX4_restart 10 = .ok (.aload_n 0, 1) := by decide +kernel
theorem dX4_restart_11 : decode cX4_restart 11 = .ok (.iload_n 3, 1) := by decide +kernel
theorem dX4_restart_12 : decode cX4_restart 12 = .ok (.putfield 45, 3) := by decide +kernel
theorem dX4_restart_15 : decode cX4_restart 15 = .ok (.aload_n 0, 1) := by decide +kernel
theorem dX4_restart_16 : decode cX4_restart 16 = .ok (.iload 4, 2) := by decide +kernel
theorem dX4_restart_18 : decode cX4_restart 18 = .ok (.putfield 48, 3) := by decide +kernel
theorem dX4_restart_21 : decode cX4_restart 21 = .ok (.aload_n 0, 1) := by decide +kernel
theorem dX4_restart_22 : decode cX4_restart 22 = .ok (.iload 5, 2) := by decide +kernel
theorem dX4_restart_24 : decode cX4_restart 24 = .ok (.putfield 51, 3) := by decide +kernel
theorem dX4_restart_27 : decode cX4_restart 27 = .ok (.aload_n 0, 1) := by decide +kernel
theorem dX4_restart_28 : decode cX4_restart 28 = .ok (.iconst 1, 1) := by decide +kernel
theorem dX4_restart_29 : decode cX4_restart 29 = .ok (.putfield 54, 3) := by decide +kernel
theorem dX4_restart_32 : decode cX4_restart 32 = .ok (.aload_n 0, 1) := by decide +kernel
theorem dX4_restart_33 : decode cX4_restart 33 = .ok (.iconst 0, 1) := by decide +kernel
theorem dX4_restart_34 : decode cX4_restart 34 = .ok (.putfield 57, 3) := by decide +kernel
theorem dX4_restart_37 : decode cX4_restart 37 = .ok (.aload_n 0, 1) := by decide +kernel
theorem dX4_restart_38 : decode cX4_restart 38 = .ok (.iconst 0, 1) := by decide +kernel
theorem dX4_restart_39 : decode cX4_restart 39 = .ok (.putfield 60, 3) := by decide +kernel
theorem dX4_restart_42 : decode cX4_restart 42 = .ok (.return_, 1) := by decide +kernel
theorem wX4_restart {x : GX} {n0 sl0 : Nat} (X : Cx x cX4_restart RX4 none n0 sl0 0 0) {out : Mm} (hE : Ends x n0 sl0 none out) (hn : xn x = 6) (fu : Nat)   (a0 : Nat) (a1 : Int32) (a2 : Int32) (a3 : Int32) (a4 : Int32) (a5 : Int32)  (M : Mm) (h : fX4_restart fu  a0 a1 a2 a3 a4 a5 M = some out) : Gw x M 0 [(0, pR (some a0)), (1, pI a1), (2, pI a2), (3, pI a3), (4, pI a4), (5, pI a5)] [] := by
  unfold fX4_restart at h
  refine g_aload_n X (pc := 0) 0 rfl rfl dX4_restart_0 ?_
  refine g_iload_n X (pc := 1) 1 rfl rfl dX4_restart_1 ?_
  obtain ⟨M1, eM1, h⟩ := bd h
  refine g_putI X (pc := 2) fk_4_1 rfl rfl rfl eM1 tb_100 (Or.inl rfl) dX4_restart_2 ?_
  refine g_aload_n X (pc := 5) 0 rfl rfl dX4_restart_5 ?_
  refine g_iload_n X (pc := 6) 2 rfl rfl dX4_restart_6 ?_
  obtain ⟨M2, eM2, h⟩ := bd h
  refine g_putI X (pc := 7) fk_4_6 rfl rfl rfl eM2 tb_110 (Or.inl rfl) dX4_restart_7 ?_
  refine g_aload_n X (pc := 10) 0 rfl rfl dX4_restart_10 ?_
  refine g_iload_n X (pc := 11) 3 rfl rfl dX4_restart_11 ?_
  obtain ⟨M3, eM3, h⟩ := bd h
  refine g_putI X (pc := 12) fk_4_7 rfl rfl rfl eM3 tb_111 (Or.inl rfl) dX4_restart_12 ?_
  refine g_aload_n X (pc := 15) 0 rfl rfl dX4_restart_15 ?_
  refine g_iload X (pc := 16) 4 rfl dX4_restart_16 ?_
  obtain ⟨M4, eM4, h⟩ := bd h
  refine g_putI X (pc := 18) fk_4_2 rfl rfl rfl eM4 tb_103 (Or.inl rfl) dX4_restart_18 ?_
  refine g_aload_n X (pc := 21) 0 rfl rfl dX4_restart_21 ?_
  refine g_iload X (pc := 22) 5 rfl dX4_restart_22 ?_
  obtain ⟨M5, eM5, h⟩ := bd h
  refine g_putI X (pc := 24) fk_4_3 rfl rfl rfl eM5 tb_105 (Or.inl rfl) dX4_restart_24 ?_
  refine g_aload_n X (pc := 27) 0 rfl rfl dX4_restart_27 ?_
  refine g_iconst X (pc := 28) (v := 1) dX4_restart_28 (by decide) ?_
  obtain ⟨M6, eM6, h⟩ := bd h
  refine g_putI X (pc := 29) fk_4_8 rfl rfl rfl eM6 tb_112 (Or.inl rfl) dX4_restart_29 ?_
  refine g_aload_n X (pc := 32) 0 rfl rfl dX4_restart_32 ?_
  refine g_iconst X (pc := 33) (v := 0) dX4_restart_33 (by decide) ?_
  obtain ⟨M7, eM7, h⟩ := bd h
  refine g_putI X (pc := 34) fk_4_9 rfl rfl rfl eM7 tb_113 (Or.inl rfl) dX4_restart_34 ?_
  refine g_aload_n X (pc := 37) 0 rfl rfl dX4_restart_37 ?_
  refine g_iconst X (pc := 38) (v := 0) dX4_restart_38 (by decide) ?_
  obtain ⟨M8, eM8, h⟩ := bd h
  refine g_putI X (pc := 39) fk_4_4 rfl rfl rfl eM8 tb_107 (Or.inl rfl) dX4_restart_39 ?_
  obtain rfl := Option.some.inj h
  exact g_return X hE dX4_restart_42
theorem hyX4_restart : yX4_restart.cls ≠ "java/lang/invoke/MethodHandle" ∧ yX4_restart.cls ≠ "java/lang/invoke/VarHandle" ∧ (parseMethodDescriptor yX4_restart.desc).map (fun d => d.parameters.length) = some 5 := ⟨by decide +kernel, by decide +kernel, by decide +kernel⟩
theorem ctX4_restart (l : Launch) (E : Nat → Nat) (D : va_G) (dA : Nat → ClassId) (lo : Nat) (H0 : Heap) (fu : Nat) (a0 : Nat) (a1 : Int32) (a2 : Int32) (a3 : Int32) (a4 : Int32) (a5 : Int32) (M : Mm) (out : Mm) (h : fX4_restart fu a0 a1 a2 a3 a4 a5 M = some out) : Ct l E D dA lo H0 yX4_restart cX4_restart 6 none 0 0 [pR (some a0), pI a1, pI a2, pI a3, pI a4, pI a5] M none out := by
  refine ct_of (by decide +kernel) (Nat.le_of_ble_eq_true rfl) ?_
  intro x hl he hd ha ho hh hn hin X hE
  exact wX4_restart X hE hn fu a0 a1 a2 a3 a4 a5 M h
/-! WebHost$Link.newEntry()I -/
def fX4_newEntry_L48 (fu : Nat) (k25 : Nat → Int32 → Int32 → Mm → Option (Int32 × Mm)) (a0 : Nat) (a1 : Int32) (a2 : Int32)  (M : Mm) : Option (Int32 × Mm) :=
    k25 a0 a1 (a2 + (1 : Int32)) M
def fX4_newEntry_L25 (fu : Nat)  : Nat → Nat → Int32 → Int32 → Mm → Option (Int32 × Mm)
  | 0, _, _, _, _ => none
  | n + 1, a0, a1, a2, M =>
    if (16 : Int32) ≤ a2 then (
    some (a1, M))
    else (
    (gR M 4 269 (some a0)).bind fun v1 =>
    (gA M 101 v1 a2).bind fun v2 =>
    (gR M 4 269 (some a0)).bind fun v3 =>
    (gA M 101 v3 a1).bind fun v4 =>
    if v4 ≤ v2 then (
    fX4_newEntry_L48 fu (fun b0 b1 b2 M => fX4_newEntry_L25 fu  n b0 b1 b2 M) a0 a1 a2 M)
    else (
    fX4_newEntry_L48 fu (fun b0 b1 b2 M => fX4_newEntry_L25 fu  n b0 b1 b2 M) a0 a2 a2 M))
def fX4_newEntry (fu : Nat)  (a0 : Nat)  (M : Mm) : Option (Int32 × Mm) :=
    (gI M 4 265 (some a0)).bind fun v1 =>
    if (16 : Int32) ≤ v1 then (
    fX4_newEntry_L25 fu  fu a0 (0 : Int32) (1 : Int32) M)
    else (
    (gI M 4 265 (some a0)).bind fun v2 =>
    (pF M 4 265 (some a0) (v2 + (1 : Int32))).bind fun M3 =>
    some (v2, M3))
theorem dX4_newEntry_0 : decode cX4_newEntry 0 = .ok (.aload_n 0, 1) := by decide +kernel
theorem dX4_newEntry_1 : decode cX4_newEntry 1 = .ok (.getfield 57, 3) := by decide +kernel
theorem dX4_newEntry_4 : decode cX4_newEntry 4 = .ok (.bipush 16, 2) := by decide +kernel
theorem dX4_newEntry_6 : decode cX4_newEntry 6 = .ok (.if_icmp .ge 15, 3) := by decide +kernel
theorem dX4_newEntry_9 : decode cX4_newEntry 9 = .ok (.aload_n 0, 1) := by decide +kernel
theorem dX4_newEntry_10 : decode cX4_newEntry 10 = .ok (.dup, 1) := by decide +kernel
theorem dX4_newEntry_11 : decode cX4_newEntry 11 = .ok (.getfield 57, 3) := by decide +kernel
theorem dX4_newEntry_14 : decode cX4_newEntry 14 = .ok (.dup_x1, 1) := by decide +kernel
theorem dX4_newEntry_15 : decode cX4_newEntry 15 = .ok (.iconst 1, 1) := by decide +kernel
theorem dX4_newEntry_16 : decode cX4_newEntry 16 = .ok (.iadd, 1) := by decide +kernel
theorem dX4_newEntry_17 : decode cX4_newEntry 17 = .ok (.putfield 57, 3) := by decide +kernel
theorem dX4_newEntry_20 : decode cX4_newEntry 20 = .ok (.ireturn, 1) := by decide +kernel
theorem dX4_newEntry_21 : decode cX4_newEntry 21 = .ok (.iconst 0, 1) := by decide +kernel
theorem dX4_newEntry_22 : decode cX4_newEntry 22 = .ok (.istore_n 1, 1) := by decide +kernel
theorem dX4_newEntry_23 : decode cX4_newEntry 23 = .ok (.iconst 1, 1) := by decide +kernel
theorem dX4_newEntry_24 : decode cX4_newEntry 24 = .ok (.istore_n 2, 1) := by decide +kernel
theorem dX4_newEntry_25 : decode cX4_newEntry 25 = .ok (.iload_n 2, 1) := by decide +kernel
theorem dX4_newEntry_26 : decode cX4_newEntry 26 = .ok (.bipush 16, 2) := by decide +kernel
theorem dX4_newEntry_28 : decode cX4_newEntry 28 = .ok (.if_icmp .ge 26, 3) := by decide +kernel
theorem dX4_newEntry_31 : decode cX4_newEntry 31 = .ok (.aload_n 0, 1) := by decide +kernel
theorem dX4_newEntry_32 : decode cX4_newEntry 32 = .ok (.getfield 29, 3) := by decide +kernel
theorem dX4_newEntry_35 : decode cX4_newEntry 35 = .ok (.iload_n 2, 1) := by decide +kernel
theorem dX4_newEntry_36 : decode cX4_newEntry 36 = .ok (.iaload, 1) := by decide +kernel
theorem dX4_newEntry_37 : decode cX4_newEntry 37 = .ok (.aload_n 0, 1) := by decide +kernel
theorem dX4_newEntry_38 : decode cX4_newEntry 38 = .ok (.getfield 29, 3) := by decide +kernel
theorem dX4_newEntry_41 : decode cX4_newEntry 41 = .ok (.iload_n 1, 1) := by decide +kernel
theorem dX4_newEntry_42 : decode cX4_newEntry 42 = .ok (.iaload, 1) := by decide +kernel
theorem dX4_newEntry_43 : decode cX4_newEntry 43 = .ok (.if_icmp .ge 5, 3) := by decide +kernel
theorem dX4_newEntry_46 : decode cX4_newEntry 46 = .ok (.iload_n 2, 1) := by decide +kernel
theorem dX4_newEntry_47 : decode cX4_newEntry 47 = .ok (.istore_n 1, 1) := by decide +kernel
theorem dX4_newEntry_48 : decode cX4_newEntry 48 = .ok (.iinc 2 1, 3) := by decide +kernel
theorem dX4_newEntry_51 : decode cX4_newEntry 51 = .ok (.goto (-26), 3) := by decide +kernel
theorem dX4_newEntry_54 : decode cX4_newEntry 54 = .ok (.iload_n 1, 1) := by decide +kernel
theorem dX4_newEntry_55 : decode cX4_newEntry 55 = .ok (.ireturn, 1) := by decide +kernel
theorem wX4_newEntry_L48 {x : GX} {n0 sl0 : Nat} (X : Cx x cX4_newEntry RX4 (some .int) n0 sl0 0 0) {out : Int32 × Mm} (hE : Ends x n0 sl0 (some (pI out.1)) out.2) (hn : xn x = 3) (fu : Nat) (k25 : Nat → Int32 → Int32 → Mm → Option (Int32 × Mm)) (hk25 : ∀ (b0 : Nat) (b1 : Int32) (b2 : Int32)  (M : Mm), k25 b0 b1 b2 M = some out → Gw x M 25 [(0, pR (some b0)), (1, pI b1), (2, pI b2)] []) (a0 : Nat) (a1 : Int32) (a2 : Int32)  (M : Mm) (h : fX4_newEntry_L48 fu k25 a0 a1 a2 M = some out) : Gw x M 48 [(0, pR (some a0)), (1, pI a1), (2, pI a2)] [] := by
  unfold fX4_newEntry_L48 at h
  refine g_iinc X (pc := 48) 2 [(2, pI (a2 + (1 : Int32))), (0, pR (some a0)), (1, pI a1)] rfl (iinc_e (by decide)) (lt_n hn (by decide)) rfl dX4_newEntry_48 ?_
  refine g_goto X (pc := 51) (tgt := 25) dX4_newEntry_51 (by decide) ?_
  refine g_sub [1, 2, 0] [(0, pR (some a0)), (1, pI a1), (2, pI (a2 + (1 : Int32)))] rfl ?_
  exact hk25 a0 a1 (a2 + (1 : Int32)) M h
theorem wX4_newEntry_L25 {x : GX} {n0 sl0 : Nat} (X : Cx x cX4_newEntry RX4 (some .int) n0 sl0 0 0) {out : Int32 × Mm} (hE : Ends x n0 sl0 (some (pI out.1)) out.2) (hn : xn x = 3) (fu : Nat)   : ∀ (n : Nat) (a0 : Nat) (a1 : Int32) (a2 : Int32)  (M : Mm), fX4_newEntry_L25 fu  n a0 a1 a2 M = some out → Gw x M 25 [(0, pR (some a0)), (1, pI a1), (2, pI a2)] [] := by
  intro n
  induction n with
  | zero =>
    intro a0 a1 a2 M h
    have h : (none : Option (Int32 × Mm)) = some out := h
    cases h
  | succ n ih =>
    intro a0 a1 a2 M h
    rw [fX4_newEntry_L25] at h
    refine g_iload_n X (pc := 25) 2 rfl rfl dX4_newEntry_25 ?_
    refine g_bipush X (pc := 26) (v := 16) dX4_newEntry_26 (by decide) ?_
    refine g_icmp_ge X (pc := 28) (tgt := 54) dX4_newEntry_28 (by decide) (fun hc => ?_) (fun hc => ?_)
    · have h := (if_pos hc).symm.trans h
      refine g_iload_n X (pc := 54) 1 rfl rfl dX4_newEntry_54 ?_
      obtain rfl := Option.some.inj h
      exact g_ireturn X hE dX4_newEntry_55
    · have h := (if_neg hc).symm.trans h
      refine g_aload_n X (pc := 31) 0 rfl rfl dX4_newEntry_31 ?_
      obtain ⟨v1, ev1, h⟩ := bd h
      refine g_getR X (pc := 32) fk_4_13 rfl rfl ev1 tb_117 dX4_newEntry_32 ?_
      refine g_iload_n X (pc := 35) 2 rfl rfl dX4_newEntry_35 ?_
      obtain ⟨v2, ev2, h⟩ := bd h
      refine g_iaload X (pc := 36) ev2 dX4_newEntry_36 ?_
      refine g_aload_n X (pc := 37) 0 rfl rfl dX4_newEntry_37 ?_
      obtain ⟨v3, ev3, h⟩ := bd h
      refine g_getR X (pc := 38) fk_4_13 rfl rfl ev3 tb_117 dX4_newEntry_38 ?_
      refine g_iload_n X (pc := 41) 1 rfl rfl dX4_newEntry_41 ?_
      obtain ⟨v4, ev4, h⟩ := bd h
      refine g_iaload X (pc := 42) ev4 dX4_newEntry_42 ?_
      refine g_icmp_ge X (pc := 43) (tgt := 48) dX4_newEntry_43 (by decide) (fun hc => ?_) (fun hc => ?_)
      · have h := (if_pos hc).symm.trans h
        exact wX4_newEntry_L48 X hE hn fu (fun b0 b1 b2 M => fX4_newEntry_L25 fu  n b0 b1 b2 M) ih a0 a1 a2 M h
      · have h := (if_neg hc).symm.trans h
        refine g_iload_n X (pc := 46) 2 rfl rfl dX4_newEntry_46 ?_
        refine g_istore_n X (pc := 47) [(1, pI a2), (0, pR (some a0)), (2, pI a2)] rfl (lt_n hn (by decide)) rfl dX4_newEntry_47 ?_
        refine g_sub [1, 0, 2] [(0, pR (some a0)), (1, pI a2), (2, pI a2)] rfl ?_
        exact wX4_newEntry_L48 X hE hn fu (fun b0 b1 b2 M => fX4_newEntry_L25 fu  n b0 b1 b2 M) ih a0 a2 a2 M h
theorem wX4_newEntry {x : GX} {n0 sl0 : Nat} (X : Cx x cX4_newEntry RX4 (some .int) n0 sl0 0 0) {out : Int32 × Mm} (hE : Ends x n0 sl0 (some (pI out.1)) out.2) (hn : xn x = 3) (fu : Nat)   (a0 : Nat)  (M : Mm) (h : fX4_newEntry fu  a0 M = some out) : Gw x M 0 [(0, pR (some a0))] [] := by
  unfold fX4_newEntry at h
  refine g_aload_n X (pc := 0) 0 rfl rfl dX4_newEntry_0 ?_
  obtain ⟨v1, ev1, h⟩ := bd h
  refine g_getI X (pc := 1) fk_4_9 rfl rfl ev1 tb_113 dX4_newEntry_1 ?_
  refine g_bipush X (pc := 4) (v := 16) dX4_newEntry_4 (by decide) ?_
  refine g_icmp_ge X (pc := 6) (tgt := 21) dX4_newEntry_6 (by decide) (fun hc => ?_) (fun hc => ?_)
  · have h := (if_pos hc).symm.trans h
    refine g_iconst X (pc := 21) (v := 0) dX4_newEntry_21 (by decide) ?_
    refine g_istore_n X (pc := 22) [(1, pI (0 : Int32)), (0, pR (some a0))] rfl (lt_n hn (by decide)) rfl dX4_newEntry_22 ?_
    refine g_iconst X (pc := 23) (v := 1) dX4_newEntry_23 (by decide) ?_
    refine g_istore_n X (pc := 24) [(2, pI (1 : Int32)), (1, pI (0 : Int32)), (0, pR (some a0))] rfl (lt_n hn (by decide)) rfl dX4_newEntry_24 ?_
    refine g_sub [2, 1, 0] [(0, pR (some a0)), (1, pI (0 : Int32)), (2, pI (1 : Int32))] rfl ?_
    exact wX4_newEntry_L25 X hE hn fu   fu a0 (0 : Int32) (1 : Int32) M h
  · have h := (if_neg hc).symm.trans h
    refine g_aload_n X (pc := 9) 0 rfl rfl dX4_newEntry_9 ?_
    refine g_dup X (pc := 10) rfl dX4_newEntry_10 ?_
    obtain ⟨v2, ev2, h⟩ := bd h
    refine g_getI X (pc := 11) fk_4_9 rfl rfl ev2 tb_113 dX4_newEntry_11 ?_
    refine g_dup_x1 X (pc := 14) rfl rfl dX4_newEntry_14 ?_
    refine g_iconst X (pc := 15) (v := 1) dX4_newEntry_15 (by decide) ?_
    refine g_iadd X (pc := 16) dX4_newEntry_16 ?_
    obtain ⟨M3, eM3, h⟩ := bd h
    refine g_putI X (pc := 17) fk_4_9 rfl rfl rfl eM3 tb_113 (Or.inl rfl) dX4_newEntry_17 ?_
    obtain rfl := Option.some.inj h
    exact g_ireturn X hE dX4_newEntry_20
theorem hyX4_newEntry : yX4_newEntry.cls ≠ "java/lang/invoke/MethodHandle" ∧ yX4_newEntry.cls ≠ "java/lang/invoke/VarHandle" ∧ (parseMethodDescriptor yX4_newEntry.desc).map (fun d => d.parameters.length) = some 0 := ⟨by decide +kernel, by decide +kernel, by decide +kernel⟩
theorem ctX4_newEntry (l : Launch) (E : Nat → Nat) (D : va_G) (dA : Nat → ClassId) (lo : Nat) (H0 : Heap) (fu : Nat) (a0 : Nat) (M : Mm) (out : Int32 × Mm) (h : fX4_newEntry fu a0 M = some out) : Ct l E D dA lo H0 yX4_newEntry cX4_newEntry 3 (some .int) 0 0 [pR (some a0)] M (some (pI out.1)) out.2 := by
  refine ct_of (by decide +kernel) (Nat.le_of_ble_eq_true rfl) ?_
  intro x hl he hd ha ho hh hn hin X hE
  exact wX4_newEntry X hE hn fu a0 M h
/-! WebHost$Link.dropWaiter(I)V -/
def fX4_dropWaiter_L60 (fu : Nat)  (a0 : Nat) (a2 : Option Nat)  (M : Mm) : Option (Mm) :=
    (gI M 4 260 (some a0)).bind fun v1 =>
    (pF M 4 260 (some a0) (v1 - (1 : Int32))).bind fun M2 =>
    (gR M2 4 270 (some a0)).bind fun v3 =>
    (gI M2 4 260 (some a0)).bind fun v4 =>
    (pB M2 6 v3 v4 a2).bind fun M5 =>
    some M5
def fX4_dropWaiter_L22 (fu : Nat)  : Nat → Nat → Option Nat → Int32 → Mm → Option (Mm)
  | 0, _, _, _, _ => none
  | n + 1, a0, a2, a3, M =>
    (gI M 4 260 (some a0)).bind fun v1 =>
    if v1 ≤ (a3 + (1 : Int32)) then (
    fX4_dropWaiter_L60 fu  a0 a2 M)
    else (
    if (8 : Int32) ≤ (a3 + (1 : Int32)) then (
    fX4_dropWaiter_L60 fu  a0 a2 M)
    else (
    (gR M 4 270 (some a0)).bind fun v2 =>
    (gR M 4 270 (some a0)).bind fun v3 =>
    (gB M 116 v3 (a3 + (1 : Int32))).bind fun v4 =>
    (pB M 6 v2 a3 v4).bind fun M5 =>
    fX4_dropWaiter_L22 fu  n a0 a2 (a3 + (1 : Int32)) M5))
def fX4_dropWaiter (fu : Nat)  (a0 : Nat) (a1 : Int32)  (M : Mm) : Option (Mm) :=
    if a1 < 0 then (
    some M)
    else (
    (gI M 4 260 (some a0)).bind fun v1 =>
    if a1 < v1 then (
    (gR M 4 270 (some a0)).bind fun v2 =>
    (gB M 116 v2 a1).bind fun v3 =>
    fX4_dropWaiter_L22 fu  fu a0 v3 a1 M)
    else (
    some M))
theorem dX4_dropWaiter_0 : decode cX4_dropWaiter 0 = .ok (.iload_n 1, 1) := by decide +kernel
theorem dX4_dropWaiter_1 : decode cX4_dropWaiter 1 = .ok (.ifCond .lt 11, 3) := by decide +kernel
theorem dX4_dropWaiter_4 : decode cX4_dropWaiter 4 = .ok (.iload_n 1, 1) := by decide +kernel
theorem dX4_dropWaiter_5 : decode cX4_dropWaiter 5 = .ok (.aload_n 0, 1) := by decide +kernel
theorem dX4_dropWaiter_6 : decode cX4_dropWaiter 6 = .ok (.getfield 60, 3) := by decide +kernel
theorem dX4_dropWaiter_9 : decode cX4_dropWaiter 9 = .ok (.if_icmp .lt 4, 3) := by decide +kernel
theorem dX4_dropWaiter_12 : decode cX4_dropWaiter 12 = .ok (.return_, 1) := by decide +kernel
theorem dX4_dropWaiter_13 : decode cX4_dropWaiter 13 = .ok (.aload_n 0, 1) := by decide +kernel
theorem dX4_dropWaiter_14 : decode cX4_dropWaiter 14 = .ok (.getfield 34, 3) := by decide +kernel
theorem dX4_dropWaiter_17 : decode cX4_dropWaiter 17 = .ok (.iload_n 1, 1) := by decide +kernel
theorem dX4_dropWaiter_18 : decode cX4_dropWaiter 18 = .ok (.aaload, 1) := by decide +kernel
theorem dX4_dropWaiter_19 : decode cX4_dropWaiter 19 = .ok (.astore_n 2, 1) := by decide +kernel
theorem dX4_dropWaiter_20 : decode cX4_dropWaiter 20 = .ok (.iload_n 1, 1) := by decide +kernel
theorem dX4_dropWaiter_21 : decode cX4_dropWaiter 21 = .ok (.istore_n 3, 1) := by decide +kernel
theorem dX4_dropWaiter_22 : decode cX4_dropWaiter 22 = .ok (.iload_n 3, 1) := by decide +kernel
theorem dX4_dropWaiter_23 : decode cX4_dropWaiter 23 = .ok (.iconst 1, 1) := by decide +kernel
theorem dX4_dropWaiter_24 : decode cX4_dropWaiter 24 = .ok (.iadd, 1) := by decide +kernel
theorem dX4_dropWaiter_25 : decode cX4_dropWaiter 25 = .ok (.aload_n 0, 1) := by decide +kernel
theorem dX4_dropWaiter_26 : decode cX4_dropWaiter 26 = .ok (.getfield 60, 3) := by decide +kernel
theorem dX4_dropWaiter_29 : decode cX4_dropWaiter 29 = .ok (.if_icmp .ge 31, 3) := by decide +kernel
theorem dX4_dropWaiter_32 : decode cX4_dropWaiter 32 = .ok (.iload_n 3, 1) := by decide +kernel
theorem dX4_dropWaiter_33 : decode cX4_dropWaiter 33 = .ok (.iconst 1, 1) := by decide +kernel
theorem dX4_dropWaiter_34 : decode cX4_dropWaiter 34 = .ok (.iadd, 1) := by decide +kernel
theorem dX4_dropWaiter_35 : decode cX4_dropWaiter 35 = .ok (.bipush 8, 2) := by decide +kernel
theorem dX4_dropWaiter_37 : decode cX4_dropWaiter 37 = .ok (.if_icmp .ge 23, 3) := by decide +kernel
theorem dX4_dropWaiter_40 : decode cX4_dropWaiter 40 = .ok (.aload_n 0, 1) := by decide +kernel
theorem dX4_dropWaiter_41 : decode cX4_dropWaiter 41 = .ok (.getfield 34, 3) := by decide +kernel
theorem dX4_dropWaiter_44 : decode cX4_dropWaiter 44 = .ok (.iload_n 3, 1) := by decide +kernel
theorem dX4_dropWaiter_45 : decode cX4_dropWaiter 45 = .ok (.aload_n 0, 1) := by decide +kernel
theorem dX4_dropWaiter_46 : decode cX4_dropWaiter 46 = .ok (.getfield 34, 3) := by decide +kernel
theorem dX4_dropWaiter_49 : decode cX4_dropWaiter 49 = .ok (.iload_n 3, 1) := by decide +kernel
theorem dX4_dropWaiter_50 : decode cX4_dropWaiter 50 = .ok (.iconst 1, 1) := by decide +kernel
theorem dX4_dropWaiter_51 : decode cX4_dropWaiter 51 = .ok (.iadd, 1) := by decide +kernel
theorem dX4_dropWaiter_52 : decode cX4_dropWaiter 52 = .ok (.aaload, 1) := by decide +kernel
theorem dX4_dropWaiter_53 : decode cX4_dropWaiter 53 = .ok (.aastore, 1) := by decide +kernel
theorem dX4_dropWaiter_54 : decode cX4_dropWaiter 54 = .ok (.iinc 3 1, 3) := by decide +kernel
theorem dX4_dropWaiter_57 : decode cX4_dropWaiter 57 = .ok (.goto (-35), 3) := by decide +kernel
theorem dX4_dropWaiter_60 : decode cX4_dropWaiter 60 = .ok (.aload_n 0, 1) := by decide +kernel
theorem dX4_dropWaiter_61 : decode cX4_dropWaiter 61 = .ok (.dup, 1) := by decide +kernel
theorem dX4_dropWaiter_62 : decode cX4_dropWaiter 62 = .ok (.getfield 60, 3) := by decide +kernel
theorem dX4_dropWaiter_65 : decode cX4_dropWaiter 65 = .ok (.iconst 1, 1) := by decide +kernel
theorem dX4_dropWaiter_66 : decode cX4_dropWaiter 66 = .ok (.isub, 1) := by decide +kernel
theorem dX4_dropWaiter_67 : decode cX4_dropWaiter 67 = .ok (.putfield 60, 3) := by decide +kernel
theorem dX4_dropWaiter_70 : decode cX4_dropWaiter 70 = .ok (.aload_n 0, 1) := by decide +kernel
theorem dX4_dropWaiter_71 : decode cX4_dropWaiter 71 = .ok (.getfield 34, 3) := by decide +kernel
theorem dX4_dropWaiter_74 : decode cX4_dropWaiter 74 = .ok (.aload_n 0, 1) := by decide +kernel
theorem dX4_dropWaiter_75 : decode cX4_dropWaiter 75 = .ok (.getfield 60, 3) := by decide +kernel
theorem dX4_dropWaiter_78 : decode cX4_dropWaiter 78 = .ok (.aload_n 2, 1) := by decide +kernel
theorem dX4_dropWaiter_79 : decode cX4_dropWaiter 79 = .ok (.aastore, 1) := by decide +kernel
theorem dX4_dropWaiter_80 : decode cX4_dropWaiter 80 = .ok (.return_, 1) := by decide +kernel
theorem wX4_dropWaiter_L60 {x : GX} {n0 sl0 : Nat} (X : Cx x cX4_dropWaiter RX4 none n0 sl0 0 0) {out : Mm} (hE : Ends x n0 sl0 none out) (hn : xn x = 4) (fu : Nat)   (a0 : Nat) (a2 : Option Nat)  (M : Mm) (h : fX4_dropWaiter_L60 fu  a0 a2 M = some out) : Gw x M 60 [(0, pR (some a0)), (2, pR a2)] [] := by
  unfold fX4_dropWaiter_L60 at h
  refine g_aload_n X (pc := 60) 0 rfl rfl dX4_dropWaiter_60 ?_
  refine g_dup X (pc := 61) rfl dX4_dropWaiter_61 ?_
  obtain ⟨v1, ev1, h⟩ := bd h
  refine g_getI X (pc := 62) fk_4_4 rfl rfl ev1 tb_107 dX4_dropWaiter_62 ?_
  refine g_iconst X (pc := 65) (v := 1) dX4_dropWaiter_65 (by decide) ?_
  refine g_isub X (pc := 66) dX4_dropWaiter_66 ?_
  obtain ⟨M2, eM2, h⟩ := bd h
  refine g_putI X (pc := 67) fk_4_4 rfl rfl rfl eM2 tb_107 (Or.inl rfl) dX4_dropWaiter_67 ?_
  refine g_aload_n X (pc := 70) 0 rfl rfl dX4_dropWaiter_70 ?_
  obtain ⟨v3, ev3, h⟩ := bd h
  refine g_getR X (pc := 71) fk_4_14 rfl rfl ev3 tb_118 dX4_dropWaiter_71 ?_
  refine g_aload_n X (pc := 74) 0 rfl rfl dX4_dropWaiter_74 ?_
  obtain ⟨v4, ev4, h⟩ := bd h
  refine g_getI X (pc := 75) fk_4_4 rfl rfl ev4 tb_107 dX4_dropWaiter_75 ?_
  refine g_aload_n X (pc := 78) 1 rfl rfl dX4_dropWaiter_78 ?_
  obtain ⟨M5, eM5, h⟩ := bd h
  refine g_aastore X (pc := 79) (c := 6) (k := 3) rfl (by decide) rfl eM5 dX4_dropWaiter_79 ?_
  obtain rfl := Option.some.inj h
  exact g_return X hE dX4_dropWaiter_80
theorem wX4_dropWaiter_L22 {x : GX} {n0 sl0 : Nat} (X : Cx x cX4_dropWaiter RX4 none n0 sl0 0 0) {out : Mm} (hE : Ends x n0 sl0 none out) (hn : xn x = 4) (fu : Nat)   : ∀ (n : Nat) (a0 : Nat) (a2 : Option Nat) (a3 : Int32)  (M : Mm), fX4_dropWaiter_L22 fu  n a0 a2 a3 M = some out → Gw x M 22 [(0, pR (some a0)), (2, pR a2), (3, pI a3)] [] := by
  intro n
  induction n with
  | zero =>
    intro a0 a2 a3 M h
    have h : (none : Option (Mm)) = some out := h
    cases h
  | succ n ih =>
    intro a0 a2 a3 M h
    rw [fX4_dropWaiter_L22] at h
    refine g_iload_n X (pc := 22) 2 rfl rfl dX4_dropWaiter_22 ?_
    refine g_iconst X (pc := 23) (v := 1) dX4_dropWaiter_23 (by decide) ?_
    refine g_iadd X (pc := 24) dX4_dropWaiter_24 ?_
    refine g_aload_n X (pc := 25) 0 rfl rfl dX4_dropWaiter_25 ?_
    obtain ⟨v1, ev1, h⟩ := bd h
    refine g_getI X (pc := 26) fk_4_4 rfl rfl ev1 tb_107 dX4_dropWaiter_26 ?_
    refine g_icmp_ge X (pc := 29) (tgt := 60) dX4_dropWaiter_29 (by decide) (fun hc => ?_) (fun hc => ?_)
    · have h := (if_pos hc).symm.trans h
      refine g_sub [0, 1] [(0, pR (some a0)), (2, pR a2)] rfl ?_
      exact wX4_dropWaiter_L60 X hE hn fu   a0 a2 M h
    · have h := (if_neg hc).symm.trans h
      refine g_iload_n X (pc := 32) 2 rfl rfl dX4_dropWaiter_32 ?_
      refine g_iconst X (pc := 33) (v := 1) dX4_dropWaiter_33 (by decide) ?_
      refine g_iadd X (pc := 34) dX4_dropWaiter_34 ?_
      refine g_bipush X (pc := 35) (v := 8) dX4_dropWaiter_35 (by decide) ?_
      refine g_icmp_ge X (pc := 37) (tgt := 60) dX4_dropWaiter_37 (by decide) (fun hc => ?_) (fun hc => ?_)
      · have h := (if_pos hc).symm.trans h
        refine g_sub [0, 1] [(0, pR (some a0)), (2, pR a2)] rfl ?_
        exact wX4_dropWaiter_L60 X hE hn fu   a0 a2 M h
      · have h := (if_neg hc).symm.trans h
        refine g_aload_n X (pc := 40) 0 rfl rfl dX4_dropWaiter_40 ?_
        obtain ⟨v2, ev2, h⟩ := bd h
        refine g_getR X (pc := 41) fk_4_14 rfl rfl ev2 tb_118 dX4_dropWaiter_41 ?_
        refine g_iload_n X (pc := 44) 2 rfl rfl dX4_dropWaiter_44 ?_
        refine g_aload_n X (pc := 45) 0 rfl rfl dX4_dropWaiter_45 ?_
        obtain ⟨v3, ev3, h⟩ := bd h
        refine g_getR X (pc := 46) fk_4_14 rfl rfl ev3 tb_118 dX4_dropWaiter_46 ?_
        refine g_iload_n X (pc := 49) 2 rfl rfl dX4_dropWaiter_49 ?_
        refine g_iconst X (pc := 50) (v := 1) dX4_dropWaiter_50 (by decide) ?_
        refine g_iadd X (pc := 51) dX4_dropWaiter_51 ?_
        obtain ⟨v4, ev4, h⟩ := bd h
        refine g_aaload X (pc := 52) (k := 3) rfl rfl (by decide) ev4 dX4_dropWaiter_52 ?_
        obtain ⟨M5, eM5, h⟩ := bd h
        refine g_aastore X (pc := 53) (c := 6) (k := 3) rfl (by decide) rfl eM5 dX4_dropWaiter_53 ?_
        refine g_iinc X (pc := 54) 2 [(3, pI (a3 + (1 : Int32))), (0, pR (some a0)), (2, pR a2)] rfl (iinc_e (by decide)) (lt_n hn (by decide)) rfl dX4_dropWaiter_54 ?_
        refine g_goto X (pc := 57) (tgt := 22) dX4_dropWaiter_57 (by decide) ?_
        refine g_sub [1, 2, 0] [(0, pR (some a0)), (2, pR a2), (3, pI (a3 + (1 : Int32)))] rfl ?_
        exact ih a0 a2 (a3 + (1 : Int32)) M5 h
theorem wX4_dropWaiter {x : GX} {n0 sl0 : Nat} (X : Cx x cX4_dropWaiter RX4 none n0 sl0 0 0) {out : Mm} (hE : Ends x n0 sl0 none out) (hn : xn x = 4) (fu : Nat)   (a0 : Nat) (a1 : Int32)  (M : Mm) (h : fX4_dropWaiter fu  a0 a1 M = some out) : Gw x M 0 [(0, pR (some a0)), (1, pI a1)] [] := by
  unfold fX4_dropWaiter at h
  refine g_iload_n X (pc := 0) 1 rfl rfl dX4_dropWaiter_0 ?_
  refine g_if_lt X (pc := 1) (tgt := 12) dX4_dropWaiter_1 (by decide) (fun hc => ?_) (fun hc => ?_)
  · have h := (if_pos hc).symm.trans h
    obtain rfl := Option.some.inj h
    exact g_return X hE dX4_dropWaiter_12
  · have h := (if_neg hc).symm.trans h
    refine g_iload_n X (pc := 4) 1 rfl rfl dX4_dropWaiter_4 ?_
    refine g_aload_n X (pc := 5) 0 rfl rfl dX4_dropWaiter_5 ?_
    obtain ⟨v1, ev1, h⟩ := bd h
    refine g_getI X (pc := 6) fk_4_4 rfl rfl ev1 tb_107 dX4_dropWaiter_6 ?_
    refine g_icmp_lt X (pc := 9) (tgt := 13) dX4_dropWaiter_9 (by decide) (fun hc => ?_) (fun hc => ?_)
    · have h := (if_pos hc).symm.trans h
      refine g_aload_n X (pc := 13) 0 rfl rfl dX4_dropWaiter_13 ?_
      obtain ⟨v2, ev2, h⟩ := bd h
      refine g_getR X (pc := 14) fk_4_14 rfl rfl ev2 tb_118 dX4_dropWaiter_14 ?_
      refine g_iload_n X (pc := 17) 1 rfl rfl dX4_dropWaiter_17 ?_
      obtain ⟨v3, ev3, h⟩ := bd h
      refine g_aaload X (pc := 18) (k := 3) rfl rfl (by decide) ev3 dX4_dropWaiter_18 ?_
      refine g_astore_n X (pc := 19) [(2, pR v3), (0, pR (some a0)), (1, pI a1)] rfl (lt_n hn (by decide)) rfl dX4_dropWaiter_19 ?_
      refine g_iload_n X (pc := 20) 2 rfl rfl dX4_dropWaiter_20 ?_
      refine g_istore_n X (pc := 21) [(3, pI a1), (2, pR v3), (0, pR (some a0)), (1, pI a1)] rfl (lt_n hn (by decide)) rfl dX4_dropWaiter_21 ?_
      refine g_sub [2, 1, 0] [(0, pR (some a0)), (2, pR v3), (3, pI a1)] rfl ?_
      exact wX4_dropWaiter_L22 X hE hn fu   fu a0 v3 a1 M h
    · have h := (if_neg hc).symm.trans h
      obtain rfl := Option.some.inj h
      exact g_return X hE dX4_dropWaiter_12
theorem hyX4_dropWaiter : yX4_dropWaiter.cls ≠ "java/lang/invoke/MethodHandle" ∧ yX4_dropWaiter.cls ≠ "java/lang/invoke/VarHandle" ∧ (parseMethodDescriptor yX4_dropWaiter.desc).map (fun d => d.parameters.length) = some 1 := ⟨by decide +kernel, by decide +kernel, by decide +kernel⟩
theorem ctX4_dropWaiter (l : Launch) (E : Nat → Nat) (D : va_G) (dA : Nat → ClassId) (lo : Nat) (H0 : Heap) (fu : Nat) (a0 : Nat) (a1 : Int32) (M : Mm) (out : Mm) (h : fX4_dropWaiter fu a0 a1 M = some out) : Ct l E D dA lo H0 yX4_dropWaiter cX4_dropWaiter 4 none 0 0 [pR (some a0), pI a1] M none out := by
  refine ct_of (by decide +kernel) (Nat.le_of_ble_eq_true rfl) ?_
  intro x hl he hd ha ho hh hn hin X hE
  exact wX4_dropWaiter X hE hn fu a0 a1 M h
/-! WebHost$Link.release(II)V -/
def fX4_release (fu : Nat)  (a0 : Nat) (a1 : Int32) (a2 : Int32)  (M : Mm) : Option (Mm) :=
    (rc M 4 (some a0)).bind fun q1 =>
    b2 (fX4_waiterFor fu q1 a1 M) fun v3 M2 =>
    if 0 ≤ v3 then (
    (gR M2 4 270 (some a0)).bind fun v4 =>
    (gB M2 116 v4 v3).bind fun v5 =>
    (rc M2 4 (some a0)).bind fun q6 =>
    (fX4_dropWaiter fu q6 v3 M2).bind fun M7 =>
    if v5 = none then (
    some M7)
    else (
    (gR M7 6 384 v5).bind fun v8 =>
    (gR M7 4 267 (some a0)).bind fun v9 =>
    (gA M7 101 v9 a2).bind fun v10 =>
    (gR M7 4 268 (some a0)).bind fun v11 =>
    (gA M7 101 v11 a2).bind fun v12 =>
    (rc M7 4 (some a0)).bind fun q13 =>
    (fX4_fillLink fu q13 v8 v10 v12 (2048 : Int32) M7).bind fun M14 =>
    (gR M14 4 261 (some a0)).bind fun v15 =>
    (gR M14 6 384 v5).bind fun v16 =>
    (gI M14 6 385 v5).bind fun v17 =>
    (rc M14 10 v15).bind fun q18 =>
    (fX10_put fu q18 v16 v17 M14).bind fun M19 =>
    some M19))
    else (
    some M2)
theorem dX4_release_0 : decode cX4_release 0 = .ok (.aload_n 0, 1) := by decide +kernel
theorem dX4_release_1 : decode cX4_release 1 = .ok (.iload_n 1, 1) := by decide +kernel
theorem dX4_release_2 : decode cX4_release 2 = .ok (.invokevirtual 101, 3) := by decide +kernel
theorem dX4_release_5 : decode cX4_release 5 = .ok (.istore_n 3, 1) := by decide +kernel
theorem dX4_release_6 : decode cX4_release 6 = .ok (.iload_n 3, 1) := by decide +kernel
theorem dX4_release_7 : decode cX4_release 7 = .ok (.ifCond .ge 4, 3) := by decide +kernel
theorem dX4_release_10 : decode cX4_release 10 = .ok (.return_, 1) := by decide +kernel
theorem dX4_release_11 : decode cX4_release 11 = .ok (.aload_n 0, 1) := by decide +kernel
theorem dX4_release_12 : decode cX4_release 12 = .ok (.getfield 34, 3) := by decide +kernel
theorem dX4_release_15 : decode cX4_release 15 = .ok (.iload_n 3, 1) := by decide +kernel
theorem dX4_release_16 : decode cX4_release 16 = .ok (.aaload, 1) := by decide +kernel
theorem dX4_release_17 : decode cX4_release 17 = .ok (.astore 4, 2) := by decide +kernel
theorem dX4_release_19 : decode cX4_release 19 = .ok (.aload_n 0, 1) := by decide +kernel
theorem dX4_release_20 : decode cX4_release 20 = .ok (.iload_n 3, 1) := by decide +kernel
theorem dX4_release_21 : decode cX4_release 21 = .ok (.invokevirtual 104, 3) := by decide +kernel
theorem dX4_release_24 : decode cX4_release 24 = .ok (.aload 4, 2) := by decide +kernel
theorem dX4_release_26 : decode cX4_release 26 = .ok (.ifnull 44, 3) := by decide +kernel
theorem dX4_release_29 : decode cX4_release 29 = .ok (.aload_n 0, 1) := by decide +kernel
theorem dX4_release_30 : decode cX4_release 30 = .ok (.aload 4, 2) := by decide +kernel
theorem dX4_release_32 : decode cX4_release 32 = .ok (.getfield 108, 3) := by decide +kernel
theorem dX4_release_35 : decode cX4_release 35 = .ok (.aload_n 0, 1) := by decide +kernel
theorem dX4_release_36 : decode cX4_release 36 = .ok (.getfield 23, 3) := by decide +kernel
theorem dX4_release_39 : decode cX4_release 39 = .ok (.iload_n 2, 1) := by decide +kernel
theorem dX4_release_40 : decode cX4_release 40 = .ok (.iaload, 1) := by decide +kernel
theorem dX4_release_41 : decode cX4_release 41 = .ok (.aload_n 0, 1) := by decide +kernel
theorem dX4_release_42 : decode cX4_release 42 = .ok (.getfield 26, 3) := by decide +kernel
theorem dX4_release_45 : decode cX4_release 45 = .ok (.iload_n 2, 1) := by decide +kernel
theorem dX4_release_46 : decode cX4_release 46 = .ok (.iaload, 1) := by decide +kernel
theorem dX4_release_47 : decode cX4_release 47 = .ok (.sipush 2048, 3) := by decide +kernel
theorem dX4_release_50 : decode cX4_release 50 = .ok (.invokevirtual 93, 3) := by decide +kernel
theorem dX4_release_53 : decode cX4_release 53 = .ok (.aload_n 0, 1) := by decide +kernel
theorem dX4_release_54 : decode cX4_release 54 = .ok (.getfield 9, 3) := by decide +kernel
theorem dX4_release_57 : decode cX4_release 57 = .ok (.aload 4, 2) := by decide +kernel
theorem dX4_release_59 : decode cX4_release 59 = .ok (.getfield 108, 3) := by decide +kernel
theorem dX4_release_62 : decode cX4_release 62 = .ok (.aload 4, 2) := by decide +kernel
theorem dX4_release_64 : decode cX4_release 64 = .ok (.getfield 111, 3) := by decide +kernel
theorem dX4_release_67 : decode cX4_release 67 = .ok (.invokevirtual 97, 3) := by decide +kernel
theorem dX4_release_70 : decode cX4_release 70 = .ok (.return_, 1) := by decide +kernel
theorem wX4_release {x : GX} {n0 sl0 : Nat} (X : Cx x cX4_release RX4 none n0 sl0 3 65) {out : Mm} (hE : Ends x n0 sl0 none out) (hn : xn x = 5) (fu : Nat)   (a0 : Nat) (a1 : Int32) (a2 : Int32)  (M : Mm) (h : fX4_release fu  a0 a1 a2 M = some out) : Gw x M 0 [(0, pR (some a0)), (1, pI a1), (2, pI a2)] [] := by
  unfold fX4_release at h
  refine g_aload_n X (pc := 0) 0 rfl rfl dX4_release_0 ?_
  refine g_iload_n X (pc := 1) 1 rfl rfl dX4_release_1 ?_
  obtain ⟨q1, eq1, h⟩ := bd h
  obtain ⟨v3, M2, eM2, h⟩ := b2d h
  refine g_callV X (pc := 2) (M' := M2) (ro := some (pI v3)) (c := 4) rfl (by decide) (as := [pI a1]) (as' := [pI a1]) (st := []) eq1 (ctX4_waiterFor _ _ _ _ _ _ fu q1 a1 M _ eM2) tb_649 tb_646 tb_648 ts_18 tb_4 ⟨rfl, hyX4_waiterFor⟩ rfl rfl ⟨by decide, by decide⟩ (Nat.le_of_ble_eq_true rfl) dX4_release_2 ?_
  refine g_istore_n X (pc := 5) [(3, pI v3), (0, pR (some a0)), (1, pI a1), (2, pI a2)] rfl (lt_n hn (by decide)) rfl dX4_release_5 ?_
  refine g_iload_n X (pc := 6) 0 rfl rfl dX4_release_6 ?_
  refine g_if_ge X (pc := 7) (tgt := 11) dX4_release_7 (by decide) (fun hc => ?_) (fun hc => ?_)
  · have h := (if_pos hc).symm.trans h
    refine g_aload_n X (pc := 11) 1 rfl rfl dX4_release_11 ?_
    obtain ⟨v4, ev4, h⟩ := bd h
    refine g_getR X (pc := 12) fk_4_14 rfl rfl ev4 tb_118 dX4_release_12 ?_
    refine g_iload_n X (pc := 15) 0 rfl rfl dX4_release_15 ?_
    obtain ⟨v5, ev5, h⟩ := bd h
    refine g_aaload X (pc := 16) (k := 3) rfl rfl (by decide) ev5 dX4_release_16 ?_
    refine g_astore X (pc := 17) [(4, pR v5), (3, pI v3), (0, pR (some a0)), (1, pI a1), (2, pI a2)] (lt_n hn (by decide)) rfl dX4_release_17 ?_
    refine g_aload_n X (pc := 19) 2 rfl rfl dX4_release_19 ?_
    refine g_iload_n X (pc := 20) 1 rfl rfl dX4_release_20 ?_
    obtain ⟨q6, eq6, h⟩ := bd h
    obtain ⟨M7, eM7, h⟩ := bd h
    refine g_callV X (pc := 21) (M' := M7) (ro := none) (c := 4) rfl (by decide) (as := [pI v3]) (as' := [pI v3]) (st := []) eq6 (ctX4_dropWaiter _ _ _ _ _ _ fu q6 v3 M2 _ eM7) tb_568 tb_565 tb_567 ts_9 tb_4 ⟨rfl, hyX4_dropWaiter⟩ rfl rfl ⟨by decide, by decide⟩ (Nat.le_of_ble_eq_true rfl) dX4_release_21 ?_
    refine g_aload X (pc := 24) 0 rfl dX4_release_24 ?_
    refine g_ifnull X (pc := 26) (tgt := 70) dX4_release_26 (by decide) (fun hc => ?_) (fun hc => ?_)
    · have h := (if_pos hc).symm.trans h
      obtain rfl := Option.some.inj h
      exact g_return X hE dX4_release_70
    · have h := (if_neg hc).symm.trans h
      refine g_aload_n X (pc := 29) 2 rfl rfl dX4_release_29 ?_
      refine g_aload X (pc := 30) 0 rfl dX4_release_30 ?_
      obtain ⟨v8, ev8, h⟩ := bd h
      refine g_getR X (pc := 32) fk_6_0 rfl rfl ev8 tb_542 dX4_release_32 ?_
      refine g_aload_n X (pc := 35) 2 rfl rfl dX4_release_35 ?_
      obtain ⟨v9, ev9, h⟩ := bd h
      refine g_getR X (pc := 36) fk_4_11 rfl rfl ev9 tb_115 dX4_release_36 ?_
      refine g_iload_n X (pc := 39) 4 rfl rfl dX4_release_39 ?_
      obtain ⟨v10, ev10, h⟩ := bd h
      refine g_iaload X (pc := 40) ev10 dX4_release_40 ?_
      refine g_aload_n X (pc := 41) 2 rfl rfl dX4_release_41 ?_
      obtain ⟨v11, ev11, h⟩ := bd h
      refine g_getR X (pc := 42) fk_4_12 rfl rfl ev11 tb_116 dX4_release_42 ?_
      refine g_iload_n X (pc := 45) 4 rfl rfl dX4_release_45 ?_
      obtain ⟨v12, ev12, h⟩ := bd h
      refine g_iaload X (pc := 46) ev12 dX4_release_46 ?_
      refine g_sipush X (pc := 47) (v := 2048) dX4_release_47 (by decide) ?_
      obtain ⟨q13, eq13, h⟩ := bd h
      obtain ⟨M14, eM14, h⟩ := bd h
      refine g_callV X (pc := 50) (M' := M14) (ro := none) (c := 4) rfl (by decide) (as := [pR v8, pI v10, pI v12, pI (2048 : Int32)]) (as' := [pI (2048 : Int32), pI v12, pI v10, pR v8]) (st := []) eq13 (ctX4_fillLink _ _ _ _ _ _ fu q13 v8 v10 v12 (2048 : Int32) M7 _ eM14) tb_530 tb_527 tb_529 ts_8 tb_4 ⟨rfl, hyX4_fillLink⟩ rfl rfl ⟨by decide, by decide⟩ (Nat.le_of_ble_eq_true rfl) dX4_release_50 ?_
      refine g_aload_n X (pc := 53) 2 rfl rfl dX4_release_53 ?_
      obtain ⟨v15, ev15, h⟩ := bd h
      refine g_getR X (pc := 54) fk_4_5 rfl rfl ev15 tb_109 dX4_release_54 ?_
      refine g_aload X (pc := 57) 0 rfl dX4_release_57 ?_
      obtain ⟨v16, ev16, h⟩ := bd h
      refine g_getR X (pc := 59) fk_6_0 rfl rfl ev16 tb_542 dX4_release_59 ?_
      refine g_aload X (pc := 62) 0 rfl dX4_release_62 ?_
      obtain ⟨v17, ev17, h⟩ := bd h
      refine g_getI X (pc := 64) fk_6_1 rfl rfl ev17 tb_545 dX4_release_64 ?_
      obtain ⟨q18, eq18, h⟩ := bd h
      obtain ⟨M19, eM19, h⟩ := bd h
      refine g_callV X (pc := 67) (M' := M19) (ro := none) (c := 10) rfl (by decide) (as := [pR v16, pI v17]) (as' := [pI v17, pR v16]) (st := []) eq18 (ctX10_put _ _ _ _ _ _ fu q18 v16 v17 M14 _ eM19) tb_534 tb_531 tb_532 tb_533 tb_3 ⟨rfl, hyX10_put⟩ rfl rfl ⟨by decide, by decide⟩ (Nat.le_of_ble_eq_true rfl) dX4_release_67 ?_
      obtain rfl := Option.some.inj h
      exact g_return X hE dX4_release_70
  · have h := (if_neg hc).symm.trans h
    obtain rfl := Option.some.inj h
    exact g_return X hE dX4_release_10
theorem hyX4_release : yX4_release.cls ≠ "java/lang/invoke/MethodHandle" ∧ yX4_release.cls ≠ "java/lang/invoke/VarHandle" ∧ (parseMethodDescriptor yX4_release.desc).map (fun d => d.parameters.length) = some 2 := ⟨by decide +kernel, by decide +kernel, by decide +kernel⟩
theorem ctX4_release (l : Launch) (E : Nat → Nat) (D : va_G) (dA : Nat → ClassId) (lo : Nat) (H0 : Heap) (fu : Nat) (a0 : Nat) (a1 : Int32) (a2 : Int32) (M : Mm) (out : Mm) (h : fX4_release fu a0 a1 a2 M = some out) : Ct l E D dA lo H0 yX4_release cX4_release 5 none 3 65 [pR (some a0), pI a1, pI a2] M none out := by
  refine ct_of (by decide +kernel) (Nat.le_of_ble_eq_true rfl) ?_
  intro x hl he hd ha ho hh hn hin X hE
  exact wX4_release X hE hn fu a0 a1 a2 M h
/-! WebHost$Link.takeArp([BI)V -/
def fX4_takeArp_L171 (fu : Nat)  (a0 : Nat) (a1 : Option Nat) (a3 : Int32) (a4 : Int32) (a5 : Int32)  (M : Mm) : Option (Mm) :=
    if a5 = 0 then (
    some M)
    else (
    if a3 = (1 : Int32) then (
    b2 (fX11_two fu  a1 (22 : Int32) M) fun v2 M1 =>
    b2 (fX11_four fu  a1 (24 : Int32) M1) fun v4 M3 =>
    (rc M3 4 (some a0)).bind fun q5 =>
    (fX4_fillArp fu q5 (2 : Int32) v2 v4 a4 M3).bind fun M6 =>
    (gR M6 4 256 (some a0)).bind fun v7 =>
    b2 (fX11_two fu  a1 (22 : Int32) M6) fun v9 M8 =>
    b2 (fX11_four fu  a1 (24 : Int32) M8) fun v11 M10 =>
    (rc M10 4 (some a0)).bind fun q12 =>
    (fX4_fillLink fu q12 v7 v9 v11 (2054 : Int32) M10).bind fun M13 =>
    (gR M13 4 261 (some a0)).bind fun v14 =>
    (gR M13 4 256 (some a0)).bind fun v15 =>
    (rc M13 10 v14).bind fun q16 =>
    (fX10_put fu q16 v15 (42 : Int32) M13).bind fun M17 =>
    some M17)
    else (
    some M))
def fX4_takeArp_L109 (fu : Nat)  (a0 : Nat) (a1 : Option Nat) (a3 : Int32) (a4 : Int32) (a5 : Int32) (a6 : Int32)  (M : Mm) : Option (Mm) :=
    if a6 < 0 then (
    fX4_takeArp_L171 fu  a0 a1 a3 a4 a5 M)
    else (
    (gR M 4 266 (some a0)).bind fun v1 =>
    (pA M 101 v1 a6 a4).bind fun M2 =>
    (gR M2 4 267 (some a0)).bind fun v3 =>
    b2 (fX11_two fu  a1 (22 : Int32) M2) fun v5 M4 =>
    (pA M4 101 v3 a6 v5).bind fun M6 =>
    (gR M6 4 268 (some a0)).bind fun v7 =>
    b2 (fX11_four fu  a1 (24 : Int32) M6) fun v9 M8 =>
    (pA M8 101 v7 a6 v9).bind fun M10 =>
    (gR M10 4 269 (some a0)).bind fun v11 =>
    (gR M10 4 261 (some a0)).bind fun v12 =>
    (gI M10 10 641 v12).bind fun v13 =>
    (pA M10 101 v11 a6 v13).bind fun M14 =>
    (rc M14 4 (some a0)).bind fun q15 =>
    (fX4_release fu q15 a4 a6 M14).bind fun M16 =>
    fX4_takeArp_L171 fu  a0 a1 a3 a4 a5 M16)
def fX4_takeArp_L74 (fu : Nat)  (a0 : Nat) (a1 : Option Nat) (a3 : Int32) (a4 : Int32) (s0 : Int32) (M : Mm) : Option (Mm) :=
    (rc M 4 (some a0)).bind fun q1 =>
    b2 (fX4_entryOf fu q1 a4 M) fun v3 M2 =>
    if 0 ≤ v3 then (
    fX4_takeArp_L109 fu  a0 a1 a3 a4 s0 v3 M2)
    else (
    if s0 = 0 then (
    fX4_takeArp_L109 fu  a0 a1 a3 a4 s0 v3 M2)
    else (
    (gI M2 4 257 (some a0)).bind fun v4 =>
    if a4 = v4 then (
    fX4_takeArp_L109 fu  a0 a1 a3 a4 s0 v3 M2)
    else (
    (rc M2 4 (some a0)).bind fun q5 =>
    b2 (fX4_newEntry fu q5  M2) fun v7 M6 =>
    fX4_takeArp_L109 fu  a0 a1 a3 a4 s0 v7 M6)))
def fX4_takeArp_L48 (fu : Nat)  (a0 : Nat) (a1 : Option Nat) (a3 : Int32)  (M : Mm) : Option (Mm) :=
    b2 (fX11_four fu  a1 (28 : Int32) M) fun v2 M1 =>
    b2 (fX11_four fu  a1 (38 : Int32) M1) fun v4 M3 =>
    (gI M3 4 257 (some a0)).bind fun v5 =>
    if v4 = v5 then (
    fX4_takeArp_L74 fu  a0 a1 a3 v2 (1 : Int32) M3)
    else (
    fX4_takeArp_L74 fu  a0 a1 a3 v2 (0 : Int32) M3)
def fX4_takeArp (fu : Nat)  (a0 : Nat) (a1 : Option Nat) (a2 : Int32)  (M : Mm) : Option (Mm) :=
    if a2 < (42 : Int32) then (
    some M)
    else (
    b2 (fX11_four fu  a1 (14 : Int32) M) fun v2 M1 =>
    if v2 = (67584 : Int32) then (
    b2 (fX11_two fu  a1 (18 : Int32) M1) fun v4 M3 =>
    if v4 = (1540 : Int32) then (
    b2 (fX11_two fu  a1 (20 : Int32) M3) fun v6 M5 =>
    if v6 = (1 : Int32) then (
    fX4_takeArp_L48 fu  a0 a1 v6 M5)
    else (
    if v6 = (2 : Int32) then (
    fX4_takeArp_L48 fu  a0 a1 v6 M5)
    else (
    some M5)))
    else (
    some M3))
    else (
    some M1))
theorem dX4_takeArp_0 : decode cX4_takeArp 0 = .ok (.iload_n 2, 1) := by decide +kernel
theorem dX4_takeArp_1 : decode cX4_takeArp 1 = .ok (.bipush 42, 2) := by decide +kernel
theorem dX4_takeArp_3 : decode cX4_takeArp 3 = .ok (.if_icmp .lt 26, 3) := by decide +kernel
theorem dX4_takeArp_6 : decode cX4_takeArp 6 = .ok (.aload_n 1, 1) := by decide +kernel
theorem dX4_takeArp_7 : decode cX4_takeArp 7 = .ok (.bipush 14, 2) := by decide +kernel
theorem dX4_takeArp_9 : decode cX4_takeArp 9 = .ok (.invokestatic 73, 3) := by decide +kernel
theorem dX4_takeArp_12 : decode cX4_takeArp 12 = .ok (.ldc 77, 2) := by decide +kernel
theorem dX4_takeArp_14 : decode cX4_takeArp 14 = .ok (.if_icmp .ne 15, 3) := by decide +kernel
theorem dX4_takeArp_17 : decode cX4_takeArp 17 = .ok (.aload_n 1, 1) := by decide +kernel
theorem dX4_takeArp_18 : decode cX4_takeArp 18 = .ok (.bipush 18, 2) := by decide +kernel
theorem dX4_takeArp_20 : decode cX4_takeArp 20 = .ok (.invokestatic 78, 3) := by decide +kernel
theorem dX4_takeArp_23 : decode cX4_takeArp 23 = .ok (.sipush 1540, 3) := by decide +kernel
theorem dX4_takeArp_26 : decode cX4_takeArp 26 = .ok (.if_icmp .eq 4, 3) := by decide +kernel
theorem dX4_takeArp_29 : decode cX4_takeArp 29 = .ok (.return_, 1) := by decide +kernel
theorem dX4_takeArp_30 : decode cX4_takeArp 30 = .ok (.aload_n 1, 1) := by decide +kernel
theorem dX4_takeArp_31 : decode cX4_takeArp 31 = .ok (.bipush 20, 2) := by decide +kernel
theorem dX4_takeArp_33 : decode cX4_takeArp 33 = .ok (.invokestatic 78, 3) := by decide +kernel
theorem dX4_takeArp_36 : decode cX4_takeArp 36 = .ok (.istore_n 3, 1) := by decide +kernel
theorem dX4_takeArp_37 : decode cX4_takeArp 37 = .ok (.iload_n 3, 1) := by decide +kernel
theorem dX4_takeArp_38 : decode cX4_takeArp 38 = .ok (.iconst 1, 1) := by decide +kernel
theorem dX4_takeArp_39 : decode cX4_takeArp 39 = .ok (.if_icmp .eq 9, 3) := by decide +kernel
theorem dX4_takeArp_42 : decode cX4_takeArp 42 = .ok (.iload_n 3, 1) := by decide +kernel
theorem dX4_takeArp_43 : decode cX4_takeArp 43 = .ok (.iconst 2, 1) := by decide +kernel
theorem dX4_takeArp_44 : decode cX4_takeArp 44 = .ok (.if_icmp .eq 4, 3) := by decide +kernel
theorem dX4_takeArp_47 : decode cX4_takeArp 47 = .ok (.return_, 1) := by decide +kernel
theorem dX4_takeArp_48 : decode cX4_takeArp 48 = .ok (.aload_n 1, 1) := by decide +kernel
theorem dX4_takeArp_49 : decode cX4_takeArp 49 = .ok (.bipush 28, 2) := by decide +kernel
theorem dX4_takeArp_51 : decode cX4_takeArp 51 = .ok (.invokestatic 73, 3) := by decide +kernel
theorem dX4_takeArp_54 : decode cX4_takeArp 54 = .ok (.istore 4, 2) := by decide +kernel
theorem dX4_takeArp_56 : decode cX4_takeArp 56 = .ok (.aload_n 1, 1) := by decide +kernel
theorem dX4_takeArp_57 : decode cX4_takeArp 57 = .ok (.bipush 38, 2) := by decide +kernel
theorem dX4_takeArp_59 : decode cX4_takeArp 59 = .ok (.invokestatic 73, 3) := by decide +kernel
theorem dX4_takeArp_62 : decode cX4_takeArp 62 = .ok (.aload_n 0, 1) := by decide +kernel
theorem dX4_takeArp_63 : decode cX4_takeArp 63 = .ok (.getfield 38, 3) := by decide +kernel
theorem dX4_takeArp_66 : decode cX4_takeArp 66 = .ok (.if_icmp .ne 7, 3) := by decide +kernel
theorem dX4_takeArp_69 : decode cX4_takeArp 69 = .ok (.iconst 1, 1) := by decide +kernel
theorem dX4_takeArp_70 : decode cX4_takeArp 70 = .ok (.goto 4, 3) := by decide +kernel
theorem dX4_takeArp_73 : decode cX4_takeArp 73 = .ok (.iconst 0, 1) := by decide +kernel
theorem dX4_takeArp_74 : decode cX4_takeArp 74 = .ok (.istore 5, 2) := by decide +kernel
theorem dX4_takeArp_76 : decode cX4_takeArp 76 = .ok (.aload_n 0, 1) := by decide +kernel
theorem dX4_takeArp_77 : decode cX4_takeArp 77 = .ok (.iload 4, 2) := by decide +kernel
theorem dX4_takeArp_79 : decode cX4_takeArp 79 = .ok (.invokevirtual 63, 3) := by decide +kernel
theorem dX4_takeArp_82 : decode cX4_takeArp 82 = .ok (.istore 6, 2) := by decide +kernel
theorem dX4_takeArp_84 : decode cX4_takeArp 84 = .ok (.iload 6, 2) := by decide +kernel
theorem dX4_takeArp_86 : decode cX4_takeArp 86 = .ok (.ifCond .ge 23, 3) := by decide +kernel
theorem dX4_takeArp_89 : decode cX4_takeArp 89 = .ok (.iload 5, 2) := by decide +kernel
theorem dX4_takeArp_91 : decode cX4_takeArp 91 = .ok (.ifCond .eq 18, 3) := by decide +kernel
theorem dX4_takeArp_94 : decode cX4_takeArp 94 = .ok (.iload 4, 2) := by decide +kernel
theorem dX4_takeArp_96 : decode cX4_takeArp 96 = .ok (.aload_n 0, 1) := by decide +kernel
theorem dX4_takeArp_97 : decode cX4_takeArp 97 = .ok (.getfield 38, 3) := by decide +kernel
theorem dX4_takeArp_100 : decode cX4_takeArp 100 = .ok (.if_icmp .eq 9, 3) := by decide +kernel
theorem dX4_takeArp_103 : decode cX4_takeArp 103 = .ok (.aload_n 0, 1) := by decide +kernel
theorem dX4_takeArp_104 : decode cX4_takeArp 104 = .ok (.invokevirtual 81, 3) := by decide +kernel
theorem dX4_takeArp_107 : decode cX4_takeArp 107 = .ok (.istore 6, 2) := by decide +kernel
theorem dX4_takeArp_109 : decode cX4_takeArp 109 = .ok (.iload 6, 2) := by decide +kernel
theorem dX4_takeArp_111 : decode cX4_takeArp 111 = .ok (.ifCond .lt 60, 3) := by decide +kernel
theorem dX4_takeArp_114 : decode cX4_takeArp 114 = .ok (.aload_n 0, 1) := by decide +kernel
theorem dX4_takeArp_115 : decode cX4_takeArp 115 = .ok (.getfield 19, 3) := by decide +kernel
theorem dX4_takeArp_118 : decode cX4_takeArp 118 = .ok (.iload 6, 2) := by decide +kernel
theorem dX4_takeArp_120 : decode cX4_takeArp 120 = .ok (.iload 4, 2) := by decide +kernel
theorem dX4_takeArp_122 : decode cX4_takeArp 122 = .ok (.iastore, 1) := by decide +kernel
theorem dX4_takeArp_123 : decode cX4_takeArp 123 = .ok (.aload_n 0, 1) := by decide +kernel
theorem dX4_takeArp_124 : decode cX4_takeArp 124 = .ok (.getfield 23, 3) := by decide +kernel
theorem dX4_takeArp_127 : decode cX4_takeArp 127 = .ok (.iload 6, 2) := by decide +kernel
theorem dX4_takeArp_129 : decode cX4_takeArp 129 = .ok (.aload_n 1, 1) := by decide +kernel
theorem dX4_takeArp_130 : decode cX4_takeArp 130 = .ok (.bipush 22, 2) := by decide +kernel
theorem dX4_takeArp_132 : decode cX4_takeArp 132 = .ok (.invokestatic 78, 3) := by decide +kernel
theorem dX4_takeArp_135 : decode cX4_takeArp 135 = .ok (.iastore, 1) := by decide +kernel
theorem dX4_takeArp_136 : decode cX4_takeArp 136 = .ok (.aload_n 0, 1) := by decide +kernel
theorem dX4_takeArp_137 : decode cX4_takeArp 137 = .ok (.getfield 26, 3) := by decide +kernel
theorem dX4_takeArp_140 : decode cX4_takeArp 140 = .ok (.iload 6, 2) := by decide +kernel
theorem dX4_takeArp_142 : decode cX4_takeArp 142 = .ok (.aload_n 1, 1) := by decide +kernel
theorem dX4_takeArp_143 : decode cX4_takeArp 143 = .ok (.bipush 24, 2) := by decide +kernel
theorem dX4_takeArp_145 : decode cX4_takeArp 145 = .ok (.invokestatic 73, 3) := by decide +kernel
theorem dX4_takeArp_148 : decode cX4_takeArp 148 = .ok (.iastore, 1) := by decide +kernel
theorem dX4_takeArp_149 : decode cX4_takeArp 149 = .ok (.aload_n 0, 1) := by decide +kernel
theorem dX4_takeArp_150 : decode cX4_takeArp 150 = .ok (.getfield 29, 3) := by decide +kernel
theorem dX4_takeArp_153 : decode cX4_takeArp 153 = .ok (.iload 6, 2) := by decide +kernel
theorem dX4_takeArp_155 : decode cX4_takeArp 155 = .ok (.aload_n 0, 1) := by decide +kernel
theorem dX4_takeArp_156 : decode cX4_takeArp 156 = .ok (.getfield 9, 3) := by decide +kernel
theorem dX4_takeArp_159 : decode cX4_takeArp 159 = .ok (.getfield 67, 3) := by decide +kernel
theorem dX4_takeArp_162 : decode cX4_takeArp 162 = .ok (.iastore, 1) := by decide +kernel
theorem dX4_takeArp_163 : decode cX4_takeArp 163 = .ok (.aload_n 0, 1) := by decide +kernel
theorem dX4_takeArp_164 : decode cX4_takeArp 164 = .ok (.iload 4, 2) := by decide +kernel
theorem dX4_takeArp_166 : decode cX4_takeArp 166 = .ok (.iload 6, 2) := by decide +kernel
theorem dX4_takeArp_168 : decode cX4_takeArp 168 = .ok (.invokevirtual 85, 3) := by decide +kernel
theorem dX4_takeArp_171 : decode cX4_takeArp 171 = .ok (.iload 5, 2) := by decide +kernel
theorem dX4_takeArp_173 : decode cX4_takeArp 173 = .ok (.ifCond .eq 63, 3) := by decide +kernel
theorem dX4_takeArp_176 : decode cX4_takeArp 176 = .ok (.iload_n 3, 1) := by decide +kernel
theorem dX4_takeArp_177 : decode cX4_takeArp 177 = .ok (.iconst 1, 1) := by decide +kernel
theorem dX4_takeArp_178 : decode cX4_takeArp 178 = .ok (.if_icmp .ne 58, 3) := by decide +kernel
theorem dX4_takeArp_181 : decode cX4_takeArp 181 = .ok (.aload_n 0, 1) := by decide +kernel
theorem dX4_takeArp_182 : decode cX4_takeArp 182 = .ok (.iconst 2, 1) := by decide +kernel
theorem dX4_takeArp_183 : decode cX4_takeArp 183 = .ok (.aload_n 1, 1) := by decide +kernel
theorem dX4_takeArp_184 : decode cX4_takeArp 184 = .ok (.bipush 22, 2) := by decide +kernel
theorem dX4_takeArp_186 : decode cX4_takeArp 186 = .ok (.invokestatic 78, 3) := by decide +kernel
theorem dX4_takeArp_189 : decode cX4_takeArp 189 = .ok (.aload_n 1, 1) := by decide +kernel
theorem dX4_takeArp_190 : decode cX4_takeArp 190 = .ok (.bipush 24, 2) := by decide +kernel
theorem dX4_takeArp_192 : decode cX4_takeArp 192 = .ok (.invokestatic 73, 3) := by decide +kernel
theorem dX4_takeArp_195 : decode cX4_takeArp 195 = .ok (.iload 4, 2) := by decide +kernel
theorem dX4_takeArp_197 : decode cX4_takeArp 197 = .ok (.invokevirtual 89, 3) := by decide +kernel
theorem dX4_takeArp_200 : decode cX4_takeArp 200 = .ok (.aload_n 0, 1) := by decide +kernel
theorem dX4_takeArp_201 : decode cX4_takeArp 201 = .ok (.aload_n 0, 1) := by decide +kernel
theorem dX4_takeArp_202 : decode cX4_takeArp 202 = .ok (.getfield 15, 3) := by decide +kernel
theorem dX4_takeArp_205 : decode cX4_takeArp 205 = .ok (.aload_n 1, 1) := by decide +kernel
theorem dX4_takeArp_206 : decode cX4_takeArp 206 = .ok (.bipush 22, 2) := by decide +kernel
theorem dX4_takeArp_208 : decode cX4_takeArp 208 = .ok (.invokestatic 78, 3) := by decide +kernel
theorem dX4_takeArp_211 : decode cX4_takeArp 211 = .ok (.aload_n 1, 1) := by decide +kernel
theorem dX4_takeArp_212 : decode cX4_takeArp 212 = .ok (.bipush 24, 2) := by decide +kernel
theorem dX4_takeArp_214 : decode cX4_takeArp 214 = .ok (.invokestatic 73, 3) := by decide +kernel
theorem dX4_takeArp_217 : decode cX4_takeArp 217 = .ok (.sipush 2054, 3) := by decide +kernel
theorem dX4_takeArp_220 : decode cX4_takeArp 220 = .ok (.invokevirtual 93, 3) := by decide +kernel
theorem dX4_takeArp_223 : decode cX4_takeArp 223 = .ok (.aload_n 0, 1) := by decide +kernel
theorem dX4_takeArp_224 : decode cX4_takeArp 224 = .ok (.getfield 9, 3) := by decide +kernel
theorem dX4_takeArp_227 : decode cX4_takeArp 227 = .ok (.aload_n 0, 1) := by decide +kernel
theorem dX4_takeArp_228 : decode cX4_takeArp 228 = .ok (.getfield 15, 3) := by decide +kernel
theorem dX4_takeArp_231 : decode cX4_takeArp 231 = .ok (.bipush 42, 2) := by decide +kernel
theorem dX4_takeArp_233 : decode cX4_takeArp 233 = .ok (.invokevirtual 97, 3) := by decide +kernel
theorem dX4_takeArp_236 : decode cX4_takeArp 236 = .ok (.return_, 1) := by decide +kernel
theorem wX4_takeArp_L171 {x : GX} {n0 sl0 : Nat} (X : Cx x cX4_takeArp RX4 none n0 sl0 4 89) {out : Mm} (hE : Ends x n0 sl0 none out) (hn : xn x = 7) (fu : Nat)   (a0 : Nat) (a1 : Option Nat) (a3 : Int32) (a4 : Int32) (a5 : Int32)  (M : Mm) (h : fX4_takeArp_L171 fu  a0 a1 a3 a4 a5 M = some out) : Gw x M 171 [(0, pR (some a0)), (1, pR a1), (3, pI a3), (4, pI a4), (5, pI a5)] [] := by
  unfold fX4_takeArp_L171 at h
  refine g_iload X (pc := 171) 4 rfl dX4_takeArp_171 ?_
  refine g_if_eq X (pc := 173) (tgt := 236) dX4_takeArp_173 (by decide) (fun hc => ?_) (fun hc => ?_)
  · have h := (if_pos hc).symm.trans h
    obtain rfl := Option.some.inj h
    exact g_return X hE dX4_takeArp_236
  · have h := (if_neg hc).symm.trans h
    refine g_iload_n X (pc := 176) 2 rfl rfl dX4_takeArp_176 ?_
    refine g_iconst X (pc := 177) (v := 1) dX4_takeArp_177 (by decide) ?_
    refine g_icmp_ne X (pc := 178) (tgt := 236) dX4_takeArp_178 (by decide) (fun hc => ?_) (fun hc => ?_)
    · have h := (if_neg hc).symm.trans h
      obtain rfl := Option.some.inj h
      exact g_return X hE dX4_takeArp_236
    · have h := (if_pos hc).symm.trans h
      refine g_aload_n X (pc := 181) 0 rfl rfl dX4_takeArp_181 ?_
      refine g_iconst X (pc := 182) (v := 2) dX4_takeArp_182 (by decide) ?_
      refine g_aload_n X (pc := 183) 1 rfl rfl dX4_takeArp_183 ?_
      refine g_bipush X (pc := 184) (v := 22) dX4_takeArp_184 (by decide) ?_
      obtain ⟨v2, M1, eM1, h⟩ := b2d h
      refine g_callSN X (pc := 186) (M' := M1) (ro := some (pI v2)) (as := [pR a1, pI (22 : Int32)]) (as' := [pI (22 : Int32), pR a1]) (st := [pI (2 : Int32), pR (some a0)]) (ctX11_two _ _ _ _ _ _ fu  a1 (22 : Int32) M _ eM1) tb_398 (List.mem_of_getElem? (i := 18) rfl) tb_397 tb_1 hyX11_two rfl rfl ⟨by decide, by decide⟩ (Nat.le_of_ble_eq_true rfl) dX4_takeArp_186 ?_
      refine g_aload_n X (pc := 189) 1 rfl rfl dX4_takeArp_189 ?_
      refine g_bipush X (pc := 190) (v := 24) dX4_takeArp_190 (by decide) ?_
      obtain ⟨v4, M3, eM3, h⟩ := b2d h
      refine g_callSN X (pc := 192) (M' := M3) (ro := some (pI v4)) (as := [pR a1, pI (24 : Int32)]) (as' := [pI (24 : Int32), pR a1]) (st := [pI v2, pI (2 : Int32), pR (some a0)]) (ctX11_four _ _ _ _ _ _ fu  a1 (24 : Int32) M1 _ eM3) tb_394 (List.mem_of_getElem? (i := 17) rfl) tb_393 tb_1 hyX11_four rfl rfl ⟨by decide, by decide⟩ (Nat.le_of_ble_eq_true rfl) dX4_takeArp_192 ?_
      refine g_iload X (pc := 195) 3 rfl dX4_takeArp_195 ?_
      obtain ⟨q5, eq5, h⟩ := bd h
      obtain ⟨M6, eM6, h⟩ := bd h
      refine g_callV X (pc := 197) (M' := M6) (ro := none) (c := 4) rfl (by decide) (as := [pI (2 : Int32), pI v2, pI v4, pI a4]) (as' := [pI a4, pI v4, pI v2, pI (2 : Int32)]) (st := []) eq5 (ctX4_fillArp _ _ _ _ _ _ fu q5 (2 : Int32) v2 v4 a4 M3 _ eM6) tb_520 tb_517 tb_519 ts_7 tb_4 ⟨rfl, hyX4_fillArp⟩ rfl rfl ⟨by decide, by decide⟩ (Nat.le_of_ble_eq_true rfl) dX4_takeArp_197 ?_
      refine g_aload_n X (pc := 200) 0 rfl rfl dX4_takeArp_200 ?_
      refine g_aload_n X (pc := 201) 0 rfl rfl dX4_takeArp_201 ?_
      obtain ⟨v7, ev7, h⟩ := bd h
      refine g_getR X (pc := 202) fk_4_0 rfl rfl ev7 tb_97 dX4_takeArp_202 ?_
      refine g_aload_n X (pc := 205) 1 rfl rfl dX4_takeArp_205 ?_
      refine g_bipush X (pc := 206) (v := 22) dX4_takeArp_206 (by decide) ?_
      obtain ⟨v9, M8, eM8, h⟩ := b2d h
      refine g_callSN X (pc := 208) (M' := M8) (ro := some (pI v9)) (as := [pR a1, pI (22 : Int32)]) (as' := [pI (22 : Int32), pR a1]) (st := [pR v7, pR (some a0)]) (ctX11_two _ _ _ _ _ _ fu  a1 (22 : Int32) M6 _ eM8) tb_398 (List.mem_of_getElem? (i := 18) rfl) tb_397 tb_1 hyX11_two rfl rfl ⟨by decide, by decide⟩ (Nat.le_of_ble_eq_true rfl) dX4_takeArp_208 ?_
      refine g_aload_n X (pc := 211) 1 rfl rfl dX4_takeArp_211 ?_
      refine g_bipush X (pc := 212) (v := 24) dX4_takeArp_212 (by decide) ?_
      obtain ⟨v11, M10, eM10, h⟩ := b2d h
      refine g_callSN X (pc := 214) (M' := M10) (ro := some (pI v11)) (as := [pR a1, pI (24 : Int32)]) (as' := [pI (24 : Int32), pR a1]) (st := [pI v9, pR v7, pR (some a0)]) (ctX11_four _ _ _ _ _ _ fu  a1 (24 : Int32) M8 _ eM10) tb_394 (List.mem_of_getElem? (i := 17) rfl) tb_393 tb_1 hyX11_four rfl rfl ⟨by decide, by decide⟩ (Nat.le_of_ble_eq_true rfl) dX4_takeArp_214 ?_
      refine g_sipush X (pc := 217) (v := 2054) dX4_takeArp_217 (by decide) ?_
      obtain ⟨q12, eq12, h⟩ := bd h
      obtain ⟨M13, eM13, h⟩ := bd h
      refine g_callV X (pc := 220) (M' := M13) (ro := none) (c := 4) rfl (by decide) (as := [pR v7, pI v9, pI v11, pI (2054 : Int32)]) (as' := [pI (2054 : Int32), pI v11, pI v9, pR v7]) (st := []) eq12 (ctX4_fillLink _ _ _ _ _ _ fu q12 v7 v9 v11 (2054 : Int32) M10 _ eM13) tb_530 tb_527 tb_529 ts_8 tb_4 ⟨rfl, hyX4_fillLink⟩ rfl rfl ⟨by decide, by decide⟩ (Nat.le_of_ble_eq_true rfl) dX4_takeArp_220 ?_
      refine g_aload_n X (pc := 223) 0 rfl rfl dX4_takeArp_223 ?_
      obtain ⟨v14, ev14, h⟩ := bd h
      refine g_getR X (pc := 224) fk_4_5 rfl rfl ev14 tb_109 dX4_takeArp_224 ?_
      refine g_aload_n X (pc := 227) 0 rfl rfl dX4_takeArp_227 ?_
      obtain ⟨v15, ev15, h⟩ := bd h
      refine g_getR X (pc := 228) fk_4_0 rfl rfl ev15 tb_97 dX4_takeArp_228 ?_
      refine g_bipush X (pc := 231) (v := 42) dX4_takeArp_231 (by decide) ?_
      obtain ⟨q16, eq16, h⟩ := bd h
      obtain ⟨M17, eM17, h⟩ := bd h
      refine g_callV X (pc := 233) (M' := M17) (ro := none) (c := 10) rfl (by decide) (as := [pR v15, pI (42 : Int32)]) (as' := [pI (42 : Int32), pR v15]) (st := []) eq16 (ctX10_put _ _ _ _ _ _ fu q16 v15 (42 : Int32) M13 _ eM17) tb_534 tb_531 tb_532 tb_533 tb_3 ⟨rfl, hyX10_put⟩ rfl rfl ⟨by decide, by decide⟩ (Nat.le_of_ble_eq_true rfl) dX4_takeArp_233 ?_
      obtain rfl := Option.some.inj h
      exact g_return X hE dX4_takeArp_236
theorem wX4_takeArp_L109 {x : GX} {n0 sl0 : Nat} (X : Cx x cX4_takeArp RX4 none n0 sl0 4 89) {out : Mm} (hE : Ends x n0 sl0 none out) (hn : xn x = 7) (fu : Nat)   (a0 : Nat) (a1 : Option Nat) (a3 : Int32) (a4 : Int32) (a5 : Int32) (a6 : Int32)  (M : Mm) (h : fX4_takeArp_L109 fu  a0 a1 a3 a4 a5 a6 M = some out) : Gw x M 109 [(0, pR (some a0)), (1, pR a1), (3, pI a3), (4, pI a4), (5, pI a5), (6, pI a6)] [] := by
  unfold fX4_takeArp_L109 at h
  refine g_iload X (pc := 109) 5 rfl dX4_takeArp_109 ?_
  refine g_if_lt X (pc := 111) (tgt := 171) dX4_takeArp_111 (by decide) (fun hc => ?_) (fun hc => ?_)
  · have h := (if_pos hc).symm.trans h
    refine g_sub [0, 1, 2, 3, 4] [(0, pR (some a0)), (1, pR a1), (3, pI a3), (4, pI a4), (5, pI a5)] rfl ?_
    exact wX4_takeArp_L171 X hE hn fu   a0 a1 a3 a4 a5 M h
  · have h := (if_neg hc).symm.trans h
    refine g_aload_n X (pc := 114) 0 rfl rfl dX4_takeArp_114 ?_
    obtain ⟨v1, ev1, h⟩ := bd h
    refine g_getR X (pc := 115) fk_4_10 rfl rfl ev1 tb_114 dX4_takeArp_115 ?_
    refine g_iload X (pc := 118) 5 rfl dX4_takeArp_118 ?_
    refine g_iload X (pc := 120) 3 rfl dX4_takeArp_120 ?_
    obtain ⟨M2, eM2, h⟩ := bd h
    refine g_iastore X (pc := 122) eM2 dX4_takeArp_122 ?_
    refine g_aload_n X (pc := 123) 0 rfl rfl dX4_takeArp_123 ?_
    obtain ⟨v3, ev3, h⟩ := bd h
    refine g_getR X (pc := 124) fk_4_11 rfl rfl ev3 tb_115 dX4_takeArp_124 ?_
    refine g_iload X (pc := 127) 5 rfl dX4_takeArp_127 ?_
    refine g_aload_n X (pc := 129) 1 rfl rfl dX4_takeArp_129 ?_
    refine g_bipush X (pc := 130) (v := 22) dX4_takeArp_130 (by decide) ?_
    obtain ⟨v5, M4, eM4, h⟩ := b2d h
    refine g_callSN X (pc := 132) (M' := M4) (ro := some (pI v5)) (as := [pR a1, pI (22 : Int32)]) (as' := [pI (22 : Int32), pR a1]) (st := [pI a6, pR v3]) (ctX11_two _ _ _ _ _ _ fu  a1 (22 : Int32) M2 _ eM4) tb_398 (List.mem_of_getElem? (i := 18) rfl) tb_397 tb_1 hyX11_two rfl rfl ⟨by decide, by decide⟩ (Nat.le_of_ble_eq_true rfl) dX4_takeArp_132 ?_
    obtain ⟨M6, eM6, h⟩ := bd h
    refine g_iastore X (pc := 135) eM6 dX4_takeArp_135 ?_
    refine g_aload_n X (pc := 136) 0 rfl rfl dX4_takeArp_136 ?_
    obtain ⟨v7, ev7, h⟩ := bd h
    refine g_getR X (pc := 137) fk_4_12 rfl rfl ev7 tb_116 dX4_takeArp_137 ?_
    refine g_iload X (pc := 140) 5 rfl dX4_takeArp_140 ?_
    refine g_aload_n X (pc := 142) 1 rfl rfl dX4_takeArp_142 ?_
    refine g_bipush X (pc := 143) (v := 24) dX4_takeArp_143 (by decide) ?_
    obtain ⟨v9, M8, eM8, h⟩ := b2d h
    refine g_callSN X (pc := 145) (M' := M8) (ro := some (pI v9)) (as := [pR a1, pI (24 : Int32)]) (as' := [pI (24 : Int32), pR a1]) (st := [pI a6, pR v7]) (ctX11_four _ _ _ _ _ _ fu  a1 (24 : Int32) M6 _ eM8) tb_394 (List.mem_of_getElem? (i := 17) rfl) tb_393 tb_1 hyX11_four rfl rfl ⟨by decide, by decide⟩ (Nat.le_of_ble_eq_true rfl) dX4_takeArp_145 ?_
    obtain ⟨M10, eM10, h⟩ := bd h
    refine g_iastore X (pc := 148) eM10 dX4_takeArp_148 ?_
    refine g_aload_n X (pc := 149) 0 rfl rfl dX4_takeArp_149 ?_
    obtain ⟨v11, ev11, h⟩ := bd h
    refine g_getR X (pc := 150) fk_4_13 rfl rfl ev11 tb_117 dX4_takeArp_150 ?_
    refine g_iload X (pc := 153) 5 rfl dX4_takeArp_153 ?_
    refine g_aload_n X (pc := 155) 0 rfl rfl dX4_takeArp_155 ?_
    obtain ⟨v12, ev12, h⟩ := bd h
    refine g_getR X (pc := 156) fk_4_5 rfl rfl ev12 tb_109 dX4_takeArp_156 ?_
    obtain ⟨v13, ev13, h⟩ := bd h
    refine g_getI X (pc := 159) fk_10_1 rfl rfl ev13 tb_68 dX4_takeArp_159 ?_
    obtain ⟨M14, eM14, h⟩ := bd h
    refine g_iastore X (pc := 162) eM14 dX4_takeArp_162 ?_
    refine g_aload_n X (pc := 163) 0 rfl rfl dX4_takeArp_163 ?_
    refine g_iload X (pc := 164) 3 rfl dX4_takeArp_164 ?_
    refine g_iload X (pc := 166) 5 rfl dX4_takeArp_166 ?_
    obtain ⟨q15, eq15, h⟩ := bd h
    obtain ⟨M16, eM16, h⟩ := bd h
    refine g_callV X (pc := 168) (M' := M16) (ro := none) (c := 4) rfl (by decide) (as := [pI a4, pI a6]) (as' := [pI a6, pI a4]) (st := []) eq15 (ctX4_release _ _ _ _ _ _ fu q15 a4 a6 M14 _ eM16) tb_806 tb_803 tb_805 ts_27 tb_4 ⟨rfl, hyX4_release⟩ rfl rfl ⟨by decide, by decide⟩ (Nat.le_of_ble_eq_true rfl) dX4_takeArp_168 ?_
    refine g_sub [0, 1, 2, 3, 4] [(0, pR (some a0)), (1, pR a1), (3, pI a3), (4, pI a4), (5, pI a5)] rfl ?_
    exact wX4_takeArp_L171 X hE hn fu   a0 a1 a3 a4 a5 M16 h
theorem wX4_takeArp_L74 {x : GX} {n0 sl0 : Nat} (X : Cx x cX4_takeArp RX4 none n0 sl0 4 89) {out : Mm} (hE : Ends x n0 sl0 none out) (hn : xn x = 7) (fu : Nat)   (a0 : Nat) (a1 : Option Nat) (a3 : Int32) (a4 : Int32) (s0 : Int32) (M : Mm) (h : fX4_takeArp_L74 fu  a0 a1 a3 a4 s0 M = some out) : Gw x M 74 [(0, pR (some a0)), (1, pR a1), (3, pI a3), (4, pI a4)] [pI s0] := by
  unfold fX4_takeArp_L74 at h
  refine g_istore X (pc := 74) [(5, pI s0), (0, pR (some a0)), (1, pR a1), (3, pI a3), (4, pI a4)] (lt_n hn (by decide)) rfl dX4_takeArp_74 ?_
  refine g_aload_n X (pc := 76) 1 rfl rfl dX4_takeArp_76 ?_
  refine g_iload X (pc := 77) 4 rfl dX4_takeArp_77 ?_
  obtain ⟨q1, eq1, h⟩ := bd h
  obtain ⟨v3, M2, eM2, h⟩ := b2d h
  refine g_callV X (pc := 79) (M' := M2) (ro := some (pI v3)) (c := 4) rfl (by decide) (as := [pI a4]) (as' := [pI a4]) (st := []) eq1 (ctX4_entryOf _ _ _ _ _ _ fu q1 a4 M _ eM2) tb_640 tb_637 tb_639 ts_16 tb_4 ⟨rfl, hyX4_entryOf⟩ rfl rfl ⟨by decide, by decide⟩ (Nat.le_of_ble_eq_true rfl) dX4_takeArp_79 ?_
  refine g_istore X (pc := 82) [(6, pI v3), (5, pI s0), (0, pR (some a0)), (1, pR a1), (3, pI a3), (4, pI a4)] (lt_n hn (by decide)) rfl dX4_takeArp_82 ?_
  refine g_iload X (pc := 84) 0 rfl dX4_takeArp_84 ?_
  refine g_if_ge X (pc := 86) (tgt := 109) dX4_takeArp_86 (by decide) (fun hc => ?_) (fun hc => ?_)
  · have h := (if_pos hc).symm.trans h
    refine g_sub [2, 3, 4, 5, 1, 0] [(0, pR (some a0)), (1, pR a1), (3, pI a3), (4, pI a4), (5, pI s0), (6, pI v3)] rfl ?_
    exact wX4_takeArp_L109 X hE hn fu   a0 a1 a3 a4 s0 v3 M2 h
  · have h := (if_neg hc).symm.trans h
    refine g_iload X (pc := 89) 1 rfl dX4_takeArp_89 ?_
    refine g_if_eq X (pc := 91) (tgt := 109) dX4_takeArp_91 (by decide) (fun hc => ?_) (fun hc => ?_)
    · have h := (if_pos hc).symm.trans h
      refine g_sub [2, 3, 4, 5, 1, 0] [(0, pR (some a0)), (1, pR a1), (3, pI a3), (4, pI a4), (5, pI s0), (6, pI v3)] rfl ?_
      exact wX4_takeArp_L109 X hE hn fu   a0 a1 a3 a4 s0 v3 M2 h
    · have h := (if_neg hc).symm.trans h
      refine g_iload X (pc := 94) 5 rfl dX4_takeArp_94 ?_
      refine g_aload_n X (pc := 96) 2 rfl rfl dX4_takeArp_96 ?_
      obtain ⟨v4, ev4, h⟩ := bd h
      refine g_getI X (pc := 97) fk_4_1 rfl rfl ev4 tb_100 dX4_takeArp_97 ?_
      refine g_icmp_eq X (pc := 100) (tgt := 109) dX4_takeArp_100 (by decide) (fun hc => ?_) (fun hc => ?_)
      · have h := (if_pos hc).symm.trans h
        refine g_sub [2, 3, 4, 5, 1, 0] [(0, pR (some a0)), (1, pR a1), (3, pI a3), (4, pI a4), (5, pI s0), (6, pI v3)] rfl ?_
        exact wX4_takeArp_L109 X hE hn fu   a0 a1 a3 a4 s0 v3 M2 h
      · have h := (if_neg hc).symm.trans h
        refine g_aload_n X (pc := 103) 2 rfl rfl dX4_takeArp_103 ?_
        obtain ⟨q5, eq5, h⟩ := bd h
        obtain ⟨v7, M6, eM6, h⟩ := b2d h
        refine g_callV X (pc := 104) (M' := M6) (ro := some (pI v7)) (c := 4) rfl (by decide) (as := []) (as' := []) (st := []) eq5 (ctX4_newEntry _ _ _ _ _ _ fu q5  M2 _ eM6) tb_802 tb_799 tb_801 ts_26 tb_4 ⟨rfl, hyX4_newEntry⟩ rfl rfl ⟨by decide, by decide⟩ (Nat.le_of_ble_eq_true rfl) dX4_takeArp_104 ?_
        refine g_istore X (pc := 107) [(6, pI v7), (5, pI s0), (0, pR (some a0)), (1, pR a1), (3, pI a3), (4, pI a4)] (lt_n hn (by decide)) rfl dX4_takeArp_107 ?_
        refine g_sub [2, 3, 4, 5, 1, 0] [(0, pR (some a0)), (1, pR a1), (3, pI a3), (4, pI a4), (5, pI s0), (6, pI v7)] rfl ?_
        exact wX4_takeArp_L109 X hE hn fu   a0 a1 a3 a4 s0 v7 M6 h
theorem wX4_takeArp_L48 {x : GX} {n0 sl0 : Nat} (X : Cx x cX4_takeArp RX4 none n0 sl0 4 89) {out : Mm} (hE : Ends x n0 sl0 none out) (hn : xn x = 7) (fu : Nat)   (a0 : Nat) (a1 : Option Nat) (a3 : Int32)  (M : Mm) (h : fX4_takeArp_L48 fu  a0 a1 a3 M = some out) : Gw x M 48 [(0, pR (some a0)), (1, pR a1), (3, pI a3)] [] := by
  unfold fX4_takeArp_L48 at h
  refine g_aload_n X (pc := 48) 1 rfl rfl dX4_takeArp_48 ?_
  refine g_bipush X (pc := 49) (v := 28) dX4_takeArp_49 (by decide) ?_
  obtain ⟨v2, M1, eM1, h⟩ := b2d h
  refine g_callSN X (pc := 51) (M' := M1) (ro := some (pI v2)) (as := [pR a1, pI (28 : Int32)]) (as' := [pI (28 : Int32), pR a1]) (st := []) (ctX11_four _ _ _ _ _ _ fu  a1 (28 : Int32) M _ eM1) tb_394 (List.mem_of_getElem? (i := 17) rfl) tb_393 tb_1 hyX11_four rfl rfl ⟨by decide, by decide⟩ (Nat.le_of_ble_eq_true rfl) dX4_takeArp_51 ?_
  refine g_istore X (pc := 54) [(4, pI v2), (0, pR (some a0)), (1, pR a1), (3, pI a3)] (lt_n hn (by decide)) rfl dX4_takeArp_54 ?_
  refine g_aload_n X (pc := 56) 2 rfl rfl dX4_takeArp_56 ?_
  refine g_bipush X (pc := 57) (v := 38) dX4_takeArp_57 (by decide) ?_
  obtain ⟨v4, M3, eM3, h⟩ := b2d h
  refine g_callSN X (pc := 59) (M' := M3) (ro := some (pI v4)) (as := [pR a1, pI (38 : Int32)]) (as' := [pI (38 : Int32), pR a1]) (st := []) (ctX11_four _ _ _ _ _ _ fu  a1 (38 : Int32) M1 _ eM3) tb_394 (List.mem_of_getElem? (i := 17) rfl) tb_393 tb_1 hyX11_four rfl rfl ⟨by decide, by decide⟩ (Nat.le_of_ble_eq_true rfl) dX4_takeArp_59 ?_
  refine g_aload_n X (pc := 62) 1 rfl rfl dX4_takeArp_62 ?_
  obtain ⟨v5, ev5, h⟩ := bd h
  refine g_getI X (pc := 63) fk_4_1 rfl rfl ev5 tb_100 dX4_takeArp_63 ?_
  refine g_icmp_ne X (pc := 66) (tgt := 73) dX4_takeArp_66 (by decide) (fun hc => ?_) (fun hc => ?_)
  · have h := (if_neg hc).symm.trans h
    refine g_iconst X (pc := 73) (v := 0) dX4_takeArp_73 (by decide) ?_
    refine g_sub [1, 2, 3, 0] [(0, pR (some a0)), (1, pR a1), (3, pI a3), (4, pI v2)] rfl ?_
    exact wX4_takeArp_L74 X hE hn fu   a0 a1 a3 v2 (0 : Int32) M3 h
  · have h := (if_pos hc).symm.trans h
    refine g_iconst X (pc := 69) (v := 1) dX4_takeArp_69 (by decide) ?_
    refine g_goto X (pc := 70) (tgt := 74) dX4_takeArp_70 (by decide) ?_
    refine g_sub [1, 2, 3, 0] [(0, pR (some a0)), (1, pR a1), (3, pI a3), (4, pI v2)] rfl ?_
    exact wX4_takeArp_L74 X hE hn fu   a0 a1 a3 v2 (1 : Int32) M3 h
theorem wX4_takeArp {x : GX} {n0 sl0 : Nat} (X : Cx x cX4_takeArp RX4 none n0 sl0 4 89) {out : Mm} (hE : Ends x n0 sl0 none out) (hn : xn x = 7) (fu : Nat)   (a0 : Nat) (a1 : Option Nat) (a2 : Int32)  (M : Mm) (h : fX4_takeArp fu  a0 a1 a2 M = some out) : Gw x M 0 [(0, pR (some a0)), (1, pR a1), (2, pI a2)] [] := by
  unfold fX4_takeArp at h
  refine g_iload_n X (pc := 0) 2 rfl rfl dX4_takeArp_0 ?_
  refine g_bipush X (pc := 1) (v := 42) dX4_takeArp_1 (by decide) ?_
  refine g_icmp_lt X (pc := 3) (tgt := 29) dX4_takeArp_3 (by decide) (fun hc => ?_) (fun hc => ?_)
  · have h := (if_pos hc).symm.trans h
    obtain rfl := Option.some.inj h
    exact g_return X hE dX4_takeArp_29
  · have h := (if_neg hc).symm.trans h
    refine g_aload_n X (pc := 6) 1 rfl rfl dX4_takeArp_6 ?_
    refine g_bipush X (pc := 7) (v := 14) dX4_takeArp_7 (by decide) ?_
    obtain ⟨v2, M1, eM1, h⟩ := b2d h
    refine g_callSN X (pc := 9) (M' := M1) (ro := some (pI v2)) (as := [pR a1, pI (14 : Int32)]) (as' := [pI (14 : Int32), pR a1]) (st := []) (ctX11_four _ _ _ _ _ _ fu  a1 (14 : Int32) M _ eM1) tb_394 (List.mem_of_getElem? (i := 17) rfl) tb_393 tb_1 hyX11_four rfl rfl ⟨by decide, by decide⟩ (Nat.le_of_ble_eq_true rfl) dX4_takeArp_9 ?_
    refine g_ldc X (pc := 12) tb_521 dX4_takeArp_12 ?_
    refine g_icmp_ne X (pc := 14) (tgt := 29) dX4_takeArp_14 (by decide) (fun hc => ?_) (fun hc => ?_)
    · have h := (if_neg hc).symm.trans h
      obtain rfl := Option.some.inj h
      exact g_return X hE dX4_takeArp_29
    · have h := (if_pos hc).symm.trans h
      refine g_aload_n X (pc := 17) 1 rfl rfl dX4_takeArp_17 ?_
      refine g_bipush X (pc := 18) (v := 18) dX4_takeArp_18 (by decide) ?_
      obtain ⟨v4, M3, eM3, h⟩ := b2d h
      refine g_callSN X (pc := 20) (M' := M3) (ro := some (pI v4)) (as := [pR a1, pI (18 : Int32)]) (as' := [pI (18 : Int32), pR a1]) (st := []) (ctX11_two _ _ _ _ _ _ fu  a1 (18 : Int32) M1 _ eM3) tb_398 (List.mem_of_getElem? (i := 18) rfl) tb_397 tb_1 hyX11_two rfl rfl ⟨by decide, by decide⟩ (Nat.le_of_ble_eq_true rfl) dX4_takeArp_20 ?_
      refine g_sipush X (pc := 23) (v := 1540) dX4_takeArp_23 (by decide) ?_
      refine g_icmp_eq X (pc := 26) (tgt := 30) dX4_takeArp_26 (by decide) (fun hc => ?_) (fun hc => ?_)
      · have h := (if_pos hc).symm.trans h
        refine g_aload_n X (pc := 30) 1 rfl rfl dX4_takeArp_30 ?_
        refine g_bipush X (pc := 31) (v := 20) dX4_takeArp_31 (by decide) ?_
        obtain ⟨v6, M5, eM5, h⟩ := b2d h
        refine g_callSN X (pc := 33) (M' := M5) (ro := some (pI v6)) (as := [pR a1, pI (20 : Int32)]) (as' := [pI (20 : Int32), pR a1]) (st := []) (ctX11_two _ _ _ _ _ _ fu  a1 (20 : Int32) M3 _ eM5) tb_398 (List.mem_of_getElem? (i := 18) rfl) tb_397 tb_1 hyX11_two rfl rfl ⟨by decide, by decide⟩ (Nat.le_of_ble_eq_true rfl) dX4_takeArp_33 ?_
        refine g_istore_n X (pc := 36) [(3, pI v6), (0, pR (some a0)), (1, pR a1), (2, pI a2)] rfl (lt_n hn (by decide)) rfl dX4_takeArp_36 ?_
        refine g_iload_n X (pc := 37) 0 rfl rfl dX4_takeArp_37 ?_
        refine g_iconst X (pc := 38) (v := 1) dX4_takeArp_38 (by decide) ?_
        refine g_icmp_eq X (pc := 39) (tgt := 48) dX4_takeArp_39 (by decide) (fun hc => ?_) (fun hc => ?_)
        · have h := (if_pos hc).symm.trans h
          refine g_sub [1, 2, 0] [(0, pR (some a0)), (1, pR a1), (3, pI v6)] rfl ?_
          exact wX4_takeArp_L48 X hE hn fu   a0 a1 v6 M5 h
        · have h := (if_neg hc).symm.trans h
          refine g_iload_n X (pc := 42) 0 rfl rfl dX4_takeArp_42 ?_
          refine g_iconst X (pc := 43) (v := 2) dX4_takeArp_43 (by decide) ?_
          refine g_icmp_eq X (pc := 44) (tgt := 48) dX4_takeArp_44 (by decide) (fun hc => ?_) (fun hc => ?_)
          · have h := (if_pos hc).symm.trans h
            refine g_sub [1, 2, 0] [(0, pR (some a0)), (1, pR a1), (3, pI v6)] rfl ?_
            exact wX4_takeArp_L48 X hE hn fu   a0 a1 v6 M5 h
          · have h := (if_neg hc).symm.trans h
            obtain rfl := Option.some.inj h
            exact g_return X hE dX4_takeArp_47
      · have h := (if_neg hc).symm.trans h
        obtain rfl := Option.some.inj h
        exact g_return X hE dX4_takeArp_29
theorem hyX4_takeArp : yX4_takeArp.cls ≠ "java/lang/invoke/MethodHandle" ∧ yX4_takeArp.cls ≠ "java/lang/invoke/VarHandle" ∧ (parseMethodDescriptor yX4_takeArp.desc).map (fun d => d.parameters.length) = some 2 := ⟨by decide +kernel, by decide +kernel, by decide +kernel⟩
theorem ctX4_takeArp (l : Launch) (E : Nat → Nat) (D : va_G) (dA : Nat → ClassId) (lo : Nat) (H0 : Heap) (fu : Nat) (a0 : Nat) (a1 : Option Nat) (a2 : Int32) (M : Mm) (out : Mm) (h : fX4_takeArp fu a0 a1 a2 M = some out) : Ct l E D dA lo H0 yX4_takeArp cX4_takeArp 7 none 4 89 [pR (some a0), pR a1, pI a2] M none out := by
  refine ct_of (by decide +kernel) (Nat.le_of_ble_eq_true rfl) ?_
  intro x hl he hd ha ho hh hn hin X hE
  exact wX4_takeArp X hE hn fu a0 a1 a2 M h
/-! WebHost$Link.dueOf(LWebHost$Packet;)I -/
def fX4_dueOf (fu : Nat)  (a0 : Option Nat)  (M : Mm) : Option (Int32 × Mm) :=
    if a0 = none then (
    some ((2147483647 : Int32), M))
    else (
    (gI M 6 386 a0).bind fun v1 =>
    (gI M 6 388 a0).bind fun v2 =>
    some ((v1 + (v2 * (1000 : Int32))), M))
theorem dX4_dueOf_0 : decode cX4_dueOf 0 = .ok (.aload_n 0, 1) := by decide +kernel
theorem dX4_dueOf_1 : decode cX4_dueOf 1 = .ok (.ifnonnull 8, 3) := by decide +kernel
theorem dX4_dueOf_4 : decode cX4_dueOf 4 = .ok (.ldc 162, 2) := by decide +kernel
theorem dX4_dueOf_6 : decode cX4_dueOf 6 = .ok (.goto 16, 3) := by decide +kernel
theorem dX4_dueOf_9 : decode cX4_dueOf 9 = .ok (.aload_n 0, 1) := by decide +kernel
theorem dX4_dueOf_10 : decode cX4_dueOf 10 = .ok (.getfield 144, 3) := by decide +kernel
theorem dX4_dueOf_13 : decode cX4_dueOf 13 = .ok (.aload_n 0, 1) := by decide +kernel
theorem dX4_dueOf_14 : decode cX4_dueOf 14 = .ok (.getfield 147, 3) := by decide +kernel
theorem dX4_dueOf_17 : decode cX4_dueOf 17 = .ok (.sipush 1000, 3) := by decide +kernel
theorem dX4_dueOf_20 : decode cX4_dueOf 20 = .ok (.imul, 1) := by decide +kernel
theorem dX4_dueOf_21 : decode cX4_dueOf 21 = .ok (.iadd, 1) := by decide +kernel
theorem dX4_dueOf_22 : decode cX4_dueOf 22 = .ok (.ireturn, 1) := by decide +kernel
theorem wX4_dueOf {x : GX} {n0 sl0 : Nat} (X : Cx x cX4_dueOf RX4 (some .int) n0 sl0 0 0) {out : Int32 × Mm} (hE : Ends x n0 sl0 (some (pI out.1)) out.2) (hn : xn x = 1) (fu : Nat)   (a0 : Option Nat)  (M : Mm) (h : fX4_dueOf fu  a0 M = some out) : Gw x M 0 [(0, pR a0)] [] := by
  unfold fX4_dueOf at h
  refine g_aload_n X (pc := 0) 0 rfl rfl dX4_dueOf_0 ?_
  refine g_ifnonnull X (pc := 1) (tgt := 9) dX4_dueOf_1 (by decide) (fun hc => ?_) (fun hc => ?_)
  · have h := (if_neg hc).symm.trans h
    refine g_aload_n X (pc := 9) 0 rfl rfl dX4_dueOf_9 ?_
    obtain ⟨v1, ev1, h⟩ := bd h
    refine g_getI X (pc := 10) fk_6_2 rfl rfl ev1 tb_549 dX4_dueOf_10 ?_
    refine g_aload_n X (pc := 13) 0 rfl rfl dX4_dueOf_13 ?_
    obtain ⟨v2, ev2, h⟩ := bd h
    refine g_getI X (pc := 14) fk_6_4 rfl rfl ev2 tb_551 dX4_dueOf_14 ?_
    refine g_sipush X (pc := 17) (v := 1000) dX4_dueOf_17 (by decide) ?_
    refine g_imul X (pc := 20) dX4_dueOf_20 ?_
    refine g_iadd X (pc := 21) dX4_dueOf_21 ?_
    obtain rfl := Option.some.inj h
    exact g_ireturn X hE dX4_dueOf_22
  · have h := (if_pos hc).symm.trans h
    refine g_ldc X (pc := 4) tb_473 dX4_dueOf_4 ?_
    refine g_goto X (pc := 6) (tgt := 22) dX4_dueOf_6 (by decide) ?_
    obtain rfl := Option.some.inj h
    exact g_ireturn X hE dX4_dueOf_22
theorem hyX4_dueOf : yX4_dueOf.cls ≠ "java/lang/invoke/MethodHandle" ∧ yX4_dueOf.cls ≠ "java/lang/invoke/VarHandle" ∧ (parseMethodDescriptor yX4_dueOf.desc).map (fun d => d.parameters.length) = some 1 := ⟨by decide +kernel, by decide +kernel, by decide +kernel⟩
theorem ctX4_dueOf (l : Launch) (E : Nat → Nat) (D : va_G) (dA : Nat → ClassId) (lo : Nat) (H0 : Heap) (fu : Nat) (a0 : Option Nat) (M : Mm) (out : Int32 × Mm) (h : fX4_dueOf fu a0 M = some out) : Ct l E D dA lo H0 yX4_dueOf cX4_dueOf 1 (some .int) 0 0 [pR a0] M (some (pI out.1)) out.2 := by
  refine ct_of (by decide +kernel) (Nat.le_of_ble_eq_true rfl) ?_
  intro x hl he hd ha ho hh hn hin X hE
  exact wX4_dueOf X hE hn fu a0 M h
/-! WebHost$Link.earliest()I -/
def fX4_earliest_L5 (fu : Nat)  : Nat → Nat → Int32 → Int32 → Mm → Option (Int32 × Mm)
  | 0, _, _, _, _ => none
  | n + 1, a0, a1, a2, M =>
    (gI M 4 260 (some a0)).bind fun v1 =>
    if v1 ≤ a2 then (
    some (a1, M))
    else (
    if (8 : Int32) ≤ a2 then (
    some (a1, M))
    else (
    (gR M 4 270 (some a0)).bind fun v2 =>
    (gB M 116 v2 a2).bind fun v3 =>
    b2 (fX4_dueOf fu  v3 M) fun v5 M4 =>
    fX4_earliest_L5 fu  n a0 (jmin a1 v5) (a2 + (1 : Int32)) M4))
def fX4_earliest (fu : Nat)  (a0 : Nat)  (M : Mm) : Option (Int32 × Mm) :=
    fX4_earliest_L5 fu  fu a0 (2147483647 : Int32) (0 : Int32) M
theorem dX4_earliest_0 : decode cX4_earliest 0 = .ok (.ldc 162, 2) := by decide +kernel
theorem dX4_earliest_2 : decode cX4_earliest 2 = .ok (.istore_n 1, 1) := by decide +kernel
theorem dX4_earliest_3 : decode cX4_earliest 3 = .ok (.iconst 0, 1) := by decide +kernel
theorem dX4_earliest_4 : decode cX4_earliest 4 = .ok (.istore_n 2, 1) := by decide +kernel
theorem dX4_earliest_5 : decode cX4_earliest 5 = .ok (.iload_n 2, 1) := by decide +kernel
theorem dX4_earliest_6 : decode cX4_earliest 6 = .ok (.aload_n 0, 1) := by decide +kernel
theorem dX4_earliest_7 : decode cX4_earliest 7 = .ok (.getfield 60, 3) := by decide +kernel
theorem dX4_earliest_10 : decode cX4_earliest 10 = .ok (.if_icmp .ge 29, 3) := by decide +kernel
theorem dX4_earliest_13 : decode cX4_earliest 13 = .ok (.iload_n 2, 1) := by decide +kernel
theorem dX4_earliest_14 : decode cX4_earliest 14 = .ok (.bipush 8, 2) := by decide +kernel
theorem dX4_earliest_16 : decode cX4_earliest 16 = .ok (.if_icmp .ge 23, 3) := by decide +kernel
theorem dX4_earliest_19 : decode cX4_earliest 19 = .ok (.iload_n 1, 1) := by decide +kernel
theorem dX4_earliest_20 : decode cX4_earliest 20 = .ok (.aload_n 0, 1) := by decide +kernel
theorem dX4_earliest_21 : decode cX4_earliest 21 = .ok (.getfield 34, 3) := by decide +kernel
theorem dX4_earliest_24 : decode cX4_earliest 24 = .ok (.iload_n 2, 1) := by decide +kernel
theorem dX4_earliest_25 : decode cX4_earliest 25 = .ok (.aaload, 1) := by decide +kernel
theorem dX4_earliest_26 : decode cX4_earliest 26 = .ok (.invokestatic 163, 3) := by decide +kernel
theorem dX4_earliest_29 : decode cX4_earliest 29 = .ok (.invokestatic 150, 3) := by decide +kernel
theorem dX4_earliest_32 : decode cX4_earliest 32 = .ok (.istore_n 1, 1) := by decide +kernel
theorem dX4_earliest_33 : decode cX4_earliest 33 = .ok (.iinc 2 1, 3) := by decide +kernel
theorem dX4_earliest_36 : decode cX4_earliest 36 = .ok (.goto (-31), 3) := by decide +kernel
theorem dX4_earliest_39 : decode cX4_earliest 39 = .ok (.iload_n 1, 1) := by decide +kernel
theorem dX4_earliest_40 : decode cX4_earliest 40 = .ok (.ireturn, 1) := by decide +kernel
theorem wX4_earliest_L5 {x : GX} {n0 sl0 : Nat} (X : Cx x cX4_earliest RX4 (some .int) n0 sl0 1 20) {out : Int32 × Mm} (hE : Ends x n0 sl0 (some (pI out.1)) out.2) (hn : xn x = 3) (fu : Nat)   : ∀ (n : Nat) (a0 : Nat) (a1 : Int32) (a2 : Int32)  (M : Mm), fX4_earliest_L5 fu  n a0 a1 a2 M = some out → Gw x M 5 [(0, pR (some a0)), (1, pI a1), (2, pI a2)] [] := by
  intro n
  induction n with
  | zero =>
    intro a0 a1 a2 M h
    have h : (none : Option (Int32 × Mm)) = some out := h
    cases h
  | succ n ih =>
    intro a0 a1 a2 M h
    rw [fX4_earliest_L5] at h
    refine g_iload_n X (pc := 5) 2 rfl rfl dX4_earliest_5 ?_
    refine g_aload_n X (pc := 6) 0 rfl rfl dX4_earliest_6 ?_
    obtain ⟨v1, ev1, h⟩ := bd h
    refine g_getI X (pc := 7) fk_4_4 rfl rfl ev1 tb_107 dX4_earliest_7 ?_
    refine g_icmp_ge X (pc := 10) (tgt := 39) dX4_earliest_10 (by decide) (fun hc => ?_) (fun hc => ?_)
    · have h := (if_pos hc).symm.trans h
      refine g_iload_n X (pc := 39) 1 rfl rfl dX4_earliest_39 ?_
      obtain rfl := Option.some.inj h
      exact g_ireturn X hE dX4_earliest_40
    · have h := (if_neg hc).symm.trans h
      refine g_iload_n X (pc := 13) 2 rfl rfl dX4_earliest_13 ?_
      refine g_bipush X (pc := 14) (v := 8) dX4_earliest_14 (by decide) ?_
      refine g_icmp_ge X (pc := 16) (tgt := 39) dX4_earliest_16 (by decide) (fun hc => ?_) (fun hc => ?_)
      · have h := (if_pos hc).symm.trans h
        refine g_iload_n X (pc := 39) 1 rfl rfl dX4_earliest_39 ?_
        obtain rfl := Option.some.inj h
        exact g_ireturn X hE dX4_earliest_40
      · have h := (if_neg hc).symm.trans h
        refine g_iload_n X (pc := 19) 1 rfl rfl dX4_earliest_19 ?_
        refine g_aload_n X (pc := 20) 0 rfl rfl dX4_earliest_20 ?_
        obtain ⟨v2, ev2, h⟩ := bd h
        refine g_getR X (pc := 21) fk_4_14 rfl rfl ev2 tb_118 dX4_earliest_21 ?_
        refine g_iload_n X (pc := 24) 2 rfl rfl dX4_earliest_24 ?_
        obtain ⟨v3, ev3, h⟩ := bd h
        refine g_aaload X (pc := 25) (k := 3) rfl rfl (by decide) ev3 dX4_earliest_25 ?_
        obtain ⟨v5, M4, eM4, h⟩ := b2d h
        refine g_callS X (pc := 26) (M' := M4) (ro := some (pI v5)) (as := [pR v3]) (as' := [pR v3]) (st := [pI a1]) (ctX4_dueOf _ _ _ _ _ _ fu  v3 M _ eM4) tb_476 tb_474 tb_475 tb_4 hyX4_dueOf rfl rfl ⟨by decide, by decide⟩ (Nat.le_of_ble_eq_true rfl) dX4_earliest_26 ?_
        refine g_mmin X (pc := 29) tb_477 tb_348 tb_13 tb_349 ⟨by decide, Nat.le_of_ble_eq_true rfl⟩ dX4_earliest_29 ?_
        refine g_istore_n X (pc := 32) [(1, pI (jmin a1 v5)), (0, pR (some a0)), (2, pI a2)] rfl (lt_n hn (by decide)) rfl dX4_earliest_32 ?_
        refine g_iinc X (pc := 33) 2 [(2, pI (a2 + (1 : Int32))), (1, pI (jmin a1 v5)), (0, pR (some a0))] rfl (iinc_e (by decide)) (lt_n hn (by decide)) rfl dX4_earliest_33 ?_
        refine g_goto X (pc := 36) (tgt := 5) dX4_earliest_36 (by decide) ?_
        refine g_sub [2, 1, 0] [(0, pR (some a0)), (1, pI (jmin a1 v5)), (2, pI (a2 + (1 : Int32)))] rfl ?_
        exact ih a0 (jmin a1 v5) (a2 + (1 : Int32)) M4 h
theorem wX4_earliest {x : GX} {n0 sl0 : Nat} (X : Cx x cX4_earliest RX4 (some .int) n0 sl0 1 20) {out : Int32 × Mm} (hE : Ends x n0 sl0 (some (pI out.1)) out.2) (hn : xn x = 3) (fu : Nat)   (a0 : Nat)  (M : Mm) (h : fX4_earliest fu  a0 M = some out) : Gw x M 0 [(0, pR (some a0))] [] := by
  unfold fX4_earliest at h
  refine g_ldc X (pc := 0) tb_473 dX4_earliest_0 ?_
  refine g_istore_n X (pc := 2) [(1, pI (2147483647 : Int32)), (0, pR (some a0))] rfl (lt_n hn (by decide)) rfl dX4_earliest_2 ?_
  refine g_iconst X (pc := 3) (v := 0) dX4_earliest_3 (by decide) ?_
  refine g_istore_n X (pc := 4) [(2, pI (0 : Int32)), (1, pI (2147483647 : Int32)), (0, pR (some a0))] rfl (lt_n hn (by decide)) rfl dX4_earliest_4 ?_
  refine g_sub [2, 1, 0] [(0, pR (some a0)), (1, pI (2147483647 : Int32)), (2, pI (0 : Int32))] rfl ?_
  exact wX4_earliest_L5 X hE hn fu   fu a0 (2147483647 : Int32) (0 : Int32) M h
theorem hyX4_earliest : yX4_earliest.cls ≠ "java/lang/invoke/MethodHandle" ∧ yX4_earliest.cls ≠ "java/lang/invoke/VarHandle" ∧ (parseMethodDescriptor yX4_earliest.desc).map (fun d => d.parameters.length) = some 0 := ⟨by decide +kernel, by decide +kernel, by decide +kernel⟩
theorem ctX4_earliest (l : Launch) (E : Nat → Nat) (D : va_G) (dA : Nat → ClassId) (lo : Nat) (H0 : Heap) (fu : Nat) (a0 : Nat) (M : Mm) (out : Int32 × Mm) (h : fX4_earliest fu a0 M = some out) : Ct l E D dA lo H0 yX4_earliest cX4_earliest 3 (some .int) 1 20 [pR (some a0)] M (some (pI out.1)) out.2 := by
  refine ct_of (by decide +kernel) (Nat.le_of_ble_eq_true rfl) ?_
  intro x hl he hd ha ho hh hn hin X hE
  exact wX4_earliest X hE hn fu a0 M h
/-! WebHost$Link.repeat(I)Z -/
def fX4_repeat_L87 (fu : Nat) (k2 : Nat → Int32 → Int32 → Mm → Option (Int32 × Mm)) (a0 : Nat) (a1 : Int32) (a2 : Int32)  (M : Mm) : Option (Int32 × Mm) :=
    k2 a0 a1 (a2 + (1 : Int32)) M
def fX4_repeat_L2 (fu : Nat)  : Nat → Nat → Int32 → Int32 → Mm → Option (Int32 × Mm)
  | 0, _, _, _, _ => none
  | n + 1, a0, a1, a2, M =>
    (gI M 4 260 (some a0)).bind fun v1 =>
    if v1 ≤ a2 then (
    rN .boolean (0 : Int32) M)
    else (
    if (8 : Int32) ≤ a2 then (
    rN .boolean (0 : Int32) M)
    else (
    (gR M 4 270 (some a0)).bind fun v2 =>
    (gB M 116 v2 a2).bind fun v3 =>
    if v3 = none then (
    fX4_repeat_L87 fu (fun b0 b1 b2 M => fX4_repeat_L2 fu  n b0 b1 b2 M) a0 a1 a2 M)
    else (
    b2 (fX4_dueOf fu  v3 M) fun v5 M4 =>
    if v5 = a1 then (
    (gI M4 6 388 v3).bind fun v6 =>
    if (3 : Int32) ≤ v6 then (
    (rc M4 4 (some a0)).bind fun q7 =>
    (fX4_dropWaiter fu q7 a2 M4).bind fun M8 =>
    rN .boolean (1 : Int32) M8)
    else (
    (gI M4 6 388 v3).bind fun v9 =>
    (pF M4 6 388 v3 (v9 + (1 : Int32))).bind fun M10 =>
    (gI M10 6 387 v3).bind fun v11 =>
    (rc M10 4 (some a0)).bind fun q12 =>
    (fX4_fillAsk fu q12 v11 M10).bind fun M13 =>
    (gR M13 4 261 (some a0)).bind fun v14 =>
    (gR M13 4 256 (some a0)).bind fun v15 =>
    (rc M13 10 v14).bind fun q16 =>
    (fX10_put fu q16 v15 (42 : Int32) M13).bind fun M17 =>
    rN .boolean (1 : Int32) M17))
    else (
    fX4_repeat_L87 fu (fun b0 b1 b2 M => fX4_repeat_L2 fu  n b0 b1 b2 M) a0 a1 a2 M4))))
def fX4_repeat (fu : Nat)  (a0 : Nat) (a1 : Int32)  (M : Mm) : Option (Int32 × Mm) :=
    fX4_repeat_L2 fu  fu a0 a1 (0 : Int32) M
theorem dX4_repeat_0 : decode cX4_repeat 0 = .ok (.iconst 0, 1) := by decide +kernel
theorem dX4_repeat_1 : decode cX4_repeat 1 = .ok (.istore_n 2, 1) := by decide +kernel
theorem dX4_repeat_2 : decode cX4_repeat 2 = .ok (.iload_n 2, 1) := by decide +kernel
theorem dX4_repeat_3 : decode cX4_repeat 3 = .ok (.aload_n 0, 1) := by decide +kernel
theorem dX4_repeat_4 : decode cX4_repeat 4 = .ok (.getfield 60, 3) := by decide +kernel
theorem dX4_repeat_7 : decode cX4_repeat 7 = .ok (.if_icmp .ge 86, 3) := by decide +kernel
theorem dX4_repeat_10 : decode cX4_repeat 10 = .ok (.iload_n 2, 1) := by decide +kernel
theorem dX4_repeat_11 : decode cX4_repeat 11 = .ok (.bipush 8, 2) := by decide +kernel
theorem dX4_repeat_13 : decode cX4_repeat 13 = .ok (.if_icmp .ge 80, 3) := by decide +kernel
theorem dX4_repeat_16 : decode cX4_repeat 16 = .ok (.aload_n 0, 1) := by decide +kernel
theorem dX4_repeat_17 : decode cX4_repeat 17 = .ok (.getfield 34, 3) := by decide +kernel
theorem dX4_repeat_20 : decode cX4_repeat 20 = .ok (.iload_n 2, 1) := by decide +kernel
theorem dX4_repeat_21 : decode cX4_repeat 21 = .ok (.aaload, 1) := by decide +kernel
theorem dX4_repeat_22 : decode cX4_repeat 22 = .ok (.astore_n 3, 1) := by decide +kernel
theorem dX4_repeat_23 : decode cX4_repeat 23 = .ok (.aload_n 3, 1) := by decide +kernel
theorem dX4_repeat_24 : decode cX4_repeat 24 = .ok (.ifnull 63, 3) := by decide +kernel
theorem dX4_repeat_27 : decode cX4_repeat 27 = .ok (.aload_n 3, 1) := by decide +kernel
theorem dX4_repeat_28 : decode cX4_repeat 28 = .ok (.invokestatic 163, 3) := by decide +kernel
theorem dX4_repeat_31 : decode cX4_repeat 31 = .ok (.iload_n 1, 1) := by decide +kernel
theorem dX4_repeat_32 : decode cX4_repeat 32 = .ok (.if_icmp .eq 6, 3) := by decide +kernel
theorem dX4_repeat_35 : decode cX4_repeat 35 = .ok (.goto 52, 3) := by decide +kernel
theorem dX4_repeat_38 : decode cX4_repeat 38 = .ok (.aload_n 3, 1) := by decide +kernel
theorem dX4_repeat_39 : decode cX4_repeat 39 = .ok (.getfield 147, 3) := by decide +kernel
theorem dX4_repeat_42 : decode cX4_repeat 42 = .ok (.iconst 3, 1) := by decide +kernel
theorem dX4_repeat_43 : decode cX4_repeat 43 = .ok (.if_icmp .ge 37, 3) := by decide +kernel
theorem dX4_repeat_46 : decode cX4_repeat 46 = .ok (.aload_n 3, 1) := by decide +kernel
theorem dX4_repeat_47 : decode cX4_repeat 47 = .ok (.dup, 1) := by decide +kernel
theorem dX4_repeat_48 : decode cX4_repeat 48 = .ok (.getfield 147, 3) := by decide +kernel
theorem dX4_repeat_51 : decode cX4_repeat 51 = .ok (.iconst 1, 1) := by decide +kernel
theorem dX4_repeat_52 : decode cX4_repeat 52 = .ok (.iadd, 1) := by decide +kernel
theorem dX4_repeat_53 : decode cX4_repeat 53 = .ok (.putfield 147, 3) := by decide +kernel
theorem dX4_repeat_56 : decode cX4_repeat 56 = .ok (.aload_n 0, 1) := by decide +kernel
theorem dX4_repeat_57 : decode cX4_repeat 57 = .ok (.aload_n 3, 1) := by decide +kernel
theorem dX4_repeat_58 : decode cX4_repeat 58 = .ok (.getfield 141, 3) := by decide +kernel
theorem dX4_repeat_61 : decode cX4_repeat 61 = .ok (.invokevirtual 125, 3) := by decide +kernel
theorem dX4_repeat_64 : decode cX4_repeat 64 = .ok (.aload_n 0, 1) := by decide +kernel
theorem dX4_repeat_65 : decode cX4_repeat 65 = .ok (.getfield 9, 3) := by decide +kernel
theorem dX4_repeat_68 : decode cX4_repeat 68 = .ok (.aload_n 0, 1) := by decide +kernel
theorem dX4_repeat_69 : decode cX4_repeat 69 = .ok (.getfield 15, 3) := by decide +kernel
theorem dX4_repeat_72 : decode cX4_repeat 72 = .ok (.bipush 42, 2) := by decide +kernel
theorem dX4_repeat_74 : decode cX4_repeat 74 = .ok (.invokevirtual 97, 3) := by decide +kernel
theorem dX4_repeat_77 : decode cX4_repeat 77 = .ok (.goto 8, 3) := by decide +kernel
theorem dX4_repeat_80 : decode cX4_repeat 80 = .ok (.aload_n 0, 1) := by decide +kernel
theorem dX4_repeat_81 : decode cX4_repeat 81 = .ok (.iload_n 2, 1) := by decide +kernel
theorem dX4_repeat_82 : decode cX4_repeat 82 = .ok (.invokevirtual 104, 3) := by decide +kernel
theorem dX4_repeat_85 : decode cX4_repeat 85 = .ok (.iconst 1, 1) := by decide +kernel
theorem dX4_repeat_86 : decode cX4_repeat 86 = .ok (.ireturn, 1) := by decide +kernel
theorem dX4_repeat_87 : decode cX4_repeat 87 = .ok (.iinc 2 1, 3) := by decide +kernel
theorem dX4_repeat_90 : decode cX4_repeat 90 = .ok (.goto (-88), 3) := by decide +kernel
theorem dX4_repeat_93 : decode cX4_repeat 93 = .ok (.iconst 0, 1) := by decide +kernel
theorem dX4_repeat_94 : decode cX4_repeat 94 = .ok (.ireturn, 1) := by decide +kernel
theorem wX4_repeat_L87 {x : GX} {n0 sl0 : Nat} (X : Cx x cX4_repeat RX4 (some .boolean) n0 sl0 3 67) {out : Int32 × Mm} (hE : Ends x n0 sl0 (some (pI out.1)) out.2) (hn : xn x = 4) (fu : Nat) (k2 : Nat → Int32 → Int32 → Mm → Option (Int32 × Mm)) (hk2 : ∀ (b0 : Nat) (b1 : Int32) (b2 : Int32)  (M : Mm), k2 b0 b1 b2 M = some out → Gw x M 2 [(0, pR (some b0)), (1, pI b1), (2, pI b2)] []) (a0 : Nat) (a1 : Int32) (a2 : Int32)  (M : Mm) (h : fX4_repeat_L87 fu k2 a0 a1 a2 M = some out) : Gw x M 87 [(0, pR (some a0)), (1, pI a1), (2, pI a2)] [] := by
  unfold fX4_repeat_L87 at h
  refine g_iinc X (pc := 87) 2 [(2, pI (a2 + (1 : Int32))), (0, pR (some a0)), (1, pI a1)] rfl (iinc_e (by decide)) (lt_n hn (by decide)) rfl dX4_repeat_87 ?_
  refine g_goto X (pc := 90) (tgt := 2) dX4_repeat_90 (by decide) ?_
  refine g_sub [1, 2, 0] [(0, pR (some a0)), (1, pI a1), (2, pI (a2 + (1 : Int32)))] rfl ?_
  exact hk2 a0 a1 (a2 + (1 : Int32)) M h
theorem wX4_repeat_L2 {x : GX} {n0 sl0 : Nat} (X : Cx x cX4_repeat RX4 (some .boolean) n0 sl0 3 67) {out : Int32 × Mm} (hE : Ends x n0 sl0 (some (pI out.1)) out.2) (hn : xn x = 4) (fu : Nat)   : ∀ (n : Nat) (a0 : Nat) (a1 : Int32) (a2 : Int32)  (M : Mm), fX4_repeat_L2 fu  n a0 a1 a2 M = some out → Gw x M 2 [(0, pR (some a0)), (1, pI a1), (2, pI a2)] [] := by
  intro n
  induction n with
  | zero =>
    intro a0 a1 a2 M h
    have h : (none : Option (Int32 × Mm)) = some out := h
    cases h
  | succ n ih =>
    intro a0 a1 a2 M h
    rw [fX4_repeat_L2] at h
    refine g_iload_n X (pc := 2) 2 rfl rfl dX4_repeat_2 ?_
    refine g_aload_n X (pc := 3) 0 rfl rfl dX4_repeat_3 ?_
    obtain ⟨v1, ev1, h⟩ := bd h
    refine g_getI X (pc := 4) fk_4_4 rfl rfl ev1 tb_107 dX4_repeat_4 ?_
    refine g_icmp_ge X (pc := 7) (tgt := 93) dX4_repeat_7 (by decide) (fun hc => ?_) (fun hc => ?_)
    · have h := (if_pos hc).symm.trans h
      refine g_iconst X (pc := 93) (v := 0) dX4_repeat_93 (by decide) ?_
      obtain ⟨hz, rfl⟩ := rN_some h
      exact g_nreturn X rfl hz hE dX4_repeat_94
    · have h := (if_neg hc).symm.trans h
      refine g_iload_n X (pc := 10) 2 rfl rfl dX4_repeat_10 ?_
      refine g_bipush X (pc := 11) (v := 8) dX4_repeat_11 (by decide) ?_
      refine g_icmp_ge X (pc := 13) (tgt := 93) dX4_repeat_13 (by decide) (fun hc => ?_) (fun hc => ?_)
      · have h := (if_pos hc).symm.trans h
        refine g_iconst X (pc := 93) (v := 0) dX4_repeat_93 (by decide) ?_
        obtain ⟨hz, rfl⟩ := rN_some h
        exact g_nreturn X rfl hz hE dX4_repeat_94
      · have h := (if_neg hc).symm.trans h
        refine g_aload_n X (pc := 16) 0 rfl rfl dX4_repeat_16 ?_
        obtain ⟨v2, ev2, h⟩ := bd h
        refine g_getR X (pc := 17) fk_4_14 rfl rfl ev2 tb_118 dX4_repeat_17 ?_
        refine g_iload_n X (pc := 20) 2 rfl rfl dX4_repeat_20 ?_
        obtain ⟨v3, ev3, h⟩ := bd h
        refine g_aaload X (pc := 21) (k := 3) rfl rfl (by decide) ev3 dX4_repeat_21 ?_
        refine g_astore_n X (pc := 22) [(3, pR v3), (0, pR (some a0)), (1, pI a1), (2, pI a2)] rfl (lt_n hn (by decide)) rfl dX4_repeat_22 ?_
        refine g_aload_n X (pc := 23) 0 rfl rfl dX4_repeat_23 ?_
        refine g_ifnull X (pc := 24) (tgt := 87) dX4_repeat_24 (by decide) (fun hc => ?_) (fun hc => ?_)
        · have h := (if_pos hc).symm.trans h
          refine g_sub [1, 2, 3] [(0, pR (some a0)), (1, pI a1), (2, pI a2)] rfl ?_
          exact wX4_repeat_L87 X hE hn fu (fun b0 b1 b2 M => fX4_repeat_L2 fu  n b0 b1 b2 M) ih a0 a1 a2 M h
        · have h := (if_neg hc).symm.trans h
          refine g_aload_n X (pc := 27) 0 rfl rfl dX4_repeat_27 ?_
          obtain ⟨v5, M4, eM4, h⟩ := b2d h
          refine g_callS X (pc := 28) (M' := M4) (ro := some (pI v5)) (as := [pR v3]) (as' := [pR v3]) (st := []) (ctX4_dueOf _ _ _ _ _ _ fu  v3 M _ eM4) tb_476 tb_474 tb_475 tb_4 hyX4_dueOf rfl rfl ⟨by decide, by decide⟩ (Nat.le_of_ble_eq_true rfl) dX4_repeat_28 ?_
          refine g_iload_n X (pc := 31) 2 rfl rfl dX4_repeat_31 ?_
          refine g_icmp_eq X (pc := 32) (tgt := 38) dX4_repeat_32 (by decide) (fun hc => ?_) (fun hc => ?_)
          · have h := (if_pos hc).symm.trans h
            refine g_aload_n X (pc := 38) 0 rfl rfl dX4_repeat_38 ?_
            obtain ⟨v6, ev6, h⟩ := bd h
            refine g_getI X (pc := 39) fk_6_4 rfl rfl ev6 tb_551 dX4_repeat_39 ?_
            refine g_iconst X (pc := 42) (v := 3) dX4_repeat_42 (by decide) ?_
            refine g_icmp_ge X (pc := 43) (tgt := 80) dX4_repeat_43 (by decide) (fun hc => ?_) (fun hc => ?_)
            · have h := (if_pos hc).symm.trans h
              refine g_aload_n X (pc := 80) 1 rfl rfl dX4_repeat_80 ?_
              refine g_iload_n X (pc := 81) 3 rfl rfl dX4_repeat_81 ?_
              obtain ⟨q7, eq7, h⟩ := bd h
              obtain ⟨M8, eM8, h⟩ := bd h
              refine g_callV X (pc := 82) (M' := M8) (ro := none) (c := 4) rfl (by decide) (as := [pI a2]) (as' := [pI a2]) (st := []) eq7 (ctX4_dropWaiter _ _ _ _ _ _ fu q7 a2 M4 _ eM8) tb_568 tb_565 tb_567 ts_9 tb_4 ⟨rfl, hyX4_dropWaiter⟩ rfl rfl ⟨by decide, by decide⟩ (Nat.le_of_ble_eq_true rfl) dX4_repeat_82 ?_
              refine g_iconst X (pc := 85) (v := 1) dX4_repeat_85 (by decide) ?_
              obtain ⟨hz, rfl⟩ := rN_some h
              exact g_nreturn X rfl hz hE dX4_repeat_86
            · have h := (if_neg hc).symm.trans h
              refine g_aload_n X (pc := 46) 0 rfl rfl dX4_repeat_46 ?_
              refine g_dup X (pc := 47) rfl dX4_repeat_47 ?_
              obtain ⟨v9, ev9, h⟩ := bd h
              refine g_getI X (pc := 48) fk_6_4 rfl rfl ev9 tb_551 dX4_repeat_48 ?_
              refine g_iconst X (pc := 51) (v := 1) dX4_repeat_51 (by decide) ?_
              refine g_iadd X (pc := 52) dX4_repeat_52 ?_
              obtain ⟨M10, eM10, h⟩ := bd h
              refine g_putI X (pc := 53) fk_6_4 rfl rfl rfl eM10 tb_551 (Or.inl rfl) dX4_repeat_53 ?_
              refine g_aload_n X (pc := 56) 1 rfl rfl dX4_repeat_56 ?_
              refine g_aload_n X (pc := 57) 0 rfl rfl dX4_repeat_57 ?_
              obtain ⟨v11, ev11, h⟩ := bd h
              refine g_getI X (pc := 58) fk_6_3 rfl rfl ev11 tb_550 dX4_repeat_58 ?_
              obtain ⟨q12, eq12, h⟩ := bd h
              obtain ⟨M13, eM13, h⟩ := bd h
              refine g_callV X (pc := 61) (M' := M13) (ro := none) (c := 4) rfl (by decide) (as := [pI v11]) (as' := [pI v11]) (st := []) eq12 (ctX4_fillAsk _ _ _ _ _ _ fu q12 v11 M10 _ eM13) tb_516 tb_513 tb_515 ts_6 tb_4 ⟨rfl, hyX4_fillAsk⟩ rfl rfl ⟨by decide, by decide⟩ (Nat.le_of_ble_eq_true rfl) dX4_repeat_61 ?_
              refine g_aload_n X (pc := 64) 1 rfl rfl dX4_repeat_64 ?_
              obtain ⟨v14, ev14, h⟩ := bd h
              refine g_getR X (pc := 65) fk_4_5 rfl rfl ev14 tb_109 dX4_repeat_65 ?_
              refine g_aload_n X (pc := 68) 1 rfl rfl dX4_repeat_68 ?_
              obtain ⟨v15, ev15, h⟩ := bd h
              refine g_getR X (pc := 69) fk_4_0 rfl rfl ev15 tb_97 dX4_repeat_69 ?_
              refine g_bipush X (pc := 72) (v := 42) dX4_repeat_72 (by decide) ?_
              obtain ⟨q16, eq16, h⟩ := bd h
              obtain ⟨M17, eM17, h⟩ := bd h
              refine g_callV X (pc := 74) (M' := M17) (ro := none) (c := 10) rfl (by decide) (as := [pR v15, pI (42 : Int32)]) (as' := [pI (42 : Int32), pR v15]) (st := []) eq16 (ctX10_put _ _ _ _ _ _ fu q16 v15 (42 : Int32) M13 _ eM17) tb_534 tb_531 tb_532 tb_533 tb_3 ⟨rfl, hyX10_put⟩ rfl rfl ⟨by decide, by decide⟩ (Nat.le_of_ble_eq_true rfl) dX4_repeat_74 ?_
              refine g_goto X (pc := 77) (tgt := 85) dX4_repeat_77 (by decide) ?_
              refine g_iconst X (pc := 85) (v := 1) dX4_repeat_85 (by decide) ?_
              obtain ⟨hz, rfl⟩ := rN_some h
              exact g_nreturn X rfl hz hE dX4_repeat_86
          · have h := (if_neg hc).symm.trans h
            refine g_goto X (pc := 35) (tgt := 87) dX4_repeat_35 (by decide) ?_
            refine g_sub [1, 2, 3] [(0, pR (some a0)), (1, pI a1), (2, pI a2)] rfl ?_
            exact wX4_repeat_L87 X hE hn fu (fun b0 b1 b2 M => fX4_repeat_L2 fu  n b0 b1 b2 M) ih a0 a1 a2 M4 h
theorem wX4_repeat {x : GX} {n0 sl0 : Nat} (X : Cx x cX4_repeat RX4 (some .boolean) n0 sl0 3 67) {out : Int32 × Mm} (hE : Ends x n0 sl0 (some (pI out.1)) out.2) (hn : xn x = 4) (fu : Nat)   (a0 : Nat) (a1 : Int32)  (M : Mm) (h : fX4_repeat fu  a0 a1 M = some out) : Gw x M 0 [(0, pR (some a0)), (1, pI a1)] [] := by
  unfold fX4_repeat at h
  refine g_iconst X (pc := 0) (v := 0) dX4_repeat_0 (by decide) ?_
  refine g_istore_n X (pc := 1) [(2, pI (0 : Int32)), (0, pR (some a0)), (1, pI a1)] rfl (lt_n hn (by decide)) rfl dX4_repeat_1 ?_
  refine g_sub [1, 2, 0] [(0, pR (some a0)), (1, pI a1), (2, pI (0 : Int32))] rfl ?_
  exact wX4_repeat_L2 X hE hn fu   fu a0 a1 (0 : Int32) M h
theorem hyX4_repeat : yX4_repeat.cls ≠ "java/lang/invoke/MethodHandle" ∧ yX4_repeat.cls ≠ "java/lang/invoke/VarHandle" ∧ (parseMethodDescriptor yX4_repeat.desc).map (fun d => d.parameters.length) = some 1 := ⟨by decide +kernel, by decide +kernel, by decide +kernel⟩
theorem ctX4_repeat (l : Launch) (E : Nat → Nat) (D : va_G) (dA : Nat → ClassId) (lo : Nat) (H0 : Heap) (fu : Nat) (a0 : Nat) (a1 : Int32) (M : Mm) (out : Int32 × Mm) (h : fX4_repeat fu a0 a1 M = some out) : Ct l E D dA lo H0 yX4_repeat cX4_repeat 4 (some .boolean) 3 67 [pR (some a0), pI a1] M (some (pI out.1)) out.2 := by
  refine ct_of (by decide +kernel) (Nat.le_of_ble_eq_true rfl) ?_
  intro x hl he hd ha ho hh hn hin X hE
  exact wX4_repeat X hE hn fu a0 a1 M h
/-! WebHost$Pace.startTiming(II)V -/
def fX5_startTiming (fu : Nat)  (a0 : Nat) (a1 : Int32) (a2 : Int32)  (M : Mm) : Option (Mm) :=
    (gI M 5 328 (some a0)).bind fun v1 =>
    if v1 = 0 then (
    (pZ M 5 328 (some a0) (1 : Int32)).bind fun M2 =>
    (pF M2 5 329 (some a0) a1).bind fun M3 =>
    (pF M3 5 330 (some a0) a2).bind fun M4 =>
    some M4)
    else (
    some M)
theorem dX5_startTiming_0 : decode cX5_startTiming 0 = .ok (.aload_n 0, 1) := by decide +kernel
theorem dX5_startTiming_1 : decode cX5_startTiming 1 = .ok (.getfield 39, 3) := by decide +kernel
theorem dX5_startTiming_4 : decode cX5_startTiming 4 = .ok (.ifCond .ne 18, 3) := by decide +kernel
theorem dX5_startTiming_7 : decode cX5_startTiming 7 = .ok (.aload_n 0, 1) := by decide +kernel
theorem dX5_startTiming_8 : decode cX5_startTiming 8 = .ok (.iconst 1, 1) := by decide +kernel
theorem dX5_startTiming_9 : decode cX5_startTiming 9 = .ok (.putfield 39, 3) := by decide +kernel
theorem dX5_startTiming_12 : decode cX5_startTiming 12 = .ok (.aload_n 0, 1) := by decide +kernel
theorem dX5_startTiming_13 : decode cX5_startTiming 13 = .ok (.iload_n 1, 1) := by decide +kernel
theorem dX5_startTiming_14 : decode cX5_startTiming 14 = .ok (.putfield 51, 3) := by decide +kernel
theorem dX5_startTiming_17 : decode cX5_startTiming 17 = .ok (.aload_n 0, 1) := by decide +kernel
theorem dX5_startTiming_18 : decode cX5_startTiming 18 = .ok (.iload_n 2, 1) := by decide +kernel
theorem dX5_startTiming_19 : decode cX5_startTiming 19 = .ok (.putfield 54, 3) := by decide +kernel
theorem dX5_startTiming_22 : decode cX5_startTiming 22 = .ok (.return_, 1) := by decide +kernel
theorem wX5_startTiming {x : GX} {n0 sl0 : Nat} (X : Cx x cX5_startTiming RX5 none n0 sl0 0 0) {out : Mm} (hE : Ends x n0 sl0 none out) (hn : xn x = 3) (fu : Nat)   (a0 : Nat) (a1 : Int32) (a2 : Int32)  (M : Mm) (h : fX5_startTiming fu  a0 a1 a2 M = some out) : Gw x M 0 [(0, pR (some a0)), (1, pI a1), (2, pI a2)] [] := by
  unfold fX5_startTiming at h
  refine g_aload_n X (pc := 0) 0 rfl rfl dX5_startTiming_0 ?_
  obtain ⟨v1, ev1, h⟩ := bd h
  refine g_getI X (pc := 1) fk_5_8 rfl rfl ev1 tb_921 dX5_startTiming_1 ?_
  refine g_if_ne X (pc := 4) (tgt := 22) dX5_startTiming_4 (by decide) (fun hc => ?_) (fun hc => ?_)
  · have h := (if_neg hc).symm.trans h
    obtain rfl := Option.some.inj h
    exact g_return X hE dX5_startTiming_22
  · have h := (if_pos hc).symm.trans h
    refine g_aload_n X (pc := 7) 0 rfl rfl dX5_startTiming_7 ?_
    refine g_iconst X (pc := 8) (v := 1) dX5_startTiming_8 (by decide) ?_
    obtain ⟨M2, eM2, h⟩ := bd h
    refine g_putZ X (pc := 9) fk_5_8 rfl rfl rfl eM2 tb_921 (Or.inl rfl) dX5_startTiming_9 ?_
    refine g_aload_n X (pc := 12) 0 rfl rfl dX5_startTiming_12 ?_
    refine g_iload_n X (pc := 13) 1 rfl rfl dX5_startTiming_13 ?_
    obtain ⟨M3, eM3, h⟩ := bd h
    refine g_putI X (pc := 14) fk_5_9 rfl rfl rfl eM3 tb_923 (Or.inl rfl) dX5_startTiming_14 ?_
    refine g_aload_n X (pc := 17) 0 rfl rfl dX5_startTiming_17 ?_
    refine g_iload_n X (pc := 18) 2 rfl rfl dX5_startTiming_18 ?_
    obtain ⟨M4, eM4, h⟩ := bd h
    refine g_putI X (pc := 19) fk_5_10 rfl rfl rfl eM4 tb_924 (Or.inl rfl) dX5_startTiming_19 ?_
    obtain rfl := Option.some.inj h
    exact g_return X hE dX5_startTiming_22
theorem hyX5_startTiming : yX5_startTiming.cls ≠ "java/lang/invoke/MethodHandle" ∧ yX5_startTiming.cls ≠ "java/lang/invoke/VarHandle" ∧ (parseMethodDescriptor yX5_startTiming.desc).map (fun d => d.parameters.length) = some 2 := ⟨by decide +kernel, by decide +kernel, by decide +kernel⟩
theorem ctX5_startTiming (l : Launch) (E : Nat → Nat) (D : va_G) (dA : Nat → ClassId) (lo : Nat) (H0 : Heap) (fu : Nat) (a0 : Nat) (a1 : Int32) (a2 : Int32) (M : Mm) (out : Mm) (h : fX5_startTiming fu a0 a1 a2 M = some out) : Ct l E D dA lo H0 yX5_startTiming cX5_startTiming 3 none 0 0 [pR (some a0), pI a1, pI a2] M none out := by
  refine ct_of (by decide +kernel) (Nat.le_of_ble_eq_true rfl) ?_
  intro x hl he hd ha ho hh hn hin X hE
  exact wX5_startTiming X hE hn fu a0 a1 a2 M h
