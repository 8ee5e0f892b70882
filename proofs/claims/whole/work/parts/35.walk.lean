/-! ===== walks of methods, printed by a program of ours ===== -/
/-! WebHostModel.<init>()V -/
def fX16_init_L239 (fu : Nat)  : Nat → Nat → Int32 → Mm → Option (Mm)
  | 0, _, _, _ => none
  | n + 1, a0, a1, M =>
    if (4 : Int32) ≤ a1 then (
    some M)
    else (
    (gR M 16 1052 (some a0)).bind fun v1 =>
    b2 (mkO M 13) fun v2 M3 =>
    (fX13_init fu v2  M3).bind fun M4 =>
    (pB M4 13 v1 a1 (some v2)).bind fun M5 =>
    fX16_init_L239 fu  n a0 (a1 + (1 : Int32)) M5)
def fX16_init_L212 (fu : Nat)  : Nat → Nat → Int32 → Mm → Option (Mm)
  | 0, _, _, _ => none
  | n + 1, a0, a1, M =>
    if (8 : Int32) ≤ a1 then (
    fX16_init_L239 fu  fu a0 (0 : Int32) M)
    else (
    (gR M 16 1051 (some a0)).bind fun v1 =>
    b2 (mkO M 15) fun v2 M3 =>
    (fX15_init fu v2  M3).bind fun M4 =>
    (pB M4 15 v1 a1 (some v2)).bind fun M5 =>
    fX16_init_L212 fu  n a0 (a1 + (1 : Int32)) M5)
def fX16_init_L185 (fu : Nat)  : Nat → Nat → Int32 → Mm → Option (Mm)
  | 0, _, _, _ => none
  | n + 1, a0, a1, M =>
    if (16 : Int32) ≤ a1 then (
    fX16_init_L212 fu  fu a0 (0 : Int32) M)
    else (
    (gR M 16 1050 (some a0)).bind fun v1 =>
    b2 (mkO M 14) fun v2 M3 =>
    (fX14_init fu v2  M3).bind fun M4 =>
    (pB M4 14 v1 a1 (some v2)).bind fun M5 =>
    fX16_init_L185 fu  n a0 (a1 + (1 : Int32)) M5)
def fX16_init_L158 (fu : Nat)  : Nat → Nat → Int32 → Mm → Option (Mm)
  | 0, _, _, _ => none
  | n + 1, a0, a1, M =>
    if (16 : Int32) ≤ a1 then (
    fX16_init_L185 fu  fu a0 (0 : Int32) M)
    else (
    (gR M 16 1055 (some a0)).bind fun v1 =>
    b2 (mkO M 12) fun v2 M3 =>
    (fX12_init fu v2  M3).bind fun M4 =>
    (pB M4 12 v1 a1 (some v2)).bind fun M5 =>
    fX16_init_L158 fu  n a0 (a1 + (1 : Int32)) M5)
def fX16_init (fu : Nat)  (a0 : Nat)  (M : Mm) : Option (Mm) :=
    b2 (mkA M 100 (65540 : Int32)) fun v1 M2 =>
    (pG M2 16 1024 (some a0) (some v1)).bind fun M3 =>
    b2 (mkA M3 100 (65535 : Int32)) fun v4 M5 =>
    (pG M5 16 1026 (some a0) (some v4)).bind fun M6 =>
    b2 (mkA M6 100 (3072 : Int32)) fun v7 M8 =>
    (pG M8 16 1037 (some a0) (some v7)).bind fun M9 =>
    b2 (mkA M9 101 (64 : Int32)) fun v10 M11 =>
    (pG M11 16 1038 (some a0) (some v10)).bind fun M12 =>
    b2 (mkA M12 101 (64 : Int32)) fun v13 M14 =>
    (pG M14 16 1039 (some a0) (some v13)).bind fun M15 =>
    b2 (mkA M15 101 (64 : Int32)) fun v16 M17 =>
    (pG M17 16 1040 (some a0) (some v16)).bind fun M18 =>
    b2 (mkA M18 101 (8 : Int32)) fun v19 M20 =>
    (pG M20 16 1041 (some a0) (some v19)).bind fun M21 =>
    b2 (mkA M21 100 (1514 : Int32)) fun v22 M23 =>
    (pG M23 16 1043 (some a0) (some v22)).bind fun M24 =>
    b2 (mkA M24 100 (48448 : Int32)) fun v25 M26 =>
    (pG M26 16 1044 (some a0) (some v25)).bind fun M27 =>
    b2 (mkA M27 101 (32 : Int32)) fun v28 M29 =>
    (pG M29 16 1045 (some a0) (some v28)).bind fun M30 =>
    b2 (mkA M30 101 (32 : Int32)) fun v31 M32 =>
    (pG M32 16 1046 (some a0) (some v31)).bind fun M33 =>
    b2 (mkA M33 124 (16 : Int32)) fun v34 M35 =>
    (pG M35 16 1050 (some a0) (some v34)).bind fun M36 =>
    b2 (mkA M36 125 (8 : Int32)) fun v37 M38 =>
    (pG M38 16 1051 (some a0) (some v37)).bind fun M39 =>
    b2 (mkA M39 123 (4 : Int32)) fun v40 M41 =>
    (pG M41 16 1052 (some a0) (some v40)).bind fun M42 =>
    b2 (mkA M42 100 (4096 : Int32)) fun v43 M44 =>
    (pG M44 16 1053 (some a0) (some v43)).bind fun M45 =>
    b2 (mkA M45 122 (16 : Int32)) fun v46 M47 =>
    (pG M47 16 1055 (some a0) (some v46)).bind fun M48 =>
    b2 (mkA M48 100 (4096 : Int32)) fun v49 M50 =>
    (pG M50 16 1065 (some a0) (some v49)).bind fun M51 =>
    b2 (mkA M51 100 (8192 : Int32)) fun v52 M53 =>
    (pG M53 16 1082 (some a0) (some v52)).bind fun M54 =>
    fX16_init_L158 fu  fu a0 (0 : Int32) M54
theorem dX16_init_0 : decode cX16_init 0 = .ok (.aload_n 0, 1) := by decide +kernel
theorem dX16_init_1 : decode cX16_init 1 = .ok (.invokespecial 1, 3) := by decide +kernel
theorem dX16_init_4 : decode cX16_init 4 = .ok (.aload_n 0, 1) := by decide +kernel
theorem dX16_init_5 : decode cX16_init 5 = .ok (.ldc 9, 2) := by decide +kernel
theorem dX16_init_7 : decode cX16_init 7 = .ok (.newarray .byte, 2) := by decide +kernel
theorem dX16_init_9 : decode cX16_init 9 = .ok (.putfield 10, 3) := by decide +kernel
theorem dX16_init_12 : decode cX16_init 12 = .ok (.aload_n 0, 1) := by decide +kernel
theorem dX16_init_13 : decode cX16_init 13 = .ok (.ldc 14, 2) := by decide +kernel
theorem dX16_init_15 : decode cX16_init 15 = .ok (.newarray .byte, 2) := by decide +kernel
theorem dX16_init_17 : decode cX16_init 17 = .ok (.putfield 15, 3) := by decide +kernel
theorem dX16_init_20 : decode cX16_init 20 = .ok (.aload_n 0, 1) := by decide +kernel
theorem dX16_init_21 : decode cX16_init 21 = .ok (.sipush 3072, 3) := by decide +kernel
theorem dX16_init_24 : decode cX16_init 24 = .ok (.newarray .byte, 2) := by decide +kernel
theorem dX16_init_26 : decode cX16_init 26 = .ok (.putfield 18, 3) := by decide +kernel
theorem dX16_init_29 : decode cX16_init 29 = .ok (.aload_n 0, 1) := by decide +kernel
theorem dX16_init_30 : decode cX16_init 30 = .ok (.bipush 64, 2) := by decide +kernel
theorem dX16_init_32 : decode cX16_init 32 = .ok (.newarray .int, 2) := by decide +kernel
theorem dX16_init_34 : decode cX16_init 34 = .ok (.putfield 21, 3) := by decide +kernel
theorem dX16_init_37 : decode cX16_init 37 = .ok (.aload_n 0, 1) := by decide +kernel
theorem dX16_init_38 : decode cX16_init 38 = .ok (.bipush 64, 2) := by decide +kernel
theorem dX16_init_40 : decode cX16_init 40 = .ok (.newarray .int, 2) := by decide +kernel
theorem dX16_init_42 : decode cX16_init 42 = .ok (.putfield 25, 3) := by decide +kernel
theorem dX16_init_45 : decode cX16_init 45 = .ok (.aload_n 0, 1) := by decide +kernel
theorem dX16_init_46 : decode cX16_init 46 = .ok (.bipush 64, 2) := by decide +kernel
theorem dX16_init_48 : decode cX16_init 48 = .ok (.newarray .int, 2) := by decide +kernel
theorem dX16_init_50 : decode cX16_init 50 = .ok (.putfield 28, 3) := by decide +kernel
theorem dX16_init_53 : decode cX16_init 53 = .ok (.aload_n 0, 1) := by decide +kernel
theorem dX16_init_54 : decode cX16_init 54 = .ok (.bipush 8, 2) := by decide +kernel
theorem dX16_init_56 : decode cX16_init 56 = .ok (.newarray .int, 2) := by decide +kernel
theorem dX16_init_58 : decode cX16_init 58 = .ok (.putfield 31, 3) := by decide +kernel
theorem dX16_init_61 : decode cX16_init 61 = .ok (.aload_n 0, 1) := by decide +kernel
theorem dX16_init_62 : decode cX16_init 62 = .ok (.sipush 1514, 3) := by decide +kernel
theorem dX16_init_65 : decode cX16_init 65 = .ok (.newarray .byte, 2) := by decide +kernel
theorem dX16_init_67 : decode cX16_init 67 = .ok (.putfield 34, 3) := by decide +kernel
theorem dX16_init_70 : decode cX16_init 70 = .ok (.aload_n 0, 1) := by decide +kernel
theorem dX16_init_71 : decode cX16_init 71 = .ok (.ldc 37, 2) := by decide +kernel
theorem dX16_init_73 : decode cX16_init 73 = .ok (.newarray .byte, 2) := by decide +kernel
theorem dX16_init_75 : decode cX16_init 75 = .ok (.putfield 38, 3) := by decide +kernel
theorem dX16_init_78 : decode cX16_init 78 = .ok (.aload_n 0, 1) := by decide +kernel
theorem dX16_init_79 : decode cX16_init 79 = .ok (.bipush 32, 2) := by decide +kernel
theorem dX16_init_81 : decode cX16_init 81 = .ok (.newarray .int, 2) := by decide +kernel
theorem dX16_init_83 : decode cX16_init 83 = .ok (.putfield 41, 3) := by decide +kernel
theorem dX16_init_86 : decode cX16_init 86 = .ok (.aload_n 0, 1) := by decide +kernel
theorem dX16_init_87 : decode cX16_init 87 = .ok (.bipush 32, 2) := by decide +kernel
theorem dX16_init_89 : decode cX16_init 89 = .ok (.newarray .int, 2) := by decide +kernel
theorem dX16_init_91 : decode cX16_init 91 = .ok (.putfield 44, 3) := by decide +kernel
theorem dX16_init_94 : decode cX16_init 94 = .ok (.aload_n 0, 1) := by decide +kernel
theorem dX16_init_95 : decode cX16_init 95 = .ok (.bipush 16, 2) := by decide +kernel
theorem dX16_init_97 : decode cX16_init 97 = .ok (.anewarray 47, 3) := by decide +kernel
theorem dX16_init_100 : decode cX16_init 100 = .ok (.putfield 49, 3) := by decide +kernel
theorem dX16_init_103 : decode cX16_init 103 = .ok (.aload_n 0, 1) := by decide +kernel
theorem dX16_init_104 : decode cX16_init 104 = .ok (.bipush 8, 2) := by decide +kernel
theorem dX16_init_106 : decode cX16_init 106 = .ok (.anewarray 53, 3) := by decide +kernel
theorem dX16_init_109 : decode cX16_init 109 = .ok (.putfield 55, 3) := by decide +kernel
theorem dX16_init_112 : decode cX16_init 112 = .ok (.aload_n 0, 1) := by decide +kernel
theorem dX16_init_113 : decode cX16_init 113 = .ok (.iconst 4, 1) := by decide +kernel
theorem dX16_init_114 : decode cX16_init 114 = .ok (.anewarray 59, 3) := by decide +kernel
theorem dX16_init_117 : decode cX16_init 117 = .ok (.putfield 61, 3) := by decide +kernel
theorem dX16_init_120 : decode cX16_init 120 = .ok (.aload_n 0, 1) := by decide +kernel
theorem dX16_init_121 : decode cX16_init 121 = .ok (.sipush 4096, 3) := by decide +kernel
theorem dX16_init_124 : decode cX16_init 124 = .ok (.newarray .byte, 2) := by decide +kernel
theorem dX16_init_126 : decode cX16_init 126 = .ok (.putfield 65, 3) := by decide +kernel
theorem dX16_init_129 : decode cX16_init 129 = .ok (.aload_n 0, 1) := by decide +kernel
theorem dX16_init_130 : decode cX16_init 130 = .ok (.bipush 16, 2) := by decide +kernel
theorem dX16_init_132 : decode cX16_init 132 = .ok (.anewarray 68, 3) := by decide +kernel
theorem dX16_init_135 : decode cX16_init 135 = .ok (.putfield 70, 3) := by decide +kernel
theorem dX16_init_138 : decode cX16_init 138 = .ok (.aload_n 0, 1) := by decide +kernel
theorem dX16_init_139 : decode cX16_init 139 = .ok (.sipush 4096, 3) := by decide +kernel
theorem dX16_init_142 : decode cX16_init 142 = .ok (.newarray .byte, 2) := by decide +kernel
theorem dX16_init_144 : decode cX16_init 144 = .ok (.putfield 74, 3) := by decide +kernel
theorem dX16_init_147 : decode cX16_init 147 = .ok (.aload_n 0, 1) := by decide +kernel
theorem dX16_init_148 : decode cX16_init 148 = .ok (.sipush 8192, 3) := by decide +kernel
theorem dX16_init_151 : decode cX16_init 151 = .ok (.newarray .byte, 2) := by decide +kernel
theorem dX16_init_153 : decode cX16_init 153 = .ok (.putfield 77, 3) := by decide +kernel
theorem dX16_init_156 : decode cX16_init 156 = .ok (.iconst 0, 1) := by decide +kernel
theorem dX16_init_157 : decode cX16_init 157 = .ok (.istore_n 1, 1) := by decide +kernel
theorem dX16_init_158 : decode cX16_init 158 = .ok (.iload_n 1, 1) := by decide +kernel
theorem dX16_init_159 : decode cX16_init 159 = .ok (.bipush 16, 2) := by decide +kernel
theorem dX16_init_161 : decode cX16_init 161 = .ok (.if_icmp .ge 22, 3) := by decide +kernel
theorem dX16_init_164 : decode cX16_init 164 = .ok (.aload_n 0, 1) := by decide +kernel
theorem dX16_init_165 : decode cX16_init 165 = .ok (.getfield 70, 3) := by decide +kernel
theorem dX16_init_168 : decode cX16_init 168 = .ok (.iload_n 1, 1) := by decide +kernel
theorem dX16_init_169 : decode cX16_init 169 = .ok (.new 68, 3) := by decide +kernel
theorem dX16_init_172 : decode cX16_init 172 = .ok (.dup, 1) := by decide +kernel
theorem dX16_init_173 : decode cX16_init 173 = .ok (.invokespecial 80, 3) := by decide +kernel
theorem dX16_init_176 : decode cX16_init 176 = .ok (.aastore, 1) := by decide +kernel
theorem dX16_init_177 : decode cX16_init 177 = .ok (.iinc 1 1, 3) := by decide +kernel
theorem dX16_init_180 : decode cX16_init 180 = .ok (.goto (-22), 3) := by decide +kernel
theorem dX16_init_183 : decode cX16_init 183 = .ok (.iconst 0, 1) := by decide +kernel
theorem dX16_init_184 : decode cX16_init 184 = .ok (.istore_n 1, 1) := by decide +kernel
theorem dX16_init_185 : decode cX16_init 185 = .ok (.iload_n 1, 1) := by decide +kernel
theorem dX16_init_186 : decode cX16_init 186 = .ok (.bipush 16, 2) := by decide +kernel
theorem dX16_init_188 : decode cX16_init 188 = .ok (.if_icmp .ge 22, 3) := by decide +kernel
theorem dX16_init_191 : decode cX16_init 191 = .ok (.aload_n 0, 1) := by decide +kernel
theorem dX16_init_192 : decode cX16_init 192 = .ok (.getfield 49, 3) := by decide +kernel
theorem dX16_init_195 : decode cX16_init 195 = .ok (.iload_n 1, 1) := by decide +kernel
theorem dX16_init_196 : decode cX16_init 196 = .ok (.new 47, 3) := by decide +kernel
theorem dX16_init_199 : decode cX16_init 199 = .ok (.dup, 1) := by decide +kernel
theorem dX16_init_200 : decode cX16_init 200 = .ok (.invokespecial 81, 3) := by decide +kernel
theorem dX16_init_203 : decode cX16_init 203 = .ok (.aastore, 1) := by decide +kernel
theorem dX16_init_204 : decode cX16_init 204 = .ok (.iinc 1 1, 3) := by decide +kernel
theorem dX16_init_207 : decode cX16_init 207 = .ok (.goto (-22), 3) := by decide +kernel
theorem dX16_init_210 : decode cX16_init 210 = .ok (.iconst 0, 1) := by decide +kernel
theorem dX16_init_211 : decode cX16_init 211 = .ok (.istore_n 1, 1) := by decide +kernel
theorem dX16_init_212 : decode cX16_init 212 = .ok (.iload_n 1, 1) := by decide +kernel
theorem dX16_init_213 : decode cX16_init 213 = .ok (.bipush 8, 2) := by decide +kernel
theorem dX16_init_215 : decode cX16_init 215 = .ok (.if_icmp .ge 22, 3) := by decide +kernel
theorem dX16_init_218 : decode cX16_init 218 = .ok (.aload_n 0, 1) := by decide +kernel
theorem dX16_init_219 : decode cX16_init 219 = .ok (.getfield 55, 3) := by decide +kernel
theorem dX16_init_222 : decode cX16_init 222 = .ok (.iload_n 1, 1) := by decide +kernel
theorem dX16_init_223 : decode cX16_init 223 = .ok (.new 53, 3) := by decide +kernel
theorem dX16_init_226 : decode cX16_init 226 = .ok (.dup, 1) := by decide +kernel
theorem dX16_init_227 : decode cX16_init 227 = .ok (.invokespecial 82, 3) := by decide +kernel
theorem dX16_init_230 : decode cX16_init 230 = .ok (.aastore, 1) := by decide +kernel
theorem dX16_init_231 : decode cX16_init 231 = .ok (.iinc 1 1, 3) := by decide +kernel
theorem dX16_init_234 : decode cX16_init 234 = .ok (.goto (-22), 3) := by decide +kernel
theorem dX16_init_237 : decode cX16_init 237 = .ok (.iconst 0, 1) := by decide +kernel
theorem dX16_init_238 : decode cX16_init 238 = .ok (.istore_n 1, 1) := by decide +kernel
theorem dX16_init_239 : decode cX16_init 239 = .ok (.iload_n 1, 1) := by decide +kernel
theorem dX16_init_240 : decode cX16_init 240 = .ok (.iconst 4, 1) := by decide +kernel
theorem dX16_init_241 : decode cX16_init 241 = .ok (.if_icmp .ge 22, 3) := by decide +kernel
theorem dX16_init_244 : decode cX16_init 244 = .ok (.aload_n 0, 1) := by decide +kernel
theorem dX16_init_245 : decode cX16_init 245 = .ok (.getfield 61, 3) := by decide +kernel
theorem dX16_init_248 : decode cX16_init 248 = .ok (.iload_n 1, 1) := by decide +kernel
theorem dX16_init_249 : decode cX16_init 249 = .ok (.new 59, 3) := by decide +kernel
theorem dX16_init_252 : decode cX16_init 252 = .ok (.dup, 1) := by decide +kernel
theorem dX16_init_253 : decode cX16_init 253 = .ok (.invokespecial 83, 3) := by decide +kernel
theorem dX16_init_256 : decode cX16_init 256 = .ok (.aastore, 1) := by decide +kernel
theorem dX16_init_257 : decode cX16_init 257 = .ok (.iinc 1 1, 3) := by decide +kernel
theorem dX16_init_260 : decode cX16_init 260 = .ok (.goto (-21), 3) := by decide +kernel
theorem dX16_init_263 : decode cX16_init 263 = .ok (.return_, 1) := by decide +kernel
theorem wX16_init_L239 {x : GX} {n0 sl0 : Nat} (X : Cx x cX16_init RX16 none n0 sl0 2 32) {out : Mm} (hE : Ends x n0 sl0 none out) (hn : xn x = 2) (hin : (xt x).name = "<init>") (fu : Nat)   : ∀ (n : Nat) (a0 : Nat) (a1 : Int32)  (M : Mm), fX16_init_L239 fu  n a0 a1 M = some out → Gw x M 239 [(0, pR (some a0)), (1, pI a1)] [] := by
  intro n
  induction n with
  | zero =>
    intro a0 a1 M h
    have h : (none : Option (Mm)) = some out := h
    cases h
  | succ n ih =>
    intro a0 a1 M h
    rw [fX16_init_L239] at h
    refine g_iload_n X (pc := 239) 1 rfl rfl dX16_init_239 ?_
    refine g_iconst X (pc := 240) (v := 4) dX16_init_240 (by decide) ?_
    refine g_icmp_ge X (pc := 241) (tgt := 263) dX16_init_241 (by decide) (fun hc => ?_) (fun hc => ?_)
    · have h := (if_pos hc).symm.trans h
      obtain rfl := Option.some.inj h
      exact g_return X hE dX16_init_263
    · have h := (if_neg hc).symm.trans h
      refine g_aload_n X (pc := 244) 0 rfl rfl dX16_init_244 ?_
      obtain ⟨v1, ev1, h⟩ := bd h
      refine g_getR X (pc := 245) fk_16_28 rfl rfl ev1 tb_1842 dX16_init_245 ?_
      refine g_iload_n X (pc := 248) 1 rfl rfl dX16_init_248 ?_
      obtain ⟨v2, M3, eM3, h⟩ := b2d h
      refine g_new X (pc := 249) fk_13_0 dvX13 eM3 tb_1571 tb_1779 tb_12 dX16_init_249 ?_
      refine g_dup X (pc := 252) rfl dX16_init_252 ?_
      obtain ⟨M4, eM4, h⟩ := bd h
      refine g_callIN X (pc := 253) (M' := M4) (as := []) (as' := []) (st := [pR (some v2), pI a1, pR v1]) (ctX13_init _ _ _ _ _ _ fu v2  M3 _ eM4) tb_1782 (List.mem_of_getElem? (i := 30) rfl) tb_1781 tb_12 rfl hyX13_init rfl rfl ⟨by decide, by decide⟩ (Nat.le_of_ble_eq_true rfl) dX16_init_253 ?_
      obtain ⟨M5, eM5, h⟩ := bd h
      refine g_aastore X (pc := 256) (c := 13) (k := 8) rfl (by decide) rfl eM5 dX16_init_256 ?_
      refine g_iinc X (pc := 257) 1 [(1, pI (a1 + (1 : Int32))), (0, pR (some a0))] rfl (iinc_e (by decide)) (lt_n hn (by decide)) rfl dX16_init_257 ?_
      refine g_goto X (pc := 260) (tgt := 239) dX16_init_260 (by decide) ?_
      refine g_sub [1, 0] [(0, pR (some a0)), (1, pI (a1 + (1 : Int32)))] rfl ?_
      exact ih a0 (a1 + (1 : Int32)) M5 h
theorem wX16_init_L212 {x : GX} {n0 sl0 : Nat} (X : Cx x cX16_init RX16 none n0 sl0 2 32) {out : Mm} (hE : Ends x n0 sl0 none out) (hn : xn x = 2) (hin : (xt x).name = "<init>") (fu : Nat)   : ∀ (n : Nat) (a0 : Nat) (a1 : Int32)  (M : Mm), fX16_init_L212 fu  n a0 a1 M = some out → Gw x M 212 [(0, pR (some a0)), (1, pI a1)] [] := by
  intro n
  induction n with
  | zero =>
    intro a0 a1 M h
    have h : (none : Option (Mm)) = some out := h
    cases h
  | succ n ih =>
    intro a0 a1 M h
    rw [fX16_init_L212] at h
    refine g_iload_n X (pc := 212) 1 rfl rfl dX16_init_212 ?_
    refine g_bipush X (pc := 213) (v := 8) dX16_init_213 (by decide) ?_
    refine g_icmp_ge X (pc := 215) (tgt := 237) dX16_init_215 (by decide) (fun hc => ?_) (fun hc => ?_)
    · have h := (if_pos hc).symm.trans h
      refine g_iconst X (pc := 237) (v := 0) dX16_init_237 (by decide) ?_
      refine g_istore_n X (pc := 238) [(1, pI (0 : Int32)), (0, pR (some a0))] rfl (lt_n hn (by decide)) rfl dX16_init_238 ?_
      refine g_sub [1, 0] [(0, pR (some a0)), (1, pI (0 : Int32))] rfl ?_
      exact wX16_init_L239 X hE hn hin fu   fu a0 (0 : Int32) M h
    · have h := (if_neg hc).symm.trans h
      refine g_aload_n X (pc := 218) 0 rfl rfl dX16_init_218 ?_
      obtain ⟨v1, ev1, h⟩ := bd h
      refine g_getR X (pc := 219) fk_16_27 rfl rfl ev1 tb_1841 dX16_init_219 ?_
      refine g_iload_n X (pc := 222) 1 rfl rfl dX16_init_222 ?_
      obtain ⟨v2, M3, eM3, h⟩ := b2d h
      refine g_new X (pc := 223) fk_15_0 dvX15 eM3 tb_1569 tb_1751 tb_11 dX16_init_223 ?_
      refine g_dup X (pc := 226) rfl dX16_init_226 ?_
      obtain ⟨M4, eM4, h⟩ := bd h
      refine g_callIN X (pc := 227) (M' := M4) (as := []) (as' := []) (st := [pR (some v2), pI a1, pR v1]) (ctX15_init _ _ _ _ _ _ fu v2  M3 _ eM4) tb_1754 (List.mem_of_getElem? (i := 29) rfl) tb_1753 tb_11 rfl hyX15_init rfl rfl ⟨by decide, by decide⟩ (Nat.le_of_ble_eq_true rfl) dX16_init_227 ?_
      obtain ⟨M5, eM5, h⟩ := bd h
      refine g_aastore X (pc := 230) (c := 15) (k := 7) rfl (by decide) rfl eM5 dX16_init_230 ?_
      refine g_iinc X (pc := 231) 1 [(1, pI (a1 + (1 : Int32))), (0, pR (some a0))] rfl (iinc_e (by decide)) (lt_n hn (by decide)) rfl dX16_init_231 ?_
      refine g_goto X (pc := 234) (tgt := 212) dX16_init_234 (by decide) ?_
      refine g_sub [1, 0] [(0, pR (some a0)), (1, pI (a1 + (1 : Int32)))] rfl ?_
      exact ih a0 (a1 + (1 : Int32)) M5 h
theorem wX16_init_L185 {x : GX} {n0 sl0 : Nat} (X : Cx x cX16_init RX16 none n0 sl0 2 32) {out : Mm} (hE : Ends x n0 sl0 none out) (hn : xn x = 2) (hin : (xt x).name = "<init>") (fu : Nat)   : ∀ (n : Nat) (a0 : Nat) (a1 : Int32)  (M : Mm), fX16_init_L185 fu  n a0 a1 M = some out → Gw x M 185 [(0, pR (some a0)), (1, pI a1)] [] := by
  intro n
  induction n with
  | zero =>
    intro a0 a1 M h
    have h : (none : Option (Mm)) = some out := h
    cases h
  | succ n ih =>
    intro a0 a1 M h
    rw [fX16_init_L185] at h
    refine g_iload_n X (pc := 185) 1 rfl rfl dX16_init_185 ?_
    refine g_bipush X (pc := 186) (v := 16) dX16_init_186 (by decide) ?_
    refine g_icmp_ge X (pc := 188) (tgt := 210) dX16_init_188 (by decide) (fun hc => ?_) (fun hc => ?_)
    · have h := (if_pos hc).symm.trans h
      refine g_iconst X (pc := 210) (v := 0) dX16_init_210 (by decide) ?_
      refine g_istore_n X (pc := 211) [(1, pI (0 : Int32)), (0, pR (some a0))] rfl (lt_n hn (by decide)) rfl dX16_init_211 ?_
      refine g_sub [1, 0] [(0, pR (some a0)), (1, pI (0 : Int32))] rfl ?_
      exact wX16_init_L212 X hE hn hin fu   fu a0 (0 : Int32) M h
    · have h := (if_neg hc).symm.trans h
      refine g_aload_n X (pc := 191) 0 rfl rfl dX16_init_191 ?_
      obtain ⟨v1, ev1, h⟩ := bd h
      refine g_getR X (pc := 192) fk_16_26 rfl rfl ev1 tb_1840 dX16_init_192 ?_
      refine g_iload_n X (pc := 195) 1 rfl rfl dX16_init_195 ?_
      obtain ⟨v2, M3, eM3, h⟩ := b2d h
      refine g_new X (pc := 196) fk_14_0 dvX14 eM3 tb_1567 tb_1730 tb_10 dX16_init_196 ?_
      refine g_dup X (pc := 199) rfl dX16_init_199 ?_
      obtain ⟨M4, eM4, h⟩ := bd h
      refine g_callIN X (pc := 200) (M' := M4) (as := []) (as' := []) (st := [pR (some v2), pI a1, pR v1]) (ctX14_init _ _ _ _ _ _ fu v2  M3 _ eM4) tb_1733 (List.mem_of_getElem? (i := 28) rfl) tb_1732 tb_10 rfl hyX14_init rfl rfl ⟨by decide, by decide⟩ (Nat.le_of_ble_eq_true rfl) dX16_init_200 ?_
      obtain ⟨M5, eM5, h⟩ := bd h
      refine g_aastore X (pc := 203) (c := 14) (k := 6) rfl (by decide) rfl eM5 dX16_init_203 ?_
      refine g_iinc X (pc := 204) 1 [(1, pI (a1 + (1 : Int32))), (0, pR (some a0))] rfl (iinc_e (by decide)) (lt_n hn (by decide)) rfl dX16_init_204 ?_
      refine g_goto X (pc := 207) (tgt := 185) dX16_init_207 (by decide) ?_
      refine g_sub [1, 0] [(0, pR (some a0)), (1, pI (a1 + (1 : Int32)))] rfl ?_
      exact ih a0 (a1 + (1 : Int32)) M5 h
theorem wX16_init_L158 {x : GX} {n0 sl0 : Nat} (X : Cx x cX16_init RX16 none n0 sl0 2 32) {out : Mm} (hE : Ends x n0 sl0 none out) (hn : xn x = 2) (hin : (xt x).name = "<init>") (fu : Nat)   : ∀ (n : Nat) (a0 : Nat) (a1 : Int32)  (M : Mm), fX16_init_L158 fu  n a0 a1 M = some out → Gw x M 158 [(0, pR (some a0)), (1, pI a1)] [] := by
  intro n
  induction n with
  | zero =>
    intro a0 a1 M h
    have h : (none : Option (Mm)) = some out := h
    cases h
  | succ n ih =>
    intro a0 a1 M h
    rw [fX16_init_L158] at h
    refine g_iload_n X (pc := 158) 1 rfl rfl dX16_init_158 ?_
    refine g_bipush X (pc := 159) (v := 16) dX16_init_159 (by decide) ?_
    refine g_icmp_ge X (pc := 161) (tgt := 183) dX16_init_161 (by decide) (fun hc => ?_) (fun hc => ?_)
    · have h := (if_pos hc).symm.trans h
      refine g_iconst X (pc := 183) (v := 0) dX16_init_183 (by decide) ?_
      refine g_istore_n X (pc := 184) [(1, pI (0 : Int32)), (0, pR (some a0))] rfl (lt_n hn (by decide)) rfl dX16_init_184 ?_
      refine g_sub [1, 0] [(0, pR (some a0)), (1, pI (0 : Int32))] rfl ?_
      exact wX16_init_L185 X hE hn hin fu   fu a0 (0 : Int32) M h
    · have h := (if_neg hc).symm.trans h
      refine g_aload_n X (pc := 164) 0 rfl rfl dX16_init_164 ?_
      obtain ⟨v1, ev1, h⟩ := bd h
      refine g_getR X (pc := 165) fk_16_31 rfl rfl ev1 tb_1845 dX16_init_165 ?_
      refine g_iload_n X (pc := 168) 1 rfl rfl dX16_init_168 ?_
      obtain ⟨v2, M3, eM3, h⟩ := b2d h
      refine g_new X (pc := 169) fk_12_0 dvX12 eM3 tb_1573 tb_1575 tb_9 dX16_init_169 ?_
      refine g_dup X (pc := 172) rfl dX16_init_172 ?_
      obtain ⟨M4, eM4, h⟩ := bd h
      refine g_callIN X (pc := 173) (M' := M4) (as := []) (as' := []) (st := [pR (some v2), pI a1, pR v1]) (ctX12_init _ _ _ _ _ _ fu v2  M3 _ eM4) tb_1578 (List.mem_of_getElem? (i := 27) rfl) tb_1577 tb_9 rfl hyX12_init rfl rfl ⟨by decide, by decide⟩ (Nat.le_of_ble_eq_true rfl) dX16_init_173 ?_
      obtain ⟨M5, eM5, h⟩ := bd h
      refine g_aastore X (pc := 176) (c := 12) (k := 9) rfl (by decide) rfl eM5 dX16_init_176 ?_
      refine g_iinc X (pc := 177) 1 [(1, pI (a1 + (1 : Int32))), (0, pR (some a0))] rfl (iinc_e (by decide)) (lt_n hn (by decide)) rfl dX16_init_177 ?_
      refine g_goto X (pc := 180) (tgt := 158) dX16_init_180 (by decide) ?_
      refine g_sub [1, 0] [(0, pR (some a0)), (1, pI (a1 + (1 : Int32)))] rfl ?_
      exact ih a0 (a1 + (1 : Int32)) M5 h
theorem wX16_init {x : GX} {n0 sl0 : Nat} (X : Cx x cX16_init RX16 none n0 sl0 2 32) {out : Mm} (hE : Ends x n0 sl0 none out) (hn : xn x = 2) (hin : (xt x).name = "<init>") (fu : Nat)   (a0 : Nat)  (M : Mm) (h : fX16_init fu  a0 M = some out) : Gw x M 0 [(0, pR (some a0))] [] := by
  unfold fX16_init at h
  refine g_aload_n X (pc := 0) 0 rfl rfl dX16_init_0 ?_
  refine g_objInit X (pc := 1) (o := (some a0)) ⟨_, rfl⟩ tb_1563 tb_32 tb_33 ⟨by decide, Nat.le_of_ble_eq_true rfl⟩ dX16_init_1 ?_
  refine g_aload_n X (pc := 4) 0 rfl rfl dX16_init_4 ?_
  refine g_ldc X (pc := 5) tb_1564 dX16_init_5 ?_
  obtain ⟨v1, M2, eM2, h⟩ := b2d h
  refine g_newarray X (pc := 7) (at9 := .byte) (k := 0) rfl (by decide) rfl (by decide) (fun _ _ q => q) tb_53 eM2 dX16_init_7 ?_
  obtain ⟨M3, eM3, h⟩ := bd h
  refine g_putG X (pc := 9) fk_16_0 rfl rfl rfl eM3 tb_1814 (Or.inr ⟨rfl, hin, rfl⟩) dX16_init_9 ?_
  refine g_aload_n X (pc := 12) 0 rfl rfl dX16_init_12 ?_
  refine g_ldc X (pc := 13) tb_1565 dX16_init_13 ?_
  obtain ⟨v4, M5, eM5, h⟩ := b2d h
  refine g_newarray X (pc := 15) (at9 := .byte) (k := 0) rfl (by decide) rfl (by decide) (fun _ _ q => q) tb_53 eM5 dX16_init_15 ?_
  obtain ⟨M6, eM6, h⟩ := bd h
  refine g_putG X (pc := 17) fk_16_2 rfl rfl rfl eM6 tb_1816 (Or.inr ⟨rfl, hin, rfl⟩) dX16_init_17 ?_
  refine g_aload_n X (pc := 20) 0 rfl rfl dX16_init_20 ?_
  refine g_sipush X (pc := 21) (v := 3072) dX16_init_21 (by decide) ?_
  obtain ⟨v7, M8, eM8, h⟩ := b2d h
  refine g_newarray X (pc := 24) (at9 := .byte) (k := 0) rfl (by decide) rfl (by decide) (fun _ _ q => q) tb_53 eM8 dX16_init_24 ?_
  obtain ⟨M9, eM9, h⟩ := bd h
  refine g_putG X (pc := 26) fk_16_13 rfl rfl rfl eM9 tb_1827 (Or.inr ⟨rfl, hin, rfl⟩) dX16_init_26 ?_
  refine g_aload_n X (pc := 29) 0 rfl rfl dX16_init_29 ?_
  refine g_bipush X (pc := 30) (v := 64) dX16_init_30 (by decide) ?_
  obtain ⟨v10, M11, eM11, h⟩ := b2d h
  refine g_newarray X (pc := 32) (at9 := .int) (k := 1) rfl (by decide) rfl (by decide) (fun _ _ q => q) tb_89 eM11 dX16_init_32 ?_
  obtain ⟨M12, eM12, h⟩ := bd h
  refine g_putG X (pc := 34) fk_16_14 rfl rfl rfl eM12 tb_1828 (Or.inr ⟨rfl, hin, rfl⟩) dX16_init_34 ?_
  refine g_aload_n X (pc := 37) 0 rfl rfl dX16_init_37 ?_
  refine g_bipush X (pc := 38) (v := 64) dX16_init_38 (by decide) ?_
  obtain ⟨v13, M14, eM14, h⟩ := b2d h
  refine g_newarray X (pc := 40) (at9 := .int) (k := 1) rfl (by decide) rfl (by decide) (fun _ _ q => q) tb_89 eM14 dX16_init_40 ?_
  obtain ⟨M15, eM15, h⟩ := bd h
  refine g_putG X (pc := 42) fk_16_15 rfl rfl rfl eM15 tb_1829 (Or.inr ⟨rfl, hin, rfl⟩) dX16_init_42 ?_
  refine g_aload_n X (pc := 45) 0 rfl rfl dX16_init_45 ?_
  refine g_bipush X (pc := 46) (v := 64) dX16_init_46 (by decide) ?_
  obtain ⟨v16, M17, eM17, h⟩ := b2d h
  refine g_newarray X (pc := 48) (at9 := .int) (k := 1) rfl (by decide) rfl (by decide) (fun _ _ q => q) tb_89 eM17 dX16_init_48 ?_
  obtain ⟨M18, eM18, h⟩ := bd h
  refine g_putG X (pc := 50) fk_16_16 rfl rfl rfl eM18 tb_1830 (Or.inr ⟨rfl, hin, rfl⟩) dX16_init_50 ?_
  refine g_aload_n X (pc := 53) 0 rfl rfl dX16_init_53 ?_
  refine g_bipush X (pc := 54) (v := 8) dX16_init_54 (by decide) ?_
  obtain ⟨v19, M20, eM20, h⟩ := b2d h
  refine g_newarray X (pc := 56) (at9 := .int) (k := 1) rfl (by decide) rfl (by decide) (fun _ _ q => q) tb_89 eM20 dX16_init_56 ?_
  obtain ⟨M21, eM21, h⟩ := bd h
  refine g_putG X (pc := 58) fk_16_17 rfl rfl rfl eM21 tb_1831 (Or.inr ⟨rfl, hin, rfl⟩) dX16_init_58 ?_
  refine g_aload_n X (pc := 61) 0 rfl rfl dX16_init_61 ?_
  refine g_sipush X (pc := 62) (v := 1514) dX16_init_62 (by decide) ?_
  obtain ⟨v22, M23, eM23, h⟩ := b2d h
  refine g_newarray X (pc := 65) (at9 := .byte) (k := 0) rfl (by decide) rfl (by decide) (fun _ _ q => q) tb_53 eM23 dX16_init_65 ?_
  obtain ⟨M24, eM24, h⟩ := bd h
  refine g_putG X (pc := 67) fk_16_19 rfl rfl rfl eM24 tb_1833 (Or.inr ⟨rfl, hin, rfl⟩) dX16_init_67 ?_
  refine g_aload_n X (pc := 70) 0 rfl rfl dX16_init_70 ?_
  refine g_ldc X (pc := 71) tb_1566 dX16_init_71 ?_
  obtain ⟨v25, M26, eM26, h⟩ := b2d h
  refine g_newarray X (pc := 73) (at9 := .byte) (k := 0) rfl (by decide) rfl (by decide) (fun _ _ q => q) tb_53 eM26 dX16_init_73 ?_
  obtain ⟨M27, eM27, h⟩ := bd h
  refine g_putG X (pc := 75) fk_16_20 rfl rfl rfl eM27 tb_1834 (Or.inr ⟨rfl, hin, rfl⟩) dX16_init_75 ?_
  refine g_aload_n X (pc := 78) 0 rfl rfl dX16_init_78 ?_
  refine g_bipush X (pc := 79) (v := 32) dX16_init_79 (by decide) ?_
  obtain ⟨v28, M29, eM29, h⟩ := b2d h
  refine g_newarray X (pc := 81) (at9 := .int) (k := 1) rfl (by decide) rfl (by decide) (fun _ _ q => q) tb_89 eM29 dX16_init_81 ?_
  obtain ⟨M30, eM30, h⟩ := bd h
  refine g_putG X (pc := 83) fk_16_21 rfl rfl rfl eM30 tb_1835 (Or.inr ⟨rfl, hin, rfl⟩) dX16_init_83 ?_
  refine g_aload_n X (pc := 86) 0 rfl rfl dX16_init_86 ?_
  refine g_bipush X (pc := 87) (v := 32) dX16_init_87 (by decide) ?_
  obtain ⟨v31, M32, eM32, h⟩ := b2d h
  refine g_newarray X (pc := 89) (at9 := .int) (k := 1) rfl (by decide) rfl (by decide) (fun _ _ q => q) tb_89 eM32 dX16_init_89 ?_
  obtain ⟨M33, eM33, h⟩ := bd h
  refine g_putG X (pc := 91) fk_16_22 rfl rfl rfl eM33 tb_1836 (Or.inr ⟨rfl, hin, rfl⟩) dX16_init_91 ?_
  refine g_aload_n X (pc := 94) 0 rfl rfl dX16_init_94 ?_
  refine g_bipush X (pc := 95) (v := 16) dX16_init_95 (by decide) ?_
  obtain ⟨v34, M35, eM35, h⟩ := b2d h
  refine g_anewarray X (pc := 97) (k := 6) rfl (by decide) (by decide) tb_1567 eM35 dX16_init_97 ?_
  obtain ⟨M36, eM36, h⟩ := bd h
  refine g_putG X (pc := 100) fk_16_26 rfl rfl rfl eM36 tb_1840 (Or.inr ⟨rfl, hin, rfl⟩) dX16_init_100 ?_
  refine g_aload_n X (pc := 103) 0 rfl rfl dX16_init_103 ?_
  refine g_bipush X (pc := 104) (v := 8) dX16_init_104 (by decide) ?_
  obtain ⟨v37, M38, eM38, h⟩ := b2d h
  refine g_anewarray X (pc := 106) (k := 7) rfl (by decide) (by decide) tb_1569 eM38 dX16_init_106 ?_
  obtain ⟨M39, eM39, h⟩ := bd h
  refine g_putG X (pc := 109) fk_16_27 rfl rfl rfl eM39 tb_1841 (Or.inr ⟨rfl, hin, rfl⟩) dX16_init_109 ?_
  refine g_aload_n X (pc := 112) 0 rfl rfl dX16_init_112 ?_
  refine g_iconst X (pc := 113) (v := 4) dX16_init_113 (by decide) ?_
  obtain ⟨v40, M41, eM41, h⟩ := b2d h
  refine g_anewarray X (pc := 114) (k := 8) rfl (by decide) (by decide) tb_1571 eM41 dX16_init_114 ?_
  obtain ⟨M42, eM42, h⟩ := bd h
  refine g_putG X (pc := 117) fk_16_28 rfl rfl rfl eM42 tb_1842 (Or.inr ⟨rfl, hin, rfl⟩) dX16_init_117 ?_
  refine g_aload_n X (pc := 120) 0 rfl rfl dX16_init_120 ?_
  refine g_sipush X (pc := 121) (v := 4096) dX16_init_121 (by decide) ?_
  obtain ⟨v43, M44, eM44, h⟩ := b2d h
  refine g_newarray X (pc := 124) (at9 := .byte) (k := 0) rfl (by decide) rfl (by decide) (fun _ _ q => q) tb_53 eM44 dX16_init_124 ?_
  obtain ⟨M45, eM45, h⟩ := bd h
  refine g_putG X (pc := 126) fk_16_29 rfl rfl rfl eM45 tb_1843 (Or.inr ⟨rfl, hin, rfl⟩) dX16_init_126 ?_
  refine g_aload_n X (pc := 129) 0 rfl rfl dX16_init_129 ?_
  refine g_bipush X (pc := 130) (v := 16) dX16_init_130 (by decide) ?_
  obtain ⟨v46, M47, eM47, h⟩ := b2d h
  refine g_anewarray X (pc := 132) (k := 9) rfl (by decide) (by decide) tb_1573 eM47 dX16_init_132 ?_
  obtain ⟨M48, eM48, h⟩ := bd h
  refine g_putG X (pc := 135) fk_16_31 rfl rfl rfl eM48 tb_1845 (Or.inr ⟨rfl, hin, rfl⟩) dX16_init_135 ?_
  refine g_aload_n X (pc := 138) 0 rfl rfl dX16_init_138 ?_
  refine g_sipush X (pc := 139) (v := 4096) dX16_init_139 (by decide) ?_
  obtain ⟨v49, M50, eM50, h⟩ := b2d h
  refine g_newarray X (pc := 142) (at9 := .byte) (k := 0) rfl (by decide) rfl (by decide) (fun _ _ q => q) tb_53 eM50 dX16_init_142 ?_
  obtain ⟨M51, eM51, h⟩ := bd h
  refine g_putG X (pc := 144) fk_16_41 rfl rfl rfl eM51 tb_1855 (Or.inr ⟨rfl, hin, rfl⟩) dX16_init_144 ?_
  refine g_aload_n X (pc := 147) 0 rfl rfl dX16_init_147 ?_
  refine g_sipush X (pc := 148) (v := 8192) dX16_init_148 (by decide) ?_
  obtain ⟨v52, M53, eM53, h⟩ := b2d h
  refine g_newarray X (pc := 151) (at9 := .byte) (k := 0) rfl (by decide) rfl (by decide) (fun _ _ q => q) tb_53 eM53 dX16_init_151 ?_
  obtain ⟨M54, eM54, h⟩ := bd h
  refine g_putG X (pc := 153) fk_16_58 rfl rfl rfl eM54 tb_1872 (Or.inr ⟨rfl, hin, rfl⟩) dX16_init_153 ?_
  refine g_iconst X (pc := 156) (v := 0) dX16_init_156 (by decide) ?_
  refine g_istore_n X (pc := 157) [(1, pI (0 : Int32)), (0, pR (some a0))] rfl (lt_n hn (by decide)) rfl dX16_init_157 ?_
  refine g_sub [1, 0] [(0, pR (some a0)), (1, pI (0 : Int32))] rfl ?_
  exact wX16_init_L158 X hE hn hin fu   fu a0 (0 : Int32) M54 h
theorem hyX16_init : yX16_init.cls ≠ "java/lang/invoke/MethodHandle" ∧ yX16_init.cls ≠ "java/lang/invoke/VarHandle" ∧ (parseMethodDescriptor yX16_init.desc).map (fun d => d.parameters.length) = some 0 := ⟨by decide +kernel, by decide +kernel, by decide +kernel⟩
theorem ctX16_init (l : Launch) (E : Nat → Nat) (D : va_G) (dA : Nat → ClassId) (lo : Nat) (H0 : Heap) (fu : Nat) (a0 : Nat) (M : Mm) (out : Mm) (h : fX16_init fu a0 M = some out) : Ct l E D dA lo H0 yX16_init cX16_init 2 none 2 32 [pR (some a0)] M none out := by
  refine ct_of (by decide +kernel) (Nat.le_of_ble_eq_true rfl) ?_
  intro x hl he hd ha ho hh hn hin X hE
  exact wX16_init X hE hn hin fu a0 M h
/-! WebHostModel.word(I)V -/
def fX16_word_L2 (fu : Nat)  : Nat → Nat → Int32 → Int32 → Mm → Option (Mm)
  | 0, _, _, _, _ => none
  | n + 1, a0, a1, a2, M =>
    if (4 : Int32) ≤ a2 then (
    some M)
    else (
    (gR M 16 1024 (some a0)).bind fun v1 =>
    (gI M 16 1025 (some a0)).bind fun v2 =>
    (pA M 100 v1 v2 (Int8.toInt32 (Int32.toInt8 (Int8.toInt32 (Int32.toInt8 (a1 >>> (((24 : Int32) - ((8 : Int32) * a2)) &&& 31))))))).bind fun M3 =>
    (gI M3 16 1025 (some a0)).bind fun v4 =>
    (pF M3 16 1025 (some a0) (v4 + (1 : Int32))).bind fun M5 =>
    fX16_word_L2 fu  n a0 a1 (a2 + (1 : Int32)) M5)
def fX16_word (fu : Nat)  (a0 : Nat) (a1 : Int32)  (M : Mm) : Option (Mm) :=
    fX16_word_L2 fu  fu a0 a1 (0 : Int32) M
theorem dX16_word_0 : decode cX16_word 0 = .ok (.iconst 0, 1) := by decide +kernel
theorem dX16_word_1 : decode cX16_word 1 = .ok (.istore_n 2, 1) := by decide +kernel
theorem dX16_word_2 : decode cX16_word 2 = .ok (.iload_n 2, 1) := by decide +kernel
theorem dX16_word_3 : decode cX16_word 3 = .ok (.iconst 4, 1) := by decide +kernel
theorem dX16_word_4 : decode cX16_word 4 = .ok (.if_icmp .ge 38, 3) := by decide +kernel
theorem dX16_word_7 : decode cX16_word 7 = .ok (.aload_n 0, 1) := by decide +kernel
theorem dX16_word_8 : decode cX16_word 8 = .ok (.getfield 10, 3) := by decide +kernel
theorem dX16_word_11 : decode cX16_word 11 = .ok (.aload_n 0, 1) := by decide +kernel
theorem dX16_word_12 : decode cX16_word 12 = .ok (.getfield 84, 3) := by decide +kernel
theorem dX16_word_15 : decode cX16_word 15 = .ok (.iload_n 1, 1) := by decide +kernel
theorem dX16_word_16 : decode cX16_word 16 = .ok (.bipush 24, 2) := by decide +kernel
theorem dX16_word_18 : decode cX16_word 18 = .ok (.bipush 8, 2) := by decide +kernel
theorem dX16_word_20 : decode cX16_word 20 = .ok (.iload_n 2, 1) := by decide +kernel
theorem dX16_word_21 : decode cX16_word 21 = .ok (.imul, 1) := by decide +kernel
theorem dX16_word_22 : decode cX16_word 22 = .ok (.isub, 1) := by decide +kernel
theorem dX16_word_23 : decode cX16_word 23 = .ok (.ishr, 1) := by decide +kernel
theorem dX16_word_24 : decode cX16_word 24 = .ok (.i2b, 1) := by decide +kernel
theorem dX16_word_25 : decode cX16_word 25 = .ok (.bastore, 1) := by decide +kernel
theorem dX16_word_26 : decode cX16_word 26 = .ok (.aload_n 0, 1) := by decide +kernel
theorem dX16_word_27 : decode cX16_word 27 = .ok (.dup, 1) := by decide +kernel
theorem dX16_word_28 : decode cX16_word 28 = .ok (.getfield 84, 3) := by decide +kernel
theorem dX16_word_31 : decode cX16_word 31 = .ok (.iconst 1, 1) := by decide +kernel
theorem dX16_word_32 : decode cX16_word 32 = .ok (.iadd, 1) := by decide +kernel
theorem dX16_word_33 : decode cX16_word 33 = .ok (.putfield 84, 3) := by decide +kernel
theorem dX16_word_36 : decode cX16_word 36 = .ok (.iinc 2 1, 3) := by decide +kernel
theorem dX16_word_39 : decode cX16_word 39 = .ok (.goto (-37), 3) := by decide +kernel
theorem dX16_word_42 : decode cX16_word 42 = .ok (.return_, 1) := by decide +kernel
theorem wX16_word_L2 {x : GX} {n0 sl0 : Nat} (X : Cx x cX16_word RX16 none n0 sl0 0 0) {out : Mm} (hE : Ends x n0 sl0 none out) (hn : xn x = 3) (fu : Nat)   : ∀ (n : Nat) (a0 : Nat) (a1 : Int32) (a2 : Int32)  (M : Mm), fX16_word_L2 fu  n a0 a1 a2 M = some out → Gw x M 2 [(0, pR (some a0)), (1, pI a1), (2, pI a2)] [] := by
  intro n
  induction n with
  | zero =>
    intro a0 a1 a2 M h
    have h : (none : Option (Mm)) = some out := h
    cases h
  | succ n ih =>
    intro a0 a1 a2 M h
    rw [fX16_word_L2] at h
    refine g_iload_n X (pc := 2) 2 rfl rfl dX16_word_2 ?_
    refine g_iconst X (pc := 3) (v := 4) dX16_word_3 (by decide) ?_
    refine g_icmp_ge X (pc := 4) (tgt := 42) dX16_word_4 (by decide) (fun hc => ?_) (fun hc => ?_)
    · have h := (if_pos hc).symm.trans h
      obtain rfl := Option.some.inj h
      exact g_return X hE dX16_word_42
    · have h := (if_neg hc).symm.trans h
      refine g_aload_n X (pc := 7) 0 rfl rfl dX16_word_7 ?_
      obtain ⟨v1, ev1, h⟩ := bd h
      refine g_getR X (pc := 8) fk_16_0 rfl rfl ev1 tb_1814 dX16_word_8 ?_
      refine g_aload_n X (pc := 11) 0 rfl rfl dX16_word_11 ?_
      obtain ⟨v2, ev2, h⟩ := bd h
      refine g_getI X (pc := 12) fk_16_1 rfl rfl ev2 tb_1815 dX16_word_12 ?_
      refine g_iload_n X (pc := 15) 1 rfl rfl dX16_word_15 ?_
      refine g_bipush X (pc := 16) (v := 24) dX16_word_16 (by decide) ?_
      refine g_bipush X (pc := 18) (v := 8) dX16_word_18 (by decide) ?_
      refine g_iload_n X (pc := 20) 2 rfl rfl dX16_word_20 ?_
      refine g_imul X (pc := 21) dX16_word_21 ?_
      refine g_isub X (pc := 22) dX16_word_22 ?_
      refine g_ishr X (pc := 23) dX16_word_23 ?_
      refine g_i2b X (pc := 24) dX16_word_24 ?_
      obtain ⟨M3, eM3, h⟩ := bd h
      refine g_bastore X (pc := 25) eM3 dX16_word_25 ?_
      refine g_aload_n X (pc := 26) 0 rfl rfl dX16_word_26 ?_
      refine g_dup X (pc := 27) rfl dX16_word_27 ?_
      obtain ⟨v4, ev4, h⟩ := bd h
      refine g_getI X (pc := 28) fk_16_1 rfl rfl ev4 tb_1815 dX16_word_28 ?_
      refine g_iconst X (pc := 31) (v := 1) dX16_word_31 (by decide) ?_
      refine g_iadd X (pc := 32) dX16_word_32 ?_
      obtain ⟨M5, eM5, h⟩ := bd h
      refine g_putI X (pc := 33) fk_16_1 rfl rfl rfl eM5 tb_1815 (Or.inl rfl) dX16_word_33 ?_
      refine g_iinc X (pc := 36) 2 [(2, pI (a2 + (1 : Int32))), (0, pR (some a0)), (1, pI a1)] rfl (iinc_e (by decide)) (lt_n hn (by decide)) rfl dX16_word_36 ?_
      refine g_goto X (pc := 39) (tgt := 2) dX16_word_39 (by decide) ?_
      refine g_sub [1, 2, 0] [(0, pR (some a0)), (1, pI a1), (2, pI (a2 + (1 : Int32)))] rfl ?_
      exact ih a0 a1 (a2 + (1 : Int32)) M5 h
theorem wX16_word {x : GX} {n0 sl0 : Nat} (X : Cx x cX16_word RX16 none n0 sl0 0 0) {out : Mm} (hE : Ends x n0 sl0 none out) (hn : xn x = 3) (fu : Nat)   (a0 : Nat) (a1 : Int32)  (M : Mm) (h : fX16_word fu  a0 a1 M = some out) : Gw x M 0 [(0, pR (some a0)), (1, pI a1)] [] := by
  unfold fX16_word at h
  refine g_iconst X (pc := 0) (v := 0) dX16_word_0 (by decide) ?_
  refine g_istore_n X (pc := 1) [(2, pI (0 : Int32)), (0, pR (some a0)), (1, pI a1)] rfl (lt_n hn (by decide)) rfl dX16_word_1 ?_
  refine g_sub [1, 2, 0] [(0, pR (some a0)), (1, pI a1), (2, pI (0 : Int32))] rfl ?_
  exact wX16_word_L2 X hE hn fu   fu a0 a1 (0 : Int32) M h
theorem hyX16_word : yX16_word.cls ≠ "java/lang/invoke/MethodHandle" ∧ yX16_word.cls ≠ "java/lang/invoke/VarHandle" ∧ (parseMethodDescriptor yX16_word.desc).map (fun d => d.parameters.length) = some 1 := ⟨by decide +kernel, by decide +kernel, by decide +kernel⟩
theorem ctX16_word (l : Launch) (E : Nat → Nat) (D : va_G) (dA : Nat → ClassId) (lo : Nat) (H0 : Heap) (fu : Nat) (a0 : Nat) (a1 : Int32) (M : Mm) (out : Mm) (h : fX16_word fu a0 a1 M = some out) : Ct l E D dA lo H0 yX16_word cX16_word 3 none 0 0 [pR (some a0), pI a1] M none out := by
  refine ct_of (by decide +kernel) (Nat.le_of_ble_eq_true rfl) ?_
  intro x hl he hd ha ho hh hn hin X hE
  exact wX16_word X hE hn fu a0 a1 M h
/-! WebHostModel.feed(IIIII)I -/
def fX16_feed (fu : Nat)  (a0 : Nat) (a1 : Int32) (a2 : Int32) (a3 : Int32) (a4 : Int32) (a5 : Int32)  (M : Mm) : Option (Int32 × Mm) :=
    (gI M 16 1025 (some a0)).bind fun v1 =>
    if (v1 + (20 : Int32)) ≤ (65540 : Int32) then (
    (rc M 16 (some a0)).bind fun q2 =>
    (fX16_word fu q2 a1 M).bind fun M3 =>
    (rc M3 16 (some a0)).bind fun q4 =>
    (fX16_word fu q4 a2 M3).bind fun M5 =>
    (rc M5 16 (some a0)).bind fun q6 =>
    (fX16_word fu q6 a3 M5).bind fun M7 =>
    (rc M7 16 (some a0)).bind fun q8 =>
    (fX16_word fu q8 a4 M7).bind fun M9 =>
    (rc M9 16 (some a0)).bind fun q10 =>
    (fX16_word fu q10 a5 M9).bind fun M11 =>
    (gI M11 16 1025 (some a0)).bind fun v12 =>
    some (v12, M11))
    else (
    some ((-1 : Int32), M))
theorem dX16_feed_0 : decode cX16_feed 0 = .ok (.aload_n 0, 1) := by decide +kernel
theorem dX16_feed_1 : decode cX16_feed 1 = .ok (.getfield 84, 3) := by decide +kernel
theorem dX16_feed_4 : decode cX16_feed 4 = .ok (.bipush 20, 2) := by decide +kernel
theorem dX16_feed_6 : decode cX16_feed 6 = .ok (.iadd, 1) := by decide +kernel
theorem dX16_feed_7 : decode cX16_feed 7 = .ok (.ldc 9, 2) := by decide +kernel
theorem dX16_feed_9 : decode cX16_feed 9 = .ok (.if_icmp .le 5, 3) := by decide +kernel
theorem dX16_feed_12 : decode cX16_feed 12 = .ok (.iconst (-1), 1) := by decide +kernel
theorem dX16_feed_13 : decode cX16_feed 13 = .ok (.ireturn, 1) := by decide +kernel
theorem dX16_feed_14 : decode cX16_feed 14 = .ok (.aload_n 0, 1) := by decide +kernel
theorem dX16_feed_15 : decode cX16_feed 15 = .ok (.iload_n 1, 1) := by decide +kernel
theorem dX16_feed_16 : decode cX16_feed 16 = .ok (.invokevirtual 88, 3) := by decide +kernel
theorem dX16_feed_19 : decode cX16_feed 19 = .ok (.aload_n 0, 1) := by decide +kernel
theorem dX16_feed_20 : decode cX16_feed 20 = .ok (.iload_n 2, 1) := by decide +kernel
theorem dX16_feed_21 : decode cX16_feed 21 = .ok (.invokevirtual 88, 3) := by decide +kernel
theorem dX16_feed_24 : decode cX16_feed 24 = .ok (.aload_n 0, 1) := by decide +kernel
theorem dX16_feed_25 : decode cX16_feed 25 = .ok (.iload_n 3, 1) := by decide +kernel
theorem dX16_feed_26 : decode cX16_feed 26 = .ok (.invokevirtual 88, 3) := by decide +kernel
theorem dX16_feed_29 : decode cX16_feed 29 = .ok (.aload_n 0, 1) := by decide +kernel
theorem dX16_feed_30 : decode cX16_feed 30 = .ok (.iload 4, 2) := by decide +kernel
theorem dX16_feed_32 : decode cX16_feed 32 = .ok (.invokevirtual 88, 3) := by decide +kernel
theorem dX16_feed_35 : decode cX16_feed 35 = .ok (.aload_n 0, 1) := by decide +kernel
theorem dX16_feed_36 : decode cX16_feed 36 = .ok (.iload 5, 2) := by decide +kernel
theorem dX16_feed_38 : decode cX16_feed 38 = .ok (.invokevirtual 88, 3) := by decide +kernel
theorem dX16_feed_41 : decode cX16_feed 41 = .ok (.aload_n 0, 1) := by decide +kernel
theorem dX16_feed_42 : decode cX16_feed 42 = .ok (.getfield 84, 3) := by decide +kernel
theorem dX16_feed_45 : decode cX16_feed 45 = .ok (.ireturn, 1) := by decide +kernel
theorem wX16_feed {x : GX} {n0 sl0 : Nat} (X : Cx x cX16_feed RX16 (some .int) n0 sl0 1 22) {out : Int32 × Mm} (hE : Ends x n0 sl0 (some (pI out.1)) out.2) (hn : xn x = 6) (fu : Nat)   (a0 : Nat) (a1 : Int32) (a2 : Int32) (a3 : Int32) (a4 : Int32) (a5 : Int32)  (M : Mm) (h : fX16_feed fu  a0 a1 a2 a3 a4 a5 M = some out) : Gw x M 0 [(0, pR (some a0)), (1, pI a1), (2, pI a2), (3, pI a3), (4, pI a4), (5, pI a5)] [] := by
  unfold fX16_feed at h
  refine g_aload_n X (pc := 0) 0 rfl rfl dX16_feed_0 ?_
  obtain ⟨v1, ev1, h⟩ := bd h
  refine g_getI X (pc := 1) fk_16_1 rfl rfl ev1 tb_1815 dX16_feed_1 ?_
  refine g_bipush X (pc := 4) (v := 20) dX16_feed_4 (by decide) ?_
  refine g_iadd X (pc := 6) dX16_feed_6 ?_
  refine g_ldc X (pc := 7) tb_1564 dX16_feed_7 ?_
  refine g_icmp_le X (pc := 9) (tgt := 14) dX16_feed_9 (by decide) (fun hc => ?_) (fun hc => ?_)
  · have h := (if_pos hc).symm.trans h
    refine g_aload_n X (pc := 14) 0 rfl rfl dX16_feed_14 ?_
    refine g_iload_n X (pc := 15) 1 rfl rfl dX16_feed_15 ?_
    obtain ⟨q2, eq2, h⟩ := bd h
    obtain ⟨M3, eM3, h⟩ := bd h
    refine g_callV X (pc := 16) (M' := M3) (ro := none) (c := 16) rfl (by decide) (as := [pI a1]) (as' := [pI a1]) (st := []) eq2 (ctX16_word _ _ _ _ _ _ fu q2 a1 M _ eM3) tb_2011 tb_2008 tb_2010 ts_63 tb_8 ⟨rfl, hyX16_word⟩ rfl rfl ⟨by decide, by decide⟩ (Nat.le_of_ble_eq_true rfl) dX16_feed_16 ?_
    refine g_aload_n X (pc := 19) 0 rfl rfl dX16_feed_19 ?_
    refine g_iload_n X (pc := 20) 2 rfl rfl dX16_feed_20 ?_
    obtain ⟨q4, eq4, h⟩ := bd h
    obtain ⟨M5, eM5, h⟩ := bd h
    refine g_callV X (pc := 21) (M' := M5) (ro := none) (c := 16) rfl (by decide) (as := [pI a2]) (as' := [pI a2]) (st := []) eq4 (ctX16_word _ _ _ _ _ _ fu q4 a2 M3 _ eM5) tb_2011 tb_2008 tb_2010 ts_63 tb_8 ⟨rfl, hyX16_word⟩ rfl rfl ⟨by decide, by decide⟩ (Nat.le_of_ble_eq_true rfl) dX16_feed_21 ?_
    refine g_aload_n X (pc := 24) 0 rfl rfl dX16_feed_24 ?_
    refine g_iload_n X (pc := 25) 3 rfl rfl dX16_feed_25 ?_
    obtain ⟨q6, eq6, h⟩ := bd h
    obtain ⟨M7, eM7, h⟩ := bd h
    refine g_callV X (pc := 26) (M' := M7) (ro := none) (c := 16) rfl (by decide) (as := [pI a3]) (as' := [pI a3]) (st := []) eq6 (ctX16_word _ _ _ _ _ _ fu q6 a3 M5 _ eM7) tb_2011 tb_2008 tb_2010 ts_63 tb_8 ⟨rfl, hyX16_word⟩ rfl rfl ⟨by decide, by decide⟩ (Nat.le_of_ble_eq_true rfl) dX16_feed_26 ?_
    refine g_aload_n X (pc := 29) 0 rfl rfl dX16_feed_29 ?_
    refine g_iload X (pc := 30) 4 rfl dX16_feed_30 ?_
    obtain ⟨q8, eq8, h⟩ := bd h
    obtain ⟨M9, eM9, h⟩ := bd h
    refine g_callV X (pc := 32) (M' := M9) (ro := none) (c := 16) rfl (by decide) (as := [pI a4]) (as' := [pI a4]) (st := []) eq8 (ctX16_word _ _ _ _ _ _ fu q8 a4 M7 _ eM9) tb_2011 tb_2008 tb_2010 ts_63 tb_8 ⟨rfl, hyX16_word⟩ rfl rfl ⟨by decide, by decide⟩ (Nat.le_of_ble_eq_true rfl) dX16_feed_32 ?_
    refine g_aload_n X (pc := 35) 0 rfl rfl dX16_feed_35 ?_
    refine g_iload X (pc := 36) 5 rfl dX16_feed_36 ?_
    obtain ⟨q10, eq10, h⟩ := bd h
    obtain ⟨M11, eM11, h⟩ := bd h
    refine g_callV X (pc := 38) (M' := M11) (ro := none) (c := 16) rfl (by decide) (as := [pI a5]) (as' := [pI a5]) (st := []) eq10 (ctX16_word _ _ _ _ _ _ fu q10 a5 M9 _ eM11) tb_2011 tb_2008 tb_2010 ts_63 tb_8 ⟨rfl, hyX16_word⟩ rfl rfl ⟨by decide, by decide⟩ (Nat.le_of_ble_eq_true rfl) dX16_feed_38 ?_
    refine g_aload_n X (pc := 41) 0 rfl rfl dX16_feed_41 ?_
    obtain ⟨v12, ev12, h⟩ := bd h
    refine g_getI X (pc := 42) fk_16_1 rfl rfl ev12 tb_1815 dX16_feed_42 ?_
    obtain rfl := Option.some.inj h
    exact g_ireturn X hE dX16_feed_45
  · have h := (if_neg hc).symm.trans h
    refine g_iconst X (pc := 12) (v := (-1)) dX16_feed_12 (by decide) ?_
    obtain rfl := Option.some.inj h
    exact g_ireturn X hE dX16_feed_13
theorem hyX16_feed : yX16_feed.cls ≠ "java/lang/invoke/MethodHandle" ∧ yX16_feed.cls ≠ "java/lang/invoke/VarHandle" ∧ (parseMethodDescriptor yX16_feed.desc).map (fun d => d.parameters.length) = some 5 := ⟨by decide +kernel, by decide +kernel, by decide +kernel⟩
theorem ctX16_feed (l : Launch) (E : Nat → Nat) (D : va_G) (dA : Nat → ClassId) (lo : Nat) (H0 : Heap) (fu : Nat) (a0 : Nat) (a1 : Int32) (a2 : Int32) (a3 : Int32) (a4 : Int32) (a5 : Int32) (M : Mm) (out : Int32 × Mm) (h : fX16_feed fu a0 a1 a2 a3 a4 a5 M = some out) : Ct l E D dA lo H0 yX16_feed cX16_feed 6 (some .int) 1 22 [pR (some a0), pI a1, pI a2, pI a3, pI a4, pI a5] M (some (pI out.1)) out.2 := by
  refine ct_of (by decide +kernel) (Nat.le_of_ble_eq_true rfl) ?_
  intro x hl he hd ha ho hh hn hin X hE
  exact wX16_feed X hE hn fu a0 a1 a2 a3 a4 a5 M h
/-! WebHostModel.end(I)I -/
def fX16_end (fu : Nat)  (a0 : Nat) (a1 : Int32)  (M : Mm) : Option (Int32 × Mm) :=
    if a1 < 0 then (
    some ((-1 : Int32), M))
    else (
    (gI M 16 1025 (some a0)).bind fun v1 =>
    if a1 ≤ v1 then (
    (pF M 16 1025 (some a0) a1).bind fun M2 =>
    some (a1, M2))
    else (
    some ((-1 : Int32), M)))
theorem dX16_end_0 : decode cX16_end 0 = .ok (.iload_n 1, 1) := by decide +kernel
theorem dX16_end_1 : decode cX16_end 1 = .ok (.ifCond .lt 11, 3) := by decide +kernel
theorem dX16_end_4 : decode cX16_end 4 = .ok (.iload_n 1, 1) := by decide +kernel
theorem dX16_end_5 : decode cX16_end 5 = .ok (.aload_n 0, 1) := by decide +kernel
theorem dX16_end_6 : decode cX16_end 6 = .ok (.getfield 84, 3) := by decide +kernel
theorem dX16_end_9 : decode cX16_end 9 = .ok (.if_icmp .le 5, 3) := by decide +kernel
theorem dX16_end_12 : decode cX16_end 12 = .ok (.iconst (-1), 1) := by decide +kernel
theorem dX16_end_13 : decode cX16_end 13 = .ok (.ireturn, 1) := by decide +kernel
theorem dX16_end_14 : decode cX16_end 14 = .ok (.aload_n 0, 1) := by decide +kernel
theorem dX16_end_15 : decode cX16_end 15 = .ok (.iload_n 1, 1) := by decide +kernel
theorem dX16_end_16 : decode cX16_end 16 = .ok (.putfield 84, 3) := by decide +kernel
theorem dX16_end_19 : decode cX16_end 19 = .ok (.iload_n 1, 1) := by decide +kernel
theorem dX16_end_20 : decode cX16_end 20 = .ok (.ireturn, 1) := by decide +kernel
theorem wX16_end {x : GX} {n0 sl0 : Nat} (X : Cx x cX16_end RX16 (some .int) n0 sl0 0 0) {out : Int32 × Mm} (hE : Ends x n0 sl0 (some (pI out.1)) out.2) (hn : xn x = 2) (fu : Nat)   (a0 : Nat) (a1 : Int32)  (M : Mm) (h : fX16_end fu  a0 a1 M = some out) : Gw x M 0 [(0, pR (some a0)), (1, pI a1)] [] := by
  unfold fX16_end at h
  refine g_iload_n X (pc := 0) 1 rfl rfl dX16_end_0 ?_
  refine g_if_lt X (pc := 1) (tgt := 12) dX16_end_1 (by decide) (fun hc => ?_) (fun hc => ?_)
  · have h := (if_pos hc).symm.trans h
    refine g_iconst X (pc := 12) (v := (-1)) dX16_end_12 (by decide) ?_
    obtain rfl := Option.some.inj h
    exact g_ireturn X hE dX16_end_13
  · have h := (if_neg hc).symm.trans h
    refine g_iload_n X (pc := 4) 1 rfl rfl dX16_end_4 ?_
    refine g_aload_n X (pc := 5) 0 rfl rfl dX16_end_5 ?_
    obtain ⟨v1, ev1, h⟩ := bd h
    refine g_getI X (pc := 6) fk_16_1 rfl rfl ev1 tb_1815 dX16_end_6 ?_
    refine g_icmp_le X (pc := 9) (tgt := 14) dX16_end_9 (by decide) (fun hc => ?_) (fun hc => ?_)
    · have h := (if_pos hc).symm.trans h
      refine g_aload_n X (pc := 14) 0 rfl rfl dX16_end_14 ?_
      refine g_iload_n X (pc := 15) 1 rfl rfl dX16_end_15 ?_
      obtain ⟨M2, eM2, h⟩ := bd h
      refine g_putI X (pc := 16) fk_16_1 rfl rfl rfl eM2 tb_1815 (Or.inl rfl) dX16_end_16 ?_
      refine g_iload_n X (pc := 19) 1 rfl rfl dX16_end_19 ?_
      obtain rfl := Option.some.inj h
      exact g_ireturn X hE dX16_end_20
    · have h := (if_neg hc).symm.trans h
      refine g_iconst X (pc := 12) (v := (-1)) dX16_end_12 (by decide) ?_
      obtain rfl := Option.some.inj h
      exact g_ireturn X hE dX16_end_13
theorem hyX16_end : yX16_end.cls ≠ "java/lang/invoke/MethodHandle" ∧ yX16_end.cls ≠ "java/lang/invoke/VarHandle" ∧ (parseMethodDescriptor yX16_end.desc).map (fun d => d.parameters.length) = some 1 := ⟨by decide +kernel, by decide +kernel, by decide +kernel⟩
theorem ctX16_end (l : Launch) (E : Nat → Nat) (D : va_G) (dA : Nat → ClassId) (lo : Nat) (H0 : Heap) (fu : Nat) (a0 : Nat) (a1 : Int32) (M : Mm) (out : Int32 × Mm) (h : fX16_end fu a0 a1 M = some out) : Ct l E D dA lo H0 yX16_end cX16_end 2 (some .int) 0 0 [pR (some a0), pI a1] M (some (pI out.1)) out.2 := by
  refine ct_of (by decide +kernel) (Nat.le_of_ble_eq_true rfl) ?_
  intro x hl he hd ha ho hh hn hin X hE
  exact wX16_end X hE hn fu a0 a1 M h
/-! WebHostModel.install()I -/
def fX16_install_L13 (fu : Nat)  : Nat → Nat → Int32 → Mm → Option (Int32 × Mm)
  | 0, _, _, _ => none
  | n + 1, a0, a1, M =>
    (gI M 16 1025 (some a0)).bind fun v1 =>
    if v1 ≤ a1 then (
    (gI M 16 1025 (some a0)).bind fun v2 =>
    (pF M 16 1027 (some a0) v2).bind fun M3 =>
    (pF M3 16 1025 (some a0) (0 : Int32)).bind fun M4 =>
    (pZ M4 16 1028 (some a0) (0 : Int32)).bind fun M5 =>
    (gI M5 16 1027 (some a0)).bind fun v6 =>
    some (v6, M5))
    else (
    (gR M 16 1026 (some a0)).bind fun v7 =>
    (gR M 16 1024 (some a0)).bind fun v8 =>
    (gA M 100 v8 a1).bind fun v9 =>
    (pA M 100 v7 a1 (Int8.toInt32 (Int32.toInt8 v9))).bind fun M10 =>
    fX16_install_L13 fu  n a0 (a1 + (1 : Int32)) M10)
def fX16_install (fu : Nat)  (a0 : Nat)  (M : Mm) : Option (Int32 × Mm) :=
    (gI M 16 1025 (some a0)).bind fun v1 =>
    if v1 ≤ (65535 : Int32) then (
    fX16_install_L13 fu  fu a0 (0 : Int32) M)
    else (
    some ((-1 : Int32), M))
theorem dX16_install_0 : decode cX16_install 0 = .ok (.aload_n 0, 1) := by decide +kernel
theorem dX16_install_1 : decode cX16_install 1 = .ok (.getfield 84, 3) := by decide +kernel
theorem dX16_install_4 : decode cX16_install 4 = .ok (.ldc 14, 2) := by decide +kernel
theorem dX16_install_6 : decode cX16_install 6 = .ok (.if_icmp .le 5, 3) := by decide +kernel
theorem dX16_install_9 : decode cX16_install 9 = .ok (.iconst (-1), 1) := by decide +kernel
theorem dX16_install_10 : decode cX16_install 10 = .ok (.ireturn, 1) := by decide +kernel
theorem dX16_install_11 : decode cX16_install 11 = .ok (.iconst 0, 1) := by decide +kernel
theorem dX16_install_12 : decode cX16_install 12 = .ok (.istore_n 1, 1) := by decide +kernel
theorem dX16_install_13 : decode cX16_install 13 = .ok (.iload_n 1, 1) := by decide +kernel
theorem dX16_install_14 : decode cX16_install 14 = .ok (.aload_n 0, 1) := by decide +kernel
theorem dX16_install_15 : decode cX16_install 15 = .ok (.getfield 84, 3) := by decide +kernel
theorem dX16_install_18 : decode cX16_install 18 = .ok (.if_icmp .ge 21, 3) := by decide +kernel
theorem dX16_install_21 : decode cX16_install 21 = .ok (.aload_n 0, 1) := by decide +kernel
theorem dX16_install_22 : decode cX16_install 22 = .ok (.getfield 15, 3) := by decide +kernel
theorem dX16_install_25 : decode cX16_install 25 = .ok (.iload_n 1, 1) := by decide +kernel
theorem dX16_install_26 : decode cX16_install 26 = .ok (.aload_n 0, 1) := by decide +kernel
theorem dX16_install_27 : decode cX16_install 27 = .ok (.getfield 10, 3) := by decide +kernel
theorem dX16_install_30 : decode cX16_install 30 = .ok (.iload_n 1, 1) := by decide +kernel
theorem dX16_install_31 : decode cX16_install 31 = .ok (.baload, 1) := by decide +kernel
theorem dX16_install_32 : decode cX16_install 32 = .ok (.bastore, 1) := by decide +kernel
theorem dX16_install_33 : decode cX16_install 33 = .ok (.iinc 1 1, 3) := by decide +kernel
theorem dX16_install_36 : decode cX16_install 36 = .ok (.goto (-23), 3) := by decide +kernel
theorem dX16_install_39 : decode cX16_install 39 = .ok (.aload_n 0, 1) := by decide +kernel
theorem dX16_install_40 : decode cX16_install 40 = .ok (.aload_n 0, 1) := by decide +kernel
theorem dX16_install_41 : decode cX16_install 41 = .ok (.getfield 84, 3) := by decide +kernel
theorem dX16_install_44 : decode cX16_install 44 = .ok (.putfield 92, 3) := by decide +kernel
theorem dX16_install_47 : decode cX16_install 47 = .ok (.aload_n 0, 1) := by decide +kernel
theorem dX16_install_48 : decode cX16_install 48 = .ok (.iconst 0, 1) := by decide +kernel
theorem dX16_install_49 : decode cX16_install 49 = .ok (.putfield 84, 3) := by decide +kernel
theorem dX16_install_52 : decode cX16_install 52 = .ok (.aload_n 0, 1) := by decide +kernel
theorem dX16_install_53 : decode cX16_install 53 = .ok (.iconst 0, 1) := by decide +kernel
theorem dX16_install_54 : decode cX16_install 54 = .ok (.putfield 95, 3) := by decide +kernel
theorem dX16_install_57 : decode cX16_install 57 = .ok (.aload_n 0, 1) := by decide +kernel
theorem dX16_install_58 : decode cX16_install 58 = .ok (.getfield 92, 3) := by decide +kernel
theorem dX16_install_61 : decode cX16_install 61 = .ok (.ireturn, 1) := by decide +kernel
theorem wX16_install_L13 {x : GX} {n0 sl0 : Nat} (X : Cx x cX16_install RX16 (some .int) n0 sl0 0 0) {out : Int32 × Mm} (hE : Ends x n0 sl0 (some (pI out.1)) out.2) (hn : xn x = 2) (fu : Nat)   : ∀ (n : Nat) (a0 : Nat) (a1 : Int32)  (M : Mm), fX16_install_L13 fu  n a0 a1 M = some out → Gw x M 13 [(0, pR (some a0)), (1, pI a1)] [] := by
  intro n
  induction n with
  | zero =>
    intro a0 a1 M h
    have h : (none : Option (Int32 × Mm)) = some out := h
    cases h
  | succ n ih =>
    intro a0 a1 M h
    rw [fX16_install_L13] at h
    refine g_iload_n X (pc := 13) 1 rfl rfl dX16_install_13 ?_
    refine g_aload_n X (pc := 14) 0 rfl rfl dX16_install_14 ?_
    obtain ⟨v1, ev1, h⟩ := bd h
    refine g_getI X (pc := 15) fk_16_1 rfl rfl ev1 tb_1815 dX16_install_15 ?_
    refine g_icmp_ge X (pc := 18) (tgt := 39) dX16_install_18 (by decide) (fun hc => ?_) (fun hc => ?_)
    · have h := (if_pos hc).symm.trans h
      refine g_aload_n X (pc := 39) 0 rfl rfl dX16_install_39 ?_
      refine g_aload_n X (pc := 40) 0 rfl rfl dX16_install_40 ?_
      obtain ⟨v2, ev2, h⟩ := bd h
      refine g_getI X (pc := 41) fk_16_1 rfl rfl ev2 tb_1815 dX16_install_41 ?_
      obtain ⟨M3, eM3, h⟩ := bd h
      refine g_putI X (pc := 44) fk_16_3 rfl rfl rfl eM3 tb_1817 (Or.inl rfl) dX16_install_44 ?_
      refine g_aload_n X (pc := 47) 0 rfl rfl dX16_install_47 ?_
      refine g_iconst X (pc := 48) (v := 0) dX16_install_48 (by decide) ?_
      obtain ⟨M4, eM4, h⟩ := bd h
      refine g_putI X (pc := 49) fk_16_1 rfl rfl rfl eM4 tb_1815 (Or.inl rfl) dX16_install_49 ?_
      refine g_aload_n X (pc := 52) 0 rfl rfl dX16_install_52 ?_
      refine g_iconst X (pc := 53) (v := 0) dX16_install_53 (by decide) ?_
      obtain ⟨M5, eM5, h⟩ := bd h
      refine g_putZ X (pc := 54) fk_16_4 rfl rfl rfl eM5 tb_1818 (Or.inl rfl) dX16_install_54 ?_
      refine g_aload_n X (pc := 57) 0 rfl rfl dX16_install_57 ?_
      obtain ⟨v6, ev6, h⟩ := bd h
      refine g_getI X (pc := 58) fk_16_3 rfl rfl ev6 tb_1817 dX16_install_58 ?_
      obtain rfl := Option.some.inj h
      exact g_ireturn X hE dX16_install_61
    · have h := (if_neg hc).symm.trans h
      refine g_aload_n X (pc := 21) 0 rfl rfl dX16_install_21 ?_
      obtain ⟨v7, ev7, h⟩ := bd h
      refine g_getR X (pc := 22) fk_16_2 rfl rfl ev7 tb_1816 dX16_install_22 ?_
      refine g_iload_n X (pc := 25) 1 rfl rfl dX16_install_25 ?_
      refine g_aload_n X (pc := 26) 0 rfl rfl dX16_install_26 ?_
      obtain ⟨v8, ev8, h⟩ := bd h
      refine g_getR X (pc := 27) fk_16_0 rfl rfl ev8 tb_1814 dX16_install_27 ?_
      refine g_iload_n X (pc := 30) 1 rfl rfl dX16_install_30 ?_
      obtain ⟨v9, ev9, h⟩ := bd h
      refine g_baload X (pc := 31) ev9 dX16_install_31 ?_
      obtain ⟨M10, eM10, h⟩ := bd h
      refine g_bastore X (pc := 32) eM10 dX16_install_32 ?_
      refine g_iinc X (pc := 33) 1 [(1, pI (a1 + (1 : Int32))), (0, pR (some a0))] rfl (iinc_e (by decide)) (lt_n hn (by decide)) rfl dX16_install_33 ?_
      refine g_goto X (pc := 36) (tgt := 13) dX16_install_36 (by decide) ?_
      refine g_sub [1, 0] [(0, pR (some a0)), (1, pI (a1 + (1 : Int32)))] rfl ?_
      exact ih a0 (a1 + (1 : Int32)) M10 h
theorem wX16_install {x : GX} {n0 sl0 : Nat} (X : Cx x cX16_install RX16 (some .int) n0 sl0 0 0) {out : Int32 × Mm} (hE : Ends x n0 sl0 (some (pI out.1)) out.2) (hn : xn x = 2) (fu : Nat)   (a0 : Nat)  (M : Mm) (h : fX16_install fu  a0 M = some out) : Gw x M 0 [(0, pR (some a0))] [] := by
  unfold fX16_install at h
  refine g_aload_n X (pc := 0) 0 rfl rfl dX16_install_0 ?_
  obtain ⟨v1, ev1, h⟩ := bd h
  refine g_getI X (pc := 1) fk_16_1 rfl rfl ev1 tb_1815 dX16_install_1 ?_
  refine g_ldc X (pc := 4) tb_1565 dX16_install_4 ?_
  refine g_icmp_le X (pc := 6) (tgt := 11) dX16_install_6 (by decide) (fun hc => ?_) (fun hc => ?_)
  · have h := (if_pos hc).symm.trans h
    refine g_iconst X (pc := 11) (v := 0) dX16_install_11 (by decide) ?_
    refine g_istore_n X (pc := 12) [(1, pI (0 : Int32)), (0, pR (some a0))] rfl (lt_n hn (by decide)) rfl dX16_install_12 ?_
    refine g_sub [1, 0] [(0, pR (some a0)), (1, pI (0 : Int32))] rfl ?_
    exact wX16_install_L13 X hE hn fu   fu a0 (0 : Int32) M h
  · have h := (if_neg hc).symm.trans h
    refine g_iconst X (pc := 9) (v := (-1)) dX16_install_9 (by decide) ?_
    obtain rfl := Option.some.inj h
    exact g_ireturn X hE dX16_install_10
theorem hyX16_install : yX16_install.cls ≠ "java/lang/invoke/MethodHandle" ∧ yX16_install.cls ≠ "java/lang/invoke/VarHandle" ∧ (parseMethodDescriptor yX16_install.desc).map (fun d => d.parameters.length) = some 0 := ⟨by decide +kernel, by decide +kernel, by decide +kernel⟩
theorem ctX16_install (l : Launch) (E : Nat → Nat) (D : va_G) (dA : Nat → ClassId) (lo : Nat) (H0 : Heap) (fu : Nat) (a0 : Nat) (M : Mm) (out : Int32 × Mm) (h : fX16_install fu a0 M = some out) : Ct l E D dA lo H0 yX16_install cX16_install 2 (some .int) 0 0 [pR (some a0)] M (some (pI out.1)) out.2 := by
  refine ct_of (by decide +kernel) (Nat.le_of_ble_eq_true rfl) ?_
  intro x hl he hd ha ho hh hn hin X hE
  exact wX16_install X hE hn fu a0 M h
/-! WebHostModel.imageWord(I)J -/
def fX16_imageWord_L5 (fu : Nat)  : Nat → Nat → Int32 → Int64 → Int32 → Mm → Option (Int64 × Mm)
  | 0, _, _, _, _, _ => none
  | n + 1, a0, a1, a2, a4, M =>
    if (4 : Int32) ≤ a4 then (
    some (a2, M))
    else (
    (gR M 16 1026 (some a0)).bind fun v1 =>
    (gA M 100 v1 (a1 + a4)).bind fun v2 =>
    (some ((a2 <<< (Int32.toInt64 (8 : Int32) &&& 63)) ||| (Int32.toInt64 (v2 &&& (255 : Int32))))).bind fun v3 =>
    fX16_imageWord_L5 fu  n a0 a1 v3 (a4 + (1 : Int32)) M)
def fX16_imageWord (fu : Nat)  (a0 : Nat) (a1 : Int32)  (M : Mm) : Option (Int64 × Mm) :=
    fX16_imageWord_L5 fu  fu a0 a1 (0 : Int64) (0 : Int32) M
theorem dX16_imageWord_0 : decode cX16_imageWord 0 = .ok (.lconst 0, 1) := by decide +kernel
theorem dX16_imageWord_1 : decode cX16_imageWord 1 = .ok (.lstore_n 2, 1) := by decide +kernel
theorem dX16_imageWord_2 : decode cX16_imageWord 2 = .ok (.iconst 0, 1) := by decide +kernel
theorem dX16_imageWord_3 : decode cX16_imageWord 3 = .ok (.istore 4, 2) := by decide +kernel
theorem dX16_imageWord_5 : decode cX16_imageWord 5 = .ok (.iload 4, 2) := by decide +kernel
theorem dX16_imageWord_7 : decode cX16_imageWord 7 = .ok (.iconst 4, 1) := by decide +kernel
theorem dX16_imageWord_8 : decode cX16_imageWord 8 = .ok (.if_icmp .ge 29, 3) := by decide +kernel
theorem dX16_imageWord_11 : decode cX16_imageWord 11 = .ok (.lload_n 2, 1) := by decide +kernel
theorem dX16_imageWord_12 : decode cX16_imageWord 12 = .ok (.bipush 8, 2) := by decide +kernel
theorem dX16_imageWord_14 : decode cX16_imageWord 14 = .ok (.lshl, 1) := by decide +kernel
theorem dX16_imageWord_15 : decode cX16_imageWord 15 = .ok (.aload_n 0, 1) := by decide +kernel
theorem dX16_imageWord_16 : decode cX16_imageWord 16 = .ok (.getfield 15, 3) := by decide +kernel
theorem dX16_imageWord_19 : decode cX16_imageWord 19 = .ok (.iload_n 1, 1) := by decide +kernel
theorem dX16_imageWord_20 : decode cX16_imageWord 20 = .ok (.iload 4, 2) := by decide +kernel
theorem dX16_imageWord_22 : decode cX16_imageWord 22 = .ok (.iadd, 1) := by decide +kernel
theorem dX16_imageWord_23 : decode cX16_imageWord 23 = .ok (.baload, 1) := by decide +kernel
theorem dX16_imageWord_24 : decode cX16_imageWord 24 = .ok (.sipush 255, 3) := by decide +kernel
theorem dX16_imageWord_27 : decode cX16_imageWord 27 = .ok (.iand, 1) := by decide +kernel
theorem dX16_imageWord_28 : decode cX16_imageWord 28 = .ok (.i2l, 1) := by decide +kernel
theorem dX16_imageWord_29 : decode cX16_imageWord 29 = .ok (.lor, 1) := by decide +kernel
theorem dX16_imageWord_30 : decode cX16_imageWord 30 = .ok (.lstore_n 2, 1) := by decide +kernel
theorem dX16_imageWord_31 : decode cX16_imageWord 31 = .ok (.iinc 4 1, 3) := by decide +kernel
theorem dX16_imageWord_34 : decode cX16_imageWord 34 = .ok (.goto (-29), 3) := by decide +kernel
theorem dX16_imageWord_37 : decode cX16_imageWord 37 = .ok (.lload_n 2, 1) := by decide +kernel
theorem dX16_imageWord_38 : decode cX16_imageWord 38 = .ok (.lreturn, 1) := by decide +kernel
theorem wX16_imageWord_L5 {x : GX} {n0 sl0 : Nat} (X : Cx x cX16_imageWord RX16 (some .long) n0 sl0 0 0) {out : Int64 × Mm} (hE : Ends x n0 sl0 (some (pL out.1)) out.2) (hn : xn x = 5) (fu : Nat)   : ∀ (n : Nat) (a0 : Nat) (a1 : Int32) (a2 : Int64) (a4 : Int32)  (M : Mm), fX16_imageWord_L5 fu  n a0 a1 a2 a4 M = some out → Gw x M 5 [(0, pR (some a0)), (1, pI a1), (2, pL a2), (4, pI a4)] [] := by
  intro n
  induction n with
  | zero =>
    intro a0 a1 a2 a4 M h
    have h : (none : Option (Int64 × Mm)) = some out := h
    cases h
  | succ n ih =>
    intro a0 a1 a2 a4 M h
    rw [fX16_imageWord_L5] at h
    refine g_iload X (pc := 5) 3 rfl dX16_imageWord_5 ?_
    refine g_iconst X (pc := 7) (v := 4) dX16_imageWord_7 (by decide) ?_
    refine g_icmp_ge X (pc := 8) (tgt := 37) dX16_imageWord_8 (by decide) (fun hc => ?_) (fun hc => ?_)
    · have h := (if_pos hc).symm.trans h
      refine g_lload_n X (pc := 37) 2 rfl rfl dX16_imageWord_37 ?_
      obtain rfl := Option.some.inj h
      exact g_lreturn X hE dX16_imageWord_38
    · have h := (if_neg hc).symm.trans h
      refine g_lload_n X (pc := 11) 2 rfl rfl dX16_imageWord_11 ?_
      refine g_bipush X (pc := 12) (v := 8) dX16_imageWord_12 (by decide) ?_
      refine g_lshl X (pc := 14) dX16_imageWord_14 ?_
      refine g_aload_n X (pc := 15) 0 rfl rfl dX16_imageWord_15 ?_
      obtain ⟨v1, ev1, h⟩ := bd h
      refine g_getR X (pc := 16) fk_16_2 rfl rfl ev1 tb_1816 dX16_imageWord_16 ?_
      refine g_iload_n X (pc := 19) 1 rfl rfl dX16_imageWord_19 ?_
      refine g_iload X (pc := 20) 3 rfl dX16_imageWord_20 ?_
      refine g_iadd X (pc := 22) dX16_imageWord_22 ?_
      obtain ⟨v2, ev2, h⟩ := bd h
      refine g_baload X (pc := 23) ev2 dX16_imageWord_23 ?_
      refine g_sipush X (pc := 24) (v := 255) dX16_imageWord_24 (by decide) ?_
      refine g_iand X (pc := 27) dX16_imageWord_27 ?_
      refine g_i2l X (pc := 28) dX16_imageWord_28 ?_
      refine g_lor X (pc := 29) dX16_imageWord_29 ?_
      obtain ⟨v3, ev3, h⟩ := bd h
      refine g_nmJ ev3 ?_
      refine g_lstore_n X (pc := 30) [(2, pL v3), (0, pR (some a0)), (1, pI a1), (4, pI a4)] rfl (lt_n hn (by decide)) rfl dX16_imageWord_30 ?_
      refine g_iinc X (pc := 31) 3 [(4, pI (a4 + (1 : Int32))), (2, pL v3), (0, pR (some a0)), (1, pI a1)] rfl (iinc_e (by decide)) (lt_n hn (by decide)) rfl dX16_imageWord_31 ?_
      refine g_goto X (pc := 34) (tgt := 5) dX16_imageWord_34 (by decide) ?_
      refine g_sub [2, 3, 1, 0] [(0, pR (some a0)), (1, pI a1), (2, pL v3), (4, pI (a4 + (1 : Int32)))] rfl ?_
      exact ih a0 a1 v3 (a4 + (1 : Int32)) M h
theorem wX16_imageWord {x : GX} {n0 sl0 : Nat} (X : Cx x cX16_imageWord RX16 (some .long) n0 sl0 0 0) {out : Int64 × Mm} (hE : Ends x n0 sl0 (some (pL out.1)) out.2) (hn : xn x = 5) (fu : Nat)   (a0 : Nat) (a1 : Int32)  (M : Mm) (h : fX16_imageWord fu  a0 a1 M = some out) : Gw x M 0 [(0, pR (some a0)), (1, pI a1)] [] := by
  unfold fX16_imageWord at h
  refine g_lconst X (pc := 0) (v := 0) dX16_imageWord_0 (by decide) ?_
  refine g_lstore_n X (pc := 1) [(2, pL (0 : Int64)), (0, pR (some a0)), (1, pI a1)] rfl (lt_n hn (by decide)) rfl dX16_imageWord_1 ?_
  refine g_iconst X (pc := 2) (v := 0) dX16_imageWord_2 (by decide) ?_
  refine g_istore X (pc := 3) [(4, pI (0 : Int32)), (2, pL (0 : Int64)), (0, pR (some a0)), (1, pI a1)] (lt_n hn (by decide)) rfl dX16_imageWord_3 ?_
  refine g_sub [2, 3, 1, 0] [(0, pR (some a0)), (1, pI a1), (2, pL (0 : Int64)), (4, pI (0 : Int32))] rfl ?_
  exact wX16_imageWord_L5 X hE hn fu   fu a0 a1 (0 : Int64) (0 : Int32) M h
theorem hyX16_imageWord : yX16_imageWord.cls ≠ "java/lang/invoke/MethodHandle" ∧ yX16_imageWord.cls ≠ "java/lang/invoke/VarHandle" ∧ (parseMethodDescriptor yX16_imageWord.desc).map (fun d => d.parameters.length) = some 1 := ⟨by decide +kernel, by decide +kernel, by decide +kernel⟩
theorem ctX16_imageWord (l : Launch) (E : Nat → Nat) (D : va_G) (dA : Nat → ClassId) (lo : Nat) (H0 : Heap) (fu : Nat) (a0 : Nat) (a1 : Int32) (M : Mm) (out : Int64 × Mm) (h : fX16_imageWord fu a0 a1 M = some out) : Ct l E D dA lo H0 yX16_imageWord cX16_imageWord 5 (some .long) 0 0 [pR (some a0), pI a1] M (some (pL out.1)) out.2 := by
  refine ct_of (by decide +kernel) (Nat.le_of_ble_eq_true rfl) ?_
  intro x hl he hd ha ho hh hn hin X hE
  exact wX16_imageWord X hE hn fu a0 a1 M h
/-! WebHostModel.check(II)I -/
def fX16_check_L54 (fu : Nat) (k5 : Nat → Int32 → Int32 → Int32 → Mm → Option (Int32 × Mm)) (k28 : Nat → Int32 → Int32 → Int32 → Int32 → Mm → Option (Int32 × Mm)) (a0 : Nat) (a2 : Int32) (a4 : Int32) (a5 : Int32) (s0 : Int32) (M : Mm) : Option (Int32 × Mm) :=
    k28 a0 a2 s0 a4 (a5 + (1 : Int32)) M
def fX16_check_L28 (fu : Nat) (k5 : Nat → Int32 → Int32 → Int32 → Mm → Option (Int32 × Mm)) : Nat → Nat → Int32 → Int32 → Int32 → Int32 → Mm → Option (Int32 × Mm)
  | 0, _, _, _, _, _, _ => none
  | n + 1, a0, a2, a3, a4, a5, M =>
    if (8 : Int32) ≤ a5 then (
    k5 a0 a2 a3 (a4 + (1 : Int32)) M)
    else (
    if (a3 &&& (1 : Int32)) = (1 : Int32) then (
    fX16_check_L54 fu k5 (fun b0 b2 b3 b4 b5 M => fX16_check_L28 fu k5 n b0 b2 b3 b4 b5 M) a0 a2 a4 a5 ((ushr a3 (1 : Int32)) ^^^ (-306674912 : Int32)) M)
    else (
    fX16_check_L54 fu k5 (fun b0 b2 b3 b4 b5 M => fX16_check_L28 fu k5 n b0 b2 b3 b4 b5 M) a0 a2 a4 a5 (ushr a3 (1 : Int32)) M))
def fX16_check_L5 (fu : Nat)  : Nat → Nat → Int32 → Int32 → Int32 → Mm → Option (Int32 × Mm)
  | 0, _, _, _, _, _ => none
  | n + 1, a0, a2, a3, a4, M =>
    if a2 ≤ a4 then (
    some ((a3 ^^^ (-1 : Int32)), M))
    else (
    (gR M 16 1026 (some a0)).bind fun v1 =>
    (gA M 100 v1 a4).bind fun v2 =>
    fX16_check_L28 fu (fun b0 b2 b3 b4 M => fX16_check_L5 fu  n b0 b2 b3 b4 M) fu a0 a2 (a3 ^^^ (v2 &&& (255 : Int32))) a4 (0 : Int32) M)
def fX16_check (fu : Nat)  (a0 : Nat) (a1 : Int32) (a2 : Int32)  (M : Mm) : Option (Int32 × Mm) :=
    fX16_check_L5 fu  fu a0 a2 (-1 : Int32) a1 M
theorem dX16_check_0 : decode cX16_check 0 = .ok (.iconst (-1), 1) := by decide +kernel
theorem dX16_check_1 : decode cX16_check 1 = .ok (.istore_n 3, 1) := by decide +kernel
theorem dX16_check_2 : decode cX16_check 2 = .ok (.iload_n 1, 1) := by decide +kernel
theorem dX16_check_3 : decode cX16_check 3 = .ok (.istore 4, 2) := by decide +kernel
theorem dX16_check_5 : decode cX16_check 5 = .ok (.iload 4, 2) := by decide +kernel
theorem dX16_check_7 : decode cX16_check 7 = .ok (.iload_n 2, 1) := by decide +kernel
theorem dX16_check_8 : decode cX16_check 8 = .ok (.if_icmp .ge 59, 3) := by decide +kernel
theorem dX16_check_11 : decode cX16_check 11 = .ok (.iload_n 3, 1) := by decide +kernel
theorem dX16_check_12 : decode cX16_check 12 = .ok (.aload_n 0, 1) := by decide +kernel
theorem dX16_check_13 : decode cX16_check 13 = .ok (.getfield 15, 3) := by decide +kernel
theorem dX16_check_16 : decode cX16_check 16 = .ok (.iload 4, 2) := by decide +kernel
theorem dX16_check_18 : decode cX16_check 18 = .ok (.baload, 1) := by decide +kernel
theorem dX16_check_19 : decode cX16_check 19 = .ok (.sipush 255, 3) := by decide +kernel
theorem dX16_check_22 : decode cX16_check 22 = .ok (.iand, 1) := by decide +kernel
theorem dX16_check_23 : decode cX16_check 23 = .ok (.ixor, 1) := by decide +kernel
theorem dX16_check_24 : decode cX16_check 24 = .ok (.istore_n 3, 1) := by decide +kernel
theorem dX16_check_25 : decode cX16_check 25 = .ok (.iconst 0, 1) := by decide +kernel
theorem dX16_check_26 : decode cX16_check 26 = .ok (.istore 5, 2) := by decide +kernel
theorem dX16_check_28 : decode cX16_check 28 = .ok (.iload 5, 2) := by decide +kernel
theorem dX16_check_30 : decode cX16_check 30 = .ok (.bipush 8, 2) := by decide +kernel
theorem dX16_check_32 : decode cX16_check 32 = .ok (.if_icmp .ge 29, 3) := by decide +kernel
theorem dX16_check_35 : decode cX16_check 35 = .ok (.iload_n 3, 1) := by decide +kernel
theorem dX16_check_36 : decode cX16_check 36 = .ok (.iconst 1, 1) := by decide +kernel
theorem dX16_check_37 : decode cX16_check 37 = .ok (.iand, 1) := by decide +kernel
theorem dX16_check_38 : decode cX16_check 38 = .ok (.iconst 1, 1) := by decide +kernel
theorem dX16_check_39 : decode cX16_check 39 = .ok (.if_icmp .ne 12, 3) := by decide +kernel
theorem dX16_check_42 : decode cX16_check 42 = .ok (.iload_n 3, 1) := by decide +kernel
theorem dX16_check_43 : decode cX16_check 43 = .ok (.iconst 1, 1) := by decide +kernel
theorem dX16_check_44 : decode cX16_check 44 = .ok (.iushr, 1) := by decide +kernel
theorem dX16_check_45 : decode cX16_check 45 = .ok (.ldc 99, 2) := by decide +kernel
theorem dX16_check_47 : decode cX16_check 47 = .ok (.ixor, 1) := by decide +kernel
theorem dX16_check_48 : decode cX16_check 48 = .ok (.goto 6, 3) := by decide +kernel
theorem dX16_check_51 : decode cX16_check 51 = .ok (.iload_n 3, 1) := by decide +kernel
theorem dX16_check_52 : decode cX16_check 52 = .ok (.iconst 1, 1) := by decide +kernel
theorem dX16_check_53 : decode cX16_check 53 = .ok (.iushr, 1) := by decide +kernel
theorem dX16_check_54 : decode cX16_check 54 = .ok (.istore_n 3, 1) := by decide +kernel
theorem dX16_check_55 : decode cX16_check 55 = .ok (.iinc 5 1, 3) := by decide +kernel
theorem dX16_check_58 : decode cX16_check 58 = .ok (.goto (-30), 3) := by decide +kernel
theorem dX16_check_61 : decode cX16_check 61 = .ok (.iinc 4 1, 3) := by decide +kernel
theorem dX16_check_64 : decode cX16_check 64 = .ok (.goto (-59), 3) := by decide +kernel
theorem dX16_check_67 : decode cX16_check 67 = .ok (.iload_n 3, 1) := by decide +kernel
theorem dX16_check_68 : decode cX16_check 68 = .ok (.iconst (-1), 1) := by decide +kernel
theorem dX16_check_69 : decode cX16_check 69 = .ok (.ixor, 1) := by decide +kernel
theorem dX16_check_70 : decode cX16_check 70 = .ok (.ireturn, 1) := by decide +kernel
theorem wX16_check_L54 {x : GX} {n0 sl0 : Nat} (X : Cx x cX16_check RX16 (some .int) n0 sl0 0 0) {out : Int32 × Mm} (hE : Ends x n0 sl0 (some (pI out.1)) out.2) (hn : xn x = 6) (fu : Nat) (k5 : Nat → Int32 → Int32 → Int32 → Mm → Option (Int32 × Mm)) (k28 : Nat → Int32 → Int32 → Int32 → Int32 → Mm → Option (Int32 × Mm)) (hk5 : ∀ (b0 : Nat) (b2 : Int32) (b3 : Int32) (b4 : Int32)  (M : Mm), k5 b0 b2 b3 b4 M = some out → Gw x M 5 [(0, pR (some b0)), (2, pI b2), (3, pI b3), (4, pI b4)] []) (hk28 : ∀ (b0 : Nat) (b2 : Int32) (b3 : Int32) (b4 : Int32) (b5 : Int32)  (M : Mm), k28 b0 b2 b3 b4 b5 M = some out → Gw x M 28 [(0, pR (some b0)), (2, pI b2), (3, pI b3), (4, pI b4), (5, pI b5)] []) (a0 : Nat) (a2 : Int32) (a4 : Int32) (a5 : Int32) (s0 : Int32) (M : Mm) (h : fX16_check_L54 fu k5 k28 a0 a2 a4 a5 s0 M = some out) : Gw x M 54 [(0, pR (some a0)), (2, pI a2), (4, pI a4), (5, pI a5)] [pI s0] := by
  unfold fX16_check_L54 at h
  refine g_istore_n X (pc := 54) [(3, pI s0), (0, pR (some a0)), (2, pI a2), (4, pI a4), (5, pI a5)] rfl (lt_n hn (by decide)) rfl dX16_check_54 ?_
  refine g_iinc X (pc := 55) 4 [(5, pI (a5 + (1 : Int32))), (3, pI s0), (0, pR (some a0)), (2, pI a2), (4, pI a4)] rfl (iinc_e (by decide)) (lt_n hn (by decide)) rfl dX16_check_55 ?_
  refine g_goto X (pc := 58) (tgt := 28) dX16_check_58 (by decide) ?_
  refine g_sub [2, 3, 1, 4, 0] [(0, pR (some a0)), (2, pI a2), (3, pI s0), (4, pI a4), (5, pI (a5 + (1 : Int32)))] rfl ?_
  exact hk28 a0 a2 s0 a4 (a5 + (1 : Int32)) M h
theorem wX16_check_L28 {x : GX} {n0 sl0 : Nat} (X : Cx x cX16_check RX16 (some .int) n0 sl0 0 0) {out : Int32 × Mm} (hE : Ends x n0 sl0 (some (pI out.1)) out.2) (hn : xn x = 6) (fu : Nat) (k5 : Nat → Int32 → Int32 → Int32 → Mm → Option (Int32 × Mm)) (hk5 : ∀ (b0 : Nat) (b2 : Int32) (b3 : Int32) (b4 : Int32)  (M : Mm), k5 b0 b2 b3 b4 M = some out → Gw x M 5 [(0, pR (some b0)), (2, pI b2), (3, pI b3), (4, pI b4)] []) : ∀ (n : Nat) (a0 : Nat) (a2 : Int32) (a3 : Int32) (a4 : Int32) (a5 : Int32)  (M : Mm), fX16_check_L28 fu k5 n a0 a2 a3 a4 a5 M = some out → Gw x M 28 [(0, pR (some a0)), (2, pI a2), (3, pI a3), (4, pI a4), (5, pI a5)] [] := by
  intro n
  induction n with
  | zero =>
    intro a0 a2 a3 a4 a5 M h
    have h : (none : Option (Int32 × Mm)) = some out := h
    cases h
  | succ n ih =>
    intro a0 a2 a3 a4 a5 M h
    rw [fX16_check_L28] at h
    refine g_iload X (pc := 28) 4 rfl dX16_check_28 ?_
    refine g_bipush X (pc := 30) (v := 8) dX16_check_30 (by decide) ?_
    refine g_icmp_ge X (pc := 32) (tgt := 61) dX16_check_32 (by decide) (fun hc => ?_) (fun hc => ?_)
    · have h := (if_pos hc).symm.trans h
      refine g_iinc X (pc := 61) 3 [(4, pI (a4 + (1 : Int32))), (0, pR (some a0)), (2, pI a2), (3, pI a3), (5, pI a5)] rfl (iinc_e (by decide)) (lt_n hn (by decide)) rfl dX16_check_61 ?_
      refine g_goto X (pc := 64) (tgt := 5) dX16_check_64 (by decide) ?_
      refine g_sub [1, 2, 3, 0] [(0, pR (some a0)), (2, pI a2), (3, pI a3), (4, pI (a4 + (1 : Int32)))] rfl ?_
      exact hk5 a0 a2 a3 (a4 + (1 : Int32)) M h
    · have h := (if_neg hc).symm.trans h
      refine g_iload_n X (pc := 35) 2 rfl rfl dX16_check_35 ?_
      refine g_iconst X (pc := 36) (v := 1) dX16_check_36 (by decide) ?_
      refine g_iand X (pc := 37) dX16_check_37 ?_
      refine g_iconst X (pc := 38) (v := 1) dX16_check_38 (by decide) ?_
      refine g_icmp_ne X (pc := 39) (tgt := 51) dX16_check_39 (by decide) (fun hc => ?_) (fun hc => ?_)
      · have h := (if_neg hc).symm.trans h
        refine g_iload_n X (pc := 51) 2 rfl rfl dX16_check_51 ?_
        refine g_iconst X (pc := 52) (v := 1) dX16_check_52 (by decide) ?_
        refine g_iushr X (pc := 53) dX16_check_53 ?_
        refine g_sub [0, 1, 3, 4] [(0, pR (some a0)), (2, pI a2), (4, pI a4), (5, pI a5)] rfl ?_
        exact wX16_check_L54 X hE hn fu k5 (fun b0 b2 b3 b4 b5 M => fX16_check_L28 fu k5 n b0 b2 b3 b4 b5 M) hk5 ih a0 a2 a4 a5 (ushr a3 (1 : Int32)) M h
      · have h := (if_pos hc).symm.trans h
        refine g_iload_n X (pc := 42) 2 rfl rfl dX16_check_42 ?_
        refine g_iconst X (pc := 43) (v := 1) dX16_check_43 (by decide) ?_
        refine g_iushr X (pc := 44) dX16_check_44 ?_
        refine g_ldc X (pc := 45) tb_2035 dX16_check_45 ?_
        refine g_ixor X (pc := 47) dX16_check_47 ?_
        refine g_goto X (pc := 48) (tgt := 54) dX16_check_48 (by decide) ?_
        refine g_sub [0, 1, 3, 4] [(0, pR (some a0)), (2, pI a2), (4, pI a4), (5, pI a5)] rfl ?_
        exact wX16_check_L54 X hE hn fu k5 (fun b0 b2 b3 b4 b5 M => fX16_check_L28 fu k5 n b0 b2 b3 b4 b5 M) hk5 ih a0 a2 a4 a5 ((ushr a3 (1 : Int32)) ^^^ (-306674912 : Int32)) M h
theorem wX16_check_L5 {x : GX} {n0 sl0 : Nat} (X : Cx x cX16_check RX16 (some .int) n0 sl0 0 0) {out : Int32 × Mm} (hE : Ends x n0 sl0 (some (pI out.1)) out.2) (hn : xn x = 6) (fu : Nat)   : ∀ (n : Nat) (a0 : Nat) (a2 : Int32) (a3 : Int32) (a4 : Int32)  (M : Mm), fX16_check_L5 fu  n a0 a2 a3 a4 M = some out → Gw x M 5 [(0, pR (some a0)), (2, pI a2), (3, pI a3), (4, pI a4)] [] := by
  intro n
  induction n with
  | zero =>
    intro a0 a2 a3 a4 M h
    have h : (none : Option (Int32 × Mm)) = some out := h
    cases h
  | succ n ih =>
    intro a0 a2 a3 a4 M h
    rw [fX16_check_L5] at h
    refine g_iload X (pc := 5) 3 rfl dX16_check_5 ?_
    refine g_iload_n X (pc := 7) 1 rfl rfl dX16_check_7 ?_
    refine g_icmp_ge X (pc := 8) (tgt := 67) dX16_check_8 (by decide) (fun hc => ?_) (fun hc => ?_)
    · have h := (if_pos hc).symm.trans h
      refine g_iload_n X (pc := 67) 2 rfl rfl dX16_check_67 ?_
      refine g_iconst X (pc := 68) (v := (-1)) dX16_check_68 (by decide) ?_
      refine g_ixor X (pc := 69) dX16_check_69 ?_
      obtain rfl := Option.some.inj h
      exact g_ireturn X hE dX16_check_70
    · have h := (if_neg hc).symm.trans h
      refine g_iload_n X (pc := 11) 2 rfl rfl dX16_check_11 ?_
      refine g_aload_n X (pc := 12) 0 rfl rfl dX16_check_12 ?_
      obtain ⟨v1, ev1, h⟩ := bd h
      refine g_getR X (pc := 13) fk_16_2 rfl rfl ev1 tb_1816 dX16_check_13 ?_
      refine g_iload X (pc := 16) 3 rfl dX16_check_16 ?_
      obtain ⟨v2, ev2, h⟩ := bd h
      refine g_baload X (pc := 18) ev2 dX16_check_18 ?_
      refine g_sipush X (pc := 19) (v := 255) dX16_check_19 (by decide) ?_
      refine g_iand X (pc := 22) dX16_check_22 ?_
      refine g_ixor X (pc := 23) dX16_check_23 ?_
      refine g_istore_n X (pc := 24) [(3, pI (a3 ^^^ (v2 &&& (255 : Int32)))), (0, pR (some a0)), (2, pI a2), (4, pI a4)] rfl (lt_n hn (by decide)) rfl dX16_check_24 ?_
      refine g_iconst X (pc := 25) (v := 0) dX16_check_25 (by decide) ?_
      refine g_istore X (pc := 26) [(5, pI (0 : Int32)), (3, pI (a3 ^^^ (v2 &&& (255 : Int32)))), (0, pR (some a0)), (2, pI a2), (4, pI a4)] (lt_n hn (by decide)) rfl dX16_check_26 ?_
      refine g_sub [2, 3, 1, 4, 0] [(0, pR (some a0)), (2, pI a2), (3, pI (a3 ^^^ (v2 &&& (255 : Int32)))), (4, pI a4), (5, pI (0 : Int32))] rfl ?_
      exact wX16_check_L28 X hE hn fu (fun b0 b2 b3 b4 M => fX16_check_L5 fu  n b0 b2 b3 b4 M) ih fu a0 a2 (a3 ^^^ (v2 &&& (255 : Int32))) a4 (0 : Int32) M h
theorem wX16_check {x : GX} {n0 sl0 : Nat} (X : Cx x cX16_check RX16 (some .int) n0 sl0 0 0) {out : Int32 × Mm} (hE : Ends x n0 sl0 (some (pI out.1)) out.2) (hn : xn x = 6) (fu : Nat)   (a0 : Nat) (a1 : Int32) (a2 : Int32)  (M : Mm) (h : fX16_check fu  a0 a1 a2 M = some out) : Gw x M 0 [(0, pR (some a0)), (1, pI a1), (2, pI a2)] [] := by
  unfold fX16_check at h
  refine g_iconst X (pc := 0) (v := (-1)) dX16_check_0 (by decide) ?_
  refine g_istore_n X (pc := 1) [(3, pI (-1 : Int32)), (0, pR (some a0)), (1, pI a1), (2, pI a2)] rfl (lt_n hn (by decide)) rfl dX16_check_1 ?_
  refine g_iload_n X (pc := 2) 2 rfl rfl dX16_check_2 ?_
  refine g_istore X (pc := 3) [(4, pI a1), (3, pI (-1 : Int32)), (0, pR (some a0)), (1, pI a1), (2, pI a2)] (lt_n hn (by decide)) rfl dX16_check_3 ?_
  refine g_sub [2, 4, 1, 0] [(0, pR (some a0)), (2, pI a2), (3, pI (-1 : Int32)), (4, pI a1)] rfl ?_
  exact wX16_check_L5 X hE hn fu   fu a0 a2 (-1 : Int32) a1 M h
theorem hyX16_check : yX16_check.cls ≠ "java/lang/invoke/MethodHandle" ∧ yX16_check.cls ≠ "java/lang/invoke/VarHandle" ∧ (parseMethodDescriptor yX16_check.desc).map (fun d => d.parameters.length) = some 2 := ⟨by decide +kernel, by decide +kernel, by decide +kernel⟩
theorem ctX16_check (l : Launch) (E : Nat → Nat) (D : va_G) (dA : Nat → ClassId) (lo : Nat) (H0 : Heap) (fu : Nat) (a0 : Nat) (a1 : Int32) (a2 : Int32) (M : Mm) (out : Int32 × Mm) (h : fX16_check fu a0 a1 a2 M = some out) : Ct l E D dA lo H0 yX16_check cX16_check 6 (some .int) 0 0 [pR (some a0), pI a1, pI a2] M (some (pI out.1)) out.2 := by
  refine ct_of (by decide +kernel) (Nat.le_of_ble_eq_true rfl) ?_
  intro x hl he hd ha ho hh hn hin X hE
  exact wX16_check X hE hn fu a0 a1 a2 M h
