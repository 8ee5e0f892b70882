/-! ===== walks of methods, printed by a program of ours ===== -/
/-! WebHost$Connection.allows(II)Z -/
def fX1_allows_L71 (fu : Nat)  (a0 : Nat) (a1 : Int32) (a2 : Int32) (s0 : Int32) (M : Mm) : Option (Int32 × Mm) :=
    (gI M 1 64 (some a0)).bind fun v1 =>
    if v1 = 0 then (
    rN .boolean (0 : Int32) M)
    else (
    if s0 = 0 then (
    if a2 = 0 then (
    if (a1 &&& (1 : Int32)) = 0 then (
    rN .boolean (1 : Int32) M)
    else (
    rN .boolean (0 : Int32) M))
    else (
    rN .boolean (0 : Int32) M))
    else (
    rN .boolean (1 : Int32) M))
def fX1_allows_L66 (fu : Nat)  (a0 : Nat) (a1 : Int32) (a2 : Int32)  (M : Mm) : Option (Int32 × Mm) :=
    fX1_allows_L71 fu  a0 a1 a2 (1 : Int32) M
def fX1_allows (fu : Nat)  (a0 : Nat) (a1 : Int32) (a2 : Int32)  (M : Mm) : Option (Int32 × Mm) :=
    if (a1 &&& (2 : Int32)) = 0 then (
    (gI M 1 64 (some a0)).bind fun v1 =>
    if v1 = (2 : Int32) then (
    fX1_allows_L66 fu  a0 a1 a2 M)
    else (
    (gI M 1 64 (some a0)).bind fun v2 =>
    if v2 = (7 : Int32) then (
    fX1_allows_L66 fu  a0 a1 a2 M)
    else (
    (gI M 1 64 (some a0)).bind fun v3 =>
    if v3 = (3 : Int32) then (
    fX1_allows_L66 fu  a0 a1 a2 M)
    else (
    (gI M 1 64 (some a0)).bind fun v4 =>
    if v4 = (5 : Int32) then (
    fX1_allows_L66 fu  a0 a1 a2 M)
    else (
    (gI M 1 64 (some a0)).bind fun v5 =>
    if v5 = (8 : Int32) then (
    fX1_allows_L66 fu  a0 a1 a2 M)
    else (
    fX1_allows_L71 fu  a0 a1 a2 (0 : Int32) M))))))
    else (
    (gI M 1 64 (some a0)).bind fun v6 =>
    if v6 = (1 : Int32) then (
    if a2 = 0 then (
    rN .boolean (1 : Int32) M)
    else (
    rN .boolean (0 : Int32) M))
    else (
    rN .boolean (0 : Int32) M))
theorem dX1_allows_0 : decode cX1_allows 0 = .ok (.iload_n 1, 1) := by decide +kernel
theorem dX1_allows_1 : decode cX1_allows 1 = .ok (.iconst 2, 1) := by decide +kernel
theorem dX1_allows_2 : decode cX1_allows 2 = .ok (.iand, 1) := by decide +kernel
theorem dX1_allows_3 : decode cX1_allows 3 = .ok (.ifCond .eq 21, 3) := by decide +kernel
theorem dX1_allows_6 : decode cX1_allows 6 = .ok (.aload_n 0, 1) := by decide +kernel
theorem dX1_allows_7 : decode cX1_allows 7 = .ok (.getfield 29, 3) := by decide +kernel
theorem dX1_allows_10 : decode cX1_allows 10 = .ok (.iconst 1, 1) := by decide +kernel
theorem dX1_allows_11 : decode cX1_allows 11 = .ok (.if_icmp .ne 11, 3) := by decide +kernel
theorem dX1_allows_14 : decode cX1_allows 14 = .ok (.iload_n 2, 1) := by decide +kernel
theorem dX1_allows_15 : decode cX1_allows 15 = .ok (.ifCond .ne 7, 3) := by decide +kernel
theorem dX1_allows_18 : decode cX1_allows 18 = .ok (.iconst 1, 1) := by decide +kernel
theorem dX1_allows_19 : decode cX1_allows 19 = .ok (.goto 4, 3) := by decide +kernel
theorem dX1_allows_22 : decode cX1_allows 22 = .ok (.iconst 0, 1) := by decide +kernel
theorem dX1_allows_23 : decode cX1_allows 23 = .ok (.ireturn, 1) := by decide +kernel
theorem dX1_allows_24 : decode cX1_allows 24 = .ok (.aload_n 0, 1) := by decide +kernel
theorem dX1_allows_25 : decode cX1_allows 25 = .ok (.getfield 29, 3) := by decide +kernel
theorem dX1_allows_28 : decode cX1_allows 28 = .ok (.iconst 2, 1) := by decide +kernel
theorem dX1_allows_29 : decode cX1_allows 29 = .ok (.if_icmp .eq 37, 3) := by decide +kernel
theorem dX1_allows_32 : decode cX1_allows 32 = .ok (.aload_n 0, 1) := by decide +kernel
theorem dX1_allows_33 : decode cX1_allows 33 = .ok (.getfield 29, 3) := by decide +kernel
theorem dX1_allows_36 : decode cX1_allows 36 = .ok (.bipush 7, 2) := by decide +kernel
theorem dX1_allows_38 : decode cX1_allows 38 = .ok (.if_icmp .eq 28, 3) := by decide +kernel
theorem dX1_allows_41 : decode cX1_allows 41 = .ok (.aload_n 0, 1) := by decide +kernel
theorem dX1_allows_42 : decode cX1_allows 42 = .ok (.getfield 29, 3) := by decide +kernel
theorem dX1_allows_45 : decode cX1_allows 45 = .ok (.iconst 3, 1) := by decide +kernel
theorem dX1_allows_46 : decode cX1_allows 46 = .ok (.if_icmp .eq 20, 3) := by decide +kernel
theorem dX1_allows_49 : decode cX1_allows 49 = .ok (.aload_n 0, 1) := by decide +kernel
theorem dX1_allows_50 : decode cX1_allows 50 = .ok (.getfield 29, 3) := by decide +kernel
theorem dX1_allows_53 : decode cX1_allows 53 = .ok (.iconst 5, 1) := by decide +kernel
theorem dX1_allows_54 : decode cX1_allows 54 = .ok (.if_icmp .eq 12, 3) := by decide +kernel
theorem dX1_allows_57 : decode cX1_allows 57 = .ok (.aload_n 0, 1) := by decide +kernel
theorem dX1_allows_58 : decode cX1_allows 58 = .ok (.getfield 29, 3) := by decide +kernel
theorem dX1_allows_61 : decode cX1_allows 61 = .ok (.bipush 8, 2) := by decide +kernel
theorem dX1_allows_63 : decode cX1_allows 63 = .ok (.if_icmp .ne 7, 3) := by decide +kernel
theorem dX1_allows_66 : decode cX1_allows 66 = .ok (.iconst 1, 1) := by decide +kernel
theorem dX1_allows_67 : decode cX1_allows 67 = .ok (.goto 4, 3) := by decide +kernel
theorem dX1_allows_70 : decode cX1_allows 70 = .ok (.iconst 0, 1) := by decide +kernel
theorem dX1_allows_71 : decode cX1_allows 71 = .ok (.istore_n 3, 1) := by decide +kernel
theorem dX1_allows_72 : decode cX1_allows 72 = .ok (.aload_n 0, 1) := by decide +kernel
theorem dX1_allows_73 : decode cX1_allows 73 = .ok (.getfield 29, 3) := by decide +kernel
theorem dX1_allows_76 : decode cX1_allows 76 = .ok (.ifCond .eq 21, 3) := by decide +kernel
theorem dX1_allows_79 : decode cX1_allows 79 = .ok (.iload_n 3, 1) := by decide +kernel
theorem dX1_allows_80 : decode cX1_allows 80 = .ok (.ifCond .ne 13, 3) := by decide +kernel
theorem dX1_allows_83 : decode cX1_allows 83 = .ok (.iload_n 2, 1) := by decide +kernel
theorem dX1_allows_84 : decode cX1_allows 84 = .ok (.ifCond .ne 13, 3) := by decide +kernel
theorem dX1_allows_87 : decode cX1_allows 87 = .ok (.iload_n 1, 1) := by decide +kernel
theorem dX1_allows_88 : decode cX1_allows 88 = .ok (.iconst 1, 1) := by decide +kernel
theorem dX1_allows_89 : decode cX1_allows 89 = .ok (.iand, 1) := by decide +kernel
theorem dX1_allows_90 : decode cX1_allows 90 = .ok (.ifCond .ne 7, 3) := by decide +kernel
theorem dX1_allows_93 : decode cX1_allows 93 = .ok (.iconst 1, 1) := by decide +kernel
theorem dX1_allows_94 : decode cX1_allows 94 = .ok (.goto 4, 3) := by decide +kernel
theorem dX1_allows_97 : decode cX1_allows 97 = .ok (.iconst 0, 1) := by decide +kernel
theorem dX1_allows_98 : decode cX1_allows 98 = .ok (.ireturn, 1) := by decide +kernel
theorem wX1_allows_L71 {x : GX} {n0 sl0 : Nat} (X : Cx x cX1_allows RX1 (some .boolean) n0 sl0 0 0) {out : Int32 × Mm} (hE : Ends x n0 sl0 (some (pI out.1)) out.2) (hn : xn x = 4) (fu : Nat)   (a0 : Nat) (a1 : Int32) (a2 : Int32) (s0 : Int32) (M : Mm) (h : fX1_allows_L71 fu  a0 a1 a2 s0 M = some out) : Gw x M 71 [(0, pR (some a0)), (1, pI a1), (2, pI a2)] [pI s0] := by
  unfold fX1_allows_L71 at h
  refine g_istore_n X (pc := 71) [(3, pI s0), (0, pR (some a0)), (1, pI a1), (2, pI a2)] rfl (lt_n hn (by decide)) rfl dX1_allows_71 ?_
  refine g_aload_n X (pc := 72) 1 rfl rfl dX1_allows_72 ?_
  obtain ⟨v1, ev1, h⟩ := bd h
  refine g_getI X (pc := 73) fk_1_0 rfl rfl ev1 tb_957 dX1_allows_73 ?_
  refine g_if_eq X (pc := 76) (tgt := 97) dX1_allows_76 (by decide) (fun hc => ?_) (fun hc => ?_)
  · have h := (if_pos hc).symm.trans h
    refine g_iconst X (pc := 97) (v := 0) dX1_allows_97 (by decide) ?_
    obtain ⟨hz, rfl⟩ := rN_some h
    exact g_nreturn X rfl hz hE dX1_allows_98
  · have h := (if_neg hc).symm.trans h
    refine g_iload_n X (pc := 79) 0 rfl rfl dX1_allows_79 ?_
    refine g_if_ne X (pc := 80) (tgt := 93) dX1_allows_80 (by decide) (fun hc => ?_) (fun hc => ?_)
    · have h := (if_neg hc).symm.trans h
      refine g_iconst X (pc := 93) (v := 1) dX1_allows_93 (by decide) ?_
      refine g_goto X (pc := 94) (tgt := 98) dX1_allows_94 (by decide) ?_
      obtain ⟨hz, rfl⟩ := rN_some h
      exact g_nreturn X rfl hz hE dX1_allows_98
    · have h := (if_pos hc).symm.trans h
      refine g_iload_n X (pc := 83) 3 rfl rfl dX1_allows_83 ?_
      refine g_if_ne X (pc := 84) (tgt := 97) dX1_allows_84 (by decide) (fun hc => ?_) (fun hc => ?_)
      · have h := (if_neg hc).symm.trans h
        refine g_iconst X (pc := 97) (v := 0) dX1_allows_97 (by decide) ?_
        obtain ⟨hz, rfl⟩ := rN_some h
        exact g_nreturn X rfl hz hE dX1_allows_98
      · have h := (if_pos hc).symm.trans h
        refine g_iload_n X (pc := 87) 2 rfl rfl dX1_allows_87 ?_
        refine g_iconst X (pc := 88) (v := 1) dX1_allows_88 (by decide) ?_
        refine g_iand X (pc := 89) dX1_allows_89 ?_
        refine g_if_ne X (pc := 90) (tgt := 97) dX1_allows_90 (by decide) (fun hc => ?_) (fun hc => ?_)
        · have h := (if_neg hc).symm.trans h
          refine g_iconst X (pc := 97) (v := 0) dX1_allows_97 (by decide) ?_
          obtain ⟨hz, rfl⟩ := rN_some h
          exact g_nreturn X rfl hz hE dX1_allows_98
        · have h := (if_pos hc).symm.trans h
          refine g_iconst X (pc := 93) (v := 1) dX1_allows_93 (by decide) ?_
          refine g_goto X (pc := 94) (tgt := 98) dX1_allows_94 (by decide) ?_
          obtain ⟨hz, rfl⟩ := rN_some h
          exact g_nreturn X rfl hz hE dX1_allows_98
theorem wX1_allows_L66 {x : GX} {n0 sl0 : Nat} (X : Cx x cX1_allows RX1 (some .boolean) n0 sl0 0 0) {out : Int32 × Mm} (hE : Ends x n0 sl0 (some (pI out.1)) out.2) (hn : xn x = 4) (fu : Nat)   (a0 : Nat) (a1 : Int32) (a2 : Int32)  (M : Mm) (h : fX1_allows_L66 fu  a0 a1 a2 M = some out) : Gw x M 66 [(0, pR (some a0)), (1, pI a1), (2, pI a2)] [] := by
  unfold fX1_allows_L66 at h
  refine g_iconst X (pc := 66) (v := 1) dX1_allows_66 (by decide) ?_
  refine g_goto X (pc := 67) (tgt := 71) dX1_allows_67 (by decide) ?_
  exact wX1_allows_L71 X hE hn fu   a0 a1 a2 (1 : Int32) M h
theorem wX1_allows {x : GX} {n0 sl0 : Nat} (X : Cx x cX1_allows RX1 (some .boolean) n0 sl0 0 0) {out : Int32 × Mm} (hE : Ends x n0 sl0 (some (pI out.1)) out.2) (hn : xn x = 4) (fu : Nat)   (a0 : Nat) (a1 : Int32) (a2 : Int32)  (M : Mm) (h : fX1_allows fu  a0 a1 a2 M = some out) : Gw x M 0 [(0, pR (some a0)), (1, pI a1), (2, pI a2)] [] := by
  unfold fX1_allows at h
  refine g_iload_n X (pc := 0) 1 rfl rfl dX1_allows_0 ?_
  refine g_iconst X (pc := 1) (v := 2) dX1_allows_1 (by decide) ?_
  refine g_iand X (pc := 2) dX1_allows_2 ?_
  refine g_if_eq X (pc := 3) (tgt := 24) dX1_allows_3 (by decide) (fun hc => ?_) (fun hc => ?_)
  · have h := (if_pos hc).symm.trans h
    refine g_aload_n X (pc := 24) 0 rfl rfl dX1_allows_24 ?_
    obtain ⟨v1, ev1, h⟩ := bd h
    refine g_getI X (pc := 25) fk_1_0 rfl rfl ev1 tb_957 dX1_allows_25 ?_
    refine g_iconst X (pc := 28) (v := 2) dX1_allows_28 (by decide) ?_
    refine g_icmp_eq X (pc := 29) (tgt := 66) dX1_allows_29 (by decide) (fun hc => ?_) (fun hc => ?_)
    · have h := (if_pos hc).symm.trans h
      exact wX1_allows_L66 X hE hn fu   a0 a1 a2 M h
    · have h := (if_neg hc).symm.trans h
      refine g_aload_n X (pc := 32) 0 rfl rfl dX1_allows_32 ?_
      obtain ⟨v2, ev2, h⟩ := bd h
      refine g_getI X (pc := 33) fk_1_0 rfl rfl ev2 tb_957 dX1_allows_33 ?_
      refine g_bipush X (pc := 36) (v := 7) dX1_allows_36 (by decide) ?_
      refine g_icmp_eq X (pc := 38) (tgt := 66) dX1_allows_38 (by decide) (fun hc => ?_) (fun hc => ?_)
      · have h := (if_pos hc).symm.trans h
        exact wX1_allows_L66 X hE hn fu   a0 a1 a2 M h
      · have h := (if_neg hc).symm.trans h
        refine g_aload_n X (pc := 41) 0 rfl rfl dX1_allows_41 ?_
        obtain ⟨v3, ev3, h⟩ := bd h
        refine g_getI X (pc := 42) fk_1_0 rfl rfl ev3 tb_957 dX1_allows_42 ?_
        refine g_iconst X (pc := 45) (v := 3) dX1_allows_45 (by decide) ?_
        refine g_icmp_eq X (pc := 46) (tgt := 66) dX1_allows_46 (by decide) (fun hc => ?_) (fun hc => ?_)
        · have h := (if_pos hc).symm.trans h
          exact wX1_allows_L66 X hE hn fu   a0 a1 a2 M h
        · have h := (if_neg hc).symm.trans h
          refine g_aload_n X (pc := 49) 0 rfl rfl dX1_allows_49 ?_
          obtain ⟨v4, ev4, h⟩ := bd h
          refine g_getI X (pc := 50) fk_1_0 rfl rfl ev4 tb_957 dX1_allows_50 ?_
          refine g_iconst X (pc := 53) (v := 5) dX1_allows_53 (by decide) ?_
          refine g_icmp_eq X (pc := 54) (tgt := 66) dX1_allows_54 (by decide) (fun hc => ?_) (fun hc => ?_)
          · have h := (if_pos hc).symm.trans h
            exact wX1_allows_L66 X hE hn fu   a0 a1 a2 M h
          · have h := (if_neg hc).symm.trans h
            refine g_aload_n X (pc := 57) 0 rfl rfl dX1_allows_57 ?_
            obtain ⟨v5, ev5, h⟩ := bd h
            refine g_getI X (pc := 58) fk_1_0 rfl rfl ev5 tb_957 dX1_allows_58 ?_
            refine g_bipush X (pc := 61) (v := 8) dX1_allows_61 (by decide) ?_
            refine g_icmp_ne X (pc := 63) (tgt := 70) dX1_allows_63 (by decide) (fun hc => ?_) (fun hc => ?_)
            · have h := (if_neg hc).symm.trans h
              refine g_iconst X (pc := 70) (v := 0) dX1_allows_70 (by decide) ?_
              exact wX1_allows_L71 X hE hn fu   a0 a1 a2 (0 : Int32) M h
            · have h := (if_pos hc).symm.trans h
              exact wX1_allows_L66 X hE hn fu   a0 a1 a2 M h
  · have h := (if_neg hc).symm.trans h
    refine g_aload_n X (pc := 6) 0 rfl rfl dX1_allows_6 ?_
    obtain ⟨v6, ev6, h⟩ := bd h
    refine g_getI X (pc := 7) fk_1_0 rfl rfl ev6 tb_957 dX1_allows_7 ?_
    refine g_iconst X (pc := 10) (v := 1) dX1_allows_10 (by decide) ?_
    refine g_icmp_ne X (pc := 11) (tgt := 22) dX1_allows_11 (by decide) (fun hc => ?_) (fun hc => ?_)
    · have h := (if_neg hc).symm.trans h
      refine g_iconst X (pc := 22) (v := 0) dX1_allows_22 (by decide) ?_
      obtain ⟨hz, rfl⟩ := rN_some h
      exact g_nreturn X rfl hz hE dX1_allows_23
    · have h := (if_pos hc).symm.trans h
      refine g_iload_n X (pc := 14) 2 rfl rfl dX1_allows_14 ?_
      refine g_if_ne X (pc := 15) (tgt := 22) dX1_allows_15 (by decide) (fun hc => ?_) (fun hc => ?_)
      · have h := (if_neg hc).symm.trans h
        refine g_iconst X (pc := 22) (v := 0) dX1_allows_22 (by decide) ?_
        obtain ⟨hz, rfl⟩ := rN_some h
        exact g_nreturn X rfl hz hE dX1_allows_23
      · have h := (if_pos hc).symm.trans h
        refine g_iconst X (pc := 18) (v := 1) dX1_allows_18 (by decide) ?_
        refine g_goto X (pc := 19) (tgt := 23) dX1_allows_19 (by decide) ?_
        obtain ⟨hz, rfl⟩ := rN_some h
        exact g_nreturn X rfl hz hE dX1_allows_23
theorem hyX1_allows : yX1_allows.cls ≠ "java/lang/invoke/MethodHandle" ∧ yX1_allows.cls ≠ "java/lang/invoke/VarHandle" ∧ (parseMethodDescriptor yX1_allows.desc).map (fun d => d.parameters.length) = some 2 := ⟨by decide +kernel, by decide +kernel, by decide +kernel⟩
theorem ctX1_allows (l : Launch) (E : Nat → Nat) (D : va_G) (dA : Nat → ClassId) (lo : Nat) (H0 : Heap) (fu : Nat) (a0 : Nat) (a1 : Int32) (a2 : Int32) (M : Mm) (out : Int32 × Mm) (h : fX1_allows fu a0 a1 a2 M = some out) : Ct l E D dA lo H0 yX1_allows cX1_allows 4 (some .boolean) 0 0 [pR (some a0), pI a1, pI a2] M (some (pI out.1)) out.2 := by
  refine ct_of (by decide +kernel) (Nat.le_of_ble_eq_true rfl) ?_
  intro x hl he hd ha ho hh hn hin X hE
  exact wX1_allows X hE hn fu a0 a1 a2 M h
/-! WebHost$Datagram.<init>()V -/
def fX2_init (fu : Nat)  (a0 : Nat)  (M : Mm) : Option (Mm) :=
    b2 (mkA M 100 (4096 : Int32)) fun v1 M2 =>
    (pG M2 2 128 (some a0) (some v1)).bind fun M3 =>
    b2 (mkA M3 101 (128 : Int32)) fun v4 M5 =>
    (pG M5 2 136 (some a0) (some v4)).bind fun M6 =>
    some M6
theorem dX2_init_0 : decode cX2_init 0 = .ok (.aload_n 0, 1) := by decide +kernel
theorem dX2_init_1 : decode cX2_init 1 = .ok (.invokespecial 1, 3) := by decide +kernel
theorem dX2_init_4 : decode cX2_init 4 = .ok (.aload_n 0, 1) := by decide +kernel
theorem dX2_init_5 : decode cX2_init 5 = .ok (.sipush 4096, 3) := by decide +kernel
theorem dX2_init_8 : decode cX2_init 8 = .ok (.newarray .byte, 2) := by decide +kernel
theorem dX2_init_10 : decode cX2_init 10 = .ok (.putfield 9, 3) := by decide +kernel
theorem dX2_init_13 : decode cX2_init 13 = .ok (.aload_n 0, 1) := by decide +kernel
theorem dX2_init_14 : decode cX2_init 14 = .ok (.sipush 128, 3) := by decide +kernel
theorem dX2_init_17 : decode cX2_init 17 = .ok (.newarray .int, 2) := by decide +kernel
theorem dX2_init_19 : decode cX2_init 19 = .ok (.putfield 13, 3) := by decide +kernel
theorem dX2_init_22 : decode cX2_init 22 = .ok (.return_, 1) := by decide +kernel
theorem wX2_init {x : GX} {n0 sl0 : Nat} (X : Cx x cX2_init RX2 none n0 sl0 1 12) {out : Mm} (hE : Ends x n0 sl0 none out) (hn : xn x = 1) (hin : (xt x).name = "<init>") (fu : Nat)   (a0 : Nat)  (M : Mm) (h : fX2_init fu  a0 M = some out) : Gw x M 0 [(0, pR (some a0))] [] := by
  unfold fX2_init at h
  refine g_aload_n X (pc := 0) 0 rfl rfl dX2_init_0 ?_
  refine g_objInit X (pc := 1) (o := (some a0)) ⟨_, rfl⟩ tb_742 tb_32 tb_33 ⟨by decide, Nat.le_of_ble_eq_true rfl⟩ dX2_init_1 ?_
  refine g_aload_n X (pc := 4) 0 rfl rfl dX2_init_4 ?_
  refine g_sipush X (pc := 5) (v := 4096) dX2_init_5 (by decide) ?_
  obtain ⟨v1, M2, eM2, h⟩ := b2d h
  refine g_newarray X (pc := 8) (at9 := .byte) (k := 0) rfl (by decide) rfl (by decide) (fun _ _ q => q) tb_53 eM2 dX2_init_8 ?_
  obtain ⟨M3, eM3, h⟩ := bd h
  refine g_putG X (pc := 10) fk_2_0 rfl rfl rfl eM3 tb_743 (Or.inr ⟨rfl, hin, rfl⟩) dX2_init_10 ?_
  refine g_aload_n X (pc := 13) 0 rfl rfl dX2_init_13 ?_
  refine g_sipush X (pc := 14) (v := 128) dX2_init_14 (by decide) ?_
  obtain ⟨v4, M5, eM5, h⟩ := b2d h
  refine g_newarray X (pc := 17) (at9 := .int) (k := 1) rfl (by decide) rfl (by decide) (fun _ _ q => q) tb_89 eM5 dX2_init_17 ?_
  obtain ⟨M6, eM6, h⟩ := bd h
  refine g_putG X (pc := 19) fk_2_8 rfl rfl rfl eM6 tb_754 (Or.inr ⟨rfl, hin, rfl⟩) dX2_init_19 ?_
  obtain rfl := Option.some.inj h
  exact g_return X hE dX2_init_22
theorem hyX2_init : yX2_init.cls ≠ "java/lang/invoke/MethodHandle" ∧ yX2_init.cls ≠ "java/lang/invoke/VarHandle" ∧ (parseMethodDescriptor yX2_init.desc).map (fun d => d.parameters.length) = some 0 := ⟨by decide +kernel, by decide +kernel, by decide +kernel⟩
theorem ctX2_init (l : Launch) (E : Nat → Nat) (D : va_G) (dA : Nat → ClassId) (lo : Nat) (H0 : Heap) (fu : Nat) (a0 : Nat) (M : Mm) (out : Mm) (h : fX2_init fu a0 M = some out) : Ct l E D dA lo H0 yX2_init cX2_init 1 none 1 12 [pR (some a0)] M none out := by
  refine ct_of (by decide +kernel) (Nat.le_of_ble_eq_true rfl) ?_
  intro x hl he hd ha ho hh hn hin X hE
  exact wX2_init X hE hn hin fu a0 M h
/-! WebHost$Datagram.begin(IIII)V -/
def fX2_begin (fu : Nat)  (a0 : Nat) (a1 : Int32) (a2 : Int32) (a3 : Int32) (a4 : Int32)  (M : Mm) : Option (Mm) :=
    (pF M 2 129 (some a0) a1).bind fun M1 =>
    (pF M1 2 130 (some a0) a2).bind fun M2 =>
    (pF M2 2 131 (some a0) a3).bind fun M3 =>
    (pF M3 2 132 (some a0) a4).bind fun M4 =>
    (pF M4 2 133 (some a0) (-1 : Int32)).bind fun M5 =>
    (pF M5 2 134 (some a0) (0 : Int32)).bind fun M6 =>
    (pF M6 2 135 (some a0) (0 : Int32)).bind fun M7 =>
    (gR M7 2 136 (some a0)).bind fun v8 =>
    (fJ7_fill_53178 fu  v8 (0 : Int32) M7).bind fun M9 =>
    some M9
theorem dX2_begin_0 : decode cX2_begin 0 = .ok (.aload_n 0, 1) := by decide +kernel
theorem dX2_begin_1 : decode cX2_begin 1 = .ok (.iload_n 1, 1) := by decide +kernel
theorem dX2_begin_2 : decode cX2_begin 2 = .ok (.putfield 17, 3) := by decide +kernel
theorem dX2_begin_5 : decode cX2_begin 5 = .ok (.aload_n 0, 1) := by decide +kernel
theorem dX2_begin_6 : decode cX2_begin 6 = .ok (.iload_n 2, 1) := by decide +kernel
theorem dX2_begin_7 : decode cX2_begin 7 = .ok (.putfield 21, 3) := by decide +kernel
theorem dX2_begin_10 : decode cX2_begin 10 = .ok (.aload_n 0, 1) := by decide +kernel
theorem dX2_begin_11 : decode cX2_begin 11 = .ok (.iload_n 3, 1) := by decide +kernel
theorem dX2_begin_12 : decode cX2_begin 12 = .ok (.putfield 24, 3) := by decide +kernel
theorem dX2_begin_15 : decode cX2_begin 15 = .ok (.aload_n 0, 1) := by decide +kernel
theorem dX2_begin_16 : decode cX2_begin 16 = .ok (.iload 4, 2) := by decide +kernel
theorem dX2_begin_18 : decode cX2_begin 18 = .ok (.putfield 27, 3) := by decide +kernel
theorem dX2_begin_21 : decode cX2_begin 21 = .ok (.aload_n 0, 1) := by decide +kernel
theorem dX2_begin_22 : decode cX2_begin 22 = .ok (.iconst (-1), 1) := by decide +kernel
theorem dX2_begin_23 : decode cX2_begin 23 = .ok (.putfield 30, 3) := by decide +kernel
theorem dX2_begin_26 : decode cX2_begin 26 = .ok (.aload_n 0, 1) := by decide +kernel
theorem dX2_begin_27 : decode cX2_begin 27 = .ok (.iconst 0, 1) := by decide +kernel
theorem dX2_begin_28 : decode cX2_begin 28 = .ok (.putfield 33, 3) := by decide +kernel
theorem dX2_begin_31 : decode cX2_begin 31 = .ok (.aload_n 0, 1) := by decide +kernel
theorem dX2_begin_32 : decode cX2_begin 32 = .ok (.iconst 0, 1) := by decide +kernel
theorem dX2_begin_33 : decode cX2_begin 33 = .ok (.putfield 36, 3) := by decide +kernel
theorem dX2_begin_36 : decode cX2_begin 36 = .ok (.aload_n 0, 1) := by decide +kernel
theorem dX2_begin_37 : decode cX2_begin 37 = .ok (.getfield 13, 3) := by decide +kernel
theorem dX2_begin_40 : decode cX2_begin 40 = .ok (.iconst 0, 1) := by decide +kernel
theorem dX2_begin_41 : decode cX2_begin 41 = .ok (.invokestatic 39, 3) := by decide +kernel
theorem dX2_begin_44 : decode cX2_begin 44 = .ok (.return_, 1) := by decide +kernel
theorem wX2_begin {x : GX} {n0 sl0 : Nat} (X : Cx x cX2_begin RX2 none n0 sl0 1 23) {out : Mm} (hE : Ends x n0 sl0 none out) (hn : xn x = 5) (fu : Nat)   (a0 : Nat) (a1 : Int32) (a2 : Int32) (a3 : Int32) (a4 : Int32)  (M : Mm) (h : fX2_begin fu  a0 a1 a2 a3 a4 M = some out) : Gw x M 0 [(0, pR (some a0)), (1, pI a1), (2, pI a2), (3, pI a3), (4, pI a4)] [] := by
  unfold fX2_begin at h
  refine g_aload_n X (pc := 0) 0 rfl rfl dX2_begin_0 ?_
  refine g_iload_n X (pc := 1) 1 rfl rfl dX2_begin_1 ?_
  obtain ⟨M1, eM1, h⟩ := bd h
  refine g_putI X (pc := 2) fk_2_1 rfl rfl rfl eM1 tb_745 (Or.inl rfl) dX2_begin_2 ?_
  refine g_aload_n X (pc := 5) 0 rfl rfl dX2_begin_5 ?_
  refine g_iload_n X (pc := 6) 2 rfl rfl dX2_begin_6 ?_
  obtain ⟨M2, eM2, h⟩ := bd h
  refine g_putI X (pc := 7) fk_2_2 rfl rfl rfl eM2 tb_746 (Or.inl rfl) dX2_begin_7 ?_
  refine g_aload_n X (pc := 10) 0 rfl rfl dX2_begin_10 ?_
  refine g_iload_n X (pc := 11) 3 rfl rfl dX2_begin_11 ?_
  obtain ⟨M3, eM3, h⟩ := bd h
  refine g_putI X (pc := 12) fk_2_3 rfl rfl rfl eM3 tb_747 (Or.inl rfl) dX2_begin_12 ?_
  refine g_aload_n X (pc := 15) 0 rfl rfl dX2_begin_15 ?_
  refine g_iload X (pc := 16) 4 rfl dX2_begin_16 ?_
  obtain ⟨M4, eM4, h⟩ := bd h
  refine g_putI X (pc := 18) fk_2_4 rfl rfl rfl eM4 tb_748 (Or.inl rfl) dX2_begin_18 ?_
  refine g_aload_n X (pc := 21) 0 rfl rfl dX2_begin_21 ?_
  refine g_iconst X (pc := 22) (v := (-1)) dX2_begin_22 (by decide) ?_
  obtain ⟨M5, eM5, h⟩ := bd h
  refine g_putI X (pc := 23) fk_2_5 rfl rfl rfl eM5 tb_750 (Or.inl rfl) dX2_begin_23 ?_
  refine g_aload_n X (pc := 26) 0 rfl rfl dX2_begin_26 ?_
  refine g_iconst X (pc := 27) (v := 0) dX2_begin_27 (by decide) ?_
  obtain ⟨M6, eM6, h⟩ := bd h
  refine g_putI X (pc := 28) fk_2_6 rfl rfl rfl eM6 tb_752 (Or.inl rfl) dX2_begin_28 ?_
  refine g_aload_n X (pc := 31) 0 rfl rfl dX2_begin_31 ?_
  refine g_iconst X (pc := 32) (v := 0) dX2_begin_32 (by decide) ?_
  obtain ⟨M7, eM7, h⟩ := bd h
  refine g_putI X (pc := 33) fk_2_7 rfl rfl rfl eM7 tb_753 (Or.inl rfl) dX2_begin_33 ?_
  refine g_aload_n X (pc := 36) 0 rfl rfl dX2_begin_36 ?_
  obtain ⟨v8, ev8, h⟩ := bd h
  refine g_getR X (pc := 37) fk_2_8 rfl rfl ev8 tb_754 dX2_begin_37 ?_
  refine g_iconst X (pc := 40) (v := 0) dX2_begin_40 (by decide) ?_
  obtain ⟨M9, eM9, h⟩ := bd h
  refine g_callS X (pc := 41) (M' := M9) (ro := none) (as := [pR v8, pI (0 : Int32)]) (as' := [pI (0 : Int32), pR v8]) (st := []) (ctJ7_fill_53178 _ _ _ _ _ _ fu  v8 (0 : Int32) M7 _ eM9) tb_436 tb_778 tb_435 tb_14 hyJ7_fill_53178 rfl rfl ⟨by decide, by decide⟩ (Nat.le_of_ble_eq_true rfl) dX2_begin_41 ?_
  obtain rfl := Option.some.inj h
  exact g_return X hE dX2_begin_44
theorem hyX2_begin : yX2_begin.cls ≠ "java/lang/invoke/MethodHandle" ∧ yX2_begin.cls ≠ "java/lang/invoke/VarHandle" ∧ (parseMethodDescriptor yX2_begin.desc).map (fun d => d.parameters.length) = some 4 := ⟨by decide +kernel, by decide +kernel, by decide +kernel⟩
theorem ctX2_begin (l : Launch) (E : Nat → Nat) (D : va_G) (dA : Nat → ClassId) (lo : Nat) (H0 : Heap) (fu : Nat) (a0 : Nat) (a1 : Int32) (a2 : Int32) (a3 : Int32) (a4 : Int32) (M : Mm) (out : Mm) (h : fX2_begin fu a0 a1 a2 a3 a4 M = some out) : Ct l E D dA lo H0 yX2_begin cX2_begin 5 none 1 23 [pR (some a0), pI a1, pI a2, pI a3, pI a4] M none out := by
  refine ct_of (by decide +kernel) (Nat.le_of_ble_eq_true rfl) ?_
  intro x hl he hd ha ho hh hn hin X hE
  exact wX2_begin X hE hn fu a0 a1 a2 a3 a4 M h
/-! WebHost$Datagram.isOf(III)Z -/
def fX2_isOf (fu : Nat)  (a0 : Nat) (a1 : Int32) (a2 : Int32) (a3 : Int32)  (M : Mm) : Option (Int32 × Mm) :=
    (gI M 2 129 (some a0)).bind fun v1 =>
    if v1 = a1 then (
    (gI M 2 130 (some a0)).bind fun v2 =>
    if v2 = a2 then (
    (gI M 2 131 (some a0)).bind fun v3 =>
    if v3 = a3 then (
    rN .boolean (1 : Int32) M)
    else (
    rN .boolean (0 : Int32) M))
    else (
    rN .boolean (0 : Int32) M))
    else (
    rN .boolean (0 : Int32) M)
theorem dX2_isOf_0 : decode cX2_isOf 0 = .ok (.aload_n 0, 1) := by decide +kernel
theorem dX2_isOf_1 : decode cX2_isOf 1 = .ok (.getfield 17, 3) := by decide +kernel
theorem dX2_isOf_4 : decode cX2_isOf 4 = .ok (.iload_n 1, 1) := by decide +kernel
theorem dX2_isOf_5 : decode cX2_isOf 5 = .ok (.if_icmp .ne 23, 3) := by decide +kernel
theorem dX2_isOf_8 : decode cX2_isOf 8 = .ok (.aload_n 0, 1) := by decide +kernel
theorem dX2_isOf_9 : decode cX2_isOf 9 = .ok (.getfield 21, 3) := by decide +kernel
theorem dX2_isOf_12 : decode cX2_isOf 12 = .ok (.iload_n 2, 1) := by decide +kernel
theorem dX2_isOf_13 : decode cX2_isOf 13 = .ok (.if_icmp .ne 15, 3) := by decide +kernel
theorem dX2_isOf_16 : decode cX2_isOf 16 = .ok (.aload_n 0, 1) := by decide +kernel
theorem dX2_isOf_17 : decode cX2_isOf 17 = .ok (.getfield 24, 3) := by decide +kernel
theorem dX2_isOf_20 : decode cX2_isOf 20 = .ok (.iload_n 3, 1) := by decide +kernel
theorem dX2_isOf_21 : decode cX2_isOf 21 = .ok (.if_icmp .ne 7, 3) := by decide +kernel
theorem dX2_isOf_24 : decode cX2_isOf 24 = .ok (.iconst 1, 1) := by decide +kernel
theorem dX2_isOf_25 : decode cX2_isOf 25 = .ok (.goto 4, 3) := by decide +kernel
theorem dX2_isOf_28 : decode cX2_isOf 28 = .ok (.iconst 0, 1) := by decide +kernel
theorem dX2_isOf_29 : decode cX2_isOf 29 = .ok (.ireturn, 1) := by decide +kernel
theorem wX2_isOf {x : GX} {n0 sl0 : Nat} (X : Cx x cX2_isOf RX2 (some .boolean) n0 sl0 0 0) {out : Int32 × Mm} (hE : Ends x n0 sl0 (some (pI out.1)) out.2) (hn : xn x = 4) (fu : Nat)   (a0 : Nat) (a1 : Int32) (a2 : Int32) (a3 : Int32)  (M : Mm) (h : fX2_isOf fu  a0 a1 a2 a3 M = some out) : Gw x M 0 [(0, pR (some a0)), (1, pI a1), (2, pI a2), (3, pI a3)] [] := by
  unfold fX2_isOf at h
  refine g_aload_n X (pc := 0) 0 rfl rfl dX2_isOf_0 ?_
  obtain ⟨v1, ev1, h⟩ := bd h
  refine g_getI X (pc := 1) fk_2_1 rfl rfl ev1 tb_745 dX2_isOf_1 ?_
  refine g_iload_n X (pc := 4) 1 rfl rfl dX2_isOf_4 ?_
  refine g_icmp_ne X (pc := 5) (tgt := 28) dX2_isOf_5 (by decide) (fun hc => ?_) (fun hc => ?_)
  · have h := (if_neg hc).symm.trans h
    refine g_iconst X (pc := 28) (v := 0) dX2_isOf_28 (by decide) ?_
    obtain ⟨hz, rfl⟩ := rN_some h
    exact g_nreturn X rfl hz hE dX2_isOf_29
  · have h := (if_pos hc).symm.trans h
    refine g_aload_n X (pc := 8) 0 rfl rfl dX2_isOf_8 ?_
    obtain ⟨v2, ev2, h⟩ := bd h
    refine g_getI X (pc := 9) fk_2_2 rfl rfl ev2 tb_746 dX2_isOf_9 ?_
    refine g_iload_n X (pc := 12) 2 rfl rfl dX2_isOf_12 ?_
    refine g_icmp_ne X (pc := 13) (tgt := 28) dX2_isOf_13 (by decide) (fun hc => ?_) (fun hc => ?_)
    · have h := (if_neg hc).symm.trans h
      refine g_iconst X (pc := 28) (v := 0) dX2_isOf_28 (by decide) ?_
      obtain ⟨hz, rfl⟩ := rN_some h
      exact g_nreturn X rfl hz hE dX2_isOf_29
    · have h := (if_pos hc).symm.trans h
      refine g_aload_n X (pc := 16) 0 rfl rfl dX2_isOf_16 ?_
      obtain ⟨v3, ev3, h⟩ := bd h
      refine g_getI X (pc := 17) fk_2_3 rfl rfl ev3 tb_747 dX2_isOf_17 ?_
      refine g_iload_n X (pc := 20) 3 rfl rfl dX2_isOf_20 ?_
      refine g_icmp_ne X (pc := 21) (tgt := 28) dX2_isOf_21 (by decide) (fun hc => ?_) (fun hc => ?_)
      · have h := (if_neg hc).symm.trans h
        refine g_iconst X (pc := 28) (v := 0) dX2_isOf_28 (by decide) ?_
        obtain ⟨hz, rfl⟩ := rN_some h
        exact g_nreturn X rfl hz hE dX2_isOf_29
      · have h := (if_pos hc).symm.trans h
        refine g_iconst X (pc := 24) (v := 1) dX2_isOf_24 (by decide) ?_
        refine g_goto X (pc := 25) (tgt := 29) dX2_isOf_25 (by decide) ?_
        obtain ⟨hz, rfl⟩ := rN_some h
        exact g_nreturn X rfl hz hE dX2_isOf_29
theorem hyX2_isOf : yX2_isOf.cls ≠ "java/lang/invoke/MethodHandle" ∧ yX2_isOf.cls ≠ "java/lang/invoke/VarHandle" ∧ (parseMethodDescriptor yX2_isOf.desc).map (fun d => d.parameters.length) = some 3 := ⟨by decide +kernel, by decide +kernel, by decide +kernel⟩
theorem ctX2_isOf (l : Launch) (E : Nat → Nat) (D : va_G) (dA : Nat → ClassId) (lo : Nat) (H0 : Heap) (fu : Nat) (a0 : Nat) (a1 : Int32) (a2 : Int32) (a3 : Int32) (M : Mm) (out : Int32 × Mm) (h : fX2_isOf fu a0 a1 a2 a3 M = some out) : Ct l E D dA lo H0 yX2_isOf cX2_isOf 4 (some .boolean) 0 0 [pR (some a0), pI a1, pI a2, pI a3] M (some (pI out.1)) out.2 := by
  refine ct_of (by decide +kernel) (Nat.le_of_ble_eq_true rfl) ?_
  intro x hl he hd ha ho hh hn hin X hE
  exact wX2_isOf X hE hn fu a0 a1 a2 a3 M h
/-! WebHost$Datagram.agrees(IZ)Z -/
def fX2_agrees (fu : Nat)  (a0 : Nat) (a1 : Int32) (a2 : Int32)  (M : Mm) : Option (Int32 × Mm) :=
    if a2 = 0 then (
    (gI M 2 133 (some a0)).bind fun v1 =>
    if 0 ≤ v1 then (
    (gI M 2 133 (some a0)).bind fun v2 =>
    if a1 = v2 then (
    rN .boolean (1 : Int32) M)
    else (
    rN .boolean (0 : Int32) M))
    else (
    (gI M 2 135 (some a0)).bind fun v3 =>
    if a1 < v3 then (
    rN .boolean (0 : Int32) M)
    else (
    rN .boolean (1 : Int32) M)))
    else (
    (gI M 2 133 (some a0)).bind fun v4 =>
    if v4 < 0 then (
    rN .boolean (1 : Int32) M)
    else (
    (gI M 2 133 (some a0)).bind fun v5 =>
    if v5 < a1 then (
    rN .boolean (0 : Int32) M)
    else (
    rN .boolean (1 : Int32) M)))
theorem dX2_agrees_0 : decode cX2_agrees 0 = .ok (.iload_n 2, 1) := by decide +kernel
theorem dX2_agrees_1 : decode cX2_agrees 1 = .ok (.ifCond .eq 24, 3) := by decide +kernel
theorem dX2_agrees_4 : decode cX2_agrees 4 = .ok (.aload_n 0, 1) := by decide +kernel
theorem dX2_agrees_5 : decode cX2_agrees 5 = .ok (.getfield 30, 3) := by decide +kernel
theorem dX2_agrees_8 : decode cX2_agrees 8 = .ok (.ifCond .lt 11, 3) := by decide +kernel
theorem dX2_agrees_11 : decode cX2_agrees 11 = .ok (.iload_n 1, 1) := by decide +kernel
theorem dX2_agrees_12 : decode cX2_agrees 12 = .ok (.aload_n 0, 1) := by decide +kernel
theorem dX2_agrees_13 : decode cX2_agrees 13 = .ok (.getfield 30, 3) := by decide +kernel
theorem dX2_agrees_16 : decode cX2_agrees 16 = .ok (.if_icmp .gt 7, 3) := by decide +kernel
theorem dX2_agrees_19 : decode cX2_agrees 19 = .ok (.iconst 1, 1) := by decide +kernel
theorem dX2_agrees_20 : decode cX2_agrees 20 = .ok (.goto 4, 3) := by decide +kernel
theorem dX2_agrees_23 : decode cX2_agrees 23 = .ok (.iconst 0, 1) := by decide +kernel
theorem dX2_agrees_24 : decode cX2_agrees 24 = .ok (.ireturn, 1) := by decide +kernel
theorem dX2_agrees_25 : decode cX2_agrees 25 = .ok (.aload_n 0, 1) := by decide +kernel
theorem dX2_agrees_26 : decode cX2_agrees 26 = .ok (.getfield 30, 3) := by decide +kernel
theorem dX2_agrees_29 : decode cX2_agrees 29 = .ok (.ifCond .ge 19, 3) := by decide +kernel
theorem dX2_agrees_32 : decode cX2_agrees 32 = .ok (.iload_n 1, 1) := by decide +kernel
theorem dX2_agrees_33 : decode cX2_agrees 33 = .ok (.aload_n 0, 1) := by decide +kernel
theorem dX2_agrees_34 : decode cX2_agrees 34 = .ok (.getfield 36, 3) := by decide +kernel
theorem dX2_agrees_37 : decode cX2_agrees 37 = .ok (.if_icmp .lt 7, 3) := by decide +kernel
theorem dX2_agrees_40 : decode cX2_agrees 40 = .ok (.iconst 1, 1) := by decide +kernel
theorem dX2_agrees_41 : decode cX2_agrees 41 = .ok (.goto 20, 3) := by decide +kernel
theorem dX2_agrees_44 : decode cX2_agrees 44 = .ok (.iconst 0, 1) := by decide +kernel
theorem dX2_agrees_45 : decode cX2_agrees 45 = .ok (.goto 16, 3) := by decide +kernel
theorem dX2_agrees_48 : decode cX2_agrees 48 = .ok (.iload_n 1, 1) := by decide +kernel
theorem dX2_agrees_49 : decode cX2_agrees 49 = .ok (.aload_n 0, 1) := by decide +kernel
theorem dX2_agrees_50 : decode cX2_agrees 50 = .ok (.getfield 30, 3) := by decide +kernel
theorem dX2_agrees_53 : decode cX2_agrees 53 = .ok (.if_icmp .ne 7, 3) := by decide +kernel
theorem dX2_agrees_56 : decode cX2_agrees 56 = .ok (.iconst 1, 1) := by decide +kernel
theorem dX2_agrees_57 : decode cX2_agrees 57 = .ok (.goto 4, 3) := by decide +kernel
theorem dX2_agrees_60 : decode cX2_agrees 60 = .ok (.iconst 0, 1) := by decide +kernel
theorem dX2_agrees_61 : decode cX2_agrees 61 = .ok (.ireturn, 1) := by decide +kernel
theorem wX2_agrees {x : GX} {n0 sl0 : Nat} (X : Cx x cX2_agrees RX2 (some .boolean) n0 sl0 0 0) {out : Int32 × Mm} (hE : Ends x n0 sl0 (some (pI out.1)) out.2) (hn : xn x = 3) (fu : Nat)   (a0 : Nat) (a1 : Int32) (a2 : Int32)  (M : Mm) (h : fX2_agrees fu  a0 a1 a2 M = some out) : Gw x M 0 [(0, pR (some a0)), (1, pI a1), (2, pI a2)] [] := by
  unfold fX2_agrees at h
  refine g_iload_n X (pc := 0) 2 rfl rfl dX2_agrees_0 ?_
  refine g_if_eq X (pc := 1) (tgt := 25) dX2_agrees_1 (by decide) (fun hc => ?_) (fun hc => ?_)
  · have h := (if_pos hc).symm.trans h
    refine g_aload_n X (pc := 25) 0 rfl rfl dX2_agrees_25 ?_
    obtain ⟨v1, ev1, h⟩ := bd h
    refine g_getI X (pc := 26) fk_2_5 rfl rfl ev1 tb_750 dX2_agrees_26 ?_
    refine g_if_ge X (pc := 29) (tgt := 48) dX2_agrees_29 (by decide) (fun hc => ?_) (fun hc => ?_)
    · have h := (if_pos hc).symm.trans h
      refine g_iload_n X (pc := 48) 1 rfl rfl dX2_agrees_48 ?_
      refine g_aload_n X (pc := 49) 0 rfl rfl dX2_agrees_49 ?_
      obtain ⟨v2, ev2, h⟩ := bd h
      refine g_getI X (pc := 50) fk_2_5 rfl rfl ev2 tb_750 dX2_agrees_50 ?_
      refine g_icmp_ne X (pc := 53) (tgt := 60) dX2_agrees_53 (by decide) (fun hc => ?_) (fun hc => ?_)
      · have h := (if_neg hc).symm.trans h
        refine g_iconst X (pc := 60) (v := 0) dX2_agrees_60 (by decide) ?_
        obtain ⟨hz, rfl⟩ := rN_some h
        exact g_nreturn X rfl hz hE dX2_agrees_61
      · have h := (if_pos hc).symm.trans h
        refine g_iconst X (pc := 56) (v := 1) dX2_agrees_56 (by decide) ?_
        refine g_goto X (pc := 57) (tgt := 61) dX2_agrees_57 (by decide) ?_
        obtain ⟨hz, rfl⟩ := rN_some h
        exact g_nreturn X rfl hz hE dX2_agrees_61
    · have h := (if_neg hc).symm.trans h
      refine g_iload_n X (pc := 32) 1 rfl rfl dX2_agrees_32 ?_
      refine g_aload_n X (pc := 33) 0 rfl rfl dX2_agrees_33 ?_
      obtain ⟨v3, ev3, h⟩ := bd h
      refine g_getI X (pc := 34) fk_2_7 rfl rfl ev3 tb_753 dX2_agrees_34 ?_
      refine g_icmp_lt X (pc := 37) (tgt := 44) dX2_agrees_37 (by decide) (fun hc => ?_) (fun hc => ?_)
      · have h := (if_pos hc).symm.trans h
        refine g_iconst X (pc := 44) (v := 0) dX2_agrees_44 (by decide) ?_
        refine g_goto X (pc := 45) (tgt := 61) dX2_agrees_45 (by decide) ?_
        obtain ⟨hz, rfl⟩ := rN_some h
        exact g_nreturn X rfl hz hE dX2_agrees_61
      · have h := (if_neg hc).symm.trans h
        refine g_iconst X (pc := 40) (v := 1) dX2_agrees_40 (by decide) ?_
        refine g_goto X (pc := 41) (tgt := 61) dX2_agrees_41 (by decide) ?_
        obtain ⟨hz, rfl⟩ := rN_some h
        exact g_nreturn X rfl hz hE dX2_agrees_61
  · have h := (if_neg hc).symm.trans h
    refine g_aload_n X (pc := 4) 0 rfl rfl dX2_agrees_4 ?_
    obtain ⟨v4, ev4, h⟩ := bd h
    refine g_getI X (pc := 5) fk_2_5 rfl rfl ev4 tb_750 dX2_agrees_5 ?_
    refine g_if_lt X (pc := 8) (tgt := 19) dX2_agrees_8 (by decide) (fun hc => ?_) (fun hc => ?_)
    · have h := (if_pos hc).symm.trans h
      refine g_iconst X (pc := 19) (v := 1) dX2_agrees_19 (by decide) ?_
      refine g_goto X (pc := 20) (tgt := 24) dX2_agrees_20 (by decide) ?_
      obtain ⟨hz, rfl⟩ := rN_some h
      exact g_nreturn X rfl hz hE dX2_agrees_24
    · have h := (if_neg hc).symm.trans h
      refine g_iload_n X (pc := 11) 1 rfl rfl dX2_agrees_11 ?_
      refine g_aload_n X (pc := 12) 0 rfl rfl dX2_agrees_12 ?_
      obtain ⟨v5, ev5, h⟩ := bd h
      refine g_getI X (pc := 13) fk_2_5 rfl rfl ev5 tb_750 dX2_agrees_13 ?_
      refine g_icmp_gt X (pc := 16) (tgt := 23) dX2_agrees_16 (by decide) (fun hc => ?_) (fun hc => ?_)
      · have h := (if_pos hc).symm.trans h
        refine g_iconst X (pc := 23) (v := 0) dX2_agrees_23 (by decide) ?_
        obtain ⟨hz, rfl⟩ := rN_some h
        exact g_nreturn X rfl hz hE dX2_agrees_24
      · have h := (if_neg hc).symm.trans h
        refine g_iconst X (pc := 19) (v := 1) dX2_agrees_19 (by decide) ?_
        refine g_goto X (pc := 20) (tgt := 24) dX2_agrees_20 (by decide) ?_
        obtain ⟨hz, rfl⟩ := rN_some h
        exact g_nreturn X rfl hz hE dX2_agrees_24
theorem hyX2_agrees : yX2_agrees.cls ≠ "java/lang/invoke/MethodHandle" ∧ yX2_agrees.cls ≠ "java/lang/invoke/VarHandle" ∧ (parseMethodDescriptor yX2_agrees.desc).map (fun d => d.parameters.length) = some 2 := ⟨by decide +kernel, by decide +kernel, by decide +kernel⟩
theorem ctX2_agrees (l : Launch) (E : Nat → Nat) (D : va_G) (dA : Nat → ClassId) (lo : Nat) (H0 : Heap) (fu : Nat) (a0 : Nat) (a1 : Int32) (a2 : Int32) (M : Mm) (out : Int32 × Mm) (h : fX2_agrees fu a0 a1 a2 M = some out) : Ct l E D dA lo H0 yX2_agrees cX2_agrees 3 (some .boolean) 0 0 [pR (some a0), pI a1, pI a2] M (some (pI out.1)) out.2 := by
  refine ct_of (by decide +kernel) (Nat.le_of_ble_eq_true rfl) ?_
  intro x hl he hd ha ho hh hn hin X hE
  exact wX2_agrees X hE hn fu a0 a1 a2 M h
/-! WebHost$Datagram.put([BIII)V -/
def fX2_put_L101 (fu : Nat)  (a0 : Nat) (a3 : Int32) (a4 : Int32)  (M : Mm) : Option (Mm) :=
    (gI M 2 135 (some a0)).bind fun v1 =>
    (pF M 2 135 (some a0) (jmax v1 (a3 + a4))).bind fun M2 =>
    some M2
def fX2_put_L95 (fu : Nat) (k3 : Nat → Option Nat → Int32 → Int32 → Int32 → Int32 → Mm → Option (Mm)) (a0 : Nat) (a1 : Option Nat) (a2 : Int32) (a3 : Int32) (a4 : Int32) (a5 : Int32)  (M : Mm) : Option (Mm) :=
    k3 a0 a1 a2 a3 a4 (a5 + (1 : Int32)) M
def fX2_put_L3 (fu : Nat)  : Nat → Nat → Option Nat → Int32 → Int32 → Int32 → Int32 → Mm → Option (Mm)
  | 0, _, _, _, _, _, _, _ => none
  | n + 1, a0, a1, a2, a3, a4, a5, M =>
    if a4 ≤ a5 then (
    fX2_put_L101 fu  a0 a3 a4 M)
    else (
    if (4096 : Int32) ≤ (a3 + a5) then (
    fX2_put_L101 fu  a0 a3 a4 M)
    else (
    (some ((1 : Int32) <<< (((a3 + a5) &&& (31 : Int32)) &&& 31))).bind fun v1 =>
    if (a3 + a5) < 0 then (
    fX2_put_L95 fu (fun b0 b1 b2 b3 b4 b5 M => fX2_put_L3 fu  n b0 b1 b2 b3 b4 b5 M) a0 a1 a2 a3 a4 a5 M)
    else (
    (gR M 2 136 (some a0)).bind fun v2 =>
    (gA M 101 v2 ((a3 + a5) >>> ((5 : Int32) &&& 31))).bind fun v3 =>
    if (v3 &&& v1) = 0 then (
    (gR M 2 136 (some a0)).bind fun v4 =>
    (gA M 101 v4 ((a3 + a5) >>> ((5 : Int32) &&& 31))).bind fun v5 =>
    (pA M 101 v4 ((a3 + a5) >>> ((5 : Int32) &&& 31)) (v5 ||| v1)).bind fun M6 =>
    (gR M6 2 128 (some a0)).bind fun v7 =>
    b2 (fX11_one fu  a1 (a2 + a5) M6) fun v9 M8 =>
    (pA M8 100 v7 (a3 + a5) (Int8.toInt32 (Int32.toInt8 (Int8.toInt32 (Int32.toInt8 v9))))).bind fun M10 =>
    (gI M10 2 134 (some a0)).bind fun v11 =>
    (pF M10 2 134 (some a0) (v11 + (1 : Int32))).bind fun M12 =>
    fX2_put_L95 fu (fun b0 b1 b2 b3 b4 b5 M => fX2_put_L3 fu  n b0 b1 b2 b3 b4 b5 M) a0 a1 a2 a3 a4 a5 M12)
    else (
    fX2_put_L95 fu (fun b0 b1 b2 b3 b4 b5 M => fX2_put_L3 fu  n b0 b1 b2 b3 b4 b5 M) a0 a1 a2 a3 a4 a5 M))))
def fX2_put (fu : Nat)  (a0 : Nat) (a1 : Option Nat) (a2 : Int32) (a3 : Int32) (a4 : Int32)  (M : Mm) : Option (Mm) :=
    fX2_put_L3 fu  fu a0 a1 a2 a3 a4 (0 : Int32) M
theorem dX2_put_0 : decode cX2_put 0 = .ok (.iconst 0, 1) := by decide +kernel
theorem dX2_put_1 : decode cX2_put 1 = .ok (.istore 5, 2) := by decide +kernel
theorem dX2_put_3 : decode cX2_put 3 = .ok (.iload 5, 2) := by decide +kernel
theorem dX2_put_5 : decode cX2_put 5 = .ok (.iload 4, 2) := by decide +kernel
theorem dX2_put_7 : decode cX2_put 7 = .ok (.if_icmp .ge 94, 3) := by decide +kernel
theorem dX2_put_10 : decode cX2_put 10 = .ok (.iload_n 3, 1) := by decide +kernel
theorem dX2_put_11 : decode cX2_put 11 = .ok (.iload 5, 2) := by decide +kernel
theorem dX2_put_13 : decode cX2_put 13 = .ok (.iadd, 1) := by decide +kernel
theorem dX2_put_14 : decode cX2_put 14 = .ok (.sipush 4096, 3) := by decide +kernel
theorem dX2_put_17 : decode cX2_put 17 = .ok (.if_icmp .ge 84, 3) := by decide +kernel
theorem dX2_put_20 : decode cX2_put 20 = .ok (.iload_n 3, 1) := by decide +kernel
theorem dX2_put_21 : decode cX2_put 21 = .ok (.iload 5, 2) := by decide +kernel
theorem dX2_put_23 : decode cX2_put 23 = .ok (.iadd, 1) := by decide +kernel
theorem dX2_put_24 : decode cX2_put 24 = .ok (.istore 6, 2) := by decide +kernel
theorem dX2_put_26 : decode cX2_put 26 = .ok (.iconst 1, 1) := by decide +kernel
theorem dX2_put_27 : decode cX2_put 27 = .ok (.iload 6, 2) := by decide +kernel
theorem dX2_put_29 : decode cX2_put 29 = .ok (.bipush 31, 2) := by decide +kernel
theorem dX2_put_31 : decode cX2_put 31 = .ok (.iand, 1) := by decide +kernel
theorem dX2_put_32 : decode cX2_put 32 = .ok (.ishl, 1) := by decide +kernel
theorem dX2_put_33 : decode cX2_put 33 = .ok (.istore 7, 2) := by decide +kernel
theorem dX2_put_35 : decode cX2_put 35 = .ok (.iload 6, 2) := by decide +kernel
theorem dX2_put_37 : decode cX2_put 37 = .ok (.ifCond .lt 58, 3) := by decide +kernel
theorem dX2_put_40 : decode cX2_put 40 = .ok (.aload_n 0, 1) := by decide +kernel
theorem dX2_put_41 : decode cX2_put 41 = .ok (.getfield 13, 3) := by decide +kernel
theorem dX2_put_44 : decode cX2_put 44 = .ok (.iload 6, 2) := by decide +kernel
theorem dX2_put_46 : decode cX2_put 46 = .ok (.iconst 5, 1) := by decide +kernel
theorem dX2_put_47 : decode cX2_put 47 = .ok (.ishr, 1) := by decide +kernel
theorem dX2_put_48 : decode cX2_put 48 = .ok (.iaload, 1) := by decide +kernel
theorem dX2_put_49 : decode cX2_put 49 = .ok (.iload 7, 2) := by decide +kernel
theorem dX2_put_51 : decode cX2_put 51 = .ok (.iand, 1) := by decide +kernel
theorem dX2_put_52 : decode cX2_put 52 = .ok (.ifCond .ne 43, 3) := by decide +kernel
theorem dX2_put_55 : decode cX2_put 55 = .ok (.aload_n 0, 1) := by decide +kernel
theorem dX2_put_56 : decode cX2_put 56 = .ok (.getfield 13, 3) := by decide +kernel
theorem dX2_put_59 : decode cX2_put 59 = .ok (.iload 6, 2) := by decide +kernel
theorem dX2_put_61 : decode cX2_put 61 = .ok (.iconst 5, 1) := by decide +kernel
theorem dX2_put_62 : decode cX2_put 62 = .ok (.ishr, 1) := by decide +kernel
theorem dX2_put_63 : decode cX2_put 63 = .ok (.dup2, 1) := by decide +kernel
theorem dX2_put_64 : decode cX2_put 64 = .ok (.iaload, 1) := by decide +kernel
theorem dX2_put_65 : decode cX2_put 65 = .ok (.iload 7, 2) := by decide +kernel
theorem dX2_put_67 : decode cX2_put 67 = .ok (.ior, 1) := by decide +kernel
theorem dX2_put_68 : decode cX2_put 68 = .ok (.iastore, 1) := by decide +kernel
theorem dX2_put_69 : decode cX2_put 69 = .ok (.aload_n 0, 1) := by decide +kernel
theorem dX2_put_70 : decode cX2_put 70 = .ok (.getfield 9, 3) := by decide +kernel
theorem dX2_put_73 : decode cX2_put 73 = .ok (.iload 6, 2) := by decide +kernel
theorem dX2_put_75 : decode cX2_put 75 = .ok (.aload_n 1, 1) := by decide +kernel
theorem dX2_put_76 : decode cX2_put 76 = .ok (.iload_n 2, 1) := by decide +kernel
theorem dX2_put_77 : decode cX2_put 77 = .ok (.iload 5, 2) := by decide +kernel
theorem dX2_put_79 : decode cX2_put 79 = .ok (.iadd, 1) := by decide +kernel
theorem dX2_put_80 : decode cX2_put 80 = .ok (.invokestatic 45, 3) := by decide +kernel
theorem dX2_put_83 : decode cX2_put 83 = .ok (.i2b, 1) := by decide +kernel
theorem dX2_put_84 : decode cX2_put 84 = .ok (.bastore, 1) := by decide +kernel
theorem dX2_put_85 : decode cX2_put 85 = .ok (.aload_n 0, 1) := by decide +kernel
theorem dX2_put_86 : decode cX2_put 86 = .ok (.dup, 1) := by decide +kernel
theorem dX2_put_87 : decode cX2_put 87 = .ok (.getfield 33, 3) := by decide +kernel
theorem dX2_put_90 : decode cX2_put 90 = .ok (.iconst 1, 1) := by decide +kernel
theorem dX2_put_91 : decode cX2_put 91 = .ok (.iadd, 1) := by decide +kernel
theorem dX2_put_92 : decode cX2_put 92 = .ok (.putfield 33, 3) := by decide +kernel
theorem dX2_put_95 : decode cX2_put 95 = .ok (.iinc 5 1, 3) := by decide +kernel
theorem dX2_put_98 : decode cX2_put 98 = .ok (.goto (-95), 3) := by decide +kernel
theorem dX2_put_101 : decode cX2_put 101 = .ok (.aload_n 0, 1) := by decide +kernel
theorem dX2_put_102 : decode cX2_put 102 = .ok (.aload_n 0, 1) := by decide +kernel
theorem dX2_put_103 : decode cX2_put 103 = .ok (.getfield 36, 3) := by decide +kernel
theorem dX2_put_106 : decode cX2_put 106 = .ok (.iload_n 3, 1) := by decide +kernel
theorem dX2_put_107 : decode cX2_put 107 = .ok (.iload 4, 2) := by decide +kernel
theorem dX2_put_109 : decode cX2_put 109 = .ok (.iadd, 1) := by decide +kernel
theorem dX2_put_110 : decode cX2_put 110 = .ok (.invokestatic 51, 3) := by decide +kernel
theorem dX2_put_113 : decode cX2_put 113 = .ok (.putfield 36, 3) := by decide +kernel
theorem dX2_put_116 : decode cX2_put 116 = .ok (.return_, 1) := by decide +kernel
theorem wX2_put_L101 {x : GX} {n0 sl0 : Nat} (X : Cx x cX2_put RX2 none n0 sl0 1 21) {out : Mm} (hE : Ends x n0 sl0 none out) (hn : xn x = 8) (fu : Nat)   (a0 : Nat) (a3 : Int32) (a4 : Int32)  (M : Mm) (h : fX2_put_L101 fu  a0 a3 a4 M = some out) : Gw x M 101 [(0, pR (some a0)), (3, pI a3), (4, pI a4)] [] := by
  unfold fX2_put_L101 at h
  refine g_aload_n X (pc := 101) 0 rfl rfl dX2_put_101 ?_
  refine g_aload_n X (pc := 102) 0 rfl rfl dX2_put_102 ?_
  obtain ⟨v1, ev1, h⟩ := bd h
  refine g_getI X (pc := 103) fk_2_7 rfl rfl ev1 tb_753 dX2_put_103 ?_
  refine g_iload_n X (pc := 106) 1 rfl rfl dX2_put_106 ?_
  refine g_iload X (pc := 107) 2 rfl dX2_put_107 ?_
  refine g_iadd X (pc := 109) dX2_put_109 ?_
  refine g_mmax X (pc := 110) tb_788 tb_405 tb_13 tb_406 ⟨by decide, Nat.le_of_ble_eq_true rfl⟩ dX2_put_110 ?_
  obtain ⟨M2, eM2, h⟩ := bd h
  refine g_putI X (pc := 113) fk_2_7 rfl rfl rfl eM2 tb_753 (Or.inl rfl) dX2_put_113 ?_
  obtain rfl := Option.some.inj h
  exact g_return X hE dX2_put_116
theorem wX2_put_L95 {x : GX} {n0 sl0 : Nat} (X : Cx x cX2_put RX2 none n0 sl0 1 21) {out : Mm} (hE : Ends x n0 sl0 none out) (hn : xn x = 8) (fu : Nat) (k3 : Nat → Option Nat → Int32 → Int32 → Int32 → Int32 → Mm → Option (Mm)) (hk3 : ∀ (b0 : Nat) (b1 : Option Nat) (b2 : Int32) (b3 : Int32) (b4 : Int32) (b5 : Int32)  (M : Mm), k3 b0 b1 b2 b3 b4 b5 M = some out → Gw x M 3 [(0, pR (some b0)), (1, pR b1), (2, pI b2), (3, pI b3), (4, pI b4), (5, pI b5)] []) (a0 : Nat) (a1 : Option Nat) (a2 : Int32) (a3 : Int32) (a4 : Int32) (a5 : Int32)  (M : Mm) (h : fX2_put_L95 fu k3 a0 a1 a2 a3 a4 a5 M = some out) : Gw x M 95 [(0, pR (some a0)), (1, pR a1), (2, pI a2), (3, pI a3), (4, pI a4), (5, pI a5)] [] := by
  unfold fX2_put_L95 at h
  refine g_iinc X (pc := 95) 5 [(5, pI (a5 + (1 : Int32))), (0, pR (some a0)), (1, pR a1), (2, pI a2), (3, pI a3), (4, pI a4)] rfl (iinc_e (by decide)) (lt_n hn (by decide)) rfl dX2_put_95 ?_
  refine g_goto X (pc := 98) (tgt := 3) dX2_put_98 (by decide) ?_
  refine g_sub [1, 2, 3, 4, 5, 0] [(0, pR (some a0)), (1, pR a1), (2, pI a2), (3, pI a3), (4, pI a4), (5, pI (a5 + (1 : Int32)))] rfl ?_
  exact hk3 a0 a1 a2 a3 a4 (a5 + (1 : Int32)) M h
theorem wX2_put_L3 {x : GX} {n0 sl0 : Nat} (X : Cx x cX2_put RX2 none n0 sl0 1 21) {out : Mm} (hE : Ends x n0 sl0 none out) (hn : xn x = 8) (fu : Nat)   : ∀ (n : Nat) (a0 : Nat) (a1 : Option Nat) (a2 : Int32) (a3 : Int32) (a4 : Int32) (a5 : Int32)  (M : Mm), fX2_put_L3 fu  n a0 a1 a2 a3 a4 a5 M = some out → Gw x M 3 [(0, pR (some a0)), (1, pR a1), (2, pI a2), (3, pI a3), (4, pI a4), (5, pI a5)] [] := by
  intro n
  induction n with
  | zero =>
    intro a0 a1 a2 a3 a4 a5 M h
    have h : (none : Option (Mm)) = some out := h
    cases h
  | succ n ih =>
    intro a0 a1 a2 a3 a4 a5 M h
    rw [fX2_put_L3] at h
    refine g_iload X (pc := 3) 5 rfl dX2_put_3 ?_
    refine g_iload X (pc := 5) 4 rfl dX2_put_5 ?_
    refine g_icmp_ge X (pc := 7) (tgt := 101) dX2_put_7 (by decide) (fun hc => ?_) (fun hc => ?_)
    · have h := (if_pos hc).symm.trans h
      refine g_sub [0, 3, 4] [(0, pR (some a0)), (3, pI a3), (4, pI a4)] rfl ?_
      exact wX2_put_L101 X hE hn fu   a0 a3 a4 M h
    · have h := (if_neg hc).symm.trans h
      refine g_iload_n X (pc := 10) 3 rfl rfl dX2_put_10 ?_
      refine g_iload X (pc := 11) 5 rfl dX2_put_11 ?_
      refine g_iadd X (pc := 13) dX2_put_13 ?_
      refine g_sipush X (pc := 14) (v := 4096) dX2_put_14 (by decide) ?_
      refine g_icmp_ge X (pc := 17) (tgt := 101) dX2_put_17 (by decide) (fun hc => ?_) (fun hc => ?_)
      · have h := (if_pos hc).symm.trans h
        refine g_sub [0, 3, 4] [(0, pR (some a0)), (3, pI a3), (4, pI a4)] rfl ?_
        exact wX2_put_L101 X hE hn fu   a0 a3 a4 M h
      · have h := (if_neg hc).symm.trans h
        refine g_iload_n X (pc := 20) 3 rfl rfl dX2_put_20 ?_
        refine g_iload X (pc := 21) 5 rfl dX2_put_21 ?_
        refine g_iadd X (pc := 23) dX2_put_23 ?_
        refine g_istore X (pc := 24) [(6, pI (a3 + a5)), (0, pR (some a0)), (1, pR a1), (2, pI a2), (3, pI a3), (4, pI a4), (5, pI a5)] (lt_n hn (by decide)) rfl dX2_put_24 ?_
        refine g_iconst X (pc := 26) (v := 1) dX2_put_26 (by decide) ?_
        refine g_iload X (pc := 27) 0 rfl dX2_put_27 ?_
        refine g_bipush X (pc := 29) (v := 31) dX2_put_29 (by decide) ?_
        refine g_iand X (pc := 31) dX2_put_31 ?_
        refine g_ishl X (pc := 32) dX2_put_32 ?_
        obtain ⟨v1, ev1, h⟩ := bd h
        refine g_nmI ev1 ?_
        refine g_istore X (pc := 33) [(7, pI v1), (6, pI (a3 + a5)), (0, pR (some a0)), (1, pR a1), (2, pI a2), (3, pI a3), (4, pI a4), (5, pI a5)] (lt_n hn (by decide)) rfl dX2_put_33 ?_
        refine g_iload X (pc := 35) 1 rfl dX2_put_35 ?_
        refine g_if_lt X (pc := 37) (tgt := 95) dX2_put_37 (by decide) (fun hc => ?_) (fun hc => ?_)
        · have h := (if_pos hc).symm.trans h
          refine g_sub [2, 3, 4, 5, 6, 7] [(0, pR (some a0)), (1, pR a1), (2, pI a2), (3, pI a3), (4, pI a4), (5, pI a5)] rfl ?_
          exact wX2_put_L95 X hE hn fu (fun b0 b1 b2 b3 b4 b5 M => fX2_put_L3 fu  n b0 b1 b2 b3 b4 b5 M) ih a0 a1 a2 a3 a4 a5 M h
        · have h := (if_neg hc).symm.trans h
          refine g_aload_n X (pc := 40) 2 rfl rfl dX2_put_40 ?_
          obtain ⟨v2, ev2, h⟩ := bd h
          refine g_getR X (pc := 41) fk_2_8 rfl rfl ev2 tb_754 dX2_put_41 ?_
          refine g_iload X (pc := 44) 1 rfl dX2_put_44 ?_
          refine g_iconst X (pc := 46) (v := 5) dX2_put_46 (by decide) ?_
          refine g_ishr X (pc := 47) dX2_put_47 ?_
          obtain ⟨v3, ev3, h⟩ := bd h
          refine g_iaload X (pc := 48) ev3 dX2_put_48 ?_
          refine g_iload X (pc := 49) 0 rfl dX2_put_49 ?_
          refine g_iand X (pc := 51) dX2_put_51 ?_
          refine g_if_ne X (pc := 52) (tgt := 95) dX2_put_52 (by decide) (fun hc => ?_) (fun hc => ?_)
          · have h := (if_neg hc).symm.trans h
            refine g_sub [2, 3, 4, 5, 6, 7] [(0, pR (some a0)), (1, pR a1), (2, pI a2), (3, pI a3), (4, pI a4), (5, pI a5)] rfl ?_
            exact wX2_put_L95 X hE hn fu (fun b0 b1 b2 b3 b4 b5 M => fX2_put_L3 fu  n b0 b1 b2 b3 b4 b5 M) ih a0 a1 a2 a3 a4 a5 M h
          · have h := (if_pos hc).symm.trans h
            refine g_aload_n X (pc := 55) 2 rfl rfl dX2_put_55 ?_
            obtain ⟨v4, ev4, h⟩ := bd h
            refine g_getR X (pc := 56) fk_2_8 rfl rfl ev4 tb_754 dX2_put_56 ?_
            refine g_iload X (pc := 59) 1 rfl dX2_put_59 ?_
            refine g_iconst X (pc := 61) (v := 5) dX2_put_61 (by decide) ?_
            refine g_ishr X (pc := 62) dX2_put_62 ?_
            refine g_dup2 X (pc := 63) rfl rfl dX2_put_63 ?_
            obtain ⟨v5, ev5, h⟩ := bd h
            refine g_iaload X (pc := 64) ev5 dX2_put_64 ?_
            refine g_iload X (pc := 65) 0 rfl dX2_put_65 ?_
            refine g_ior X (pc := 67) dX2_put_67 ?_
            obtain ⟨M6, eM6, h⟩ := bd h
            refine g_iastore X (pc := 68) eM6 dX2_put_68 ?_
            refine g_aload_n X (pc := 69) 2 rfl rfl dX2_put_69 ?_
            obtain ⟨v7, ev7, h⟩ := bd h
            refine g_getR X (pc := 70) fk_2_0 rfl rfl ev7 tb_743 dX2_put_70 ?_
            refine g_iload X (pc := 73) 1 rfl dX2_put_73 ?_
            refine g_aload_n X (pc := 75) 3 rfl rfl dX2_put_75 ?_
            refine g_iload_n X (pc := 76) 4 rfl rfl dX2_put_76 ?_
            refine g_iload X (pc := 77) 7 rfl dX2_put_77 ?_
            refine g_iadd X (pc := 79) dX2_put_79 ?_
            obtain ⟨v9, M8, eM8, h⟩ := b2d h
            refine g_callSN X (pc := 80) (M' := M8) (ro := some (pI v9)) (as := [pR a1, pI (a2 + a5)]) (as' := [pI (a2 + a5), pR a1]) (st := [pI (a3 + a5), pR v7]) (ctX11_one _ _ _ _ _ _ fu  a1 (a2 + a5) M6 _ eM8) tb_415 (List.mem_of_getElem? (i := 16) rfl) tb_414 tb_1 hyX11_one rfl rfl ⟨by decide, by decide⟩ (Nat.le_of_ble_eq_true rfl) dX2_put_80 ?_
            refine g_i2b X (pc := 83) dX2_put_83 ?_
            obtain ⟨M10, eM10, h⟩ := bd h
            refine g_bastore X (pc := 84) eM10 dX2_put_84 ?_
            refine g_aload_n X (pc := 85) 2 rfl rfl dX2_put_85 ?_
            refine g_dup X (pc := 86) rfl dX2_put_86 ?_
            obtain ⟨v11, ev11, h⟩ := bd h
            refine g_getI X (pc := 87) fk_2_6 rfl rfl ev11 tb_752 dX2_put_87 ?_
            refine g_iconst X (pc := 90) (v := 1) dX2_put_90 (by decide) ?_
            refine g_iadd X (pc := 91) dX2_put_91 ?_
            obtain ⟨M12, eM12, h⟩ := bd h
            refine g_putI X (pc := 92) fk_2_6 rfl rfl rfl eM12 tb_752 (Or.inl rfl) dX2_put_92 ?_
            refine g_sub [2, 3, 4, 5, 6, 7] [(0, pR (some a0)), (1, pR a1), (2, pI a2), (3, pI a3), (4, pI a4), (5, pI a5)] rfl ?_
            exact wX2_put_L95 X hE hn fu (fun b0 b1 b2 b3 b4 b5 M => fX2_put_L3 fu  n b0 b1 b2 b3 b4 b5 M) ih a0 a1 a2 a3 a4 a5 M12 h
theorem wX2_put {x : GX} {n0 sl0 : Nat} (X : Cx x cX2_put RX2 none n0 sl0 1 21) {out : Mm} (hE : Ends x n0 sl0 none out) (hn : xn x = 8) (fu : Nat)   (a0 : Nat) (a1 : Option Nat) (a2 : Int32) (a3 : Int32) (a4 : Int32)  (M : Mm) (h : fX2_put fu  a0 a1 a2 a3 a4 M = some out) : Gw x M 0 [(0, pR (some a0)), (1, pR a1), (2, pI a2), (3, pI a3), (4, pI a4)] [] := by
  unfold fX2_put at h
  refine g_iconst X (pc := 0) (v := 0) dX2_put_0 (by decide) ?_
  refine g_istore X (pc := 1) [(5, pI (0 : Int32)), (0, pR (some a0)), (1, pR a1), (2, pI a2), (3, pI a3), (4, pI a4)] (lt_n hn (by decide)) rfl dX2_put_1 ?_
  refine g_sub [1, 2, 3, 4, 5, 0] [(0, pR (some a0)), (1, pR a1), (2, pI a2), (3, pI a3), (4, pI a4), (5, pI (0 : Int32))] rfl ?_
  exact wX2_put_L3 X hE hn fu   fu a0 a1 a2 a3 a4 (0 : Int32) M h
theorem hyX2_put : yX2_put.cls ≠ "java/lang/invoke/MethodHandle" ∧ yX2_put.cls ≠ "java/lang/invoke/VarHandle" ∧ (parseMethodDescriptor yX2_put.desc).map (fun d => d.parameters.length) = some 4 := ⟨by decide +kernel, by decide +kernel, by decide +kernel⟩
theorem ctX2_put (l : Launch) (E : Nat → Nat) (D : va_G) (dA : Nat → ClassId) (lo : Nat) (H0 : Heap) (fu : Nat) (a0 : Nat) (a1 : Option Nat) (a2 : Int32) (a3 : Int32) (a4 : Int32) (M : Mm) (out : Mm) (h : fX2_put fu a0 a1 a2 a3 a4 M = some out) : Ct l E D dA lo H0 yX2_put cX2_put 8 none 1 21 [pR (some a0), pR a1, pI a2, pI a3, pI a4] M none out := by
  refine ct_of (by decide +kernel) (Nat.le_of_ble_eq_true rfl) ?_
  intro x hl he hd ha ho hh hn hin X hE
  exact wX2_put X hE hn fu a0 a1 a2 a3 a4 M h
/-! WebHost$Datagram.isWhole()Z -/
def fX2_isWhole (fu : Nat)  (a0 : Nat)  (M : Mm) : Option (Int32 × Mm) :=
    (gI M 2 133 (some a0)).bind fun v1 =>
    if v1 < 0 then (
    rN .boolean (0 : Int32) M)
    else (
    (gI M 2 134 (some a0)).bind fun v2 =>
    (gI M 2 133 (some a0)).bind fun v3 =>
    if v2 = v3 then (
    rN .boolean (1 : Int32) M)
    else (
    rN .boolean (0 : Int32) M))
theorem dX2_isWhole_0 : decode cX2_isWhole 0 = .ok (.aload_n 0, 1) := by decide +kernel
theorem dX2_isWhole_1 : decode cX2_isWhole 1 = .ok (.getfield 30, 3) := by decide +kernel
theorem dX2_isWhole_4 : decode cX2_isWhole 4 = .ok (.ifCond .lt 18, 3) := by decide +kernel
theorem dX2_isWhole_7 : decode cX2_isWhole 7 = .ok (.aload_n 0, 1) := by decide +kernel
theorem dX2_isWhole_8 : decode cX2_isWhole 8 = .ok (.getfield 33, 3) := by decide +kernel
theorem dX2_isWhole_11 : decode cX2_isWhole 11 = .ok (.aload_n 0, 1) := by decide +kernel
theorem dX2_isWhole_12 : decode cX2_isWhole 12 = .ok (.getfield 30, 3) := by decide +kernel
theorem dX2_isWhole_15 : decode cX2_isWhole 15 = .ok (.if_icmp .ne 7, 3) := by decide +kernel
theorem dX2_isWhole_18 : decode cX2_isWhole 18 = .ok (.iconst 1, 1) := by decide +kernel
theorem dX2_isWhole_19 : decode cX2_isWhole 19 = .ok (.goto 4, 3) := by decide +kernel
theorem dX2_isWhole_22 : decode cX2_isWhole 22 = .ok (.iconst 0, 1) := by decide +kernel
theorem dX2_isWhole_23 : decode cX2_isWhole 23 = .ok (.ireturn, 1) := by decide +kernel
theorem wX2_isWhole {x : GX} {n0 sl0 : Nat} (X : Cx x cX2_isWhole RX2 (some .boolean) n0 sl0 0 0) {out : Int32 × Mm} (hE : Ends x n0 sl0 (some (pI out.1)) out.2) (hn : xn x = 1) (fu : Nat)   (a0 : Nat)  (M : Mm) (h : fX2_isWhole fu  a0 M = some out) : Gw x M 0 [(0, pR (some a0))] [] := by
  unfold fX2_isWhole at h
  refine g_aload_n X (pc := 0) 0 rfl rfl dX2_isWhole_0 ?_
  obtain ⟨v1, ev1, h⟩ := bd h
  refine g_getI X (pc := 1) fk_2_5 rfl rfl ev1 tb_750 dX2_isWhole_1 ?_
  refine g_if_lt X (pc := 4) (tgt := 22) dX2_isWhole_4 (by decide) (fun hc => ?_) (fun hc => ?_)
  · have h := (if_pos hc).symm.trans h
    refine g_iconst X (pc := 22) (v := 0) dX2_isWhole_22 (by decide) ?_
    obtain ⟨hz, rfl⟩ := rN_some h
    exact g_nreturn X rfl hz hE dX2_isWhole_23
  · have h := (if_neg hc).symm.trans h
    refine g_aload_n X (pc := 7) 0 rfl rfl dX2_isWhole_7 ?_
    obtain ⟨v2, ev2, h⟩ := bd h
    refine g_getI X (pc := 8) fk_2_6 rfl rfl ev2 tb_752 dX2_isWhole_8 ?_
    refine g_aload_n X (pc := 11) 0 rfl rfl dX2_isWhole_11 ?_
    obtain ⟨v3, ev3, h⟩ := bd h
    refine g_getI X (pc := 12) fk_2_5 rfl rfl ev3 tb_750 dX2_isWhole_12 ?_
    refine g_icmp_ne X (pc := 15) (tgt := 22) dX2_isWhole_15 (by decide) (fun hc => ?_) (fun hc => ?_)
    · have h := (if_neg hc).symm.trans h
      refine g_iconst X (pc := 22) (v := 0) dX2_isWhole_22 (by decide) ?_
      obtain ⟨hz, rfl⟩ := rN_some h
      exact g_nreturn X rfl hz hE dX2_isWhole_23
    · have h := (if_pos hc).symm.trans h
      refine g_iconst X (pc := 18) (v := 1) dX2_isWhole_18 (by decide) ?_
      refine g_goto X (pc := 19) (tgt := 23) dX2_isWhole_19 (by decide) ?_
      obtain ⟨hz, rfl⟩ := rN_some h
      exact g_nreturn X rfl hz hE dX2_isWhole_23
theorem hyX2_isWhole : yX2_isWhole.cls ≠ "java/lang/invoke/MethodHandle" ∧ yX2_isWhole.cls ≠ "java/lang/invoke/VarHandle" ∧ (parseMethodDescriptor yX2_isWhole.desc).map (fun d => d.parameters.length) = some 0 := ⟨by decide +kernel, by decide +kernel, by decide +kernel⟩
theorem ctX2_isWhole (l : Launch) (E : Nat → Nat) (D : va_G) (dA : Nat → ClassId) (lo : Nat) (H0 : Heap) (fu : Nat) (a0 : Nat) (M : Mm) (out : Int32 × Mm) (h : fX2_isWhole fu a0 M = some out) : Ct l E D dA lo H0 yX2_isWhole cX2_isWhole 1 (some .boolean) 0 0 [pR (some a0)] M (some (pI out.1)) out.2 := by
  refine ct_of (by decide +kernel) (Nat.le_of_ble_eq_true rfl) ?_
  intro x hl he hd ha ho hh hn hin X hE
  exact wX2_isWhole X hE hn fu a0 M h
/-! WebHost$Intake.<init>(LWebHost$Wire;LWebHost$Link;)V -/
def fX3_init (fu : Nat)  (a0 : Nat) (a1 : Option Nat) (a2 : Option Nat)  (M : Mm) : Option (Mm) :=
    (pG M 3 205 (some a0) a1).bind fun M1 =>
    (pG M1 3 206 (some a0) a2).bind fun M2 =>
    b2 (mkA M2 100 (0 : Int32)) fun v3 M4 =>
    (pG M4 3 192 (some a0) (some v3)).bind fun M5 =>
    b2 (mkA M5 112 (4 : Int32)) fun v6 M7 =>
    (pG M7 3 207 (some a0) (some v6)).bind fun M8 =>
    some M8
theorem dX3_init_0 : decode cX3_init 0 = .ok (.aload_n 0, 1) := by decide +kernel
theorem dX3_init_1 : decode cX3_init 1 = .ok (.invokespecial 3, 3) := by decide +kernel
theorem dX3_init_4 : decode cX3_init 4 = .ok (.aload_n 0, 1) := by decide +kernel
theorem dX3_init_5 : decode cX3_init 5 = .ok (.aload_n 1, 1) := by decide +kernel
theorem dX3_init_6 : decode cX3_init 6 = .ok (.putfield 9, 3) := by decide +kernel
theorem dX3_init_9 : decode cX3_init 9 = .ok (.aload_n 0, 1) := by decide +kernel
theorem dX3_init_10 : decode cX3_init 10 = .ok (.aload_n 2, 1) := by decide +kernel
theorem dX3_init_11 : decode cX3_init 11 = .ok (.putfield 15, 3) := by decide +kernel
theorem dX3_init_14 : decode cX3_init 14 = .ok (.aload_n 0, 1) := by decide +kernel
theorem dX3_init_15 : decode cX3_init 15 = .ok (.iconst 0, 1) := by decide +kernel
theorem dX3_init_16 : decode cX3_init 16 = .ok (.newarray .byte, 2) := by decide +kernel
theorem dX3_init_18 : decode cX3_init 18 = .ok (.putfield 19, 3) := by decide +kernel
theorem dX3_init_21 : decode cX3_init 21 = .ok (.aload_n 0, 1) := by decide +kernel
theorem dX3_init_22 : decode cX3_init 22 = .ok (.iconst 4, 1) := by decide +kernel
theorem dX3_init_23 : decode cX3_init 23 = .ok (.anewarray 23, 3) := by decide +kernel
theorem dX3_init_26 : decode cX3_init 26 = .ok (.putfield 25, 3) := by decide +kernel
theorem dX3_init_29 : decode cX3_init 29 = .ok (.return_, 1) := by decide +kernel
theorem wX3_init {x : GX} {n0 sl0 : Nat} (X : Cx x cX3_init RX3 none n0 sl0 1 12) {out : Mm} (hE : Ends x n0 sl0 none out) (hn : xn x = 3) (hin : (xt x).name = "<init>") (fu : Nat)   (a0 : Nat) (a1 : Option Nat) (a2 : Option Nat)  (M : Mm) (h : fX3_init fu  a0 a1 a2 M = some out) : Gw x M 0 [(0, pR (some a0)), (1, pR a1), (2, pR a2)] [] := by
  unfold fX3_init at h
  refine g_aload_n X (pc := 0) 0 rfl rfl dX3_init_0 ?_
  refine g_objInit X (pc := 1) (o := (some a0)) ⟨_, rfl⟩ tb_155 tb_32 tb_33 ⟨by decide, Nat.le_of_ble_eq_true rfl⟩ dX3_init_1 ?_
  refine g_aload_n X (pc := 4) 0 rfl rfl dX3_init_4 ?_
  refine g_aload_n X (pc := 5) 1 rfl rfl dX3_init_5 ?_
  obtain ⟨M1, eM1, h⟩ := bd h
  refine g_putG X (pc := 6) fk_3_13 rfl rfl rfl eM1 tb_187 (Or.inr ⟨rfl, hin, rfl⟩) dX3_init_6 ?_
  refine g_aload_n X (pc := 9) 0 rfl rfl dX3_init_9 ?_
  refine g_aload_n X (pc := 10) 2 rfl rfl dX3_init_10 ?_
  obtain ⟨M2, eM2, h⟩ := bd h
  refine g_putG X (pc := 11) fk_3_14 rfl rfl rfl eM2 tb_188 (Or.inr ⟨rfl, hin, rfl⟩) dX3_init_11 ?_
  refine g_aload_n X (pc := 14) 0 rfl rfl dX3_init_14 ?_
  refine g_iconst X (pc := 15) (v := 0) dX3_init_15 (by decide) ?_
  obtain ⟨v3, M4, eM4, h⟩ := b2d h
  refine g_newarray X (pc := 16) (at9 := .byte) (k := 0) rfl (by decide) rfl (by decide) (fun _ _ q => q) tb_53 eM4 dX3_init_16 ?_
  obtain ⟨M5, eM5, h⟩ := bd h
  refine g_putG X (pc := 18) fk_3_0 rfl rfl rfl eM5 tb_158 (Or.inl rfl) dX3_init_18 ?_
  refine g_aload_n X (pc := 21) 0 rfl rfl dX3_init_21 ?_
  refine g_iconst X (pc := 22) (v := 4) dX3_init_22 (by decide) ?_
  obtain ⟨v6, M7, eM7, h⟩ := b2d h
  refine g_anewarray X (pc := 23) (k := 4) rfl (by decide) (by decide) tb_156 eM7 dX3_init_23 ?_
  obtain ⟨M8, eM8, h⟩ := bd h
  refine g_putG X (pc := 26) fk_3_15 rfl rfl rfl eM8 tb_189 (Or.inr ⟨rfl, hin, rfl⟩) dX3_init_26 ?_
  obtain rfl := Option.some.inj h
  exact g_return X hE dX3_init_29
theorem hyX3_init : yX3_init.cls ≠ "java/lang/invoke/MethodHandle" ∧ yX3_init.cls ≠ "java/lang/invoke/VarHandle" ∧ (parseMethodDescriptor yX3_init.desc).map (fun d => d.parameters.length) = some 2 := ⟨by decide +kernel, by decide +kernel, by decide +kernel⟩
theorem ctX3_init (l : Launch) (E : Nat → Nat) (D : va_G) (dA : Nat → ClassId) (lo : Nat) (H0 : Heap) (fu : Nat) (a0 : Nat) (a1 : Option Nat) (a2 : Option Nat) (M : Mm) (out : Mm) (h : fX3_init fu a0 a1 a2 M = some out) : Ct l E D dA lo H0 yX3_init cX3_init 3 none 1 12 [pR (some a0), pR a1, pR a2] M none out := by
  refine ct_of (by decide +kernel) (Nat.le_of_ble_eq_true rfl) ?_
  intro x hl he hd ha ho hh hn hin X hE
  exact wX3_init X hE hn hin fu a0 a1 a2 M h
/-! WebHost$Intake.restart()V -/
def fX3_restart (fu : Nat)  (a0 : Nat)  (M : Mm) : Option (Mm) :=
    (pF M 3 208 (some a0) (0 : Int32)).bind fun M1 =>
    some M1
theorem dX3_restart_0 : decode cX3_restart 0 = .ok (.aload_n 0, 1) := by decide +kernel
theorem dX3_restart_1 : decode cX3_restart 1 = .ok (.iconst 0, 1) := by decide +kernel
theorem dX3_restart_2 : decode cX3_restart 2 = .ok (.putfield 29, 3) := by decide +kernel
theorem dX3_restart_5 : decode cX3_restart 5 = .ok (.return_, 1) := by decide +kernel
theorem wX3_restart {x : GX} {n0 sl0 : Nat} (X : Cx x cX3_restart RX3 none n0 sl0 0 0) {out : Mm} (hE : Ends x n0 sl0 none out) (hn : xn x = 1) (fu : Nat)   (a0 : Nat)  (M : Mm) (h : fX3_restart fu  a0 M = some out) : Gw x M 0 [(0, pR (some a0))] [] := by
  unfold fX3_restart at h
  refine g_aload_n X (pc := 0) 0 rfl rfl dX3_restart_0 ?_
  refine g_iconst X (pc := 1) (v := 0) dX3_restart_1 (by decide) ?_
  obtain ⟨M1, eM1, h⟩ := bd h
  refine g_putI X (pc := 2) fk_3_16 rfl rfl rfl eM1 tb_190 (Or.inl rfl) dX3_restart_2 ?_
  obtain rfl := Option.some.inj h
  exact g_return X hE dX3_restart_5
theorem hyX3_restart : yX3_restart.cls ≠ "java/lang/invoke/MethodHandle" ∧ yX3_restart.cls ≠ "java/lang/invoke/VarHandle" ∧ (parseMethodDescriptor yX3_restart.desc).map (fun d => d.parameters.length) = some 0 := ⟨by decide +kernel, by decide +kernel, by decide +kernel⟩
theorem ctX3_restart (l : Launch) (E : Nat → Nat) (D : va_G) (dA : Nat → ClassId) (lo : Nat) (H0 : Heap) (fu : Nat) (a0 : Nat) (M : Mm) (out : Mm) (h : fX3_restart fu a0 M = some out) : Ct l E D dA lo H0 yX3_restart cX3_restart 1 none 0 0 [pR (some a0)] M none out := by
  refine ct_of (by decide +kernel) (Nat.le_of_ble_eq_true rfl) ?_
  intro x hl he hd ha ho hh hn hin X hE
  exact wX3_restart X hE hn fu a0 M h
/-! WebHost.four([BI)I -/
def fX11_four (fu : Nat)  (a0 : Option Nat) (a1 : Int32)  (M : Mm) : Option (Int32 × Mm) :=
    if a1 < 0 then (
    some ((0 : Int32), M))
    else (
    (aL M 100 a0).bind fun v1 =>
    if a1 ≤ (v1 - (4 : Int32)) then (
    (gA M 100 a0 a1).bind fun v2 =>
    (gA M 100 a0 (a1 + (1 : Int32))).bind fun v3 =>
    (gA M 100 a0 (a1 + (2 : Int32))).bind fun v4 =>
    (gA M 100 a0 (a1 + (3 : Int32))).bind fun v5 =>
    some (((((v2 <<< ((24 : Int32) &&& 31)) ||| ((v3 &&& (255 : Int32)) <<< ((16 : Int32) &&& 31))) ||| ((v4 &&& (255 : Int32)) <<< ((8 : Int32) &&& 31))) ||| (v5 &&& (255 : Int32))), M))
    else (
    some ((0 : Int32), M)))
theorem dX11_four_0 : decode cX11_four 0 = .ok (.iload_n 1, 1) := by decide +kernel
theorem dX11_four_1 : decode cX11_four 1 = .ok (.ifCond .lt 11, 3) := by decide +kernel
theorem dX11_four_4 : decode cX11_four 4 = .ok (.iload_n 1, 1) := by decide +kernel
theorem dX11_four_5 : decode cX11_four 5 = .ok (.aload_n 0, 1) := by decide +kernel
theorem dX11_four_6 : decode cX11_four 6 = .ok (.arraylength, 1) := by decide +kernel
theorem dX11_four_7 : decode cX11_four 7 = .ok (.iconst 4, 1) := by decide +kernel
theorem dX11_four_8 : decode cX11_four 8 = .ok (.isub, 1) := by decide +kernel
theorem dX11_four_9 : decode cX11_four 9 = .ok (.if_icmp .le 5, 3) := by decide +kernel
theorem dX11_four_12 : decode cX11_four 12 = .ok (.iconst 0, 1) := by decide +kernel
theorem dX11_four_13 : decode cX11_four 13 = .ok (.ireturn, 1) := by decide +kernel
theorem dX11_four_14 : decode cX11_four 14 = .ok (.aload_n 0, 1) := by decide +kernel
theorem dX11_four_15 : decode cX11_four 15 = .ok (.iload_n 1, 1) := by decide +kernel
theorem dX11_four_16 : decode cX11_four 16 = .ok (.baload, 1) := by decide +kernel
theorem dX11_four_17 : decode cX11_four 17 = .ok (.bipush 24, 2) := by decide +kernel
theorem dX11_four_19 : decode cX11_four 19 = .ok (.ishl, 1) := by decide +kernel
theorem dX11_four_20 : decode cX11_four 20 = .ok (.aload_n 0, 1) := by decide +kernel
theorem dX11_four_21 : decode cX11_four 21 = .ok (.iload_n 1, 1) := by decide +kernel
theorem dX11_four_22 : decode cX11_four 22 = .ok (.iconst 1, 1) := by decide +kernel
theorem dX11_four_23 : decode cX11_four 23 = .ok (.iadd, 1) := by decide +kernel
theorem dX11_four_24 : decode cX11_four 24 = .ok (.baload, 1) := by decide +kernel
theorem dX11_four_25 : decode cX11_four 25 = .ok (.sipush 255, 3) := by decide +kernel
theorem dX11_four_28 : decode cX11_four 28 = .ok (.iand, 1) := by decide +kernel
theorem dX11_four_29 : decode cX11_four 29 = .ok (.bipush 16, 2) := by decide +kernel
theorem dX11_four_31 : decode cX11_four 31 = .ok (.ishl, 1) := by decide +kernel
theorem dX11_four_32 : decode cX11_four 32 = .ok (.ior, 1) := by decide +kernel
theorem dX11_four_33 : decode cX11_four 33 = .ok (.aload_n 0, 1) := by decide +kernel
theorem dX11_four_34 : decode cX11_four 34 = .ok (.iload_n 1, 1) := by decide +kernel
theorem dX11_four_35 : decode cX11_four 35 = .ok (.iconst 2, 1) := by decide +kernel
theorem dX11_four_36 : decode cX11_four 36 = .ok (.iadd, 1) := by decide +kernel
theorem dX11_four_37 : decode cX11_four 37 = .ok (.baload, 1) := by decide +kernel
theorem dX11_four_38 : decode cX11_four 38 = .ok (.sipush 255, 3) := by decide +kernel
theorem dX11_four_41 : decode cX11_four 41 = .ok (.iand, 1) := by decide +kernel
theorem dX11_four_42 : decode cX11_four 42 = .ok (.bipush 8, 2) := by decide +kernel
theorem dX11_four_44 : decode cX11_four 44 = .ok (.ishl, 1) := by decide +kernel
theorem dX11_four_45 : decode cX11_four 45 = .ok (.ior, 1) := by decide +kernel
theorem dX11_four_46 : decode cX11_four 46 = .ok (.aload_n 0, 1) := by decide +kernel
theorem dX11_four_47 : decode cX11_four 47 = .ok (.iload_n 1, 1) := by decide +kernel
theorem dX11_four_48 : decode cX11_four 48 = .ok (.iconst 3, 1) := by decide +kernel
theorem dX11_four_49 : decode cX11_four 49 = .ok (.iadd, 1) := by decide +kernel
theorem dX11_four_50 : decode cX11_four 50 = .ok (.baload, 1) := by decide +kernel
theorem dX11_four_51 : decode cX11_four 51 = .ok (.sipush 255, 3) := by decide +kernel
theorem dX11_four_54 : decode cX11_four 54 = .ok (.iand, 1) := by decide +kernel
theorem dX11_four_55 : decode cX11_four 55 = .ok (.ior, 1) := by decide +kernel
theorem dX11_four_56 : decode cX11_four 56 = .ok (.ireturn, 1) := by decide +kernel
theorem wX11_four {x : GX} {n0 sl0 : Nat} (X : Cx x cX11_four RX11 (some .int) n0 sl0 0 0) {out : Int32 × Mm} (hE : Ends x n0 sl0 (some (pI out.1)) out.2) (hn : xn x = 2) (fu : Nat)   (a0 : Option Nat) (a1 : Int32)  (M : Mm) (h : fX11_four fu  a0 a1 M = some out) : Gw x M 0 [(0, pR a0), (1, pI a1)] [] := by
  unfold fX11_four at h
  refine g_iload_n X (pc := 0) 1 rfl rfl dX11_four_0 ?_
  refine g_if_lt X (pc := 1) (tgt := 12) dX11_four_1 (by decide) (fun hc => ?_) (fun hc => ?_)
  · have h := (if_pos hc).symm.trans h
    refine g_iconst X (pc := 12) (v := 0) dX11_four_12 (by decide) ?_
    obtain rfl := Option.some.inj h
    exact g_ireturn X hE dX11_four_13
  · have h := (if_neg hc).symm.trans h
    refine g_iload_n X (pc := 4) 1 rfl rfl dX11_four_4 ?_
    refine g_aload_n X (pc := 5) 0 rfl rfl dX11_four_5 ?_
    obtain ⟨v1, ev1, h⟩ := bd h
    refine g_alen X (pc := 6) (k := 0) rfl (by decide) ev1 dX11_four_6 ?_
    refine g_iconst X (pc := 7) (v := 4) dX11_four_7 (by decide) ?_
    refine g_isub X (pc := 8) dX11_four_8 ?_
    refine g_icmp_le X (pc := 9) (tgt := 14) dX11_four_9 (by decide) (fun hc => ?_) (fun hc => ?_)
    · have h := (if_pos hc).symm.trans h
      refine g_aload_n X (pc := 14) 0 rfl rfl dX11_four_14 ?_
      refine g_iload_n X (pc := 15) 1 rfl rfl dX11_four_15 ?_
      obtain ⟨v2, ev2, h⟩ := bd h
      refine g_baload X (pc := 16) ev2 dX11_four_16 ?_
      refine g_bipush X (pc := 17) (v := 24) dX11_four_17 (by decide) ?_
      refine g_ishl X (pc := 19) dX11_four_19 ?_
      refine g_aload_n X (pc := 20) 0 rfl rfl dX11_four_20 ?_
      refine g_iload_n X (pc := 21) 1 rfl rfl dX11_four_21 ?_
      refine g_iconst X (pc := 22) (v := 1) dX11_four_22 (by decide) ?_
      refine g_iadd X (pc := 23) dX11_four_23 ?_
      obtain ⟨v3, ev3, h⟩ := bd h
      refine g_baload X (pc := 24) ev3 dX11_four_24 ?_
      refine g_sipush X (pc := 25) (v := 255) dX11_four_25 (by decide) ?_
      refine g_iand X (pc := 28) dX11_four_28 ?_
      refine g_bipush X (pc := 29) (v := 16) dX11_four_29 (by decide) ?_
      refine g_ishl X (pc := 31) dX11_four_31 ?_
      refine g_ior X (pc := 32) dX11_four_32 ?_
      refine g_aload_n X (pc := 33) 0 rfl rfl dX11_four_33 ?_
      refine g_iload_n X (pc := 34) 1 rfl rfl dX11_four_34 ?_
      refine g_iconst X (pc := 35) (v := 2) dX11_four_35 (by decide) ?_
      refine g_iadd X (pc := 36) dX11_four_36 ?_
      obtain ⟨v4, ev4, h⟩ := bd h
      refine g_baload X (pc := 37) ev4 dX11_four_37 ?_
      refine g_sipush X (pc := 38) (v := 255) dX11_four_38 (by decide) ?_
      refine g_iand X (pc := 41) dX11_four_41 ?_
      refine g_bipush X (pc := 42) (v := 8) dX11_four_42 (by decide) ?_
      refine g_ishl X (pc := 44) dX11_four_44 ?_
      refine g_ior X (pc := 45) dX11_four_45 ?_
      refine g_aload_n X (pc := 46) 0 rfl rfl dX11_four_46 ?_
      refine g_iload_n X (pc := 47) 1 rfl rfl dX11_four_47 ?_
      refine g_iconst X (pc := 48) (v := 3) dX11_four_48 (by decide) ?_
      refine g_iadd X (pc := 49) dX11_four_49 ?_
      obtain ⟨v5, ev5, h⟩ := bd h
      refine g_baload X (pc := 50) ev5 dX11_four_50 ?_
      refine g_sipush X (pc := 51) (v := 255) dX11_four_51 (by decide) ?_
      refine g_iand X (pc := 54) dX11_four_54 ?_
      refine g_ior X (pc := 55) dX11_four_55 ?_
      obtain rfl := Option.some.inj h
      exact g_ireturn X hE dX11_four_56
    · have h := (if_neg hc).symm.trans h
      refine g_iconst X (pc := 12) (v := 0) dX11_four_12 (by decide) ?_
      obtain rfl := Option.some.inj h
      exact g_ireturn X hE dX11_four_13
theorem hyX11_four : yX11_four.cls ≠ "java/lang/invoke/MethodHandle" ∧ yX11_four.cls ≠ "java/lang/invoke/VarHandle" ∧ (parseMethodDescriptor yX11_four.desc).map (fun d => d.parameters.length) = some 2 := ⟨by decide +kernel, by decide +kernel, by decide +kernel⟩
theorem ctX11_four (l : Launch) (E : Nat → Nat) (D : va_G) (dA : Nat → ClassId) (lo : Nat) (H0 : Heap) (fu : Nat) (a0 : Option Nat) (a1 : Int32) (M : Mm) (out : Int32 × Mm) (h : fX11_four fu a0 a1 M = some out) : Ct l E D dA lo H0 yX11_four cX11_four 2 (some .int) 0 0 [pR a0, pI a1] M (some (pI out.1)) out.2 := by
  refine ct_of (by decide +kernel) (Nat.le_of_ble_eq_true rfl) ?_
  intro x hl he hd ha ho hh hn hin X hE
  exact wX11_four X hE hn fu a0 a1 M h
/-! WebHost$Intake.isForUs([B)Z -/
def fX3_isForUs_L34 (fu : Nat)  (a2 : Int32) (a3 : Int32)  (M : Mm) : Option (Int32 × Mm) :=
    if a2 = (65535 : Int32) then (
    if a3 = (-1 : Int32) then (
    rN .boolean (1 : Int32) M)
    else (
    rN .boolean (0 : Int32) M))
    else (
    rN .boolean (0 : Int32) M)
def fX3_isForUs (fu : Nat)  (a0 : Nat) (a1 : Option Nat)  (M : Mm) : Option (Int32 × Mm) :=
    b2 (fX11_two fu  a1 (0 : Int32) M) fun v2 M1 =>
    b2 (fX11_four fu  a1 (2 : Int32) M1) fun v4 M3 =>
    (gR M3 3 206 (some a0)).bind fun v5 =>
    (gI M3 4 258 v5).bind fun v6 =>
    if v2 = v6 then (
    (gR M3 3 206 (some a0)).bind fun v7 =>
    (gI M3 4 259 v7).bind fun v8 =>
    if v4 = v8 then (
    rN .boolean (1 : Int32) M3)
    else (
    fX3_isForUs_L34 fu  v2 v4 M3))
    else (
    fX3_isForUs_L34 fu  v2 v4 M3)
theorem dX3_isForUs_0 : decode cX3_isForUs 0 = .ok (.aload_n 1, 1) := by decide +kernel
theorem dX3_isForUs_1 : decode cX3_isForUs 1 = .ok (.iconst 0, 1) := by decide +kernel
theorem dX3_isForUs_2 : decode cX3_isForUs 2 = .ok (.invokestatic 37, 3) := by decide +kernel
theorem dX3_isForUs_5 : decode cX3_isForUs 5 = .ok (.istore_n 2, 1) := by decide +kernel
theorem dX3_isForUs_6 : decode cX3_isForUs 6 = .ok (.aload_n 1, 1) := by decide +kernel
theorem dX3_isForUs_7 : decode cX3_isForUs 7 = .ok (.iconst 2, 1) := by decide +kernel
theorem dX3_isForUs_8 : decode cX3_isForUs 8 = .ok (.invokestatic 48, 3) := by decide +kernel
theorem dX3_isForUs_11 : decode cX3_isForUs 11 = .ok (.istore_n 3, 1) := by decide +kernel
theorem dX3_isForUs_12 : decode cX3_isForUs 12 = .ok (.iload_n 2, 1) := by decide +kernel
theorem dX3_isForUs_13 : decode cX3_isForUs 13 = .ok (.aload_n 0, 1) := by decide +kernel
theorem dX3_isForUs_14 : decode cX3_isForUs 14 = .ok (.getfield 15, 3) := by decide +kernel
theorem dX3_isForUs_17 : decode cX3_isForUs 17 = .ok (.getfield 51, 3) := by decide +kernel
theorem dX3_isForUs_20 : decode cX3_isForUs 20 = .ok (.if_icmp .ne 14, 3) := by decide +kernel
theorem dX3_isForUs_23 : decode cX3_isForUs 23 = .ok (.iload_n 3, 1) := by decide +kernel
theorem dX3_isForUs_24 : decode cX3_isForUs 24 = .ok (.aload_n 0, 1) := by decide +kernel
theorem dX3_isForUs_25 : decode cX3_isForUs 25 = .ok (.getfield 15, 3) := by decide +kernel
theorem dX3_isForUs_28 : decode cX3_isForUs 28 = .ok (.getfield 56, 3) := by decide +kernel
theorem dX3_isForUs_31 : decode cX3_isForUs 31 = .ok (.if_icmp .eq 14, 3) := by decide +kernel
theorem dX3_isForUs_34 : decode cX3_isForUs 34 = .ok (.iload_n 2, 1) := by decide +kernel
theorem dX3_isForUs_35 : decode cX3_isForUs 35 = .ok (.ldc 59, 2) := by decide +kernel
theorem dX3_isForUs_37 : decode cX3_isForUs 37 = .ok (.if_icmp .ne 12, 3) := by decide +kernel
theorem dX3_isForUs_40 : decode cX3_isForUs 40 = .ok (.iload_n 3, 1) := by decide +kernel
theorem dX3_isForUs_41 : decode cX3_isForUs 41 = .ok (.iconst (-1), 1) := by decide +kernel
theorem dX3_isForUs_42 : decode cX3_isForUs 42 = .ok (.if_icmp .ne 7, 3) := by decide +kernel
theorem dX3_isForUs_45 : decode cX3_isForUs 45 = .ok (.iconst 1, 1) := by decide +kernel
theorem dX3_isForUs_46 : decode cX3_isForUs 46 = .ok (.goto 4, 3) := by decide +kernel
theorem dX3_isForUs_49 : decode cX3_isForUs 49 = .ok (.iconst 0, 1) := by decide +kernel
theorem dX3_isForUs_50 : decode cX3_isForUs 50 = .ok (.ireturn, 1) := by decide +kernel
theorem wX3_isForUs_L34 {x : GX} {n0 sl0 : Nat} (X : Cx x cX3_isForUs RX3 (some .boolean) n0 sl0 1 21) {out : Int32 × Mm} (hE : Ends x n0 sl0 (some (pI out.1)) out.2) (hn : xn x = 4) (fu : Nat)   (a2 : Int32) (a3 : Int32)  (M : Mm) (h : fX3_isForUs_L34 fu  a2 a3 M = some out) : Gw x M 34 [(2, pI a2), (3, pI a3)] [] := by
  unfold fX3_isForUs_L34 at h
  refine g_iload_n X (pc := 34) 0 rfl rfl dX3_isForUs_34 ?_
  refine g_ldc X (pc := 35) tb_718 dX3_isForUs_35 ?_
  refine g_icmp_ne X (pc := 37) (tgt := 49) dX3_isForUs_37 (by decide) (fun hc => ?_) (fun hc => ?_)
  · have h := (if_neg hc).symm.trans h
    refine g_iconst X (pc := 49) (v := 0) dX3_isForUs_49 (by decide) ?_
    obtain ⟨hz, rfl⟩ := rN_some h
    exact g_nreturn X rfl hz hE dX3_isForUs_50
  · have h := (if_pos hc).symm.trans h
    refine g_iload_n X (pc := 40) 1 rfl rfl dX3_isForUs_40 ?_
    refine g_iconst X (pc := 41) (v := (-1)) dX3_isForUs_41 (by decide) ?_
    refine g_icmp_ne X (pc := 42) (tgt := 49) dX3_isForUs_42 (by decide) (fun hc => ?_) (fun hc => ?_)
    · have h := (if_neg hc).symm.trans h
      refine g_iconst X (pc := 49) (v := 0) dX3_isForUs_49 (by decide) ?_
      obtain ⟨hz, rfl⟩ := rN_some h
      exact g_nreturn X rfl hz hE dX3_isForUs_50
    · have h := (if_pos hc).symm.trans h
      refine g_iconst X (pc := 45) (v := 1) dX3_isForUs_45 (by decide) ?_
      refine g_goto X (pc := 46) (tgt := 50) dX3_isForUs_46 (by decide) ?_
      obtain ⟨hz, rfl⟩ := rN_some h
      exact g_nreturn X rfl hz hE dX3_isForUs_50
theorem wX3_isForUs {x : GX} {n0 sl0 : Nat} (X : Cx x cX3_isForUs RX3 (some .boolean) n0 sl0 1 21) {out : Int32 × Mm} (hE : Ends x n0 sl0 (some (pI out.1)) out.2) (hn : xn x = 4) (fu : Nat)   (a0 : Nat) (a1 : Option Nat)  (M : Mm) (h : fX3_isForUs fu  a0 a1 M = some out) : Gw x M 0 [(0, pR (some a0)), (1, pR a1)] [] := by
  unfold fX3_isForUs at h
  refine g_aload_n X (pc := 0) 1 rfl rfl dX3_isForUs_0 ?_
  refine g_iconst X (pc := 1) (v := 0) dX3_isForUs_1 (by decide) ?_
  obtain ⟨v2, M1, eM1, h⟩ := b2d h
  refine g_callSN X (pc := 2) (M' := M1) (ro := some (pI v2)) (as := [pR a1, pI (0 : Int32)]) (as' := [pI (0 : Int32), pR a1]) (st := []) (ctX11_two _ _ _ _ _ _ fu  a1 (0 : Int32) M _ eM1) tb_398 (List.mem_of_getElem? (i := 11) rfl) tb_397 tb_1 hyX11_two rfl rfl ⟨by decide, by decide⟩ (Nat.le_of_ble_eq_true rfl) dX3_isForUs_2 ?_
  refine g_istore_n X (pc := 5) [(2, pI v2), (0, pR (some a0)), (1, pR a1)] rfl (lt_n hn (by decide)) rfl dX3_isForUs_5 ?_
  refine g_aload_n X (pc := 6) 2 rfl rfl dX3_isForUs_6 ?_
  refine g_iconst X (pc := 7) (v := 2) dX3_isForUs_7 (by decide) ?_
  obtain ⟨v4, M3, eM3, h⟩ := b2d h
  refine g_callSN X (pc := 8) (M' := M3) (ro := some (pI v4)) (as := [pR a1, pI (2 : Int32)]) (as' := [pI (2 : Int32), pR a1]) (st := []) (ctX11_four _ _ _ _ _ _ fu  a1 (2 : Int32) M1 _ eM3) tb_394 (List.mem_of_getElem? (i := 12) rfl) tb_393 tb_1 hyX11_four rfl rfl ⟨by decide, by decide⟩ (Nat.le_of_ble_eq_true rfl) dX3_isForUs_8 ?_
  refine g_istore_n X (pc := 11) [(3, pI v4), (2, pI v2), (0, pR (some a0)), (1, pR a1)] rfl (lt_n hn (by decide)) rfl dX3_isForUs_11 ?_
  refine g_iload_n X (pc := 12) 1 rfl rfl dX3_isForUs_12 ?_
  refine g_aload_n X (pc := 13) 2 rfl rfl dX3_isForUs_13 ?_
  obtain ⟨v5, ev5, h⟩ := bd h
  refine g_getR X (pc := 14) fk_3_14 rfl rfl ev5 tb_188 dX3_isForUs_14 ?_
  obtain ⟨v6, ev6, h⟩ := bd h
  refine g_getI X (pc := 17) fk_4_2 rfl rfl ev6 tb_104 dX3_isForUs_17 ?_
  refine g_icmp_ne X (pc := 20) (tgt := 34) dX3_isForUs_20 (by decide) (fun hc => ?_) (fun hc => ?_)
  · have h := (if_neg hc).symm.trans h
    refine g_sub [1, 0] [(2, pI v2), (3, pI v4)] rfl ?_
    exact wX3_isForUs_L34 X hE hn fu   v2 v4 M3 h
  · have h := (if_pos hc).symm.trans h
    refine g_iload_n X (pc := 23) 0 rfl rfl dX3_isForUs_23 ?_
    refine g_aload_n X (pc := 24) 2 rfl rfl dX3_isForUs_24 ?_
    obtain ⟨v7, ev7, h⟩ := bd h
    refine g_getR X (pc := 25) fk_3_14 rfl rfl ev7 tb_188 dX3_isForUs_25 ?_
    obtain ⟨v8, ev8, h⟩ := bd h
    refine g_getI X (pc := 28) fk_4_3 rfl rfl ev8 tb_106 dX3_isForUs_28 ?_
    refine g_icmp_eq X (pc := 31) (tgt := 45) dX3_isForUs_31 (by decide) (fun hc => ?_) (fun hc => ?_)
    · have h := (if_pos hc).symm.trans h
      refine g_iconst X (pc := 45) (v := 1) dX3_isForUs_45 (by decide) ?_
      refine g_goto X (pc := 46) (tgt := 50) dX3_isForUs_46 (by decide) ?_
      obtain ⟨hz, rfl⟩ := rN_some h
      exact g_nreturn X rfl hz hE dX3_isForUs_50
    · have h := (if_neg hc).symm.trans h
      refine g_sub [1, 0] [(2, pI v2), (3, pI v4)] rfl ?_
      exact wX3_isForUs_L34 X hE hn fu   v2 v4 M3 h
theorem hyX3_isForUs : yX3_isForUs.cls ≠ "java/lang/invoke/MethodHandle" ∧ yX3_isForUs.cls ≠ "java/lang/invoke/VarHandle" ∧ (parseMethodDescriptor yX3_isForUs.desc).map (fun d => d.parameters.length) = some 1 := ⟨by decide +kernel, by decide +kernel, by decide +kernel⟩
theorem ctX3_isForUs (l : Launch) (E : Nat → Nat) (D : va_G) (dA : Nat → ClassId) (lo : Nat) (H0 : Heap) (fu : Nat) (a0 : Nat) (a1 : Option Nat) (M : Mm) (out : Int32 × Mm) (h : fX3_isForUs fu a0 a1 M = some out) : Ct l E D dA lo H0 yX3_isForUs cX3_isForUs 4 (some .boolean) 1 21 [pR (some a0), pR a1] M (some (pI out.1)) out.2 := by
  refine ct_of (by decide +kernel) (Nat.le_of_ble_eq_true rfl) ?_
  intro x hl he hd ha ho hh hn hin X hE
  exact wX3_isForUs X hE hn fu a0 a1 M h
/-! WebHost.added([BIII)I -/
def fX11_added_L67 (fu : Nat) (k20 : Option Nat → Int32 → Int32 → Int32 → Mm → Option (Int32 × Mm)) (a0 : Option Nat) (a4 : Int32) (a5 : Int32) (a6 : Int32)  (M : Mm) : Option (Int32 × Mm) :=
    k20 a0 a4 a5 (a6 + (2 : Int32)) M
def fX11_added_L20 (fu : Nat)  : Nat → Option Nat → Int32 → Int32 → Int32 → Mm → Option (Int32 × Mm)
  | 0, _, _, _, _, _ => none
  | n + 1, a0, a4, a5, a6, M =>
    if a5 ≤ a6 then (
    (some ((a4 &&& (65535 : Int32)) + (ushr a4 (16 : Int32)))).bind fun v1 =>
    some (((v1 &&& (65535 : Int32)) + (ushr v1 (16 : Int32))), M))
    else (
    (gA M 100 a0 a6).bind fun v2 =>
    (some (a4 + ((v2 &&& (255 : Int32)) <<< ((8 : Int32) &&& 31)))).bind fun v3 =>
    if a5 ≤ (a6 + (1 : Int32)) then (
    fX11_added_L67 fu (fun b0 b4 b5 b6 M => fX11_added_L20 fu  n b0 b4 b5 b6 M) a0 v3 a5 a6 M)
    else (
    (gA M 100 a0 (a6 + (1 : Int32))).bind fun v4 =>
    fX11_added_L67 fu (fun b0 b4 b5 b6 M => fX11_added_L20 fu  n b0 b4 b5 b6 M) a0 (v3 + (v4 &&& (255 : Int32))) a5 a6 M))
def fX11_added (fu : Nat)  (a0 : Option Nat) (a1 : Int32) (a2 : Int32) (a3 : Int32)  (M : Mm) : Option (Int32 × Mm) :=
    (aL M 100 a0).bind fun v1 =>
    fX11_added_L20 fu  fu a0 a3 (jmin (a1 + a2) v1) (jmax a1 (0 : Int32)) M
theorem dX11_added_0 : decode cX11_added 0 = .ok (.iload_n 3, 1) := by decide +kernel
theorem dX11_added_1 : decode cX11_added 1 = .ok (.istore 4, 2) := by decide +kernel
theorem dX11_added_3 : decode cX11_added 3 = .ok (.iload_n 1, 1) := by decide +kernel
theorem dX11_added_4 : decode cX11_added 4 = .ok (.iload_n 2, 1) := by decide +kernel
theorem dX11_added_5 : decode cX11_added 5 = .ok (.iadd, 1) := by decide +kernel
theorem dX11_added_6 : decode cX11_added 6 = .ok (.aload_n 0, 1) := by decide +kernel
theorem dX11_added_7 : decode cX11_added 7 = .ok (.arraylength, 1) := by decide +kernel
theorem dX11_added_8 : decode cX11_added 8 = .ok (.invokestatic 68, 3) := by decide +kernel
theorem dX11_added_11 : decode cX11_added 11 = .ok (.istore 5, 2) := by decide +kernel
theorem dX11_added_13 : decode cX11_added 13 = .ok (.iload_n 1, 1) := by decide +kernel
theorem dX11_added_14 : decode cX11_added 14 = .ok (.iconst 0, 1) := by decide +kernel
theorem dX11_added_15 : decode cX11_added 15 = .ok (.invokestatic 243, 3) := by decide +kernel
theorem dX11_added_18 : decode cX11_added 18 = .ok (.istore 6, 2) := by decide +kernel
theorem dX11_added_20 : decode cX11_added 20 = .ok (.iload 6, 2) := by decide +kernel
theorem dX11_added_22 : decode cX11_added 22 = .ok (.iload 5, 2) := by decide +kernel
theorem dX11_added_24 : decode cX11_added 24 = .ok (.if_icmp .ge 49, 3) := by decide +kernel
theorem dX11_added_27 : decode cX11_added 27 = .ok (.iload 4, 2) := by decide +kernel
theorem dX11_added_29 : decode cX11_added 29 = .ok (.aload_n 0, 1) := by decide +kernel
theorem dX11_added_30 : decode cX11_added 30 = .ok (.iload 6, 2) := by decide +kernel
theorem dX11_added_32 : decode cX11_added 32 = .ok (.baload, 1) := by decide +kernel
theorem dX11_added_33 : decode cX11_added 33 = .ok (.sipush 255, 3) := by decide +kernel
theorem dX11_added_36 : decode cX11_added 36 = .ok (.iand, 1) := by decide +kernel
theorem dX11_added_37 : decode cX11_added 37 = .ok (.bipush 8, 2) := by decide +kernel
theorem dX11_added_39 : decode cX11_added 39 = .ok (.ishl, 1) := by decide +kernel
theorem dX11_added_40 : decode cX11_added 40 = .ok (.iadd, 1) := by decide +kernel
theorem dX11_added_41 : decode cX11_added 41 = .ok (.istore 4, 2) := by decide +kernel
theorem dX11_added_43 : decode cX11_added 43 = .ok (.iload 6, 2) := by decide +kernel
theorem dX11_added_45 : decode cX11_added 45 = .ok (.iconst 1, 1) := by decide +kernel
theorem dX11_added_46 : decode cX11_added 46 = .ok (.iadd, 1) := by decide +kernel
theorem dX11_added_47 : decode cX11_added 47 = .ok (.iload 5, 2) := by decide +kernel
theorem dX11_added_49 : decode cX11_added 49 = .ok (.if_icmp .ge 18, 3) := by decide +kernel
theorem dX11_added_52 : decode cX11_added 52 = .ok (.iload 4, 2) := by decide +kernel
theorem dX11_added_54 : decode cX11_added 54 = .ok (.aload_n 0, 1) := by decide +kernel
theorem dX11_added_55 : decode cX11_added 55 = .ok (.iload 6, 2) := by decide +kernel
theorem dX11_added_57 : decode cX11_added 57 = .ok (.iconst 1, 1) := by decide +kernel
theorem dX11_added_58 : decode cX11_added 58 = .ok (.iadd, 1) := by decide +kernel
theorem dX11_added_59 : decode cX11_added 59 = .ok (.baload, 1) := by decide +kernel
theorem dX11_added_60 : decode cX11_added 60 = .ok (.sipush 255, 3) := by decide +kernel
theorem dX11_added_63 : decode cX11_added 63 = .ok (.iand, 1) := by decide +kernel
theorem dX11_added_64 : decode cX11_added 64 = .ok (.iadd, 1) := by decide +kernel
theorem dX11_added_65 : decode cX11_added 65 = .ok (.istore 4, 2) := by decide +kernel
theorem dX11_added_67 : decode cX11_added 67 = .ok (.iinc 6 2, 3) := by decide +kernel
theorem dX11_added_70 : decode cX11_added 70 = .ok (.goto (-50), 3) := by decide +kernel
theorem dX11_added_73 : decode cX11_added 73 = .ok (.iload 4, 2) := by decide +kernel
theorem dX11_added_75 : decode cX11_added 75 = .ok (.ldc 84, 2) := by decide +kernel
theorem dX11_added_77 : decode cX11_added 77 = .ok (.iand, 1) := by decide +kernel
theorem dX11_added_78 : decode cX11_added 78 = .ok (.iload 4, 2) := by decide +kernel
theorem dX11_added_80 : decode cX11_added 80 = .ok (.bipush 16, 2) := by decide +kernel
theorem dX11_added_82 : decode cX11_added 82 = .ok (.iushr, 1) := by decide +kernel
theorem dX11_added_83 : decode cX11_added 83 = .ok (.iadd, 1) := by decide +kernel
theorem dX11_added_84 : decode cX11_added 84 = .ok (.istore 4, 2) := by decide +kernel
theorem dX11_added_86 : decode cX11_added 86 = .ok (.iload 4, 2) := by decide +kernel
theorem dX11_added_88 : decode cX11_added 88 = .ok (.ldc 84, 2) := by decide +kernel
theorem dX11_added_90 : decode cX11_added 90 = .ok (.iand, 1) := by decide +kernel
theorem dX11_added_91 : decode cX11_added 91 = .ok (.iload 4, 2) := by decide +kernel
theorem dX11_added_93 : decode cX11_added 93 = .ok (.bipush 16, 2) := by decide +kernel
theorem dX11_added_95 : decode cX11_added 95 = .ok (.iushr, 1) := by decide +kernel
theorem dX11_added_96 : decode cX11_added 96 = .ok (.iadd, 1) := by decide +kernel
theorem dX11_added_97 : decode cX11_added 97 = .ok (.ireturn, 1) := by decide +kernel
theorem wX11_added_L67 {x : GX} {n0 sl0 : Nat} (X : Cx x cX11_added RX11 (some .int) n0 sl0 1 13) {out : Int32 × Mm} (hE : Ends x n0 sl0 (some (pI out.1)) out.2) (hn : xn x = 7) (fu : Nat) (k20 : Option Nat → Int32 → Int32 → Int32 → Mm → Option (Int32 × Mm)) (hk20 : ∀ (b0 : Option Nat) (b4 : Int32) (b5 : Int32) (b6 : Int32)  (M : Mm), k20 b0 b4 b5 b6 M = some out → Gw x M 20 [(0, pR b0), (4, pI b4), (5, pI b5), (6, pI b6)] []) (a0 : Option Nat) (a4 : Int32) (a5 : Int32) (a6 : Int32)  (M : Mm) (h : fX11_added_L67 fu k20 a0 a4 a5 a6 M = some out) : Gw x M 67 [(0, pR a0), (4, pI a4), (5, pI a5), (6, pI a6)] [] := by
  unfold fX11_added_L67 at h
  refine g_iinc X (pc := 67) 3 [(6, pI (a6 + (2 : Int32))), (0, pR a0), (4, pI a4), (5, pI a5)] rfl (iinc_e (by decide)) (lt_n hn (by decide)) rfl dX11_added_67 ?_
  refine g_goto X (pc := 70) (tgt := 20) dX11_added_70 (by decide) ?_
  refine g_sub [1, 2, 3, 0] [(0, pR a0), (4, pI a4), (5, pI a5), (6, pI (a6 + (2 : Int32)))] rfl ?_
  exact hk20 a0 a4 a5 (a6 + (2 : Int32)) M h
theorem wX11_added_L20 {x : GX} {n0 sl0 : Nat} (X : Cx x cX11_added RX11 (some .int) n0 sl0 1 13) {out : Int32 × Mm} (hE : Ends x n0 sl0 (some (pI out.1)) out.2) (hn : xn x = 7) (fu : Nat)   : ∀ (n : Nat) (a0 : Option Nat) (a4 : Int32) (a5 : Int32) (a6 : Int32)  (M : Mm), fX11_added_L20 fu  n a0 a4 a5 a6 M = some out → Gw x M 20 [(0, pR a0), (4, pI a4), (5, pI a5), (6, pI a6)] [] := by
  intro n
  induction n with
  | zero =>
    intro a0 a4 a5 a6 M h
    have h : (none : Option (Int32 × Mm)) = some out := h
    cases h
  | succ n ih =>
    intro a0 a4 a5 a6 M h
    rw [fX11_added_L20] at h
    refine g_iload X (pc := 20) 3 rfl dX11_added_20 ?_
    refine g_iload X (pc := 22) 2 rfl dX11_added_22 ?_
    refine g_icmp_ge X (pc := 24) (tgt := 73) dX11_added_24 (by decide) (fun hc => ?_) (fun hc => ?_)
    · have h := (if_pos hc).symm.trans h
      refine g_iload X (pc := 73) 1 rfl dX11_added_73 ?_
      refine g_ldc X (pc := 75) tb_375 dX11_added_75 ?_
      refine g_iand X (pc := 77) dX11_added_77 ?_
      refine g_iload X (pc := 78) 1 rfl dX11_added_78 ?_
      refine g_bipush X (pc := 80) (v := 16) dX11_added_80 (by decide) ?_
      refine g_iushr X (pc := 82) dX11_added_82 ?_
      refine g_iadd X (pc := 83) dX11_added_83 ?_
      obtain ⟨v1, ev1, h⟩ := bd h
      refine g_nmI ev1 ?_
      refine g_istore X (pc := 84) [(4, pI v1), (0, pR a0), (5, pI a5), (6, pI a6)] (lt_n hn (by decide)) rfl dX11_added_84 ?_
      refine g_iload X (pc := 86) 0 rfl dX11_added_86 ?_
      refine g_ldc X (pc := 88) tb_375 dX11_added_88 ?_
      refine g_iand X (pc := 90) dX11_added_90 ?_
      refine g_iload X (pc := 91) 0 rfl dX11_added_91 ?_
      refine g_bipush X (pc := 93) (v := 16) dX11_added_93 (by decide) ?_
      refine g_iushr X (pc := 95) dX11_added_95 ?_
      refine g_iadd X (pc := 96) dX11_added_96 ?_
      obtain rfl := Option.some.inj h
      exact g_ireturn X hE dX11_added_97
    · have h := (if_neg hc).symm.trans h
      refine g_iload X (pc := 27) 1 rfl dX11_added_27 ?_
      refine g_aload_n X (pc := 29) 0 rfl rfl dX11_added_29 ?_
      refine g_iload X (pc := 30) 3 rfl dX11_added_30 ?_
      obtain ⟨v2, ev2, h⟩ := bd h
      refine g_baload X (pc := 32) ev2 dX11_added_32 ?_
      refine g_sipush X (pc := 33) (v := 255) dX11_added_33 (by decide) ?_
      refine g_iand X (pc := 36) dX11_added_36 ?_
      refine g_bipush X (pc := 37) (v := 8) dX11_added_37 (by decide) ?_
      refine g_ishl X (pc := 39) dX11_added_39 ?_
      refine g_iadd X (pc := 40) dX11_added_40 ?_
      obtain ⟨v3, ev3, h⟩ := bd h
      refine g_nmI ev3 ?_
      refine g_istore X (pc := 41) [(4, pI v3), (0, pR a0), (5, pI a5), (6, pI a6)] (lt_n hn (by decide)) rfl dX11_added_41 ?_
      refine g_iload X (pc := 43) 3 rfl dX11_added_43 ?_
      refine g_iconst X (pc := 45) (v := 1) dX11_added_45 (by decide) ?_
      refine g_iadd X (pc := 46) dX11_added_46 ?_
      refine g_iload X (pc := 47) 2 rfl dX11_added_47 ?_
      refine g_icmp_ge X (pc := 49) (tgt := 67) dX11_added_49 (by decide) (fun hc => ?_) (fun hc => ?_)
      · have h := (if_pos hc).symm.trans h
        refine g_sub [1, 0, 2, 3] [(0, pR a0), (4, pI v3), (5, pI a5), (6, pI a6)] rfl ?_
        exact wX11_added_L67 X hE hn fu (fun b0 b4 b5 b6 M => fX11_added_L20 fu  n b0 b4 b5 b6 M) ih a0 v3 a5 a6 M h
      · have h := (if_neg hc).symm.trans h
        refine g_iload X (pc := 52) 0 rfl dX11_added_52 ?_
        refine g_aload_n X (pc := 54) 1 rfl rfl dX11_added_54 ?_
        refine g_iload X (pc := 55) 3 rfl dX11_added_55 ?_
        refine g_iconst X (pc := 57) (v := 1) dX11_added_57 (by decide) ?_
        refine g_iadd X (pc := 58) dX11_added_58 ?_
        obtain ⟨v4, ev4, h⟩ := bd h
        refine g_baload X (pc := 59) ev4 dX11_added_59 ?_
        refine g_sipush X (pc := 60) (v := 255) dX11_added_60 (by decide) ?_
        refine g_iand X (pc := 63) dX11_added_63 ?_
        refine g_iadd X (pc := 64) dX11_added_64 ?_
        refine g_istore X (pc := 65) [(4, pI (v3 + (v4 &&& (255 : Int32)))), (0, pR a0), (5, pI a5), (6, pI a6)] (lt_n hn (by decide)) rfl dX11_added_65 ?_
        refine g_sub [1, 0, 2, 3] [(0, pR a0), (4, pI (v3 + (v4 &&& (255 : Int32)))), (5, pI a5), (6, pI a6)] rfl ?_
        exact wX11_added_L67 X hE hn fu (fun b0 b4 b5 b6 M => fX11_added_L20 fu  n b0 b4 b5 b6 M) ih a0 (v3 + (v4 &&& (255 : Int32))) a5 a6 M h
theorem wX11_added {x : GX} {n0 sl0 : Nat} (X : Cx x cX11_added RX11 (some .int) n0 sl0 1 13) {out : Int32 × Mm} (hE : Ends x n0 sl0 (some (pI out.1)) out.2) (hn : xn x = 7) (fu : Nat)   (a0 : Option Nat) (a1 : Int32) (a2 : Int32) (a3 : Int32)  (M : Mm) (h : fX11_added fu  a0 a1 a2 a3 M = some out) : Gw x M 0 [(0, pR a0), (1, pI a1), (2, pI a2), (3, pI a3)] [] := by
  unfold fX11_added at h
  refine g_iload_n X (pc := 0) 3 rfl rfl dX11_added_0 ?_
  refine g_istore X (pc := 1) [(4, pI a3), (0, pR a0), (1, pI a1), (2, pI a2), (3, pI a3)] (lt_n hn (by decide)) rfl dX11_added_1 ?_
  refine g_iload_n X (pc := 3) 2 rfl rfl dX11_added_3 ?_
  refine g_iload_n X (pc := 4) 3 rfl rfl dX11_added_4 ?_
  refine g_iadd X (pc := 5) dX11_added_5 ?_
  refine g_aload_n X (pc := 6) 1 rfl rfl dX11_added_6 ?_
  obtain ⟨v1, ev1, h⟩ := bd h
  refine g_alen X (pc := 7) (k := 0) rfl (by decide) ev1 dX11_added_7 ?_
  refine g_mmin X (pc := 8) tb_347 tb_348 tb_13 tb_349 ⟨by decide, Nat.le_of_ble_eq_true rfl⟩ dX11_added_8 ?_
  refine g_istore X (pc := 11) [(5, pI (jmin (a1 + a2) v1)), (4, pI a3), (0, pR a0), (1, pI a1), (2, pI a2), (3, pI a3)] (lt_n hn (by decide)) rfl dX11_added_11 ?_
  refine g_iload_n X (pc := 13) 3 rfl rfl dX11_added_13 ?_
  refine g_iconst X (pc := 14) (v := 0) dX11_added_14 (by decide) ?_
  refine g_mmax X (pc := 15) tb_623 tb_405 tb_13 tb_406 ⟨by decide, Nat.le_of_ble_eq_true rfl⟩ dX11_added_15 ?_
  refine g_istore X (pc := 18) [(6, pI (jmax a1 (0 : Int32))), (5, pI (jmin (a1 + a2) v1)), (4, pI a3), (0, pR a0), (1, pI a1), (2, pI a2), (3, pI a3)] (lt_n hn (by decide)) rfl dX11_added_18 ?_
  refine g_sub [3, 2, 1, 0] [(0, pR a0), (4, pI a3), (5, pI (jmin (a1 + a2) v1)), (6, pI (jmax a1 (0 : Int32)))] rfl ?_
  exact wX11_added_L20 X hE hn fu   fu a0 a3 (jmin (a1 + a2) v1) (jmax a1 (0 : Int32)) M h
theorem hyX11_added : yX11_added.cls ≠ "java/lang/invoke/MethodHandle" ∧ yX11_added.cls ≠ "java/lang/invoke/VarHandle" ∧ (parseMethodDescriptor yX11_added.desc).map (fun d => d.parameters.length) = some 4 := ⟨by decide +kernel, by decide +kernel, by decide +kernel⟩
theorem ctX11_added (l : Launch) (E : Nat → Nat) (D : va_G) (dA : Nat → ClassId) (lo : Nat) (H0 : Heap) (fu : Nat) (a0 : Option Nat) (a1 : Int32) (a2 : Int32) (a3 : Int32) (M : Mm) (out : Int32 × Mm) (h : fX11_added fu a0 a1 a2 a3 M = some out) : Ct l E D dA lo H0 yX11_added cX11_added 7 (some .int) 1 13 [pR a0, pI a1, pI a2, pI a3] M (some (pI out.1)) out.2 := by
  refine ct_of (by decide +kernel) (Nat.le_of_ble_eq_true rfl) ?_
  intro x hl he hd ha ho hh hn hin X hE
  exact wX11_added X hE hn fu a0 a1 a2 a3 M h
/-! WebHost.isHostNumber(I)Z -/
def fX11_isHostNumber (fu : Nat)  (a0 : Int32)  (M : Mm) : Option (Int32 × Mm) :=
    if (ushr a0 (24 : Int32)) < (1 : Int32) then (
    rN .boolean (0 : Int32) M)
    else (
    if (223 : Int32) < (ushr a0 (24 : Int32)) then (
    rN .boolean (0 : Int32) M)
    else (
    if (ushr a0 (24 : Int32)) = (127 : Int32) then (
    rN .boolean (0 : Int32) M)
    else (
    rN .boolean (1 : Int32) M)))
theorem dX11_isHostNumber_0 : decode cX11_isHostNumber 0 = .ok (.iload_n 0, 1) := by decide +kernel
theorem dX11_isHostNumber_1 : decode cX11_isHostNumber 1 = .ok (.bipush 24, 2) := by decide +kernel
theorem dX11_isHostNumber_3 : decode cX11_isHostNumber 3 = .ok (.iushr, 1) := by decide +kernel
theorem dX11_isHostNumber_4 : decode cX11_isHostNumber 4 = .ok (.istore_n 1, 1) := by decide +kernel
theorem dX11_isHostNumber_5 : decode cX11_isHostNumber 5 = .ok (.iload_n 1, 1) := by decide +kernel
theorem dX11_isHostNumber_6 : decode cX11_isHostNumber 6 = .ok (.iconst 1, 1) := by decide +kernel
theorem dX11_isHostNumber_7 : decode cX11_isHostNumber 7 = .ok (.if_icmp .lt 20, 3) := by decide +kernel
theorem dX11_isHostNumber_10 : decode cX11_isHostNumber 10 = .ok (.iload_n 1, 1) := by decide +kernel
theorem dX11_isHostNumber_11 : decode cX11_isHostNumber 11 = .ok (.sipush 223, 3) := by decide +kernel
theorem dX11_isHostNumber_14 : decode cX11_isHostNumber 14 = .ok (.if_icmp .gt 13, 3) := by decide +kernel
theorem dX11_isHostNumber_17 : decode cX11_isHostNumber 17 = .ok (.iload_n 1, 1) := by decide +kernel
theorem dX11_isHostNumber_18 : decode cX11_isHostNumber 18 = .ok (.bipush 127, 2) := by decide +kernel
theorem dX11_isHostNumber_20 : decode cX11_isHostNumber 20 = .ok (.if_icmp .eq 7, 3) := by decide +kernel
theorem dX11_isHostNumber_23 : decode cX11_isHostNumber 23 = .ok (.iconst 1, 1) := by decide +kernel
theorem dX11_isHostNumber_24 : decode cX11_isHostNumber 24 = .ok (.goto 4, 3) := by decide +kernel
theorem dX11_isHostNumber_27 : decode cX11_isHostNumber 27 = .ok (.iconst 0, 1) := by decide +kernel
theorem dX11_isHostNumber_28 : decode cX11_isHostNumber 28 = .ok (.ireturn, 1) := by decide +kernel
theorem wX11_isHostNumber {x : GX} {n0 sl0 : Nat} (X : Cx x cX11_isHostNumber RX11 (some .boolean) n0 sl0 0 0) {out : Int32 × Mm} (hE : Ends x n0 sl0 (some (pI out.1)) out.2) (hn : xn x = 2) (fu : Nat)   (a0 : Int32)  (M : Mm) (h : fX11_isHostNumber fu  a0 M = some out) : Gw x M 0 [(0, pI a0)] [] := by
  unfold fX11_isHostNumber at h
  refine g_iload_n X (pc := 0) 0 rfl rfl dX11_isHostNumber_0 ?_
  refine g_bipush X (pc := 1) (v := 24) dX11_isHostNumber_1 (by decide) ?_
  refine g_iushr X (pc := 3) dX11_isHostNumber_3 ?_
  refine g_istore_n X (pc := 4) [(1, pI (ushr a0 (24 : Int32))), (0, pI a0)] rfl (lt_n hn (by decide)) rfl dX11_isHostNumber_4 ?_
  refine g_iload_n X (pc := 5) 0 rfl rfl dX11_isHostNumber_5 ?_
  refine g_iconst X (pc := 6) (v := 1) dX11_isHostNumber_6 (by decide) ?_
  refine g_icmp_lt X (pc := 7) (tgt := 27) dX11_isHostNumber_7 (by decide) (fun hc => ?_) (fun hc => ?_)
  · have h := (if_pos hc).symm.trans h
    refine g_iconst X (pc := 27) (v := 0) dX11_isHostNumber_27 (by decide) ?_
    obtain ⟨hz, rfl⟩ := rN_some h
    exact g_nreturn X rfl hz hE dX11_isHostNumber_28
  · have h := (if_neg hc).symm.trans h
    refine g_iload_n X (pc := 10) 0 rfl rfl dX11_isHostNumber_10 ?_
    refine g_sipush X (pc := 11) (v := 223) dX11_isHostNumber_11 (by decide) ?_
    refine g_icmp_gt X (pc := 14) (tgt := 27) dX11_isHostNumber_14 (by decide) (fun hc => ?_) (fun hc => ?_)
    · have h := (if_pos hc).symm.trans h
      refine g_iconst X (pc := 27) (v := 0) dX11_isHostNumber_27 (by decide) ?_
      obtain ⟨hz, rfl⟩ := rN_some h
      exact g_nreturn X rfl hz hE dX11_isHostNumber_28
    · have h := (if_neg hc).symm.trans h
      refine g_iload_n X (pc := 17) 0 rfl rfl dX11_isHostNumber_17 ?_
      refine g_bipush X (pc := 18) (v := 127) dX11_isHostNumber_18 (by decide) ?_
      refine g_icmp_eq X (pc := 20) (tgt := 27) dX11_isHostNumber_20 (by decide) (fun hc => ?_) (fun hc => ?_)
      · have h := (if_pos hc).symm.trans h
        refine g_iconst X (pc := 27) (v := 0) dX11_isHostNumber_27 (by decide) ?_
        obtain ⟨hz, rfl⟩ := rN_some h
        exact g_nreturn X rfl hz hE dX11_isHostNumber_28
      · have h := (if_neg hc).symm.trans h
        refine g_iconst X (pc := 23) (v := 1) dX11_isHostNumber_23 (by decide) ?_
        refine g_goto X (pc := 24) (tgt := 28) dX11_isHostNumber_24 (by decide) ?_
        obtain ⟨hz, rfl⟩ := rN_some h
        exact g_nreturn X rfl hz hE dX11_isHostNumber_28
theorem hyX11_isHostNumber : yX11_isHostNumber.cls ≠ "java/lang/invoke/MethodHandle" ∧ yX11_isHostNumber.cls ≠ "java/lang/invoke/VarHandle" ∧ (parseMethodDescriptor yX11_isHostNumber.desc).map (fun d => d.parameters.length) = some 1 := ⟨by decide +kernel, by decide +kernel, by decide +kernel⟩
theorem ctX11_isHostNumber (l : Launch) (E : Nat → Nat) (D : va_G) (dA : Nat → ClassId) (lo : Nat) (H0 : Heap) (fu : Nat) (a0 : Int32) (M : Mm) (out : Int32 × Mm) (h : fX11_isHostNumber fu a0 M = some out) : Ct l E D dA lo H0 yX11_isHostNumber cX11_isHostNumber 2 (some .boolean) 0 0 [pI a0] M (some (pI out.1)) out.2 := by
  refine ct_of (by decide +kernel) (Nat.le_of_ble_eq_true rfl) ?_
  intro x hl he hd ha ho hh hn hin X hE
  exact wX11_isHostNumber X hE hn fu a0 M h
/-! WebHost$Intake.indexOf(I)I -/
def fX3_indexOf_L92 (fu : Nat)  (a0 : Nat) (a1 : Int32) (a2 : Option Nat)  (M : Mm) : Option (Int32 × Mm) :=
    (gI M 3 193 (some a0)).bind fun v1 =>
    (gI M 3 204 (some a0)).bind fun v2 =>
    (gR M 3 205 (some a0)).bind fun v3 =>
    (gI M 10 641 v3).bind fun v4 =>
    (rc M 2 a2).bind fun q5 =>
    (fX2_begin fu q5 v1 a1 v2 v4 M).bind fun M6 =>
    (gI M6 3 208 (some a0)).bind fun v7 =>
    (pF M6 3 208 (some a0) (v7 + (1 : Int32))).bind fun M8 =>
    (gI M8 3 208 (some a0)).bind fun v9 =>
    some ((v9 - (1 : Int32)), M8)
def fX3_indexOf_L50 (fu : Nat)  (a0 : Nat) (a1 : Int32)  (M : Mm) : Option (Int32 × Mm) :=
    (gI M 3 208 (some a0)).bind fun v1 =>
    if v1 < (4 : Int32) then (
    (gR M 3 207 (some a0)).bind fun v2 =>
    (gI M 3 208 (some a0)).bind fun v3 =>
    (gB M 112 v2 v3).bind fun v4 =>
    if v4 = none then (
    b2 (mkO M 2) fun v5 M6 =>
    (fX2_init fu v5  M6).bind fun M7 =>
    (gR M7 3 207 (some a0)).bind fun v8 =>
    (gI M7 3 208 (some a0)).bind fun v9 =>
    (pB M7 2 v8 v9 (some v5)).bind fun M10 =>
    fX3_indexOf_L92 fu  a0 a1 (some v5) M10)
    else (
    fX3_indexOf_L92 fu  a0 a1 v4 M))
    else (
    some ((-1 : Int32), M))
def fX3_indexOf_L44 (fu : Nat) (k2 : Nat → Int32 → Int32 → Mm → Option (Int32 × Mm)) (a0 : Nat) (a1 : Int32) (a2 : Int32)  (M : Mm) : Option (Int32 × Mm) :=
    k2 a0 a1 (a2 + (1 : Int32)) M
def fX3_indexOf_L2 (fu : Nat)  : Nat → Nat → Int32 → Int32 → Mm → Option (Int32 × Mm)
  | 0, _, _, _, _ => none
  | n + 1, a0, a1, a2, M =>
    (gI M 3 208 (some a0)).bind fun v1 =>
    if v1 ≤ a2 then (
    fX3_indexOf_L50 fu  a0 a1 M)
    else (
    if (4 : Int32) ≤ a2 then (
    fX3_indexOf_L50 fu  a0 a1 M)
    else (
    (gR M 3 207 (some a0)).bind fun v2 =>
    (gB M 112 v2 a2).bind fun v3 =>
    if v3 = none then (
    fX3_indexOf_L44 fu (fun b0 b1 b2 M => fX3_indexOf_L2 fu  n b0 b1 b2 M) a0 a1 a2 M)
    else (
    (gI M 3 193 (some a0)).bind fun v4 =>
    (gI M 3 204 (some a0)).bind fun v5 =>
    (rc M 2 v3).bind fun q6 =>
    b2 (fX2_isOf fu q6 v4 a1 v5 M) fun v8 M7 =>
    if v8 = 0 then (
    fX3_indexOf_L44 fu (fun b0 b1 b2 M => fX3_indexOf_L2 fu  n b0 b1 b2 M) a0 a1 a2 M7)
    else (
    some (a2, M7)))))
def fX3_indexOf (fu : Nat)  (a0 : Nat) (a1 : Int32)  (M : Mm) : Option (Int32 × Mm) :=
    fX3_indexOf_L2 fu  fu a0 a1 (0 : Int32) M
theorem dX3_indexOf_0 : decode cX3_indexOf 0 = .ok (.iconst 0, 1) := by decide +kernel
theorem dX3_indexOf_1 : decode cX3_indexOf 1 = .ok (.istore_n 2, 1) := by decide +kernel
theorem dX3_indexOf_2 : decode cX3_indexOf 2 = .ok (.iload_n 2, 1) := by decide +kernel
theorem dX3_indexOf_3 : decode cX3_indexOf 3 = .ok (.aload_n 0, 1) := by decide +kernel
theorem dX3_indexOf_4 : decode cX3_indexOf 4 = .ok (.getfield 29, 3) := by decide +kernel
theorem dX3_indexOf_7 : decode cX3_indexOf 7 = .ok (.if_icmp .ge 43, 3) := by decide +kernel
theorem dX3_indexOf_10 : decode cX3_indexOf 10 = .ok (.iload_n 2, 1) := by decide +kernel
theorem dX3_indexOf_11 : decode cX3_indexOf 11 = .ok (.iconst 4, 1) := by decide +kernel
theorem dX3_indexOf_12 : decode cX3_indexOf 12 = .ok (.if_icmp .ge 38, 3) := by decide +kernel
theorem dX3_indexOf_15 : decode cX3_indexOf 15 = .ok (.aload_n 0, 1) := by decide +kernel
theorem dX3_indexOf_16 : decode cX3_indexOf 16 = .ok (.getfield 25, 3) := by decide +kernel
theorem dX3_indexOf_19 : decode cX3_indexOf 19 = .ok (.iload_n 2, 1) := by decide +kernel
theorem dX3_indexOf_20 : decode cX3_indexOf 20 = .ok (.aaload, 1) := by decide +kernel
theorem dX3_indexOf_21 : decode cX3_indexOf 21 = .ok (.astore_n 3, 1) := by decide +kernel
theorem dX3_indexOf_22 : decode cX3_indexOf 22 = .ok (.aload_n 3, 1) := by decide +kernel
theorem dX3_indexOf_23 : decode cX3_indexOf 23 = .ok (.ifnull 21, 3) := by decide +kernel
theorem dX3_indexOf_26 : decode cX3_indexOf 26 = .ok (.aload_n 3, 1) := by decide +kernel
theorem dX3_indexOf_27 : decode cX3_indexOf 27 = .ok (.aload_n 0, 1) := by decide +kernel
theorem dX3_indexOf_28 : decode cX3_indexOf 28 = .ok (.getfield 67, 3) := by decide +kernel
theorem dX3_indexOf_31 : decode cX3_indexOf 31 = .ok (.iload_n 1, 1) := by decide +kernel
theorem dX3_indexOf_32 : decode cX3_indexOf 32 = .ok (.aload_n 0, 1) := by decide +kernel
theorem dX3_indexOf_33 : decode cX3_indexOf 33 = .ok (.getfield 45, 3) := by decide +kernel
theorem dX3_indexOf_36 : decode cX3_indexOf 36 = .ok (.invokevirtual 119, 3) := by decide +kernel
theorem dX3_indexOf_39 : decode cX3_indexOf 39 = .ok (.ifCond .eq 5, 3) := by decide +kernel
theorem dX3_indexOf_42 : decode cX3_indexOf 42 = .ok (.iload_n 2, 1) := by decide +kernel
theorem dX3_indexOf_43 : decode cX3_indexOf 43 = .ok (.ireturn, 1) := by decide +kernel
theorem dX3_indexOf_44 : decode cX3_indexOf 44 = .ok (.iinc 2 1, 3) := by decide +kernel
theorem dX3_indexOf_47 : decode cX3_indexOf 47 = .ok (.goto (-45), 3) := by decide +kernel
theorem dX3_indexOf_50 : decode cX3_indexOf 50 = .ok (.aload_n 0, 1) := by decide +kernel
theorem dX3_indexOf_51 : decode cX3_indexOf 51 = .ok (.getfield 29, 3) := by decide +kernel
theorem dX3_indexOf_54 : decode cX3_indexOf 54 = .ok (.iconst 4, 1) := by decide +kernel
theorem dX3_indexOf_55 : decode cX3_indexOf 55 = .ok (.if_icmp .lt 5, 3) := by decide +kernel
theorem dX3_indexOf_58 : decode cX3_indexOf 58 = .ok (.iconst (-1), 1) := by decide +kernel
theorem dX3_indexOf_59 : decode cX3_indexOf 59 = .ok (.ireturn, 1) := by decide +kernel
theorem dX3_indexOf_60 : decode cX3_indexOf 60 = .ok (.aload_n 0, 1) := by decide +kernel
theorem dX3_indexOf_61 : decode cX3_indexOf 61 = .ok (.getfield 25, 3) := by decide +kernel
theorem dX3_indexOf_64 : decode cX3_indexOf 64 = .ok (.aload_n 0, 1) := by decide +kernel
theorem dX3_indexOf_65 : decode cX3_indexOf 65 = .ok (.getfield 29, 3) := by decide +kernel
theorem dX3_indexOf_68 : decode cX3_indexOf 68 = .ok (.aaload, 1) := by decide +kernel
theorem dX3_indexOf_69 : decode cX3_indexOf 69 = .ok (.astore_n 2, 1) := by decide +kernel
theorem dX3_indexOf_70 : decode cX3_indexOf 70 = .ok (.aload_n 2, 1) := by decide +kernel
theorem dX3_indexOf_71 : decode cX3_indexOf 71 = .ok (.ifnonnull 21, 3) := by decide +kernel
theorem dX3_indexOf_74 : decode cX3_indexOf 74 = .ok (.new 23, 3) := by decide +kernel
theorem dX3_indexOf_77 : decode cX3_indexOf 77 = .ok (.dup, 1) := by decide +kernel
theorem dX3_indexOf_78 : decode cX3_indexOf 78 = .ok (.invokespecial 123, 3) := by decide +kernel
theorem dX3_indexOf_81 : decode cX3_indexOf 81 = .ok (.astore_n 2, 1) := by decide +kernel
theorem dX3_indexOf_82 : decode cX3_indexOf 82 = .ok (.aload_n 0, 1) := by decide +kernel
theorem dX3_indexOf_83 : decode cX3_indexOf 83 = .ok (.getfield 25, 3) := by decide +kernel
theorem dX3_indexOf_86 : decode cX3_indexOf 86 = .ok (.aload_n 0, 1) := by decide +kernel
theorem dX3_indexOf_87 : decode cX3_indexOf 87 = .ok (.getfield 29, 3) := by decide +kernel
theorem dX3_indexOf_90 : decode cX3_indexOf 90 = .ok (.aload_n 2, 1) := by decide +kernel
theorem dX3_indexOf_91 : decode cX3_indexOf 91 = .ok (.aastore, 1) := by decide +kernel
theorem dX3_indexOf_92 : decode cX3_indexOf 92 = .ok (.aload_n 2, 1) := by decide +kernel
theorem dX3_indexOf_93 : decode cX3_indexOf 93 = .ok (.aload_n 0, 1) := by decide +kernel
theorem dX3_indexOf_94 : decode cX3_indexOf 94 = .ok (.getfield 67, 3) := by decide +kernel
theorem dX3_indexOf_97 : decode cX3_indexOf 97 = .ok (.iload_n 1, 1) := by decide +kernel
theorem dX3_indexOf_98 : decode cX3_indexOf 98 = .ok (.aload_n 0, 1) := by decide +kernel
theorem dX3_indexOf_99 : decode cX3_indexOf 99 = .ok (.getfield 45, 3) := by decide +kernel
theorem dX3_indexOf_102 : decode cX3_indexOf 102 = .ok (.aload_n 0, 1) := by decide +kernel
theorem dX3_indexOf_103 : decode cX3_indexOf 103 = .ok (.getfield 9, 3) := by decide +kernel
theorem dX3_indexOf_106 : decode cX3_indexOf 106 = .ok (.getfield 124, 3) := by decide +kernel
theorem dX3_indexOf_109 : decode cX3_indexOf 109 = .ok (.invokevirtual 127, 3) := by decide +kernel
theorem dX3_indexOf_112 : decode cX3_indexOf 112 = .ok (.aload_n 0, 1) := by decide +kernel
theorem dX3_indexOf_113 : decode cX3_indexOf 113 = .ok (.dup, 1) := by decide +kernel
theorem dX3_indexOf_114 : decode cX3_indexOf 114 = .ok (.getfield 29, 3) := by decide +kernel
theorem dX3_indexOf_117 : decode cX3_indexOf 117 = .ok (.iconst 1, 1) := by decide +kernel
theorem dX3_indexOf_118 : decode cX3_indexOf 118 = .ok (.iadd, 1) := by decide +kernel
theorem dX3_indexOf_119 : decode cX3_indexOf 119 = .ok (.putfield 29, 3) := by decide +kernel
theorem dX3_indexOf_122 : decode cX3_indexOf 122 = .ok (.aload_n 0, 1) := by decide +kernel
theorem dX3_indexOf_123 : decode cX3_indexOf 123 = .ok (.getfield 29, 3) := by decide +kernel
theorem dX3_indexOf_126 : decode cX3_indexOf 126 = .ok (.iconst 1, 1) := by decide +kernel
theorem dX3_indexOf_127 : decode cX3_indexOf 127 = .ok (.isub, 1) := by decide +kernel
theorem dX3_indexOf_128 : decode cX3_indexOf 128 = .ok (.ireturn, 1) := by decide +kernel
theorem wX3_indexOf_L92 {x : GX} {n0 sl0 : Nat} (X : Cx x cX3_indexOf RX3 (some .int) n0 sl0 2 47) {out : Int32 × Mm} (hE : Ends x n0 sl0 (some (pI out.1)) out.2) (hn : xn x = 4) (fu : Nat)   (a0 : Nat) (a1 : Int32) (a2 : Option Nat)  (M : Mm) (h : fX3_indexOf_L92 fu  a0 a1 a2 M = some out) : Gw x M 92 [(0, pR (some a0)), (1, pI a1), (2, pR a2)] [] := by
  unfold fX3_indexOf_L92 at h
  refine g_aload_n X (pc := 92) 2 rfl rfl dX3_indexOf_92 ?_
  refine g_aload_n X (pc := 93) 0 rfl rfl dX3_indexOf_93 ?_
  obtain ⟨v1, ev1, h⟩ := bd h
  refine g_getI X (pc := 94) fk_3_1 rfl rfl ev1 tb_161 dX3_indexOf_94 ?_
  refine g_iload_n X (pc := 97) 1 rfl rfl dX3_indexOf_97 ?_
  refine g_aload_n X (pc := 98) 0 rfl rfl dX3_indexOf_98 ?_
  obtain ⟨v2, ev2, h⟩ := bd h
  refine g_getI X (pc := 99) fk_3_12 rfl rfl ev2 tb_186 dX3_indexOf_99 ?_
  refine g_aload_n X (pc := 102) 0 rfl rfl dX3_indexOf_102 ?_
  obtain ⟨v3, ev3, h⟩ := bd h
  refine g_getR X (pc := 103) fk_3_13 rfl rfl ev3 tb_187 dX3_indexOf_103 ?_
  obtain ⟨v4, ev4, h⟩ := bd h
  refine g_getI X (pc := 106) fk_10_1 rfl rfl ev4 tb_69 dX3_indexOf_106 ?_
  obtain ⟨q5, eq5, h⟩ := bd h
  obtain ⟨M6, eM6, h⟩ := bd h
  refine g_callV X (pc := 109) (M' := M6) (ro := none) (c := 2) rfl (by decide) (as := [pI v1, pI a1, pI v2, pI v4]) (as' := [pI v4, pI v2, pI a1, pI v1]) (st := []) eq5 (ctX2_begin _ _ _ _ _ _ fu q5 v1 a1 v2 v4 M _ eM6) tb_777 tb_774 tb_775 tb_776 tb_17 ⟨rfl, hyX2_begin⟩ rfl rfl ⟨by decide, by decide⟩ (Nat.le_of_ble_eq_true rfl) dX3_indexOf_109 ?_
  refine g_aload_n X (pc := 112) 0 rfl rfl dX3_indexOf_112 ?_
  refine g_dup X (pc := 113) rfl dX3_indexOf_113 ?_
  obtain ⟨v7, ev7, h⟩ := bd h
  refine g_getI X (pc := 114) fk_3_16 rfl rfl ev7 tb_190 dX3_indexOf_114 ?_
  refine g_iconst X (pc := 117) (v := 1) dX3_indexOf_117 (by decide) ?_
  refine g_iadd X (pc := 118) dX3_indexOf_118 ?_
  obtain ⟨M8, eM8, h⟩ := bd h
  refine g_putI X (pc := 119) fk_3_16 rfl rfl rfl eM8 tb_190 (Or.inl rfl) dX3_indexOf_119 ?_
  refine g_aload_n X (pc := 122) 0 rfl rfl dX3_indexOf_122 ?_
  obtain ⟨v9, ev9, h⟩ := bd h
  refine g_getI X (pc := 123) fk_3_16 rfl rfl ev9 tb_190 dX3_indexOf_123 ?_
  refine g_iconst X (pc := 126) (v := 1) dX3_indexOf_126 (by decide) ?_
  refine g_isub X (pc := 127) dX3_indexOf_127 ?_
  obtain rfl := Option.some.inj h
  exact g_ireturn X hE dX3_indexOf_128
theorem wX3_indexOf_L50 {x : GX} {n0 sl0 : Nat} (X : Cx x cX3_indexOf RX3 (some .int) n0 sl0 2 47) {out : Int32 × Mm} (hE : Ends x n0 sl0 (some (pI out.1)) out.2) (hn : xn x = 4) (fu : Nat)   (a0 : Nat) (a1 : Int32)  (M : Mm) (h : fX3_indexOf_L50 fu  a0 a1 M = some out) : Gw x M 50 [(0, pR (some a0)), (1, pI a1)] [] := by
  unfold fX3_indexOf_L50 at h
  refine g_aload_n X (pc := 50) 0 rfl rfl dX3_indexOf_50 ?_
  obtain ⟨v1, ev1, h⟩ := bd h
  refine g_getI X (pc := 51) fk_3_16 rfl rfl ev1 tb_190 dX3_indexOf_51 ?_
  refine g_iconst X (pc := 54) (v := 4) dX3_indexOf_54 (by decide) ?_
  refine g_icmp_lt X (pc := 55) (tgt := 60) dX3_indexOf_55 (by decide) (fun hc => ?_) (fun hc => ?_)
  · have h := (if_pos hc).symm.trans h
    refine g_aload_n X (pc := 60) 0 rfl rfl dX3_indexOf_60 ?_
    obtain ⟨v2, ev2, h⟩ := bd h
    refine g_getR X (pc := 61) fk_3_15 rfl rfl ev2 tb_189 dX3_indexOf_61 ?_
    refine g_aload_n X (pc := 64) 0 rfl rfl dX3_indexOf_64 ?_
    obtain ⟨v3, ev3, h⟩ := bd h
    refine g_getI X (pc := 65) fk_3_16 rfl rfl ev3 tb_190 dX3_indexOf_65 ?_
    obtain ⟨v4, ev4, h⟩ := bd h
    refine g_aaload X (pc := 68) (k := 4) rfl rfl (by decide) ev4 dX3_indexOf_68 ?_
    refine g_astore_n X (pc := 69) [(2, pR v4), (0, pR (some a0)), (1, pI a1)] rfl (lt_n hn (by decide)) rfl dX3_indexOf_69 ?_
    refine g_aload_n X (pc := 70) 0 rfl rfl dX3_indexOf_70 ?_
    refine g_ifnonnull X (pc := 71) (tgt := 92) dX3_indexOf_71 (by decide) (fun hc => ?_) (fun hc => ?_)
    · have h := (if_neg hc).symm.trans h
      refine g_sub [1, 2, 0] [(0, pR (some a0)), (1, pI a1), (2, pR v4)] rfl ?_
      exact wX3_indexOf_L92 X hE hn fu   a0 a1 v4 M h
    · have h := (if_pos hc).symm.trans h
      obtain ⟨v5, M6, eM6, h⟩ := b2d h
      refine g_new X (pc := 74) fk_2_0 dvX2 eM6 tb_156 tb_738 tb_17 dX3_indexOf_74 ?_
      refine g_dup X (pc := 77) rfl dX3_indexOf_77 ?_
      obtain ⟨M7, eM7, h⟩ := bd h
      refine g_callI X (pc := 78) (M' := M7) (as := []) (as' := []) (st := [pR (some v5)]) (ctX2_init _ _ _ _ _ _ fu v5  M6 _ eM7) tb_741 tb_739 tb_740 tb_17 rfl hyX2_init rfl rfl ⟨by decide, by decide⟩ (Nat.le_of_ble_eq_true rfl) dX3_indexOf_78 ?_
      refine g_astore_n X (pc := 81) [(2, pR (some v5)), (0, pR (some a0)), (1, pI a1)] rfl (lt_n hn (by decide)) rfl dX3_indexOf_81 ?_
      refine g_aload_n X (pc := 82) 1 rfl rfl dX3_indexOf_82 ?_
      obtain ⟨v8, ev8, h⟩ := bd h
      refine g_getR X (pc := 83) fk_3_15 rfl rfl ev8 tb_189 dX3_indexOf_83 ?_
      refine g_aload_n X (pc := 86) 1 rfl rfl dX3_indexOf_86 ?_
      obtain ⟨v9, ev9, h⟩ := bd h
      refine g_getI X (pc := 87) fk_3_16 rfl rfl ev9 tb_190 dX3_indexOf_87 ?_
      refine g_aload_n X (pc := 90) 0 rfl rfl dX3_indexOf_90 ?_
      obtain ⟨M10, eM10, h⟩ := bd h
      refine g_aastore X (pc := 91) (c := 2) (k := 4) rfl (by decide) rfl eM10 dX3_indexOf_91 ?_
      refine g_sub [1, 2, 0] [(0, pR (some a0)), (1, pI a1), (2, pR (some v5))] rfl ?_
      exact wX3_indexOf_L92 X hE hn fu   a0 a1 (some v5) M10 h
  · have h := (if_neg hc).symm.trans h
    refine g_iconst X (pc := 58) (v := (-1)) dX3_indexOf_58 (by decide) ?_
    obtain rfl := Option.some.inj h
    exact g_ireturn X hE dX3_indexOf_59
theorem wX3_indexOf_L44 {x : GX} {n0 sl0 : Nat} (X : Cx x cX3_indexOf RX3 (some .int) n0 sl0 2 47) {out : Int32 × Mm} (hE : Ends x n0 sl0 (some (pI out.1)) out.2) (hn : xn x = 4) (fu : Nat) (k2 : Nat → Int32 → Int32 → Mm → Option (Int32 × Mm)) (hk2 : ∀ (b0 : Nat) (b1 : Int32) (b2 : Int32)  (M : Mm), k2 b0 b1 b2 M = some out → Gw x M 2 [(0, pR (some b0)), (1, pI b1), (2, pI b2)] []) (a0 : Nat) (a1 : Int32) (a2 : Int32)  (M : Mm) (h : fX3_indexOf_L44 fu k2 a0 a1 a2 M = some out) : Gw x M 44 [(0, pR (some a0)), (1, pI a1), (2, pI a2)] [] := by
  unfold fX3_indexOf_L44 at h
  refine g_iinc X (pc := 44) 2 [(2, pI (a2 + (1 : Int32))), (0, pR (some a0)), (1, pI a1)] rfl (iinc_e (by decide)) (lt_n hn (by decide)) rfl dX3_indexOf_44 ?_
  refine g_goto X (pc := 47) (tgt := 2) dX3_indexOf_47 (by decide) ?_
  refine g_sub [1, 2, 0] [(0, pR (some a0)), (1, pI a1), (2, pI (a2 + (1 : Int32)))] rfl ?_
  exact hk2 a0 a1 (a2 + (1 : Int32)) M h
theorem wX3_indexOf_L2 {x : GX} {n0 sl0 : Nat} (X : Cx x cX3_indexOf RX3 (some .int) n0 sl0 2 47) {out : Int32 × Mm} (hE : Ends x n0 sl0 (some (pI out.1)) out.2) (hn : xn x = 4) (fu : Nat)   : ∀ (n : Nat) (a0 : Nat) (a1 : Int32) (a2 : Int32)  (M : Mm), fX3_indexOf_L2 fu  n a0 a1 a2 M = some out → Gw x M 2 [(0, pR (some a0)), (1, pI a1), (2, pI a2)] [] := by
  intro n
  induction n with
  | zero =>
    intro a0 a1 a2 M h
    have h : (none : Option (Int32 × Mm)) = some out := h
    cases h
  | succ n ih =>
    intro a0 a1 a2 M h
    rw [fX3_indexOf_L2] at h
    refine g_iload_n X (pc := 2) 2 rfl rfl dX3_indexOf_2 ?_
    refine g_aload_n X (pc := 3) 0 rfl rfl dX3_indexOf_3 ?_
    obtain ⟨v1, ev1, h⟩ := bd h
    refine g_getI X (pc := 4) fk_3_16 rfl rfl ev1 tb_190 dX3_indexOf_4 ?_
    refine g_icmp_ge X (pc := 7) (tgt := 50) dX3_indexOf_7 (by decide) (fun hc => ?_) (fun hc => ?_)
    · have h := (if_pos hc).symm.trans h
      refine g_sub [0, 1] [(0, pR (some a0)), (1, pI a1)] rfl ?_
      exact wX3_indexOf_L50 X hE hn fu   a0 a1 M h
    · have h := (if_neg hc).symm.trans h
      refine g_iload_n X (pc := 10) 2 rfl rfl dX3_indexOf_10 ?_
      refine g_iconst X (pc := 11) (v := 4) dX3_indexOf_11 (by decide) ?_
      refine g_icmp_ge X (pc := 12) (tgt := 50) dX3_indexOf_12 (by decide) (fun hc => ?_) (fun hc => ?_)
      · have h := (if_pos hc).symm.trans h
        refine g_sub [0, 1] [(0, pR (some a0)), (1, pI a1)] rfl ?_
        exact wX3_indexOf_L50 X hE hn fu   a0 a1 M h
      · have h := (if_neg hc).symm.trans h
        refine g_aload_n X (pc := 15) 0 rfl rfl dX3_indexOf_15 ?_
        obtain ⟨v2, ev2, h⟩ := bd h
        refine g_getR X (pc := 16) fk_3_15 rfl rfl ev2 tb_189 dX3_indexOf_16 ?_
        refine g_iload_n X (pc := 19) 2 rfl rfl dX3_indexOf_19 ?_
        obtain ⟨v3, ev3, h⟩ := bd h
        refine g_aaload X (pc := 20) (k := 4) rfl rfl (by decide) ev3 dX3_indexOf_20 ?_
        refine g_astore_n X (pc := 21) [(3, pR v3), (0, pR (some a0)), (1, pI a1), (2, pI a2)] rfl (lt_n hn (by decide)) rfl dX3_indexOf_21 ?_
        refine g_aload_n X (pc := 22) 0 rfl rfl dX3_indexOf_22 ?_
        refine g_ifnull X (pc := 23) (tgt := 44) dX3_indexOf_23 (by decide) (fun hc => ?_) (fun hc => ?_)
        · have h := (if_pos hc).symm.trans h
          refine g_sub [1, 2, 3] [(0, pR (some a0)), (1, pI a1), (2, pI a2)] rfl ?_
          exact wX3_indexOf_L44 X hE hn fu (fun b0 b1 b2 M => fX3_indexOf_L2 fu  n b0 b1 b2 M) ih a0 a1 a2 M h
        · have h := (if_neg hc).symm.trans h
          refine g_aload_n X (pc := 26) 0 rfl rfl dX3_indexOf_26 ?_
          refine g_aload_n X (pc := 27) 1 rfl rfl dX3_indexOf_27 ?_
          obtain ⟨v4, ev4, h⟩ := bd h
          refine g_getI X (pc := 28) fk_3_1 rfl rfl ev4 tb_161 dX3_indexOf_28 ?_
          refine g_iload_n X (pc := 31) 2 rfl rfl dX3_indexOf_31 ?_
          refine g_aload_n X (pc := 32) 1 rfl rfl dX3_indexOf_32 ?_
          obtain ⟨v5, ev5, h⟩ := bd h
          refine g_getI X (pc := 33) fk_3_12 rfl rfl ev5 tb_186 dX3_indexOf_33 ?_
          obtain ⟨q6, eq6, h⟩ := bd h
          obtain ⟨v8, M7, eM7, h⟩ := b2d h
          refine g_callV X (pc := 36) (M' := M7) (ro := some (pI v8)) (c := 2) rfl (by decide) (as := [pI v4, pI a1, pI v5]) (as' := [pI v5, pI a1, pI v4]) (st := []) eq6 (ctX2_isOf _ _ _ _ _ _ fu q6 v4 a1 v5 M _ eM7) tb_737 tb_734 tb_735 tb_736 tb_17 ⟨rfl, hyX2_isOf⟩ rfl rfl ⟨by decide, by decide⟩ (Nat.le_of_ble_eq_true rfl) dX3_indexOf_36 ?_
          refine g_if_eq X (pc := 39) (tgt := 44) dX3_indexOf_39 (by decide) (fun hc => ?_) (fun hc => ?_)
          · have h := (if_pos hc).symm.trans h
            refine g_sub [1, 2, 3] [(0, pR (some a0)), (1, pI a1), (2, pI a2)] rfl ?_
            exact wX3_indexOf_L44 X hE hn fu (fun b0 b1 b2 M => fX3_indexOf_L2 fu  n b0 b1 b2 M) ih a0 a1 a2 M7 h
          · have h := (if_neg hc).symm.trans h
            refine g_iload_n X (pc := 42) 3 rfl rfl dX3_indexOf_42 ?_
            obtain rfl := Option.some.inj h
            exact g_ireturn X hE dX3_indexOf_43
theorem wX3_indexOf {x : GX} {n0 sl0 : Nat} (X : Cx x cX3_indexOf RX3 (some .int) n0 sl0 2 47) {out : Int32 × Mm} (hE : Ends x n0 sl0 (some (pI out.1)) out.2) (hn : xn x = 4) (fu : Nat)   (a0 : Nat) (a1 : Int32)  (M : Mm) (h : fX3_indexOf fu  a0 a1 M = some out) : Gw x M 0 [(0, pR (some a0)), (1, pI a1)] [] := by
  unfold fX3_indexOf at h
  refine g_iconst X (pc := 0) (v := 0) dX3_indexOf_0 (by decide) ?_
  refine g_istore_n X (pc := 1) [(2, pI (0 : Int32)), (0, pR (some a0)), (1, pI a1)] rfl (lt_n hn (by decide)) rfl dX3_indexOf_1 ?_
  refine g_sub [1, 2, 0] [(0, pR (some a0)), (1, pI a1), (2, pI (0 : Int32))] rfl ?_
  exact wX3_indexOf_L2 X hE hn fu   fu a0 a1 (0 : Int32) M h
theorem hyX3_indexOf : yX3_indexOf.cls ≠ "java/lang/invoke/MethodHandle" ∧ yX3_indexOf.cls ≠ "java/lang/invoke/VarHandle" ∧ (parseMethodDescriptor yX3_indexOf.desc).map (fun d => d.parameters.length) = some 1 := ⟨by decide +kernel, by decide +kernel, by decide +kernel⟩
theorem ctX3_indexOf (l : Launch) (E : Nat → Nat) (D : va_G) (dA : Nat → ClassId) (lo : Nat) (H0 : Heap) (fu : Nat) (a0 : Nat) (a1 : Int32) (M : Mm) (out : Int32 × Mm) (h : fX3_indexOf fu a0 a1 M = some out) : Ct l E D dA lo H0 yX3_indexOf cX3_indexOf 4 (some .int) 2 47 [pR (some a0), pI a1] M (some (pI out.1)) out.2 := by
  refine ct_of (by decide +kernel) (Nat.le_of_ble_eq_true rfl) ?_
  intro x hl he hd ha ho hh hn hin X hE
  exact wX3_indexOf X hE hn fu a0 a1 M h
/-! WebHost$Intake.dropDatagram(I)V -/
def fX3_dropDatagram_L59 (fu : Nat)  (a0 : Nat) (a2 : Option Nat)  (M : Mm) : Option (Mm) :=
    (gI M 3 208 (some a0)).bind fun v1 =>
    (pF M 3 208 (some a0) (v1 - (1 : Int32))).bind fun M2 =>
    (gR M2 3 207 (some a0)).bind fun v3 =>
    (gI M2 3 208 (some a0)).bind fun v4 =>
    (pB M2 2 v3 v4 a2).bind fun M5 =>
    some M5
def fX3_dropDatagram_L22 (fu : Nat)  : Nat → Nat → Option Nat → Int32 → Mm → Option (Mm)
  | 0, _, _, _, _ => none
  | n + 1, a0, a2, a3, M =>
    (gI M 3 208 (some a0)).bind fun v1 =>
    if v1 ≤ (a3 + (1 : Int32)) then (
    fX3_dropDatagram_L59 fu  a0 a2 M)
    else (
    if (4 : Int32) ≤ (a3 + (1 : Int32)) then (
    fX3_dropDatagram_L59 fu  a0 a2 M)
    else (
    (gR M 3 207 (some a0)).bind fun v2 =>
    (gR M 3 207 (some a0)).bind fun v3 =>
    (gB M 112 v3 (a3 + (1 : Int32))).bind fun v4 =>
    (pB M 2 v2 a3 v4).bind fun M5 =>
    fX3_dropDatagram_L22 fu  n a0 a2 (a3 + (1 : Int32)) M5))
def fX3_dropDatagram (fu : Nat)  (a0 : Nat) (a1 : Int32)  (M : Mm) : Option (Mm) :=
    if a1 < 0 then (
    some M)
    else (
    (gI M 3 208 (some a0)).bind fun v1 =>
    if a1 < v1 then (
    (gR M 3 207 (some a0)).bind fun v2 =>
    (gB M 112 v2 a1).bind fun v3 =>
    fX3_dropDatagram_L22 fu  fu a0 v3 a1 M)
    else (
    some M))
theorem dX3_dropDatagram_0 : decode cX3_dropDatagram 0 = .ok (.iload_n 1, 1) := by decide +kernel
theorem dX3_dropDatagram_1 : decode cX3_dropDatagram 1 = .ok (.ifCond .lt 11, 3) := by decide +kernel
theorem dX3_dropDatagram_4 : decode cX3_dropDatagram 4 = .ok (.iload_n 1, 1) := by decide +kernel
theorem dX3_dropDatagram_5 : decode cX3_dropDatagram 5 = .ok (.aload_n 0, 1) := by decide +kernel
theorem dX3_dropDatagram_6 : decode cX3_dropDatagram 6 = .ok (.getfield 29, 3) := by decide +kernel
theorem dX3_dropDatagram_9 : decode cX3_dropDatagram 9 = .ok (.if_icmp .lt 4, 3) := by decide +kernel
theorem dX3_dropDatagram_12 : decode cX3_dropDatagram 12 = .ok (.return_, 1) := by decide +kernel
theorem dX3_dropDatagram_13 : decode cX3_dropDatagram 13 = .ok (.aload_n 0, 1) := by decide +kernel
theorem dX3_dropDatagram_14 : decode cX3_dropDatagram 14 = .ok (.getfield 25, 3) := by decide +kernel
theorem dX3_dropDatagram_17 : decode cX3_dropDatagram 17 = .ok (.iload_n 1, 1) := by decide +kernel
theorem dX3_dropDatagram_18 : decode cX3_dropDatagram 18 = .ok (.aaload, 1) := by decide +kernel
theorem dX3_dropDatagram_19 : decode cX3_dropDatagram 19 = .ok (.astore_n 2, 1) := by decide +kernel
theorem dX3_dropDatagram_20 : decode cX3_dropDatagram 20 = .ok (.iload_n 1, 1) := by decide +kernel
theorem dX3_dropDatagram_21 : decode cX3_dropDatagram 21 = .ok (.istore_n 3, 1) := by decide +kernel
theorem dX3_dropDatagram_22 : decode cX3_dropDatagram 22 = .ok (.iload_n 3, 1) := by decide +kernel
theorem dX3_dropDatagram_23 : decode cX3_dropDatagram 23 = .ok (.iconst 1, 1) := by decide +kernel
theorem dX3_dropDatagram_24 : decode cX3_dropDatagram 24 = .ok (.iadd, 1) := by decide +kernel
theorem dX3_dropDatagram_25 : decode cX3_dropDatagram 25 = .ok (.aload_n 0, 1) := by decide +kernel
theorem dX3_dropDatagram_26 : decode cX3_dropDatagram 26 = .ok (.getfield 29, 3) := by decide +kernel
theorem dX3_dropDatagram_29 : decode cX3_dropDatagram 29 = .ok (.if_icmp .ge 30, 3) := by decide +kernel
theorem dX3_dropDatagram_32 : decode cX3_dropDatagram 32 = .ok (.iload_n 3, 1) := by decide +kernel
theorem dX3_dropDatagram_33 : decode cX3_dropDatagram 33 = .ok (.iconst 1, 1) := by decide +kernel
theorem dX3_dropDatagram_34 : decode cX3_dropDatagram 34 = .ok (.iadd, 1) := by decide +kernel
theorem dX3_dropDatagram_35 : decode cX3_dropDatagram 35 = .ok (.iconst 4, 1) := by decide +kernel
theorem dX3_dropDatagram_36 : decode cX3_dropDatagram 36 = .ok (.if_icmp .ge 23, 3) := by decide +kernel
theorem dX3_dropDatagram_39 : decode cX3_dropDatagram 39 = .ok (.aload_n 0, 1) := by decide +kernel
theorem dX3_dropDatagram_40 : decode cX3_dropDatagram 40 = .ok (.getfield 25, 3) := by decide +kernel
theorem dX3_dropDatagram_43 : decode cX3_dropDatagram 43 = .ok (.iload_n 3, 1) := by decide +kernel
theorem dX3_dropDatagram_44 : decode cX3_dropDatagram 44 = .ok (.aload_n 0, 1) := by decide +kernel
theorem dX3_dropDatagram_45 : decode cX3_dropDatagram 45 = .ok (.getfield 25, 3) := by decide +kernel
theorem dX3_dropDatagram_48 : decode cX3_dropDatagram 48 = .ok (.iload_n 3, 1) := by decide +kernel
theorem dX3_dropDatagram_49 : decode cX3_dropDatagram 49 = .ok (.iconst 1, 1) := by decide +kernel
theorem dX3_dropDatagram_50 : decode cX3_dropDatagram 50 = .ok (.iadd, 1) := by decide +kernel
theorem dX3_dropDatagram_51 : decode cX3_dropDatagram 51 = .ok (.aaload, 1) := by decide +kernel
theorem dX3_dropDatagram_52 : decode cX3_dropDatagram 52 = .ok (.aastore, 1) := by decide +kernel
theorem dX3_dropDatagram_53 : decode cX3_dropDatagram 53 = .ok (.iinc 3 1, 3) := by decide +kernel
theorem dX3_dropDatagram_56 : decode cX3_dropDatagram 56 = .ok (.goto (-34), 3) := by decide +kernel
theorem dX3_dropDatagram_59 : decode cX3_dropDatagram 59 = .ok (.aload_n 0, 1) := by decide +kernel
theorem dX3_dropDatagram_60 : decode cX3_dropDatagram 60 = .ok (.dup, 1) := by decide +kernel
theorem dX3_dropDatagram_61 : decode cX3_dropDatagram 61 = .ok (.getfield 29, 3) := by decide +kernel
theorem dX3_dropDatagram_64 : decode cX3_dropDatagram 64 = .ok (.iconst 1, 1) := by decide +kernel
theorem dX3_dropDatagram_65 : decode cX3_dropDatagram 65 = .ok (.isub, 1) := by decide +kernel
theorem dX3_dropDatagram_66 : decode cX3_dropDatagram 66 = .ok (.putfield 29, 3) := by decide +kernel
theorem dX3_dropDatagram_69 : decode cX3_dropDatagram 69 = .ok (.aload_n 0, 1) := by decide +kernel
theorem dX3_dropDatagram_70 : decode cX3_dropDatagram 70 = .ok (.getfield 25, 3) := by decide +kernel
theorem dX3_dropDatagram_73 : decode cX3_dropDatagram 73 = .ok (.aload_n 0, 1) := by decide +kernel
theorem dX3_dropDatagram_74 : decode cX3_dropDatagram 74 = .ok (.getfield 29, 3) := by decide +kernel
theorem dX3_dropDatagram_77 : decode cX3_dropDatagram 77 = .ok (.aload_n 2, 1) := by decide +kernel
theorem dX3_dropDatagram_78 : decode cX3_dropDatagram 78 = .ok (.aastore, 1) := by decide +kernel
theorem dX3_dropDatagram_79 : decode cX3_dropDatagram 79 = .ok (.return_, 1) := by decide +kernel
theorem wX3_dropDatagram_L59 {x : GX} {n0 sl0 : Nat} (X : Cx x cX3_dropDatagram RX3 none n0 sl0 0 0) {out : Mm} (hE : Ends x n0 sl0 none out) (hn : xn x = 4) (fu : Nat)   (a0 : Nat) (a2 : Option Nat)  (M : Mm) (h : fX3_dropDatagram_L59 fu  a0 a2 M = some out) : Gw x M 59 [(0, pR (some a0)), (2, pR a2)] [] := by
  unfold fX3_dropDatagram_L59 at h
  refine g_aload_n X (pc := 59) 0 rfl rfl dX3_dropDatagram_59 ?_
  refine g_dup X (pc := 60) rfl dX3_dropDatagram_60 ?_
  obtain ⟨v1, ev1, h⟩ := bd h
  refine g_getI X (pc := 61) fk_3_16 rfl rfl ev1 tb_190 dX3_dropDatagram_61 ?_
  refine g_iconst X (pc := 64) (v := 1) dX3_dropDatagram_64 (by decide) ?_
  refine g_isub X (pc := 65) dX3_dropDatagram_65 ?_
  obtain ⟨M2, eM2, h⟩ := bd h
  refine g_putI X (pc := 66) fk_3_16 rfl rfl rfl eM2 tb_190 (Or.inl rfl) dX3_dropDatagram_66 ?_
  refine g_aload_n X (pc := 69) 0 rfl rfl dX3_dropDatagram_69 ?_
  obtain ⟨v3, ev3, h⟩ := bd h
  refine g_getR X (pc := 70) fk_3_15 rfl rfl ev3 tb_189 dX3_dropDatagram_70 ?_
  refine g_aload_n X (pc := 73) 0 rfl rfl dX3_dropDatagram_73 ?_
  obtain ⟨v4, ev4, h⟩ := bd h
  refine g_getI X (pc := 74) fk_3_16 rfl rfl ev4 tb_190 dX3_dropDatagram_74 ?_
  refine g_aload_n X (pc := 77) 1 rfl rfl dX3_dropDatagram_77 ?_
  obtain ⟨M5, eM5, h⟩ := bd h
  refine g_aastore X (pc := 78) (c := 2) (k := 4) rfl (by decide) rfl eM5 dX3_dropDatagram_78 ?_
  obtain rfl := Option.some.inj h
  exact g_return X hE dX3_dropDatagram_79
theorem wX3_dropDatagram_L22 {x : GX} {n0 sl0 : Nat} (X : Cx x cX3_dropDatagram RX3 none n0 sl0 0 0) {out : Mm} (hE : Ends x n0 sl0 none out) (hn : xn x = 4) (fu : Nat)   : ∀ (n : Nat) (a0 : Nat) (a2 : Option Nat) (a3 : Int32)  (M : Mm), fX3_dropDatagram_L22 fu  n a0 a2 a3 M = some out → Gw x M 22 [(0, pR (some a0)), (2, pR a2), (3, pI a3)] [] := by
  intro n
  induction n with
  | zero =>
    intro a0 a2 a3 M h
    have h : (none : Option (Mm)) = some out := h
    cases h
  | succ n ih =>
    intro a0 a2 a3 M h
    rw [fX3_dropDatagram_L22] at h
    refine g_iload_n X (pc := 22) 2 rfl rfl dX3_dropDatagram_22 ?_
    refine g_iconst X (pc := 23) (v := 1) dX3_dropDatagram_23 (by decide) ?_
    refine g_iadd X (pc := 24) dX3_dropDatagram_24 ?_
    refine g_aload_n X (pc := 25) 0 rfl rfl dX3_dropDatagram_25 ?_
    obtain ⟨v1, ev1, h⟩ := bd h
    refine g_getI X (pc := 26) fk_3_16 rfl rfl ev1 tb_190 dX3_dropDatagram_26 ?_
    refine g_icmp_ge X (pc := 29) (tgt := 59) dX3_dropDatagram_29 (by decide) (fun hc => ?_) (fun hc => ?_)
    · have h := (if_pos hc).symm.trans h
      refine g_sub [0, 1] [(0, pR (some a0)), (2, pR a2)] rfl ?_
      exact wX3_dropDatagram_L59 X hE hn fu   a0 a2 M h
    · have h := (if_neg hc).symm.trans h
      refine g_iload_n X (pc := 32) 2 rfl rfl dX3_dropDatagram_32 ?_
      refine g_iconst X (pc := 33) (v := 1) dX3_dropDatagram_33 (by decide) ?_
      refine g_iadd X (pc := 34) dX3_dropDatagram_34 ?_
      refine g_iconst X (pc := 35) (v := 4) dX3_dropDatagram_35 (by decide) ?_
      refine g_icmp_ge X (pc := 36) (tgt := 59) dX3_dropDatagram_36 (by decide) (fun hc => ?_) (fun hc => ?_)
      · have h := (if_pos hc).symm.trans h
        refine g_sub [0, 1] [(0, pR (some a0)), (2, pR a2)] rfl ?_
        exact wX3_dropDatagram_L59 X hE hn fu   a0 a2 M h
      · have h := (if_neg hc).symm.trans h
        refine g_aload_n X (pc := 39) 0 rfl rfl dX3_dropDatagram_39 ?_
        obtain ⟨v2, ev2, h⟩ := bd h
        refine g_getR X (pc := 40) fk_3_15 rfl rfl ev2 tb_189 dX3_dropDatagram_40 ?_
        refine g_iload_n X (pc := 43) 2 rfl rfl dX3_dropDatagram_43 ?_
        refine g_aload_n X (pc := 44) 0 rfl rfl dX3_dropDatagram_44 ?_
        obtain ⟨v3, ev3, h⟩ := bd h
        refine g_getR X (pc := 45) fk_3_15 rfl rfl ev3 tb_189 dX3_dropDatagram_45 ?_
        refine g_iload_n X (pc := 48) 2 rfl rfl dX3_dropDatagram_48 ?_
        refine g_iconst X (pc := 49) (v := 1) dX3_dropDatagram_49 (by decide) ?_
        refine g_iadd X (pc := 50) dX3_dropDatagram_50 ?_
        obtain ⟨v4, ev4, h⟩ := bd h
        refine g_aaload X (pc := 51) (k := 4) rfl rfl (by decide) ev4 dX3_dropDatagram_51 ?_
        obtain ⟨M5, eM5, h⟩ := bd h
        refine g_aastore X (pc := 52) (c := 2) (k := 4) rfl (by decide) rfl eM5 dX3_dropDatagram_52 ?_
        refine g_iinc X (pc := 53) 2 [(3, pI (a3 + (1 : Int32))), (0, pR (some a0)), (2, pR a2)] rfl (iinc_e (by decide)) (lt_n hn (by decide)) rfl dX3_dropDatagram_53 ?_
        refine g_goto X (pc := 56) (tgt := 22) dX3_dropDatagram_56 (by decide) ?_
        refine g_sub [1, 2, 0] [(0, pR (some a0)), (2, pR a2), (3, pI (a3 + (1 : Int32)))] rfl ?_
        exact ih a0 a2 (a3 + (1 : Int32)) M5 h
theorem wX3_dropDatagram {x : GX} {n0 sl0 : Nat} (X : Cx x cX3_dropDatagram RX3 none n0 sl0 0 0) {out : Mm} (hE : Ends x n0 sl0 none out) (hn : xn x = 4) (fu : Nat)   (a0 : Nat) (a1 : Int32)  (M : Mm) (h : fX3_dropDatagram fu  a0 a1 M = some out) : Gw x M 0 [(0, pR (some a0)), (1, pI a1)] [] := by
  unfold fX3_dropDatagram at h
  refine g_iload_n X (pc := 0) 1 rfl rfl dX3_dropDatagram_0 ?_
  refine g_if_lt X (pc := 1) (tgt := 12) dX3_dropDatagram_1 (by decide) (fun hc => ?_) (fun hc => ?_)
  · have h := (if_pos hc).symm.trans h
    obtain rfl := Option.some.inj h
    exact g_return X hE dX3_dropDatagram_12
  · have h := (if_neg hc).symm.trans h
    refine g_iload_n X (pc := 4) 1 rfl rfl dX3_dropDatagram_4 ?_
    refine g_aload_n X (pc := 5) 0 rfl rfl dX3_dropDatagram_5 ?_
    obtain ⟨v1, ev1, h⟩ := bd h
    refine g_getI X (pc := 6) fk_3_16 rfl rfl ev1 tb_190 dX3_dropDatagram_6 ?_
    refine g_icmp_lt X (pc := 9) (tgt := 13) dX3_dropDatagram_9 (by decide) (fun hc => ?_) (fun hc => ?_)
    · have h := (if_pos hc).symm.trans h
      refine g_aload_n X (pc := 13) 0 rfl rfl dX3_dropDatagram_13 ?_
      obtain ⟨v2, ev2, h⟩ := bd h
      refine g_getR X (pc := 14) fk_3_15 rfl rfl ev2 tb_189 dX3_dropDatagram_14 ?_
      refine g_iload_n X (pc := 17) 1 rfl rfl dX3_dropDatagram_17 ?_
      obtain ⟨v3, ev3, h⟩ := bd h
      refine g_aaload X (pc := 18) (k := 4) rfl rfl (by decide) ev3 dX3_dropDatagram_18 ?_
      refine g_astore_n X (pc := 19) [(2, pR v3), (0, pR (some a0)), (1, pI a1)] rfl (lt_n hn (by decide)) rfl dX3_dropDatagram_19 ?_
      refine g_iload_n X (pc := 20) 2 rfl rfl dX3_dropDatagram_20 ?_
      refine g_istore_n X (pc := 21) [(3, pI a1), (2, pR v3), (0, pR (some a0)), (1, pI a1)] rfl (lt_n hn (by decide)) rfl dX3_dropDatagram_21 ?_
      refine g_sub [2, 1, 0] [(0, pR (some a0)), (2, pR v3), (3, pI a1)] rfl ?_
      exact wX3_dropDatagram_L22 X hE hn fu   fu a0 v3 a1 M h
    · have h := (if_neg hc).symm.trans h
      obtain rfl := Option.some.inj h
      exact g_return X hE dX3_dropDatagram_12
theorem hyX3_dropDatagram : yX3_dropDatagram.cls ≠ "java/lang/invoke/MethodHandle" ∧ yX3_dropDatagram.cls ≠ "java/lang/invoke/VarHandle" ∧ (parseMethodDescriptor yX3_dropDatagram.desc).map (fun d => d.parameters.length) = some 1 := ⟨by decide +kernel, by decide +kernel, by decide +kernel⟩
theorem ctX3_dropDatagram (l : Launch) (E : Nat → Nat) (D : va_G) (dA : Nat → ClassId) (lo : Nat) (H0 : Heap) (fu : Nat) (a0 : Nat) (a1 : Int32) (M : Mm) (out : Mm) (h : fX3_dropDatagram fu a0 a1 M = some out) : Ct l E D dA lo H0 yX3_dropDatagram cX3_dropDatagram 4 none 0 0 [pR (some a0), pI a1] M none out := by
  refine ct_of (by decide +kernel) (Nat.le_of_ble_eq_true rfl) ?_
  intro x hl he hd ha ho hh hn hin X hE
  exact wX3_dropDatagram X hE hn fu a0 a1 M h
