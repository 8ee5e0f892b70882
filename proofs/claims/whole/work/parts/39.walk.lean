/-! ===== walks of methods, printed by a program of ours ===== -/
/-! WebHostModel.optionMss()I -/
def fX16_optionMss_L116 (fu : Nat) (k3 : Nat → Int32 → Mm → Option (Int32 × Mm)) (a0 : Nat) (a1 : Int32)  (M : Mm) : Option (Int32 × Mm) :=
    k3 a0 a1 M
def fX16_optionMss_L112 (fu : Nat) (k3 : Nat → Int32 → Mm → Option (Int32 × Mm)) (a0 : Nat) (a1 : Int32) (a3 : Int32)  (M : Mm) : Option (Int32 × Mm) :=
    fX16_optionMss_L116 fu k3 a0 (a1 + a3) M
def fX16_optionMss_L3 (fu : Nat)  : Nat → Nat → Int32 → Mm → Option (Int32 × Mm)
  | 0, _, _, _ => none
  | n + 1, a0, a1, M =>
    (gI M 16 1064 (some a0)).bind fun v1 =>
    if v1 ≤ a1 then (
    some ((536 : Int32), M))
    else (
    (gR M 16 1053 (some a0)).bind fun v2 =>
    (gA M 100 v2 a1).bind fun v3 =>
    if v3 = 0 then (
    some ((536 : Int32), M))
    else (
    if v3 = (1 : Int32) then (
    fX16_optionMss_L116 fu (fun b0 b1 M => fX16_optionMss_L3 fu  n b0 b1 M) a0 (a1 + (1 : Int32)) M)
    else (
    (gI M 16 1064 (some a0)).bind fun v4 =>
    if (a1 + (1 : Int32)) < v4 then (
    (gR M 16 1053 (some a0)).bind fun v5 =>
    (gA M 100 v5 (a1 + (1 : Int32))).bind fun v6 =>
    if (v6 &&& (255 : Int32)) < (2 : Int32) then (
    some ((536 : Int32), M))
    else (
    (gI M 16 1064 (some a0)).bind fun v7 =>
    if (a1 + (v6 &&& (255 : Int32))) ≤ v7 then (
    if v3 = (2 : Int32) then (
    if (v6 &&& (255 : Int32)) = (4 : Int32) then (
    (rc M 16 (some a0)).bind fun q8 =>
    b2 (fX16_half fu q8 (a1 + (2 : Int32)) M) fun v10 M9 =>
    some ((jmax (64 : Int32) (jmin (1460 : Int32) v10)), M9))
    else (
    fX16_optionMss_L112 fu (fun b0 b1 M => fX16_optionMss_L3 fu  n b0 b1 M) a0 a1 (v6 &&& (255 : Int32)) M))
    else (
    fX16_optionMss_L112 fu (fun b0 b1 M => fX16_optionMss_L3 fu  n b0 b1 M) a0 a1 (v6 &&& (255 : Int32)) M))
    else (
    some ((536 : Int32), M))))
    else (
    some ((536 : Int32), M)))))
def fX16_optionMss (fu : Nat)  (a0 : Nat)  (M : Mm) : Option (Int32 × Mm) :=
    fX16_optionMss_L3 fu  fu a0 (20 : Int32) M
theorem dX16_optionMss_0 : decode cX16_optionMss 0 = .ok (.bipush 20, 2) := by decide +kernel
theorem dX16_optionMss_2 : decode cX16_optionMss 2 = .ok (.istore_n 1, 1) := by decide +kernel
theorem dX16_optionMss_3 : decode cX16_optionMss 3 = .ok (.iload_n 1, 1) := by decide +kernel
theorem dX16_optionMss_4 : decode cX16_optionMss 4 = .ok (.aload_n 0, 1) := by decide +kernel
theorem dX16_optionMss_5 : decode cX16_optionMss 5 = .ok (.getfield 282, 3) := by decide +kernel
theorem dX16_optionMss_8 : decode cX16_optionMss 8 = .ok (.if_icmp .ge 111, 3) := by decide +kernel
theorem dX16_optionMss_11 : decode cX16_optionMss 11 = .ok (.aload_n 0, 1) := by decide +kernel
theorem dX16_optionMss_12 : decode cX16_optionMss 12 = .ok (.getfield 65, 3) := by decide +kernel
theorem dX16_optionMss_15 : decode cX16_optionMss 15 = .ok (.iload_n 1, 1) := by decide +kernel
theorem dX16_optionMss_16 : decode cX16_optionMss 16 = .ok (.baload, 1) := by decide +kernel
theorem dX16_optionMss_17 : decode cX16_optionMss 17 = .ok (.istore_n 2, 1) := by decide +kernel
theorem dX16_optionMss_18 : decode cX16_optionMss 18 = .ok (.iload_n 2, 1) := by decide +kernel
theorem dX16_optionMss_19 : decode cX16_optionMss 19 = .ok (.ifCond .ne 7, 3) := by decide +kernel
theorem dX16_optionMss_22 : decode cX16_optionMss 22 = .ok (.sipush 536, 3) := by decide +kernel
theorem dX16_optionMss_25 : decode cX16_optionMss 25 = .ok (.ireturn, 1) := by decide +kernel
theorem dX16_optionMss_26 : decode cX16_optionMss 26 = .ok (.iload_n 2, 1) := by decide +kernel
theorem dX16_optionMss_27 : decode cX16_optionMss 27 = .ok (.iconst 1, 1) := by decide +kernel
theorem dX16_optionMss_28 : decode cX16_optionMss 28 = .ok (.if_icmp .ne 9, 3) := by decide +kernel
theorem dX16_optionMss_31 : decode cX16_optionMss 31 = .ok (.iinc 1 1, 3) := by decide +kernel
theorem dX16_optionMss_34 : decode cX16_optionMss 34 = .ok (.goto 82, 3) := by decide +kernel
theorem dX16_optionMss_37 : decode cX16_optionMss 37 = .ok (.iload_n 1, 1) := by decide +kernel
theorem dX16_optionMss_38 : decode cX16_optionMss 38 = .ok (.iconst 1, 1) := by decide +kernel
theorem dX16_optionMss_39 : decode cX16_optionMss 39 = .ok (.iadd, 1) := by decide +kernel
theorem dX16_optionMss_40 : decode cX16_optionMss 40 = .ok (.aload_n 0, 1) := by decide +kernel
theorem dX16_optionMss_41 : decode cX16_optionMss 41 = .ok (.getfield 282, 3) := by decide +kernel
theorem dX16_optionMss_44 : decode cX16_optionMss 44 = .ok (.if_icmp .lt 7, 3) := by decide +kernel
theorem dX16_optionMss_47 : decode cX16_optionMss 47 = .ok (.sipush 536, 3) := by decide +kernel
theorem dX16_optionMss_50 : decode cX16_optionMss 50 = .ok (.ireturn, 1) := by decide +kernel
theorem dX16_optionMss_51 : decode cX16_optionMss 51 = .ok (.aload_n 0, 1) := by decide +kernel
theorem dX16_optionMss_52 : decode cX16_optionMss 52 = .ok (.getfield 65, 3) := by decide +kernel
theorem dX16_optionMss_55 : decode cX16_optionMss 55 = .ok (.iload_n 1, 1) := by decide +kernel
theorem dX16_optionMss_56 : decode cX16_optionMss 56 = .ok (.iconst 1, 1) := by decide +kernel
theorem dX16_optionMss_57 : decode cX16_optionMss 57 = .ok (.iadd, 1) := by decide +kernel
theorem dX16_optionMss_58 : decode cX16_optionMss 58 = .ok (.baload, 1) := by decide +kernel
theorem dX16_optionMss_59 : decode cX16_optionMss 59 = .ok (.sipush 255, 3) := by decide +kernel
theorem dX16_optionMss_62 : decode cX16_optionMss 62 = .ok (.iand, 1) := by decide +kernel
theorem dX16_optionMss_63 : decode cX16_optionMss 63 = .ok (.istore_n 3, 1) := by decide +kernel
theorem dX16_optionMss_64 : decode cX16_optionMss 64 = .ok (.iload_n 3, 1) := by decide +kernel
theorem dX16_optionMss_65 : decode cX16_optionMss 65 = .ok (.iconst 2, 1) := by decide +kernel
theorem dX16_optionMss_66 : decode cX16_optionMss 66 = .ok (.if_icmp .lt 13, 3) := by decide +kernel
theorem dX16_optionMss_69 : decode cX16_optionMss 69 = .ok (.iload_n 1, 1) := by decide +kernel
theorem dX16_optionMss_70 : decode cX16_optionMss 70 = .ok (.iload_n 3, 1) := by decide +kernel
theorem dX16_optionMss_71 : decode cX16_optionMss 71 = .ok (.iadd, 1) := by decide +kernel
theorem dX16_optionMss_72 : decode cX16_optionMss 72 = .ok (.aload_n 0, 1) := by decide +kernel
theorem dX16_optionMss_73 : decode cX16_optionMss 73 = .ok (.getfield 282, 3) := by decide +kernel
theorem dX16_optionMss_76 : decode cX16_optionMss 76 = .ok (.if_icmp .le 7, 3) := by decide +kernel
theorem dX16_optionMss_79 : decode cX16_optionMss 79 = .ok (.sipush 536, 3) := by decide +kernel
theorem dX16_optionMss_82 : decode cX16_optionMss 82 = .ok (.ireturn, 1) := by decide +kernel
theorem dX16_optionMss_83 : decode cX16_optionMss 83 = .ok (.iload_n 2, 1) := by decide +kernel
theorem dX16_optionMss_84 : decode cX16_optionMss 84 = .ok (.iconst 2, 1) := by decide +kernel
theorem dX16_optionMss_85 : decode cX16_optionMss 85 = .ok (.if_icmp .ne 27, 3) := by decide +kernel
theorem dX16_optionMss_88 : decode cX16_optionMss 88 = .ok (.iload_n 3, 1) := by decide +kernel
theorem dX16_optionMss_89 : decode cX16_optionMss 89 = .ok (.iconst 4, 1) := by decide +kernel
theorem dX16_optionMss_90 : decode cX16_optionMss 90 = .ok (.if_icmp .ne 22, 3) := by decide +kernel
theorem dX16_optionMss_93 : decode cX16_optionMss 93 = .ok (.bipush 64, 2) := by decide +kernel
theorem dX16_optionMss_95 : decode cX16_optionMss 95 = .ok (.sipush 1460, 3) := by decide +kernel
theorem dX16_optionMss_98 : decode cX16_optionMss 98 = .ok (.aload_n 0, 1) := by decide +kernel
theorem dX16_optionMss_99 : decode cX16_optionMss 99 = .ok (.iload_n 1, 1) := by decide +kernel
theorem dX16_optionMss_100 : decode cX16_optionMss 100 = .ok (.iconst 2, 1) := by decide +kernel
theorem dX16_optionMss_101 : decode cX16_optionMss 101 = .ok (.iadd, 1) := by decide +kernel
theorem dX16_optionMss_102 : decode cX16_optionMss 102 = .ok (.invokevirtual 277, 3) := by decide +kernel
theorem dX16_optionMss_105 : decode cX16_optionMss 105 = .ok (.invokestatic 411, 3) := by decide +kernel
theorem dX16_optionMss_108 : decode cX16_optionMss 108 = .ok (.invokestatic 164, 3) := by decide +kernel
theorem dX16_optionMss_111 : decode cX16_optionMss 111 = .ok (.ireturn, 1) := by decide +kernel
theorem dX16_optionMss_112 : decode cX16_optionMss 112 = .ok (.iload_n 1, 1) := by decide +kernel
theorem dX16_optionMss_113 : decode cX16_optionMss 113 = .ok (.iload_n 3, 1) := by decide +kernel
theorem dX16_optionMss_114 : decode cX16_optionMss 114 = .ok (.iadd, 1) := by decide +kernel
theorem dX16_optionMss_115 : decode cX16_optionMss 115 = .ok (.istore_n 1, 1) := by decide +kernel
theorem dX16_optionMss_116 : decode cX16_optionMss 116 = .ok (.goto (-113), 3) := by decide +kernel
theorem dX16_optionMss_119 : decode cX16_optionMss 119 = .ok (.sipush 536, 3) := by decide +kernel
theorem dX16_optionMss_122 : decode cX16_optionMss 122 = .ok (.ireturn, 1) := by decide +kernel
theorem wX16_optionMss_L116 {x : GX} {n0 sl0 : Nat} (X : Cx x cX16_optionMss RX16 (some .int) n0 sl0 1 21) {out : Int32 × Mm} (hE : Ends x n0 sl0 (some (pI out.1)) out.2) (hn : xn x = 4) (fu : Nat) (k3 : Nat → Int32 → Mm → Option (Int32 × Mm)) (hk3 : ∀ (b0 : Nat) (b1 : Int32)  (M : Mm), k3 b0 b1 M = some out → Gw x M 3 [(0, pR (some b0)), (1, pI b1)] []) (a0 : Nat) (a1 : Int32)  (M : Mm) (h : fX16_optionMss_L116 fu k3 a0 a1 M = some out) : Gw x M 116 [(0, pR (some a0)), (1, pI a1)] [] := by
  unfold fX16_optionMss_L116 at h
  refine g_goto X (pc := 116) (tgt := 3) dX16_optionMss_116 (by decide) ?_
  exact hk3 a0 a1 M h
theorem wX16_optionMss_L112 {x : GX} {n0 sl0 : Nat} (X : Cx x cX16_optionMss RX16 (some .int) n0 sl0 1 21) {out : Int32 × Mm} (hE : Ends x n0 sl0 (some (pI out.1)) out.2) (hn : xn x = 4) (fu : Nat) (k3 : Nat → Int32 → Mm → Option (Int32 × Mm)) (hk3 : ∀ (b0 : Nat) (b1 : Int32)  (M : Mm), k3 b0 b1 M = some out → Gw x M 3 [(0, pR (some b0)), (1, pI b1)] []) (a0 : Nat) (a1 : Int32) (a3 : Int32)  (M : Mm) (h : fX16_optionMss_L112 fu k3 a0 a1 a3 M = some out) : Gw x M 112 [(0, pR (some a0)), (1, pI a1), (3, pI a3)] [] := by
  unfold fX16_optionMss_L112 at h
  refine g_iload_n X (pc := 112) 1 rfl rfl dX16_optionMss_112 ?_
  refine g_iload_n X (pc := 113) 2 rfl rfl dX16_optionMss_113 ?_
  refine g_iadd X (pc := 114) dX16_optionMss_114 ?_
  refine g_istore_n X (pc := 115) [(1, pI (a1 + a3)), (0, pR (some a0)), (3, pI a3)] rfl (lt_n hn (by decide)) rfl dX16_optionMss_115 ?_
  refine g_sub [1, 0] [(0, pR (some a0)), (1, pI (a1 + a3))] rfl ?_
  exact wX16_optionMss_L116 X hE hn fu k3 hk3 a0 (a1 + a3) M h
theorem wX16_optionMss_L3 {x : GX} {n0 sl0 : Nat} (X : Cx x cX16_optionMss RX16 (some .int) n0 sl0 1 21) {out : Int32 × Mm} (hE : Ends x n0 sl0 (some (pI out.1)) out.2) (hn : xn x = 4) (fu : Nat)   : ∀ (n : Nat) (a0 : Nat) (a1 : Int32)  (M : Mm), fX16_optionMss_L3 fu  n a0 a1 M = some out → Gw x M 3 [(0, pR (some a0)), (1, pI a1)] [] := by
  intro n
  induction n with
  | zero =>
    intro a0 a1 M h
    have h : (none : Option (Int32 × Mm)) = some out := h
    cases h
  | succ n ih =>
    intro a0 a1 M h
    rw [fX16_optionMss_L3] at h
    refine g_iload_n X (pc := 3) 1 rfl rfl dX16_optionMss_3 ?_
    refine g_aload_n X (pc := 4) 0 rfl rfl dX16_optionMss_4 ?_
    obtain ⟨v1, ev1, h⟩ := bd h
    refine g_getI X (pc := 5) fk_16_40 rfl rfl ev1 tb_1854 dX16_optionMss_5 ?_
    refine g_icmp_ge X (pc := 8) (tgt := 119) dX16_optionMss_8 (by decide) (fun hc => ?_) (fun hc => ?_)
    · have h := (if_pos hc).symm.trans h
      refine g_sipush X (pc := 119) (v := 536) dX16_optionMss_119 (by decide) ?_
      obtain rfl := Option.some.inj h
      exact g_ireturn X hE dX16_optionMss_122
    · have h := (if_neg hc).symm.trans h
      refine g_aload_n X (pc := 11) 0 rfl rfl dX16_optionMss_11 ?_
      obtain ⟨v2, ev2, h⟩ := bd h
      refine g_getR X (pc := 12) fk_16_29 rfl rfl ev2 tb_1843 dX16_optionMss_12 ?_
      refine g_iload_n X (pc := 15) 1 rfl rfl dX16_optionMss_15 ?_
      obtain ⟨v3, ev3, h⟩ := bd h
      refine g_baload X (pc := 16) ev3 dX16_optionMss_16 ?_
      refine g_istore_n X (pc := 17) [(2, pI v3), (0, pR (some a0)), (1, pI a1)] rfl (lt_n hn (by decide)) rfl dX16_optionMss_17 ?_
      refine g_iload_n X (pc := 18) 0 rfl rfl dX16_optionMss_18 ?_
      refine g_if_ne X (pc := 19) (tgt := 26) dX16_optionMss_19 (by decide) (fun hc => ?_) (fun hc => ?_)
      · have h := (if_neg hc).symm.trans h
        refine g_iload_n X (pc := 26) 0 rfl rfl dX16_optionMss_26 ?_
        refine g_iconst X (pc := 27) (v := 1) dX16_optionMss_27 (by decide) ?_
        refine g_icmp_ne X (pc := 28) (tgt := 37) dX16_optionMss_28 (by decide) (fun hc => ?_) (fun hc => ?_)
        · have h := (if_neg hc).symm.trans h
          refine g_iload_n X (pc := 37) 2 rfl rfl dX16_optionMss_37 ?_
          refine g_iconst X (pc := 38) (v := 1) dX16_optionMss_38 (by decide) ?_
          refine g_iadd X (pc := 39) dX16_optionMss_39 ?_
          refine g_aload_n X (pc := 40) 1 rfl rfl dX16_optionMss_40 ?_
          obtain ⟨v4, ev4, h⟩ := bd h
          refine g_getI X (pc := 41) fk_16_40 rfl rfl ev4 tb_1854 dX16_optionMss_41 ?_
          refine g_icmp_lt X (pc := 44) (tgt := 51) dX16_optionMss_44 (by decide) (fun hc => ?_) (fun hc => ?_)
          · have h := (if_pos hc).symm.trans h
            refine g_aload_n X (pc := 51) 1 rfl rfl dX16_optionMss_51 ?_
            obtain ⟨v5, ev5, h⟩ := bd h
            refine g_getR X (pc := 52) fk_16_29 rfl rfl ev5 tb_1843 dX16_optionMss_52 ?_
            refine g_iload_n X (pc := 55) 2 rfl rfl dX16_optionMss_55 ?_
            refine g_iconst X (pc := 56) (v := 1) dX16_optionMss_56 (by decide) ?_
            refine g_iadd X (pc := 57) dX16_optionMss_57 ?_
            obtain ⟨v6, ev6, h⟩ := bd h
            refine g_baload X (pc := 58) ev6 dX16_optionMss_58 ?_
            refine g_sipush X (pc := 59) (v := 255) dX16_optionMss_59 (by decide) ?_
            refine g_iand X (pc := 62) dX16_optionMss_62 ?_
            refine g_istore_n X (pc := 63) [(3, pI (v6 &&& (255 : Int32))), (2, pI v3), (0, pR (some a0)), (1, pI a1)] rfl (lt_n hn (by decide)) rfl dX16_optionMss_63 ?_
            refine g_iload_n X (pc := 64) 0 rfl rfl dX16_optionMss_64 ?_
            refine g_iconst X (pc := 65) (v := 2) dX16_optionMss_65 (by decide) ?_
            refine g_icmp_lt X (pc := 66) (tgt := 79) dX16_optionMss_66 (by decide) (fun hc => ?_) (fun hc => ?_)
            · have h := (if_pos hc).symm.trans h
              refine g_sipush X (pc := 79) (v := 536) dX16_optionMss_79 (by decide) ?_
              obtain rfl := Option.some.inj h
              exact g_ireturn X hE dX16_optionMss_82
            · have h := (if_neg hc).symm.trans h
              refine g_iload_n X (pc := 69) 3 rfl rfl dX16_optionMss_69 ?_
              refine g_iload_n X (pc := 70) 0 rfl rfl dX16_optionMss_70 ?_
              refine g_iadd X (pc := 71) dX16_optionMss_71 ?_
              refine g_aload_n X (pc := 72) 2 rfl rfl dX16_optionMss_72 ?_
              obtain ⟨v7, ev7, h⟩ := bd h
              refine g_getI X (pc := 73) fk_16_40 rfl rfl ev7 tb_1854 dX16_optionMss_73 ?_
              refine g_icmp_le X (pc := 76) (tgt := 83) dX16_optionMss_76 (by decide) (fun hc => ?_) (fun hc => ?_)
              · have h := (if_pos hc).symm.trans h
                refine g_iload_n X (pc := 83) 1 rfl rfl dX16_optionMss_83 ?_
                refine g_iconst X (pc := 84) (v := 2) dX16_optionMss_84 (by decide) ?_
                refine g_icmp_ne X (pc := 85) (tgt := 112) dX16_optionMss_85 (by decide) (fun hc => ?_) (fun hc => ?_)
                · have h := (if_neg hc).symm.trans h
                  refine g_sub [2, 3, 0] [(0, pR (some a0)), (1, pI a1), (3, pI (v6 &&& (255 : Int32)))] rfl ?_
                  exact wX16_optionMss_L112 X hE hn fu (fun b0 b1 M => fX16_optionMss_L3 fu  n b0 b1 M) ih a0 a1 (v6 &&& (255 : Int32)) M h
                · have h := (if_pos hc).symm.trans h
                  refine g_iload_n X (pc := 88) 0 rfl rfl dX16_optionMss_88 ?_
                  refine g_iconst X (pc := 89) (v := 4) dX16_optionMss_89 (by decide) ?_
                  refine g_icmp_ne X (pc := 90) (tgt := 112) dX16_optionMss_90 (by decide) (fun hc => ?_) (fun hc => ?_)
                  · have h := (if_neg hc).symm.trans h
                    refine g_sub [2, 3, 0] [(0, pR (some a0)), (1, pI a1), (3, pI (v6 &&& (255 : Int32)))] rfl ?_
                    exact wX16_optionMss_L112 X hE hn fu (fun b0 b1 M => fX16_optionMss_L3 fu  n b0 b1 M) ih a0 a1 (v6 &&& (255 : Int32)) M h
                  · have h := (if_pos hc).symm.trans h
                    refine g_bipush X (pc := 93) (v := 64) dX16_optionMss_93 (by decide) ?_
                    refine g_sipush X (pc := 95) (v := 1460) dX16_optionMss_95 (by decide) ?_
                    refine g_aload_n X (pc := 98) 2 rfl rfl dX16_optionMss_98 ?_
                    refine g_iload_n X (pc := 99) 3 rfl rfl dX16_optionMss_99 ?_
                    refine g_iconst X (pc := 100) (v := 2) dX16_optionMss_100 (by decide) ?_
                    refine g_iadd X (pc := 101) dX16_optionMss_101 ?_
                    obtain ⟨q8, eq8, h⟩ := bd h
                    obtain ⟨v10, M9, eM9, h⟩ := b2d h
                    refine g_callV X (pc := 102) (M' := M9) (ro := some (pI v10)) (c := 16) rfl (by decide) (as := [pI (a1 + (2 : Int32))]) (as' := [pI (a1 + (2 : Int32))]) (st := [pI (1460 : Int32), pI (64 : Int32)]) eq8 (ctX16_half _ _ _ _ _ _ fu q8 (a1 + (2 : Int32)) M _ eM9) tb_2238 tb_2235 tb_2237 ts_101 tb_8 ⟨rfl, hyX16_half⟩ rfl rfl ⟨by decide, by decide⟩ (Nat.le_of_ble_eq_true rfl) dX16_optionMss_102 ?_
                    refine g_mmin X (pc := 105) tb_2155 tb_348 tb_13 tb_349 ⟨by decide, Nat.le_of_ble_eq_true rfl⟩ dX16_optionMss_105 ?_
                    refine g_mmax X (pc := 108) tb_2100 tb_405 tb_13 tb_406 ⟨by decide, Nat.le_of_ble_eq_true rfl⟩ dX16_optionMss_108 ?_
                    obtain rfl := Option.some.inj h
                    exact g_ireturn X hE dX16_optionMss_111
              · have h := (if_neg hc).symm.trans h
                refine g_sipush X (pc := 79) (v := 536) dX16_optionMss_79 (by decide) ?_
                obtain rfl := Option.some.inj h
                exact g_ireturn X hE dX16_optionMss_82
          · have h := (if_neg hc).symm.trans h
            refine g_sipush X (pc := 47) (v := 536) dX16_optionMss_47 (by decide) ?_
            obtain rfl := Option.some.inj h
            exact g_ireturn X hE dX16_optionMss_50
        · have h := (if_pos hc).symm.trans h
          refine g_iinc X (pc := 31) 2 [(1, pI (a1 + (1 : Int32))), (2, pI v3), (0, pR (some a0))] rfl (iinc_e (by decide)) (lt_n hn (by decide)) rfl dX16_optionMss_31 ?_
          refine g_goto X (pc := 34) (tgt := 116) dX16_optionMss_34 (by decide) ?_
          refine g_sub [2, 0] [(0, pR (some a0)), (1, pI (a1 + (1 : Int32)))] rfl ?_
          exact wX16_optionMss_L116 X hE hn fu (fun b0 b1 M => fX16_optionMss_L3 fu  n b0 b1 M) ih a0 (a1 + (1 : Int32)) M h
      · have h := (if_pos hc).symm.trans h
        refine g_sipush X (pc := 22) (v := 536) dX16_optionMss_22 (by decide) ?_
        obtain rfl := Option.some.inj h
        exact g_ireturn X hE dX16_optionMss_25
theorem wX16_optionMss {x : GX} {n0 sl0 : Nat} (X : Cx x cX16_optionMss RX16 (some .int) n0 sl0 1 21) {out : Int32 × Mm} (hE : Ends x n0 sl0 (some (pI out.1)) out.2) (hn : xn x = 4) (fu : Nat)   (a0 : Nat)  (M : Mm) (h : fX16_optionMss fu  a0 M = some out) : Gw x M 0 [(0, pR (some a0))] [] := by
  unfold fX16_optionMss at h
  refine g_bipush X (pc := 0) (v := 20) dX16_optionMss_0 (by decide) ?_
  refine g_istore_n X (pc := 2) [(1, pI (20 : Int32)), (0, pR (some a0))] rfl (lt_n hn (by decide)) rfl dX16_optionMss_2 ?_
  refine g_sub [1, 0] [(0, pR (some a0)), (1, pI (20 : Int32))] rfl ?_
  exact wX16_optionMss_L3 X hE hn fu   fu a0 (20 : Int32) M h
theorem hyX16_optionMss : yX16_optionMss.cls ≠ "java/lang/invoke/MethodHandle" ∧ yX16_optionMss.cls ≠ "java/lang/invoke/VarHandle" ∧ (parseMethodDescriptor yX16_optionMss.desc).map (fun d => d.parameters.length) = some 0 := ⟨by decide +kernel, by decide +kernel, by decide +kernel⟩
theorem ctX16_optionMss (l : Launch) (E : Nat → Nat) (D : va_G) (dA : Nat → ClassId) (lo : Nat) (H0 : Heap) (fu : Nat) (a0 : Nat) (M : Mm) (out : Int32 × Mm) (h : fX16_optionMss fu a0 M = some out) : Ct l E D dA lo H0 yX16_optionMss cX16_optionMss 4 (some .int) 1 21 [pR (some a0)] M (some (pI out.1)) out.2 := by
  refine ct_of (by decide +kernel) (Nat.le_of_ble_eq_true rfl) ?_
  intro x hl he hd ha ho hh hn hin X hE
  exact wX16_optionMss X hE hn fu a0 M h
/-! WebHostModel.pays(LWebHostModel$Connection;)V -/
def fX16_pays (fu : Nat)  (a0 : Nat) (a1 : Option Nat)  (M : Mm) : Option (Mm) :=
    (pZ M 12 807 a1 (0 : Int32)).bind fun M1 =>
    (rc M1 12 a1).bind fun q2 =>
    b2 (fX12_open fu q2  M1) fun v4 M3 =>
    (pF M3 12 805 a1 v4).bind fun M5 =>
    some M5
theorem dX16_pays_0 : decode cX16_pays 0 = .ok (.aload_n 1, 1) := by decide +kernel
theorem dX16_pays_1 : decode cX16_pays 1 = .ok (.iconst 0, 1) := by decide +kernel
theorem dX16_pays_2 : decode cX16_pays 2 = .ok (.putfield 336, 3) := by decide +kernel
theorem dX16_pays_5 : decode cX16_pays 5 = .ok (.aload_n 1, 1) := by decide +kernel
theorem dX16_pays_6 : decode cX16_pays 6 = .ok (.aload_n 1, 1) := by decide +kernel
theorem dX16_pays_7 : decode cX16_pays 7 = .ok (.invokevirtual 339, 3) := by decide +kernel
theorem dX16_pays_10 : decode cX16_pays 10 = .ok (.putfield 342, 3) := by decide +kernel
theorem dX16_pays_13 : decode cX16_pays 13 = .ok (.return_, 1) := by decide +kernel
theorem wX16_pays {x : GX} {n0 sl0 : Nat} (X : Cx x cX16_pays RX16 none n0 sl0 2 40) {out : Mm} (hE : Ends x n0 sl0 none out) (hn : xn x = 2) (fu : Nat)   (a0 : Nat) (a1 : Option Nat)  (M : Mm) (h : fX16_pays fu  a0 a1 M = some out) : Gw x M 0 [(0, pR (some a0)), (1, pR a1)] [] := by
  unfold fX16_pays at h
  refine g_aload_n X (pc := 0) 1 rfl rfl dX16_pays_0 ?_
  refine g_iconst X (pc := 1) (v := 0) dX16_pays_1 (by decide) ?_
  obtain ⟨M1, eM1, h⟩ := bd h
  refine g_putZ X (pc := 2) fk_12_39 rfl rfl rfl eM1 tb_1628 (Or.inl rfl) dX16_pays_2 ?_
  refine g_aload_n X (pc := 5) 1 rfl rfl dX16_pays_5 ?_
  refine g_aload_n X (pc := 6) 1 rfl rfl dX16_pays_6 ?_
  obtain ⟨q2, eq2, h⟩ := bd h
  obtain ⟨v4, M3, eM3, h⟩ := b2d h
  refine g_callV X (pc := 7) (M' := M3) (ro := some (pI v4)) (c := 12) rfl (by decide) (as := []) (as' := []) (st := [pR a1]) eq2 (ctX12_open _ _ _ _ _ _ fu q2  M1 _ eM3) tb_2108 tb_2105 tb_2106 tb_2107 tb_9 ⟨rfl, hyX12_open⟩ rfl rfl ⟨by decide, by decide⟩ (Nat.le_of_ble_eq_true rfl) dX16_pays_7 ?_
  obtain ⟨M5, eM5, h⟩ := bd h
  refine g_putI X (pc := 10) fk_12_37 rfl rfl rfl eM5 tb_1626 (Or.inl rfl) dX16_pays_10 ?_
  obtain rfl := Option.some.inj h
  exact g_return X hE dX16_pays_13
theorem hyX16_pays : yX16_pays.cls ≠ "java/lang/invoke/MethodHandle" ∧ yX16_pays.cls ≠ "java/lang/invoke/VarHandle" ∧ (parseMethodDescriptor yX16_pays.desc).map (fun d => d.parameters.length) = some 1 := ⟨by decide +kernel, by decide +kernel, by decide +kernel⟩
theorem ctX16_pays (l : Launch) (E : Nat → Nat) (D : va_G) (dA : Nat → ClassId) (lo : Nat) (H0 : Heap) (fu : Nat) (a0 : Nat) (a1 : Option Nat) (M : Mm) (out : Mm) (h : fX16_pays fu a0 a1 M = some out) : Ct l E D dA lo H0 yX16_pays cX16_pays 2 none 2 40 [pR (some a0), pR a1] M none out := by
  refine ct_of (by decide +kernel) (Nat.le_of_ble_eq_true rfl) ?_
  intro x hl he hd ha ho hh hn hin X hE
  exact wX16_pays X hE hn fu a0 a1 M h
/-! WebHostModel.before(II)Z -/
def fX16_before (fu : Nat)  (a0 : Int32) (a1 : Int32)  (M : Mm) : Option (Int32 × Mm) :=
    if 0 ≤ (a0 - a1) then (
    rN .boolean (0 : Int32) M)
    else (
    rN .boolean (1 : Int32) M)
theorem dX16_before_0 : decode cX16_before 0 = .ok (.iload_n 0, 1) := by decide +kernel
theorem dX16_before_1 : decode cX16_before 1 = .ok (.iload_n 1, 1) := by decide +kernel
theorem dX16_before_2 : decode cX16_before 2 = .ok (.isub, 1) := by decide +kernel
theorem dX16_before_3 : decode cX16_before 3 = .ok (.ifCond .ge 7, 3) := by decide +kernel
theorem dX16_before_6 : decode cX16_before 6 = .ok (.iconst 1, 1) := by decide +kernel
theorem dX16_before_7 : decode cX16_before 7 = .ok (.goto 4, 3) := by decide +kernel
theorem dX16_before_10 : decode cX16_before 10 = .ok (.iconst 0, 1) := by decide +kernel
theorem dX16_before_11 : decode cX16_before 11 = .ok (.ireturn, 1) := by decide +kernel
theorem wX16_before {x : GX} {n0 sl0 : Nat} (X : Cx x cX16_before RX16 (some .boolean) n0 sl0 0 0) {out : Int32 × Mm} (hE : Ends x n0 sl0 (some (pI out.1)) out.2) (hn : xn x = 2) (fu : Nat)   (a0 : Int32) (a1 : Int32)  (M : Mm) (h : fX16_before fu  a0 a1 M = some out) : Gw x M 0 [(0, pI a0), (1, pI a1)] [] := by
  unfold fX16_before at h
  refine g_iload_n X (pc := 0) 0 rfl rfl dX16_before_0 ?_
  refine g_iload_n X (pc := 1) 1 rfl rfl dX16_before_1 ?_
  refine g_isub X (pc := 2) dX16_before_2 ?_
  refine g_if_ge X (pc := 3) (tgt := 10) dX16_before_3 (by decide) (fun hc => ?_) (fun hc => ?_)
  · have h := (if_pos hc).symm.trans h
    refine g_iconst X (pc := 10) (v := 0) dX16_before_10 (by decide) ?_
    obtain ⟨hz, rfl⟩ := rN_some h
    exact g_nreturn X rfl hz hE dX16_before_11
  · have h := (if_neg hc).symm.trans h
    refine g_iconst X (pc := 6) (v := 1) dX16_before_6 (by decide) ?_
    refine g_goto X (pc := 7) (tgt := 11) dX16_before_7 (by decide) ?_
    obtain ⟨hz, rfl⟩ := rN_some h
    exact g_nreturn X rfl hz hE dX16_before_11
theorem hyX16_before : yX16_before.cls ≠ "java/lang/invoke/MethodHandle" ∧ yX16_before.cls ≠ "java/lang/invoke/VarHandle" ∧ (parseMethodDescriptor yX16_before.desc).map (fun d => d.parameters.length) = some 2 := ⟨by decide +kernel, by decide +kernel, by decide +kernel⟩
theorem ctX16_before (l : Launch) (E : Nat → Nat) (D : va_G) (dA : Nat → ClassId) (lo : Nat) (H0 : Heap) (fu : Nat) (a0 : Int32) (a1 : Int32) (M : Mm) (out : Int32 × Mm) (h : fX16_before fu a0 a1 M = some out) : Ct l E D dA lo H0 yX16_before cX16_before 2 (some .boolean) 0 0 [pI a0, pI a1] M (some (pI out.1)) out.2 := by
  refine ct_of (by decide +kernel) (Nat.le_of_ble_eq_true rfl) ?_
  intro x hl he hd ha ho hh hn hin X hE
  exact wX16_before X hE hn fu a0 a1 M h
/-! WebHostModel.timerSet(LWebHostModel$Connection;)V -/
def fX16_timerSet (fu : Nat)  (a0 : Nat) (a1 : Option Nat)  (M : Mm) : Option (Mm) :=
    (pZ M 12 789 a1 (1 : Int32)).bind fun M1 =>
    (gI M1 16 1034 (some a0)).bind fun v2 =>
    (gI M1 12 781 a1).bind fun v3 =>
    (pF M1 12 790 a1 (v2 + v3)).bind fun M4 =>
    some M4
theorem dX16_timerSet_0 : decode cX16_timerSet 0 = .ok (.aload_n 1, 1) := by decide +kernel
theorem dX16_timerSet_1 : decode cX16_timerSet 1 = .ok (.iconst 1, 1) := by decide +kernel
theorem dX16_timerSet_2 : decode cX16_timerSet 2 = .ok (.putfield 376, 3) := by decide +kernel
theorem dX16_timerSet_5 : decode cX16_timerSet 5 = .ok (.aload_n 1, 1) := by decide +kernel
theorem dX16_timerSet_6 : decode cX16_timerSet 6 = .ok (.aload_n 0, 1) := by decide +kernel
theorem dX16_timerSet_7 : decode cX16_timerSet 7 = .ok (.getfield 134, 3) := by decide +kernel
theorem dX16_timerSet_10 : decode cX16_timerSet 10 = .ok (.aload_n 1, 1) := by decide +kernel
theorem dX16_timerSet_11 : decode cX16_timerSet 11 = .ok (.getfield 382, 3) := by decide +kernel
theorem dX16_timerSet_14 : decode cX16_timerSet 14 = .ok (.iadd, 1) := by decide +kernel
theorem dX16_timerSet_15 : decode cX16_timerSet 15 = .ok (.putfield 385, 3) := by decide +kernel
theorem dX16_timerSet_18 : decode cX16_timerSet 18 = .ok (.return_, 1) := by decide +kernel
theorem wX16_timerSet {x : GX} {n0 sl0 : Nat} (X : Cx x cX16_timerSet RX16 none n0 sl0 0 0) {out : Mm} (hE : Ends x n0 sl0 none out) (hn : xn x = 2) (fu : Nat)   (a0 : Nat) (a1 : Option Nat)  (M : Mm) (h : fX16_timerSet fu  a0 a1 M = some out) : Gw x M 0 [(0, pR (some a0)), (1, pR a1)] [] := by
  unfold fX16_timerSet at h
  refine g_aload_n X (pc := 0) 1 rfl rfl dX16_timerSet_0 ?_
  refine g_iconst X (pc := 1) (v := 1) dX16_timerSet_1 (by decide) ?_
  obtain ⟨M1, eM1, h⟩ := bd h
  refine g_putZ X (pc := 2) fk_12_21 rfl rfl rfl eM1 tb_1601 (Or.inl rfl) dX16_timerSet_2 ?_
  refine g_aload_n X (pc := 5) 1 rfl rfl dX16_timerSet_5 ?_
  refine g_aload_n X (pc := 6) 0 rfl rfl dX16_timerSet_6 ?_
  obtain ⟨v2, ev2, h⟩ := bd h
  refine g_getI X (pc := 7) fk_16_10 rfl rfl ev2 tb_1824 dX16_timerSet_7 ?_
  refine g_aload_n X (pc := 10) 1 rfl rfl dX16_timerSet_10 ?_
  obtain ⟨v3, ev3, h⟩ := bd h
  refine g_getI X (pc := 11) fk_12_13 rfl rfl ev3 tb_1593 dX16_timerSet_11 ?_
  refine g_iadd X (pc := 14) dX16_timerSet_14 ?_
  obtain ⟨M4, eM4, h⟩ := bd h
  refine g_putI X (pc := 15) fk_12_22 rfl rfl rfl eM4 tb_1602 (Or.inl rfl) dX16_timerSet_15 ?_
  obtain rfl := Option.some.inj h
  exact g_return X hE dX16_timerSet_18
theorem hyX16_timerSet : yX16_timerSet.cls ≠ "java/lang/invoke/MethodHandle" ∧ yX16_timerSet.cls ≠ "java/lang/invoke/VarHandle" ∧ (parseMethodDescriptor yX16_timerSet.desc).map (fun d => d.parameters.length) = some 1 := ⟨by decide +kernel, by decide +kernel, by decide +kernel⟩
theorem ctX16_timerSet (l : Launch) (E : Nat → Nat) (D : va_G) (dA : Nat → ClassId) (lo : Nat) (H0 : Heap) (fu : Nat) (a0 : Nat) (a1 : Option Nat) (M : Mm) (out : Mm) (h : fX16_timerSet fu a0 a1 M = some out) : Ct l E D dA lo H0 yX16_timerSet cX16_timerSet 2 none 0 0 [pR (some a0), pR a1] M none out := by
  refine ct_of (by decide +kernel) (Nat.le_of_ble_eq_true rfl) ?_
  intro x hl he hd ha ho hh hn hin X hE
  exact wX16_timerSet X hE hn fu a0 a1 M h
/-! WebHostModel.noted(LWebHostModel$Connection;I)V -/
def fX16_noted_L54 (fu : Nat)  (a0 : Nat) (a1 : Option Nat)  (M : Mm) : Option (Mm) :=
    (gI M 12 789 a1).bind fun v1 =>
    if v1 = 0 then (
    (rc M 16 (some a0)).bind fun q2 =>
    (fX16_timerSet fu q2 a1 M).bind fun M3 =>
    some M3)
    else (
    some M)
def fX16_noted (fu : Nat)  (a0 : Nat) (a1 : Option Nat) (a2 : Int32)  (M : Mm) : Option (Mm) :=
    (gI M 12 774 a1).bind fun v1 =>
    b2 (fX16_before fu  a2 v1 M) fun v3 M2 =>
    if v3 = 0 then (
    (gI M2 12 785 a1).bind fun v4 =>
    if v4 = 0 then (
    (pZ M2 12 785 a1 (1 : Int32)).bind fun M5 =>
    (pF M5 12 787 a1 a2).bind fun M6 =>
    (gI M6 16 1034 (some a0)).bind fun v7 =>
    (pF M6 12 788 a1 v7).bind fun M8 =>
    fX16_noted_L54 fu  a0 a1 M8)
    else (
    fX16_noted_L54 fu  a0 a1 M2))
    else (
    (gR M2 16 1041 (some a0)).bind fun v9 =>
    (gA M2 101 v9 (3 : Int32)).bind fun v10 =>
    (pA M2 101 v9 (3 : Int32) (v10 + (1 : Int32))).bind fun M11 =>
    (pZ M11 12 785 a1 (0 : Int32)).bind fun M12 =>
    fX16_noted_L54 fu  a0 a1 M12)
theorem dX16_noted_0 : decode cX16_noted 0 = .ok (.iload_n 2, 1) := by decide +kernel
theorem dX16_noted_1 : decode cX16_noted 1 = .ok (.aload_n 1, 1) := by decide +kernel
theorem dX16_noted_2 : decode cX16_noted 2 = .ok (.getfield 361, 3) := by decide +kernel
theorem dX16_noted_5 : decode cX16_noted 5 = .ok (.invokestatic 363, 3) := by decide +kernel
theorem dX16_noted_8 : decode cX16_noted 8 = .ok (.ifCond .eq 21, 3) := by decide +kernel
theorem dX16_noted_11 : decode cX16_noted 11 = .ok (.aload_n 0, 1) := by decide +kernel
theorem dX16_noted_12 : decode cX16_noted 12 = .ok (.getfield 31, 3) := by decide +kernel
theorem dX16_noted_15 : decode cX16_noted 15 = .ok (.iconst 3, 1) := by decide +kernel
theorem dX16_noted_16 : decode cX16_noted 16 = .ok (.dup2, 1) := by decide +kernel
theorem dX16_noted_17 : decode cX16_noted 17 = .ok (.iaload, 1) := by decide +kernel
theorem dX16_noted_18 : decode cX16_noted 18 = .ok (.iconst 1, 1) := by decide +kernel
theorem dX16_noted_19 : decode cX16_noted 19 = .ok (.iadd, 1) := by decide +kernel
theorem dX16_noted_20 : decode cX16_noted 20 = .ok (.iastore, 1) := by decide +kernel
theorem dX16_noted_21 : decode cX16_noted 21 = .ok (.aload_n 1, 1) := by decide +kernel
theorem dX16_noted_22 : decode cX16_noted 22 = .ok (.iconst 0, 1) := by decide +kernel
theorem dX16_noted_23 : decode cX16_noted 23 = .ok (.putfield 367, 3) := by decide +kernel
theorem dX16_noted_26 : decode cX16_noted 26 = .ok (.goto 28, 3) := by decide +kernel
theorem dX16_noted_29 : decode cX16_noted 29 = .ok (.aload_n 1, 1) := by decide +kernel
theorem dX16_noted_30 : decode cX16_noted 30 = .ok (.getfield 367, 3) := by decide +kernel
theorem dX16_noted_33 : decode cX16_noted 33 = .ok (.ifCond .ne 21, 3) := by decide +kernel
theorem dX16_noted_36 : decode cX16_noted 36 = .ok (.aload_n 1, 1) := by decide +kernel
theorem dX16_noted_37 : decode cX16_noted 37 = .ok (.iconst 1, 1) := by decide +kernel
theorem dX16_noted_38 : decode cX16_noted 38 = .ok (.putfield 367, 3) := by decide +kernel
theorem dX16_noted_41 : decode cX16_noted 41 = .ok (.aload_n 1, 1) := by decide +kernel
theorem dX16_noted_42 : decode cX16_noted 42 = .ok (.iload_n 2, 1) := by decide +kernel
theorem dX16_noted_43 : decode cX16_noted 43 = .ok (.putfield 370, 3) := by decide +kernel
theorem dX16_noted_46 : decode cX16_noted 46 = .ok (.aload_n 1, 1) := by decide +kernel
theorem dX16_noted_47 : decode cX16_noted 47 = .ok (.aload_n 0, 1) := by decide +kernel
theorem dX16_noted_48 : decode cX16_noted 48 = .ok (.getfield 134, 3) := by decide +kernel
theorem dX16_noted_51 : decode cX16_noted 51 = .ok (.putfield 373, 3) := by decide +kernel
theorem dX16_noted_54 : decode cX16_noted 54 = .ok (.aload_n 1, 1) := by decide +kernel
theorem dX16_noted_55 : decode cX16_noted 55 = .ok (.getfield 376, 3) := by decide +kernel
theorem dX16_noted_58 : decode cX16_noted 58 = .ok (.ifCond .ne 8, 3) := by decide +kernel
theorem dX16_noted_61 : decode cX16_noted 61 = .ok (.aload_n 0, 1) := by decide +kernel
theorem dX16_noted_62 : decode cX16_noted 62 = .ok (.aload_n 1, 1) := by decide +kernel
theorem dX16_noted_63 : decode cX16_noted 63 = .ok (.invokevirtual 379, 3) := by decide +kernel
theorem dX16_noted_66 : decode cX16_noted 66 = .ok (.return_, 1) := by decide +kernel
theorem wX16_noted_L54 {x : GX} {n0 sl0 : Nat} (X : Cx x cX16_noted RX16 none n0 sl0 1 21) {out : Mm} (hE : Ends x n0 sl0 none out) (hn : xn x = 3) (fu : Nat)   (a0 : Nat) (a1 : Option Nat)  (M : Mm) (h : fX16_noted_L54 fu  a0 a1 M = some out) : Gw x M 54 [(0, pR (some a0)), (1, pR a1)] [] := by
  unfold fX16_noted_L54 at h
  refine g_aload_n X (pc := 54) 1 rfl rfl dX16_noted_54 ?_
  obtain ⟨v1, ev1, h⟩ := bd h
  refine g_getI X (pc := 55) fk_12_21 rfl rfl ev1 tb_1601 dX16_noted_55 ?_
  refine g_if_ne X (pc := 58) (tgt := 66) dX16_noted_58 (by decide) (fun hc => ?_) (fun hc => ?_)
  · have h := (if_neg hc).symm.trans h
    obtain rfl := Option.some.inj h
    exact g_return X hE dX16_noted_66
  · have h := (if_pos hc).symm.trans h
    refine g_aload_n X (pc := 61) 0 rfl rfl dX16_noted_61 ?_
    refine g_aload_n X (pc := 62) 1 rfl rfl dX16_noted_62 ?_
    obtain ⟨q2, eq2, h⟩ := bd h
    obtain ⟨M3, eM3, h⟩ := bd h
    refine g_callV X (pc := 63) (M' := M3) (ro := none) (c := 16) rfl (by decide) (as := [pR a1]) (as' := [pR a1]) (st := []) eq2 (ctX16_timerSet _ _ _ _ _ _ fu q2 a1 M _ eM3) tb_2174 tb_2171 tb_2173 ts_86 tb_8 ⟨rfl, hyX16_timerSet⟩ rfl rfl ⟨by decide, by decide⟩ (Nat.le_of_ble_eq_true rfl) dX16_noted_63 ?_
    obtain rfl := Option.some.inj h
    exact g_return X hE dX16_noted_66
theorem wX16_noted {x : GX} {n0 sl0 : Nat} (X : Cx x cX16_noted RX16 none n0 sl0 1 21) {out : Mm} (hE : Ends x n0 sl0 none out) (hn : xn x = 3) (fu : Nat)   (a0 : Nat) (a1 : Option Nat) (a2 : Int32)  (M : Mm) (h : fX16_noted fu  a0 a1 a2 M = some out) : Gw x M 0 [(0, pR (some a0)), (1, pR a1), (2, pI a2)] [] := by
  unfold fX16_noted at h
  refine g_iload_n X (pc := 0) 2 rfl rfl dX16_noted_0 ?_
  refine g_aload_n X (pc := 1) 1 rfl rfl dX16_noted_1 ?_
  obtain ⟨v1, ev1, h⟩ := bd h
  refine g_getI X (pc := 2) fk_12_6 rfl rfl ev1 tb_1586 dX16_noted_2 ?_
  obtain ⟨v3, M2, eM2, h⟩ := b2d h
  refine g_callS X (pc := 5) (M' := M2) (ro := some (pI v3)) (as := [pI a2, pI v1]) (as' := [pI v1, pI a2]) (st := []) (ctX16_before _ _ _ _ _ _ fu  a2 v1 M _ eM2) tb_2170 tb_2168 tb_2169 tb_8 hyX16_before rfl rfl ⟨by decide, by decide⟩ (Nat.le_of_ble_eq_true rfl) dX16_noted_5 ?_
  refine g_if_eq X (pc := 8) (tgt := 29) dX16_noted_8 (by decide) (fun hc => ?_) (fun hc => ?_)
  · have h := (if_pos hc).symm.trans h
    refine g_aload_n X (pc := 29) 1 rfl rfl dX16_noted_29 ?_
    obtain ⟨v4, ev4, h⟩ := bd h
    refine g_getI X (pc := 30) fk_12_17 rfl rfl ev4 tb_1597 dX16_noted_30 ?_
    refine g_if_ne X (pc := 33) (tgt := 54) dX16_noted_33 (by decide) (fun hc => ?_) (fun hc => ?_)
    · have h := (if_neg hc).symm.trans h
      refine g_sub [0, 1] [(0, pR (some a0)), (1, pR a1)] rfl ?_
      exact wX16_noted_L54 X hE hn fu   a0 a1 M2 h
    · have h := (if_pos hc).symm.trans h
      refine g_aload_n X (pc := 36) 1 rfl rfl dX16_noted_36 ?_
      refine g_iconst X (pc := 37) (v := 1) dX16_noted_37 (by decide) ?_
      obtain ⟨M5, eM5, h⟩ := bd h
      refine g_putZ X (pc := 38) fk_12_17 rfl rfl rfl eM5 tb_1597 (Or.inl rfl) dX16_noted_38 ?_
      refine g_aload_n X (pc := 41) 1 rfl rfl dX16_noted_41 ?_
      refine g_iload_n X (pc := 42) 2 rfl rfl dX16_noted_42 ?_
      obtain ⟨M6, eM6, h⟩ := bd h
      refine g_putI X (pc := 43) fk_12_19 rfl rfl rfl eM6 tb_1599 (Or.inl rfl) dX16_noted_43 ?_
      refine g_aload_n X (pc := 46) 1 rfl rfl dX16_noted_46 ?_
      refine g_aload_n X (pc := 47) 0 rfl rfl dX16_noted_47 ?_
      obtain ⟨v7, ev7, h⟩ := bd h
      refine g_getI X (pc := 48) fk_16_10 rfl rfl ev7 tb_1824 dX16_noted_48 ?_
      obtain ⟨M8, eM8, h⟩ := bd h
      refine g_putI X (pc := 51) fk_12_20 rfl rfl rfl eM8 tb_1600 (Or.inl rfl) dX16_noted_51 ?_
      refine g_sub [0, 1] [(0, pR (some a0)), (1, pR a1)] rfl ?_
      exact wX16_noted_L54 X hE hn fu   a0 a1 M8 h
  · have h := (if_neg hc).symm.trans h
    refine g_aload_n X (pc := 11) 0 rfl rfl dX16_noted_11 ?_
    obtain ⟨v9, ev9, h⟩ := bd h
    refine g_getR X (pc := 12) fk_16_17 rfl rfl ev9 tb_1831 dX16_noted_12 ?_
    refine g_iconst X (pc := 15) (v := 3) dX16_noted_15 (by decide) ?_
    refine g_dup2 X (pc := 16) rfl rfl dX16_noted_16 ?_
    obtain ⟨v10, ev10, h⟩ := bd h
    refine g_iaload X (pc := 17) ev10 dX16_noted_17 ?_
    refine g_iconst X (pc := 18) (v := 1) dX16_noted_18 (by decide) ?_
    refine g_iadd X (pc := 19) dX16_noted_19 ?_
    obtain ⟨M11, eM11, h⟩ := bd h
    refine g_iastore X (pc := 20) eM11 dX16_noted_20 ?_
    refine g_aload_n X (pc := 21) 1 rfl rfl dX16_noted_21 ?_
    refine g_iconst X (pc := 22) (v := 0) dX16_noted_22 (by decide) ?_
    obtain ⟨M12, eM12, h⟩ := bd h
    refine g_putZ X (pc := 23) fk_12_17 rfl rfl rfl eM12 tb_1597 (Or.inl rfl) dX16_noted_23 ?_
    refine g_goto X (pc := 26) (tgt := 54) dX16_noted_26 (by decide) ?_
    refine g_sub [0, 1] [(0, pR (some a0)), (1, pR a1)] rfl ?_
    exact wX16_noted_L54 X hE hn fu   a0 a1 M12 h
theorem hyX16_noted : yX16_noted.cls ≠ "java/lang/invoke/MethodHandle" ∧ yX16_noted.cls ≠ "java/lang/invoke/VarHandle" ∧ (parseMethodDescriptor yX16_noted.desc).map (fun d => d.parameters.length) = some 2 := ⟨by decide +kernel, by decide +kernel, by decide +kernel⟩
theorem ctX16_noted (l : Launch) (E : Nat → Nat) (D : va_G) (dA : Nat → ClassId) (lo : Nat) (H0 : Heap) (fu : Nat) (a0 : Nat) (a1 : Option Nat) (a2 : Int32) (M : Mm) (out : Mm) (h : fX16_noted fu a0 a1 a2 M = some out) : Ct l E D dA lo H0 yX16_noted cX16_noted 3 none 1 21 [pR (some a0), pR a1, pI a2] M none out := by
  refine ct_of (by decide +kernel) (Nat.le_of_ble_eq_true rfl) ?_
  intro x hl he hd ha ho hh hn hin X hE
  exact wX16_noted X hE hn fu a0 a1 a2 M h
/-! WebHostModel.synAck(LWebHostModel$Connection;)V -/
def fX16_synAck (fu : Nat)  (a0 : Nat) (a1 : Option Nat)  (M : Mm) : Option (Mm) :=
    (gI M 12 769 a1).bind fun v1 =>
    (gI M 12 770 a1).bind fun v2 =>
    (gI M 12 771 a1).bind fun v3 =>
    (gI M 12 804 a1).bind fun v4 =>
    (rc M 12 a1).bind fun q5 =>
    b2 (fX12_open fu q5  M) fun v7 M6 =>
    (rc M6 16 (some a0)).bind fun q8 =>
    (fX16_segmentOut fu q8 v1 (80 : Int32) v2 v3 v4 (18 : Int32) v7 (4 : Int32) (0 : Int32) M6).bind fun M9 =>
    (rc M9 16 (some a0)).bind fun q10 =>
    (fX16_pays fu q10 a1 M9).bind fun M11 =>
    (gI M11 12 771 a1).bind fun v12 =>
    (rc M11 16 (some a0)).bind fun q13 =>
    (fX16_noted fu q13 a1 v12 M11).bind fun M14 =>
    (gI M14 12 771 a1).bind fun v15 =>
    (pF M14 12 773 a1 (v15 + (1 : Int32))).bind fun M16 =>
    (gI M16 12 774 a1).bind fun v17 =>
    (gI M16 12 773 a1).bind fun v18 =>
    b2 (fX16_before fu  v17 v18 M16) fun v20 M19 =>
    if v20 = 0 then (
    some M19)
    else (
    (gI M19 12 773 a1).bind fun v21 =>
    (pF M19 12 774 a1 v21).bind fun M22 =>
    some M22)
theorem dX16_synAck_0 : decode cX16_synAck 0 = .ok (.aload_n 0, 1) := by decide +kernel
theorem dX16_synAck_1 : decode cX16_synAck 1 = .ok (.aload_n 1, 1) := by decide +kernel
theorem dX16_synAck_2 : decode cX16_synAck 2 = .ok (.getfield 314, 3) := by decide +kernel
theorem dX16_synAck_5 : decode cX16_synAck 5 = .ok (.bipush 80, 2) := by decide +kernel
theorem dX16_synAck_7 : decode cX16_synAck 7 = .ok (.aload_n 1, 1) := by decide +kernel
theorem dX16_synAck_8 : decode cX16_synAck 8 = .ok (.getfield 315, 3) := by decide +kernel
theorem dX16_synAck_11 : decode cX16_synAck 11 = .ok (.aload_n 1, 1) := by decide +kernel
theorem dX16_synAck_12 : decode cX16_synAck 12 = .ok (.getfield 354, 3) := by decide +kernel
theorem dX16_synAck_15 : decode cX16_synAck 15 = .ok (.aload_n 1, 1) := by decide +kernel
theorem dX16_synAck_16 : decode cX16_synAck 16 = .ok (.getfield 348, 3) := by decide +kernel
theorem dX16_synAck_19 : decode cX16_synAck 19 = .ok (.bipush 18, 2) := by decide +kernel
theorem dX16_synAck_21 : decode cX16_synAck 21 = .ok (.aload_n 1, 1) := by decide +kernel
theorem dX16_synAck_22 : decode cX16_synAck 22 = .ok (.invokevirtual 339, 3) := by decide +kernel
theorem dX16_synAck_25 : decode cX16_synAck 25 = .ok (.iconst 4, 1) := by decide +kernel
theorem dX16_synAck_26 : decode cX16_synAck 26 = .ok (.iconst 0, 1) := by decide +kernel
theorem dX16_synAck_27 : decode cX16_synAck 27 = .ok (.invokevirtual 329, 3) := by decide +kernel
theorem dX16_synAck_30 : decode cX16_synAck 30 = .ok (.aload_n 0, 1) := by decide +kernel
theorem dX16_synAck_31 : decode cX16_synAck 31 = .ok (.aload_n 1, 1) := by decide +kernel
theorem dX16_synAck_32 : decode cX16_synAck 32 = .ok (.invokevirtual 351, 3) := by decide +kernel
theorem dX16_synAck_35 : decode cX16_synAck 35 = .ok (.aload_n 0, 1) := by decide +kernel
theorem dX16_synAck_36 : decode cX16_synAck 36 = .ok (.aload_n 1, 1) := by decide +kernel
theorem dX16_synAck_37 : decode cX16_synAck 37 = .ok (.aload_n 1, 1) := by decide +kernel
theorem dX16_synAck_38 : decode cX16_synAck 38 = .ok (.getfield 354, 3) := by decide +kernel
theorem dX16_synAck_41 : decode cX16_synAck 41 = .ok (.invokevirtual 357, 3) := by decide +kernel
theorem dX16_synAck_44 : decode cX16_synAck 44 = .ok (.aload_n 1, 1) := by decide +kernel
theorem dX16_synAck_45 : decode cX16_synAck 45 = .ok (.aload_n 1, 1) := by decide +kernel
theorem dX16_synAck_46 : decode cX16_synAck 46 = .ok (.getfield 354, 3) := by decide +kernel
theorem dX16_synAck_49 : decode cX16_synAck 49 = .ok (.iconst 1, 1) := by decide +kernel
theorem dX16_synAck_50 : decode cX16_synAck 50 = .ok (.iadd, 1) := by decide +kernel
theorem dX16_synAck_51 : decode cX16_synAck 51 = .ok (.putfield 345, 3) := by decide +kernel
theorem dX16_synAck_54 : decode cX16_synAck 54 = .ok (.aload_n 1, 1) := by decide +kernel
theorem dX16_synAck_55 : decode cX16_synAck 55 = .ok (.getfield 361, 3) := by decide +kernel
theorem dX16_synAck_58 : decode cX16_synAck 58 = .ok (.aload_n 1, 1) := by decide +kernel
theorem dX16_synAck_59 : decode cX16_synAck 59 = .ok (.getfield 345, 3) := by decide +kernel
theorem dX16_synAck_62 : decode cX16_synAck 62 = .ok (.invokestatic 363, 3) := by decide +kernel
theorem dX16_synAck_65 : decode cX16_synAck 65 = .ok (.ifCond .eq 11, 3) := by decide +kernel
theorem dX16_synAck_68 : decode cX16_synAck 68 = .ok (.aload_n 1, 1) := by decide +kernel
theorem dX16_synAck_69 : decode cX16_synAck 69 = .ok (.aload_n 1, 1) := by decide +kernel
theorem dX16_synAck_70 : decode cX16_synAck 70 = .ok (.getfield 345, 3) := by decide +kernel
theorem dX16_synAck_73 : decode cX16_synAck 73 = .ok (.putfield 361, 3) := by decide +kernel
theorem dX16_synAck_76 : decode cX16_synAck 76 = .ok (.return_, 1) := by decide +kernel
theorem wX16_synAck {x : GX} {n0 sl0 : Nat} (X : Cx x cX16_synAck RX16 none n0 sl0 6 156) {out : Mm} (hE : Ends x n0 sl0 none out) (hn : xn x = 2) (fu : Nat)   (a0 : Nat) (a1 : Option Nat)  (M : Mm) (h : fX16_synAck fu  a0 a1 M = some out) : Gw x M 0 [(0, pR (some a0)), (1, pR a1)] [] := by
  unfold fX16_synAck at h
  refine g_aload_n X (pc := 0) 0 rfl rfl dX16_synAck_0 ?_
  refine g_aload_n X (pc := 1) 1 rfl rfl dX16_synAck_1 ?_
  obtain ⟨v1, ev1, h⟩ := bd h
  refine g_getI X (pc := 2) fk_12_1 rfl rfl ev1 tb_1581 dX16_synAck_2 ?_
  refine g_bipush X (pc := 5) (v := 80) dX16_synAck_5 (by decide) ?_
  refine g_aload_n X (pc := 7) 1 rfl rfl dX16_synAck_7 ?_
  obtain ⟨v2, ev2, h⟩ := bd h
  refine g_getI X (pc := 8) fk_12_2 rfl rfl ev2 tb_1582 dX16_synAck_8 ?_
  refine g_aload_n X (pc := 11) 1 rfl rfl dX16_synAck_11 ?_
  obtain ⟨v3, ev3, h⟩ := bd h
  refine g_getI X (pc := 12) fk_12_3 rfl rfl ev3 tb_1583 dX16_synAck_12 ?_
  refine g_aload_n X (pc := 15) 1 rfl rfl dX16_synAck_15 ?_
  obtain ⟨v4, ev4, h⟩ := bd h
  refine g_getI X (pc := 16) fk_12_36 rfl rfl ev4 tb_1625 dX16_synAck_16 ?_
  refine g_bipush X (pc := 19) (v := 18) dX16_synAck_19 (by decide) ?_
  refine g_aload_n X (pc := 21) 1 rfl rfl dX16_synAck_21 ?_
  obtain ⟨q5, eq5, h⟩ := bd h
  obtain ⟨v7, M6, eM6, h⟩ := b2d h
  refine g_callV X (pc := 22) (M' := M6) (ro := some (pI v7)) (c := 12) rfl (by decide) (as := []) (as' := []) (st := [pI (18 : Int32), pI v4, pI v3, pI v2, pI (80 : Int32), pI v1, pR (some a0)]) eq5 (ctX12_open _ _ _ _ _ _ fu q5  M _ eM6) tb_2108 tb_2105 tb_2106 tb_2107 tb_9 ⟨rfl, hyX12_open⟩ rfl rfl ⟨by decide, by decide⟩ (Nat.le_of_ble_eq_true rfl) dX16_synAck_22 ?_
  refine g_iconst X (pc := 25) (v := 4) dX16_synAck_25 (by decide) ?_
  refine g_iconst X (pc := 26) (v := 0) dX16_synAck_26 (by decide) ?_
  obtain ⟨q8, eq8, h⟩ := bd h
  obtain ⟨M9, eM9, h⟩ := bd h
  refine g_callV X (pc := 27) (M' := M9) (ro := none) (c := 16) rfl (by decide) (as := [pI v1, pI (80 : Int32), pI v2, pI v3, pI v4, pI (18 : Int32), pI v7, pI (4 : Int32), pI (0 : Int32)]) (as' := [pI (0 : Int32), pI (4 : Int32), pI v7, pI (18 : Int32), pI v4, pI v3, pI v2, pI (80 : Int32), pI v1]) (st := []) eq8 (ctX16_segmentOut _ _ _ _ _ _ fu q8 v1 (80 : Int32) v2 v3 v4 (18 : Int32) v7 (4 : Int32) (0 : Int32) M6 _ eM9) tb_2116 tb_2113 tb_2115 ts_75 tb_8 ⟨rfl, hyX16_segmentOut⟩ rfl rfl ⟨by decide, by decide⟩ (Nat.le_of_ble_eq_true rfl) dX16_synAck_27 ?_
  refine g_aload_n X (pc := 30) 0 rfl rfl dX16_synAck_30 ?_
  refine g_aload_n X (pc := 31) 1 rfl rfl dX16_synAck_31 ?_
  obtain ⟨q10, eq10, h⟩ := bd h
  obtain ⟨M11, eM11, h⟩ := bd h
  refine g_callV X (pc := 32) (M' := M11) (ro := none) (c := 16) rfl (by decide) (as := [pR a1]) (as' := [pR a1]) (st := []) eq10 (ctX16_pays _ _ _ _ _ _ fu q10 a1 M9 _ eM11) tb_2163 tb_2160 tb_2162 ts_84 tb_8 ⟨rfl, hyX16_pays⟩ rfl rfl ⟨by decide, by decide⟩ (Nat.le_of_ble_eq_true rfl) dX16_synAck_32 ?_
  refine g_aload_n X (pc := 35) 0 rfl rfl dX16_synAck_35 ?_
  refine g_aload_n X (pc := 36) 1 rfl rfl dX16_synAck_36 ?_
  refine g_aload_n X (pc := 37) 1 rfl rfl dX16_synAck_37 ?_
  obtain ⟨v12, ev12, h⟩ := bd h
  refine g_getI X (pc := 38) fk_12_3 rfl rfl ev12 tb_1583 dX16_synAck_38 ?_
  obtain ⟨q13, eq13, h⟩ := bd h
  obtain ⟨M14, eM14, h⟩ := bd h
  refine g_callV X (pc := 41) (M' := M14) (ro := none) (c := 16) rfl (by decide) (as := [pR a1, pI v12]) (as' := [pI v12, pR a1]) (st := []) eq13 (ctX16_noted _ _ _ _ _ _ fu q13 a1 v12 M11 _ eM14) tb_2167 tb_2164 tb_2166 ts_85 tb_8 ⟨rfl, hyX16_noted⟩ rfl rfl ⟨by decide, by decide⟩ (Nat.le_of_ble_eq_true rfl) dX16_synAck_41 ?_
  refine g_aload_n X (pc := 44) 1 rfl rfl dX16_synAck_44 ?_
  refine g_aload_n X (pc := 45) 1 rfl rfl dX16_synAck_45 ?_
  obtain ⟨v15, ev15, h⟩ := bd h
  refine g_getI X (pc := 46) fk_12_3 rfl rfl ev15 tb_1583 dX16_synAck_46 ?_
  refine g_iconst X (pc := 49) (v := 1) dX16_synAck_49 (by decide) ?_
  refine g_iadd X (pc := 50) dX16_synAck_50 ?_
  obtain ⟨M16, eM16, h⟩ := bd h
  refine g_putI X (pc := 51) fk_12_5 rfl rfl rfl eM16 tb_1585 (Or.inl rfl) dX16_synAck_51 ?_
  refine g_aload_n X (pc := 54) 1 rfl rfl dX16_synAck_54 ?_
  obtain ⟨v17, ev17, h⟩ := bd h
  refine g_getI X (pc := 55) fk_12_6 rfl rfl ev17 tb_1586 dX16_synAck_55 ?_
  refine g_aload_n X (pc := 58) 1 rfl rfl dX16_synAck_58 ?_
  obtain ⟨v18, ev18, h⟩ := bd h
  refine g_getI X (pc := 59) fk_12_5 rfl rfl ev18 tb_1585 dX16_synAck_59 ?_
  obtain ⟨v20, M19, eM19, h⟩ := b2d h
  refine g_callS X (pc := 62) (M' := M19) (ro := some (pI v20)) (as := [pI v17, pI v18]) (as' := [pI v18, pI v17]) (st := []) (ctX16_before _ _ _ _ _ _ fu  v17 v18 M16 _ eM19) tb_2170 tb_2168 tb_2169 tb_8 hyX16_before rfl rfl ⟨by decide, by decide⟩ (Nat.le_of_ble_eq_true rfl) dX16_synAck_62 ?_
  refine g_if_eq X (pc := 65) (tgt := 76) dX16_synAck_65 (by decide) (fun hc => ?_) (fun hc => ?_)
  · have h := (if_pos hc).symm.trans h
    obtain rfl := Option.some.inj h
    exact g_return X hE dX16_synAck_76
  · have h := (if_neg hc).symm.trans h
    refine g_aload_n X (pc := 68) 1 rfl rfl dX16_synAck_68 ?_
    refine g_aload_n X (pc := 69) 1 rfl rfl dX16_synAck_69 ?_
    obtain ⟨v21, ev21, h⟩ := bd h
    refine g_getI X (pc := 70) fk_12_5 rfl rfl ev21 tb_1585 dX16_synAck_70 ?_
    obtain ⟨M22, eM22, h⟩ := bd h
    refine g_putI X (pc := 73) fk_12_6 rfl rfl rfl eM22 tb_1586 (Or.inl rfl) dX16_synAck_73 ?_
    obtain rfl := Option.some.inj h
    exact g_return X hE dX16_synAck_76
theorem hyX16_synAck : yX16_synAck.cls ≠ "java/lang/invoke/MethodHandle" ∧ yX16_synAck.cls ≠ "java/lang/invoke/VarHandle" ∧ (parseMethodDescriptor yX16_synAck.desc).map (fun d => d.parameters.length) = some 1 := ⟨by decide +kernel, by decide +kernel, by decide +kernel⟩
theorem ctX16_synAck (l : Launch) (E : Nat → Nat) (D : va_G) (dA : Nat → ClassId) (lo : Nat) (H0 : Heap) (fu : Nat) (a0 : Nat) (a1 : Option Nat) (M : Mm) (out : Mm) (h : fX16_synAck fu a0 a1 M = some out) : Ct l E D dA lo H0 yX16_synAck cX16_synAck 2 none 6 156 [pR (some a0), pR a1] M none out := by
  refine ct_of (by decide +kernel) (Nat.le_of_ble_eq_true rfl) ?_
  intro x hl he hd ha ho hh hn hin X hE
  exact wX16_synAck X hE hn fu a0 a1 M h
/-! WebHostModel.alone()V -/
def fX16_alone_L27 (fu : Nat)  (a0 : Nat)  (M : Mm) : Option (Mm) :=
    (rc M 16 (some a0)).bind fun q1 =>
    (fX16_reset fu q1  M).bind fun M2 =>
    some M2
def fX16_alone_L360 (fu : Nat)  : Nat → Nat → Option Nat → Int32 → Mm → Option (Mm)
  | 0, _, _, _, _ => none
  | n + 1, a0, a1, a2, M =>
    if (4096 : Int32) ≤ a2 then (
    (rc M 16 (some a0)).bind fun q1 =>
    (fX16_synAck fu q1 a1 M).bind fun M2 =>
    some M2)
    else (
    (gR M 12 801 a1).bind fun v3 =>
    (pA M 102 v3 a2 ((0 : Int32) &&& 1)).bind fun M4 =>
    fX16_alone_L360 fu  n a0 a1 (a2 + (1 : Int32)) M4)
def fX16_alone_L255 (fu : Nat)  (a0 : Nat) (a1 : Option Nat) (s0 : Option Nat) (s1 : Int32) (M : Mm) : Option (Mm) :=
    (pF M 12 779 s0 s1).bind fun M1 =>
    (pF M1 12 780 a1 (65535 : Int32)).bind fun M2 =>
    (pF M2 12 781 a1 (1000 : Int32)).bind fun M3 =>
    (pZ M3 12 784 a1 (0 : Int32)).bind fun M4 =>
    (pZ M4 12 785 a1 (0 : Int32)).bind fun M5 =>
    (pZ M5 12 786 a1 (0 : Int32)).bind fun M6 =>
    (pZ M6 12 789 a1 (0 : Int32)).bind fun M7 =>
    (pF M7 12 791 a1 (0 : Int32)).bind fun M8 =>
    (pF M8 12 792 a1 (0 : Int32)).bind fun M9 =>
    (pF M9 12 794 a1 (0 : Int32)).bind fun M10 =>
    (pF M10 12 796 a1 (0 : Int32)).bind fun M11 =>
    (gI M11 12 771 a1).bind fun v12 =>
    (pF M11 12 797 a1 (v12 + (1 : Int32))).bind fun M13 =>
    (pZ M13 12 798 a1 (0 : Int32)).bind fun M14 =>
    (pZ M14 12 799 a1 (0 : Int32)).bind fun M15 =>
    (pF M15 12 806 a1 (0 : Int32)).bind fun M16 =>
    (pZ M16 12 807 a1 (0 : Int32)).bind fun M17 =>
    (pZ M17 12 808 a1 (0 : Int32)).bind fun M18 =>
    (pZ M18 12 809 a1 (0 : Int32)).bind fun M19 =>
    (pF M19 12 805 a1 (4096 : Int32)).bind fun M20 =>
    fX16_alone_L360 fu  fu a0 a1 (0 : Int32) M20
def fX16_alone_L77 (fu : Nat) (k54 : Nat → Option Nat → Int32 → Mm → Option (Mm)) (a0 : Nat) (a1 : Option Nat) (a2 : Int32)  (M : Mm) : Option (Mm) :=
    k54 a0 a1 (a2 + (-1 : Int32)) M
def fX16_alone_L54 (fu : Nat)  : Nat → Nat → Option Nat → Int32 → Mm → Option (Mm)
  | 0, _, _, _, _ => none
  | n + 1, a0, a1, a2, M =>
    if a2 < 0 then (
    if a1 = none then (
    some M)
    else (
    (gI M 16 1036 (some a0)).bind fun v1 =>
    (pF M 16 1036 (some a0) (v1 + (1 : Int32))).bind fun M2 =>
    (gR M2 16 1041 (some a0)).bind fun v3 =>
    (gA M2 101 v3 (5 : Int32)).bind fun v4 =>
    (pA M2 101 v3 (5 : Int32) (v4 + (1 : Int32))).bind fun M5 =>
    (pF M5 12 768 a1 (1 : Int32)).bind fun M6 =>
    (gI M6 16 1054 (some a0)).bind fun v7 =>
    (pF M6 12 769 a1 v7).bind fun M8 =>
    (gI M8 16 1056 (some a0)).bind fun v9 =>
    (pF M8 12 770 a1 v9).bind fun M10 =>
    (gI M10 16 1058 (some a0)).bind fun v11 =>
    (pF M10 12 802 a1 v11).bind fun M12 =>
    (gI M12 16 1058 (some a0)).bind fun v13 =>
    (pF M12 12 804 a1 (v13 + (1 : Int32))).bind fun M14 =>
    (gI M14 12 804 a1).bind fun v15 =>
    (pF M14 12 803 a1 v15).bind fun M16 =>
    (gI M16 16 1036 (some a0)).bind fun v17 =>
    (gI M16 16 1034 (some a0)).bind fun v18 =>
    (pF M16 12 771 a1 (((64000 : Int32) * v17) + ((250 : Int32) * v18))).bind fun M19 =>
    (gI M19 12 771 a1).bind fun v20 =>
    (pF M19 12 772 a1 v20).bind fun M21 =>
    (gI M21 12 771 a1).bind fun v22 =>
    (pF M21 12 773 a1 v22).bind fun M23 =>
    (gI M23 12 771 a1).bind fun v24 =>
    (pF M23 12 774 a1 v24).bind fun M25 =>
    (gI M25 16 1061 (some a0)).bind fun v26 =>
    (pF M25 12 775 a1 v26).bind fun M27 =>
    (gI M27 16 1058 (some a0)).bind fun v28 =>
    (pF M27 12 776 a1 v28).bind fun M29 =>
    (pF M29 12 777 a1 (0 : Int32)).bind fun M30 =>
    (rc M30 16 (some a0)).bind fun q31 =>
    b2 (fX16_optionMss fu q31  M30) fun v33 M32 =>
    (pF M32 12 778 a1 v33).bind fun M34 =>
    (gI M34 12 778 a1).bind fun v35 =>
    if (1095 : Int32) < v35 then (
    (gI M34 12 778 a1).bind fun v36 =>
    fX16_alone_L255 fu  a0 a1 a1 ((3 : Int32) * v36) M34)
    else (
    (gI M34 12 778 a1).bind fun v37 =>
    fX16_alone_L255 fu  a0 a1 a1 ((4 : Int32) * v37) M34)))
    else (
    (gR M 16 1055 (some a0)).bind fun v38 =>
    (gB M 122 v38 a2).bind fun v39 =>
    (gI M 12 768 v39).bind fun v40 =>
    if v40 = 0 then (
    (gR M 16 1055 (some a0)).bind fun v41 =>
    (gB M 122 v41 a2).bind fun v42 =>
    fX16_alone_L77 fu (fun b0 b1 b2 M => fX16_alone_L54 fu  n b0 b1 b2 M) a0 v42 a2 M)
    else (
    fX16_alone_L77 fu (fun b0 b1 b2 M => fX16_alone_L54 fu  n b0 b1 b2 M) a0 a1 a2 M))
def fX16_alone (fu : Nat)  (a0 : Nat)  (M : Mm) : Option (Mm) :=
    (rc M 16 (some a0)).bind fun q1 =>
    b2 (fX16_is fu q1 (4 : Int32) M) fun v3 M2 =>
    if v3 = 0 then (
    (gI M2 16 1057 (some a0)).bind fun v4 =>
    if v4 = (80 : Int32) then (
    (rc M2 16 (some a0)).bind fun q5 =>
    b2 (fX16_is fu q5 (16 : Int32) M2) fun v7 M6 =>
    if v7 = 0 then (
    (rc M6 16 (some a0)).bind fun q8 =>
    b2 (fX16_is fu q8 (2 : Int32) M6) fun v10 M9 =>
    if v10 = 0 then (
    some M9)
    else (
    (rc M9 16 (some a0)).bind fun q11 =>
    b2 (fX16_is fu q11 (1 : Int32) M9) fun v13 M12 =>
    if v13 = 0 then (
    fX16_alone_L54 fu  fu a0 none (15 : Int32) M12)
    else (
    some M12)))
    else (
    fX16_alone_L27 fu  a0 M6))
    else (
    fX16_alone_L27 fu  a0 M2))
    else (
    some M2)
theorem dX16_alone_0 : decode cX16_alone 0 = .ok (.aload_n 0, 1) := by decide +kernel
theorem dX16_alone_1 : decode cX16_alone 1 = .ok (.iconst 4, 1) := by decide +kernel
theorem dX16_alone_2 : decode cX16_alone 2 = .ok (.invokevirtual 325, 3) := by decide +kernel
theorem dX16_alone_5 : decode cX16_alone 5 = .ok (.ifCond .eq 4, 3) := by decide +kernel
theorem dX16_alone_8 : decode cX16_alone 8 = .ok (.return_, 1) := by decide +kernel
theorem dX16_alone_9 : decode cX16_alone 9 = .ok (.aload_n 0, 1) := by decide +kernel
theorem dX16_alone_10 : decode cX16_alone 10 = .ok (.getfield 292, 3) := by decide +kernel
theorem dX16_alone_13 : decode cX16_alone 13 = .ok (.bipush 80, 2) := by decide +kernel
theorem dX16_alone_15 : decode cX16_alone 15 = .ok (.if_icmp .ne 12, 3) := by decide +kernel
theorem dX16_alone_18 : decode cX16_alone 18 = .ok (.aload_n 0, 1) := by decide +kernel
theorem dX16_alone_19 : decode cX16_alone 19 = .ok (.bipush 16, 2) := by decide +kernel
theorem dX16_alone_21 : decode cX16_alone 21 = .ok (.invokevirtual 325, 3) := by decide +kernel
theorem dX16_alone_24 : decode cX16_alone 24 = .ok (.ifCond .eq 8, 3) := by decide +kernel
theorem dX16_alone_27 : decode cX16_alone 27 = .ok (.aload_n 0, 1) := by decide +kernel
theorem dX16_alone_28 : decode cX16_alone 28 = .ok (.invokevirtual 438, 3) := by decide +kernel
theorem dX16_alone_31 : decode cX16_alone 31 = .ok (.return_, 1) := by decide +kernel
theorem dX16_alone_32 : decode cX16_alone 32 = .ok (.aload_n 0, 1) := by decide +kernel
theorem dX16_alone_33 : decode cX16_alone 33 = .ok (.iconst 2, 1) := by decide +kernel
theorem dX16_alone_34 : decode cX16_alone 34 = .ok (.invokevirtual 325, 3) := by decide +kernel
theorem dX16_alone_37 : decode cX16_alone 37 = .ok (.ifCond .eq 11, 3) := by decide +kernel
theorem dX16_alone_40 : decode cX16_alone 40 = .ok (.aload_n 0, 1) := by decide +kernel
theorem dX16_alone_41 : decode cX16_alone 41 = .ok (.iconst 1, 1) := by decide +kernel
theorem dX16_alone_42 : decode cX16_alone 42 = .ok (.invokevirtual 325, 3) := by decide +kernel
theorem dX16_alone_45 : decode cX16_alone 45 = .ok (.ifCond .eq 4, 3) := by decide +kernel
theorem dX16_alone_48 : decode cX16_alone 48 = .ok (.return_, 1) := by decide +kernel
theorem dX16_alone_49 : decode cX16_alone 49 = .ok (.aconst_null, 1) := by decide +kernel
theorem dX16_alone_50 : decode cX16_alone 50 = .ok (.astore_n 1, 1) := by decide +kernel
theorem dX16_alone_51 : decode cX16_alone 51 = .ok (.bipush 15, 2) := by decide +kernel
theorem dX16_alone_53 : decode cX16_alone 53 = .ok (.istore_n 2, 1) := by decide +kernel
theorem dX16_alone_54 : decode cX16_alone 54 = .ok (.iload_n 2, 1) := by decide +kernel
theorem dX16_alone_55 : decode cX16_alone 55 = .ok (.ifCond .lt 28, 3) := by decide +kernel
theorem dX16_alone_58 : decode cX16_alone 58 = .ok (.aload_n 0, 1) := by decide +kernel
theorem dX16_alone_59 : decode cX16_alone 59 = .ok (.getfield 70, 3) := by decide +kernel
theorem dX16_alone_62 : decode cX16_alone 62 = .ok (.iload_n 2, 1) := by decide +kernel
theorem dX16_alone_63 : decode cX16_alone 63 = .ok (.aaload, 1) := by decide +kernel
theorem dX16_alone_64 : decode cX16_alone 64 = .ok (.getfield 152, 3) := by decide +kernel
theorem dX16_alone_67 : decode cX16_alone 67 = .ok (.ifCond .ne 10, 3) := by decide +kernel
theorem dX16_alone_70 : decode cX16_alone 70 = .ok (.aload_n 0, 1) := by decide +kernel
theorem dX16_alone_71 : decode cX16_alone 71 = .ok (.getfield 70, 3) := by decide +kernel
theorem dX16_alone_74 : decode cX16_alone 74 = .ok (.iload_n 2, 1) := by decide +kernel
theorem dX16_alone_75 : decode cX16_alone 75 = .ok (.aaload, 1) := by decide +kernel
theorem dX16_alone_76 : decode cX16_alone 76 = .ok (.astore_n 1, 1) := by decide +kernel
theorem dX16_alone_77 : decode cX16_alone 77 = .ok (.iinc 2 (-1), 3) := by decide +kernel
theorem dX16_alone_80 : decode cX16_alone 80 = .ok (.goto (-26), 3) := by decide +kernel
theorem dX16_alone_83 : decode cX16_alone 83 = .ok (.aload_n 1, 1) := by decide +kernel
theorem dX16_alone_84 : decode cX16_alone 84 = .ok (.ifnonnull 4, 3) := by decide +kernel
theorem dX16_alone_87 : decode cX16_alone 87 = .ok (.return_, 1) := by decide +kernel
theorem dX16_alone_88 : decode cX16_alone 88 = .ok (.aload_n 0, 1) := by decide +kernel
theorem dX16_alone_89 : decode cX16_alone 89 = .ok (.dup, 1) := by decide +kernel
theorem dX16_alone_90 : decode cX16_alone 90 = .ok (.getfield 143, 3) := by decide +kernel
theorem dX16_alone_93 : decode cX16_alone 93 = .ok (.iconst 1, 1) := by decide +kernel
theorem dX16_alone_94 : decode cX16_alone 94 = .ok (.iadd, 1) := by decide +kernel
theorem dX16_alone_95 : decode cX16_alone 95 = .ok (.putfield 143, 3) := by decide +kernel
theorem dX16_alone_98 : decode cX16_alone 98 = .ok (.aload_n 0, 1) := by decide +kernel
theorem dX16_alone_99 : decode cX16_alone 99 = .ok (.getfield 31, 3) := by decide +kernel
theorem dX16_alone_102 : decode cX16_alone 102 = .ok (.iconst 5, 1) := by decide +kernel
theorem dX16_alone_103 : decode cX16_alone 103 = .ok (.dup2, 1) := by decide +kernel
theorem dX16_alone_104 : decode cX16_alone 104 = .ok (.iaload, 1) := by decide +kernel
theorem dX16_alone_105 : decode cX16_alone 105 = .ok (.iconst 1, 1) := by decide +kernel
theorem dX16_alone_106 : decode cX16_alone 106 = .ok (.iadd, 1) := by decide +kernel
theorem dX16_alone_107 : decode cX16_alone 107 = .ok (.iastore, 1) := by decide +kernel
theorem dX16_alone_108 : decode cX16_alone 108 = .ok (.aload_n 1, 1) := by decide +kernel
theorem dX16_alone_109 : decode cX16_alone 109 = .ok (.iconst 1, 1) := by decide +kernel
theorem dX16_alone_110 : decode cX16_alone 110 = .ok (.putfield 152, 3) := by decide +kernel
theorem dX16_alone_113 : decode cX16_alone 113 = .ok (.aload_n 1, 1) := by decide +kernel
theorem dX16_alone_114 : decode cX16_alone 114 = .ok (.aload_n 0, 1) := by decide +kernel
theorem dX16_alone_115 : decode cX16_alone 115 = .ok (.getfield 240, 3) := by decide +kernel
theorem dX16_alone_118 : decode cX16_alone 118 = .ok (.putfield 314, 3) := by decide +kernel
theorem dX16_alone_121 : decode cX16_alone 121 = .ok (.aload_n 1, 1) := by decide +kernel
theorem dX16_alone_122 : decode cX16_alone 122 = .ok (.aload_n 0, 1) := by decide +kernel
theorem dX16_alone_123 : decode cX16_alone 123 = .ok (.getfield 289, 3) := by decide +kernel
theorem dX16_alone_126 : decode cX16_alone 126 = .ok (.putfield 315, 3) := by decide +kernel
theorem dX16_alone_129 : decode cX16_alone 129 = .ok (.aload_n 1, 1) := by decide +kernel
theorem dX16_alone_130 : decode cX16_alone 130 = .ok (.aload_n 0, 1) := by decide +kernel
theorem dX16_alone_131 : decode cX16_alone 131 = .ok (.getfield 298, 3) := by decide +kernel
theorem dX16_alone_134 : decode cX16_alone 134 = .ok (.putfield 441, 3) := by decide +kernel
theorem dX16_alone_137 : decode cX16_alone 137 = .ok (.aload_n 1, 1) := by decide +kernel
theorem dX16_alone_138 : decode cX16_alone 138 = .ok (.aload_n 0, 1) := by decide +kernel
theorem dX16_alone_139 : decode cX16_alone 139 = .ok (.getfield 298, 3) := by decide +kernel
theorem dX16_alone_142 : decode cX16_alone 142 = .ok (.iconst 1, 1) := by decide +kernel
theorem dX16_alone_143 : decode cX16_alone 143 = .ok (.iadd, 1) := by decide +kernel
theorem dX16_alone_144 : decode cX16_alone 144 = .ok (.putfield 348, 3) := by decide +kernel
theorem dX16_alone_147 : decode cX16_alone 147 = .ok (.aload_n 1, 1) := by decide +kernel
theorem dX16_alone_148 : decode cX16_alone 148 = .ok (.aload_n 1, 1) := by decide +kernel
theorem dX16_alone_149 : decode cX16_alone 149 = .ok (.getfield 348, 3) := by decide +kernel
theorem dX16_alone_152 : decode cX16_alone 152 = .ok (.putfield 444, 3) := by decide +kernel
theorem dX16_alone_155 : decode cX16_alone 155 = .ok (.aload_n 1, 1) := by decide +kernel
theorem dX16_alone_156 : decode cX16_alone 156 = .ok (.ldc_w 447, 3) := by decide +kernel
theorem dX16_alone_159 : decode cX16_alone 159 = .ok (.aload_n 0, 1) := by decide +kernel
theorem dX16_alone_160 : decode cX16_alone 160 = .ok (.getfield 143, 3) := by decide +kernel
theorem dX16_alone_163 : decode cX16_alone 163 = .ok (.imul, 1) := by decide +kernel
theorem dX16_alone_164 : decode cX16_alone 164 = .ok (.sipush 250, 3) := by decide +kernel
theorem dX16_alone_167 : decode cX16_alone 167 = .ok (.aload_n 0, 1) := by decide +kernel
theorem dX16_alone_168 : decode cX16_alone 168 = .ok (.getfield 134, 3) := by decide +kernel
theorem dX16_alone_171 : decode cX16_alone 171 = .ok (.imul, 1) := by decide +kernel
theorem dX16_alone_172 : decode cX16_alone 172 = .ok (.iadd, 1) := by decide +kernel
theorem dX16_alone_173 : decode cX16_alone 173 = .ok (.putfield 354, 3) := by decide +kernel
theorem dX16_alone_176 : decode cX16_alone 176 = .ok (.aload_n 1, 1) := by decide +kernel
theorem dX16_alone_177 : decode cX16_alone 177 = .ok (.aload_n 1, 1) := by decide +kernel
theorem dX16_alone_178 : decode cX16_alone 178 = .ok (.getfield 354, 3) := by decide +kernel
theorem dX16_alone_181 : decode cX16_alone 181 = .ok (.putfield 428, 3) := by decide +kernel
theorem dX16_alone_184 : decode cX16_alone 184 = .ok (.aload_n 1, 1) := by decide +kernel
theorem dX16_alone_185 : decode cX16_alone 185 = .ok (.aload_n 1, 1) := by decide +kernel
theorem dX16_alone_186 : decode cX16_alone 186 = .ok (.getfield 354, 3) := by decide +kernel
theorem dX16_alone_189 : decode cX16_alone 189 = .ok (.putfield 345, 3) := by decide +kernel
theorem dX16_alone_192 : decode cX16_alone 192 = .ok (.aload_n 1, 1) := by decide +kernel
theorem dX16_alone_193 : decode cX16_alone 193 = .ok (.aload_n 1, 1) := by decide +kernel
theorem dX16_alone_194 : decode cX16_alone 194 = .ok (.getfield 354, 3) := by decide +kernel
theorem dX16_alone_197 : decode cX16_alone 197 = .ok (.putfield 361, 3) := by decide +kernel
theorem dX16_alone_200 : decode cX16_alone 200 = .ok (.aload_n 1, 1) := by decide +kernel
theorem dX16_alone_201 : decode cX16_alone 201 = .ok (.aload_n 0, 1) := by decide +kernel
theorem dX16_alone_202 : decode cX16_alone 202 = .ok (.getfield 305, 3) := by decide +kernel
theorem dX16_alone_205 : decode cX16_alone 205 = .ok (.putfield 434, 3) := by decide +kernel
theorem dX16_alone_208 : decode cX16_alone 208 = .ok (.aload_n 1, 1) := by decide +kernel
theorem dX16_alone_209 : decode cX16_alone 209 = .ok (.aload_n 0, 1) := by decide +kernel
theorem dX16_alone_210 : decode cX16_alone 210 = .ok (.getfield 298, 3) := by decide +kernel
theorem dX16_alone_213 : decode cX16_alone 213 = .ok (.putfield 448, 3) := by decide +kernel
theorem dX16_alone_216 : decode cX16_alone 216 = .ok (.aload_n 1, 1) := by decide +kernel
theorem dX16_alone_217 : decode cX16_alone 217 = .ok (.iconst 0, 1) := by decide +kernel
theorem dX16_alone_218 : decode cX16_alone 218 = .ok (.putfield 451, 3) := by decide +kernel
theorem dX16_alone_221 : decode cX16_alone 221 = .ok (.aload_n 1, 1) := by decide +kernel
theorem dX16_alone_222 : decode cX16_alone 222 = .ok (.aload_n 0, 1) := by decide +kernel
theorem dX16_alone_223 : decode cX16_alone 223 = .ok (.invokevirtual 454, 3) := by decide +kernel
theorem dX16_alone_226 : decode cX16_alone 226 = .ok (.putfield 405, 3) := by decide +kernel
theorem dX16_alone_229 : decode cX16_alone 229 = .ok (.aload_n 1, 1) := by decide +kernel
theorem dX16_alone_230 : decode cX16_alone 230 = .ok (.aload_n 1, 1) := by decide +kernel
theorem dX16_alone_231 : decode cX16_alone 231 = .ok (.getfield 405, 3) := by decide +kernel
theorem dX16_alone_234 : decode cX16_alone 234 = .ok (.sipush 1095, 3) := by decide +kernel
theorem dX16_alone_237 : decode cX16_alone 237 = .ok (.if_icmp .gt 12, 3) := by decide +kernel
theorem dX16_alone_240 : decode cX16_alone 240 = .ok (.iconst 4, 1) := by decide +kernel
theorem dX16_alone_241 : decode cX16_alone 241 = .ok (.aload_n 1, 1) := by decide +kernel
theorem dX16_alone_242 : decode cX16_alone 242 = .ok (.getfield 405, 3) := by decide +kernel
theorem dX16_alone_245 : decode cX16_alone 245 = .ok (.imul, 1) := by decide +kernel
theorem dX16_alone_246 : decode cX16_alone 246 = .ok (.goto 9, 3) := by decide +kernel
theorem dX16_alone_249 : decode cX16_alone 249 = .ok (.iconst 3, 1) := by decide +kernel
theorem dX16_alone_250 : decode cX16_alone 250 = .ok (.aload_n 1, 1) := by decide +kernel
theorem dX16_alone_251 : decode cX16_alone 251 = .ok (.getfield 405, 3) := by decide +kernel
theorem dX16_alone_254 : decode cX16_alone 254 = .ok (.imul, 1) := by decide +kernel
theorem dX16_alone_255 : decode cX16_alone 255 = .ok (.putfield 431, 3) := by decide +kernel
theorem dX16_alone_258 : decode cX16_alone 258 = .ok (.aload_n 1, 1) := by decide +kernel
theorem dX16_alone_259 : decode cX16_alone 259 = .ok (.ldc 14, 2) := by decide +kernel
theorem dX16_alone_261 : decode cX16_alone 261 = .ok (.putfield 457, 3) := by decide +kernel
theorem dX16_alone_264 : decode cX16_alone 264 = .ok (.aload_n 1, 1) := by decide +kernel
theorem dX16_alone_265 : decode cX16_alone 265 = .ok (.sipush 1000, 3) := by decide +kernel
theorem dX16_alone_268 : decode cX16_alone 268 = .ok (.putfield 382, 3) := by decide +kernel
theorem dX16_alone_271 : decode cX16_alone 271 = .ok (.aload_n 1, 1) := by decide +kernel
theorem dX16_alone_272 : decode cX16_alone 272 = .ok (.iconst 0, 1) := by decide +kernel
theorem dX16_alone_273 : decode cX16_alone 273 = .ok (.putfield 460, 3) := by decide +kernel
theorem dX16_alone_276 : decode cX16_alone 276 = .ok (.aload_n 1, 1) := by decide +kernel
theorem dX16_alone_277 : decode cX16_alone 277 = .ok (.iconst 0, 1) := by decide +kernel
theorem dX16_alone_278 : decode cX16_alone 278 = .ok (.putfield 367, 3) := by decide +kernel
theorem dX16_alone_281 : decode cX16_alone 281 = .ok (.aload_n 1, 1) := by decide +kernel
theorem dX16_alone_282 : decode cX16_alone 282 = .ok (.iconst 0, 1) := by decide +kernel
theorem dX16_alone_283 : decode cX16_alone 283 = .ok (.putfield 463, 3) := by decide +kernel
theorem dX16_alone_286 : decode cX16_alone 286 = .ok (.aload_n 1, 1) := by decide +kernel
theorem dX16_alone_287 : decode cX16_alone 287 = .ok (.iconst 0, 1) := by decide +kernel
theorem dX16_alone_288 : decode cX16_alone 288 = .ok (.putfield 376, 3) := by decide +kernel
theorem dX16_alone_291 : decode cX16_alone 291 = .ok (.aload_n 1, 1) := by decide +kernel
theorem dX16_alone_292 : decode cX16_alone 292 = .ok (.iconst 0, 1) := by decide +kernel
theorem dX16_alone_293 : decode cX16_alone 293 = .ok (.putfield 466, 3) := by decide +kernel
theorem dX16_alone_296 : decode cX16_alone 296 = .ok (.aload_n 1, 1) := by decide +kernel
theorem dX16_alone_297 : decode cX16_alone 297 = .ok (.iconst 0, 1) := by decide +kernel
theorem dX16_alone_298 : decode cX16_alone 298 = .ok (.putfield 469, 3) := by decide +kernel
theorem dX16_alone_301 : decode cX16_alone 301 = .ok (.aload_n 1, 1) := by decide +kernel
theorem dX16_alone_302 : decode cX16_alone 302 = .ok (.iconst 0, 1) := by decide +kernel
theorem dX16_alone_303 : decode cX16_alone 303 = .ok (.putfield 391, 3) := by decide +kernel
theorem dX16_alone_306 : decode cX16_alone 306 = .ok (.aload_n 1, 1) := by decide +kernel
theorem dX16_alone_307 : decode cX16_alone 307 = .ok (.iconst 0, 1) := by decide +kernel
theorem dX16_alone_308 : decode cX16_alone 308 = .ok (.putfield 472, 3) := by decide +kernel
theorem dX16_alone_311 : decode cX16_alone 311 = .ok (.aload_n 1, 1) := by decide +kernel
theorem dX16_alone_312 : decode cX16_alone 312 = .ok (.aload_n 1, 1) := by decide +kernel
theorem dX16_alone_313 : decode cX16_alone 313 = .ok (.getfield 354, 3) := by decide +kernel
theorem dX16_alone_316 : decode cX16_alone 316 = .ok (.iconst 1, 1) := by decide +kernel
theorem dX16_alone_317 : decode cX16_alone 317 = .ok (.iadd, 1) := by decide +kernel
theorem dX16_alone_318 : decode cX16_alone 318 = .ok (.putfield 388, 3) := by decide +kernel
theorem dX16_alone_321 : decode cX16_alone 321 = .ok (.aload_n 1, 1) := by decide +kernel
theorem dX16_alone_322 : decode cX16_alone 322 = .ok (.iconst 0, 1) := by decide +kernel
theorem dX16_alone_323 : decode cX16_alone 323 = .ok (.putfield 418, 3) := by decide +kernel
theorem dX16_alone_326 : decode cX16_alone 326 = .ok (.aload_n 1, 1) := by decide +kernel
theorem dX16_alone_327 : decode cX16_alone 327 = .ok (.iconst 0, 1) := by decide +kernel
theorem dX16_alone_328 : decode cX16_alone 328 = .ok (.putfield 408, 3) := by decide +kernel
theorem dX16_alone_331 : decode cX16_alone 331 = .ok (.aload_n 1, 1) := by decide +kernel
theorem dX16_alone_332 : decode cX16_alone 332 = .ok (.iconst 0, 1) := by decide +kernel
theorem dX16_alone_333 : decode cX16_alone 333 = .ok (.putfield 475, 3) := by decide +kernel
theorem dX16_alone_336 : decode cX16_alone 336 = .ok (.aload_n 1, 1) := by decide +kernel
theorem dX16_alone_337 : decode cX16_alone 337 = .ok (.iconst 0, 1) := by decide +kernel
theorem dX16_alone_338 : decode cX16_alone 338 = .ok (.putfield 336, 3) := by decide +kernel
theorem dX16_alone_341 : decode cX16_alone 341 = .ok (.aload_n 1, 1) := by decide +kernel
theorem dX16_alone_342 : decode cX16_alone 342 = .ok (.iconst 0, 1) := by decide +kernel
theorem dX16_alone_343 : decode cX16_alone 343 = .ok (.putfield 478, 3) := by decide +kernel
theorem dX16_alone_346 : decode cX16_alone 346 = .ok (.aload_n 1, 1) := by decide +kernel
theorem dX16_alone_347 : decode cX16_alone 347 = .ok (.iconst 0, 1) := by decide +kernel
theorem dX16_alone_348 : decode cX16_alone 348 = .ok (.putfield 481, 3) := by decide +kernel
theorem dX16_alone_351 : decode cX16_alone 351 = .ok (.aload_n 1, 1) := by decide +kernel
theorem dX16_alone_352 : decode cX16_alone 352 = .ok (.sipush 4096, 3) := by decide +kernel
theorem dX16_alone_355 : decode cX16_alone 355 = .ok (.putfield 342, 3) := by decide +kernel
theorem dX16_alone_358 : decode cX16_alone 358 = .ok (.iconst 0, 1) := by decide +kernel
theorem dX16_alone_359 : decode cX16_alone 359 = .ok (.istore_n 2, 1) := by decide +kernel
theorem dX16_alone_360 : decode cX16_alone 360 = .ok (.iload_n 2, 1) := by decide +kernel
theorem dX16_alone_361 : decode cX16_alone 361 = .ok (.sipush 4096, 3) := by decide +kernel
theorem dX16_alone_364 : decode cX16_alone 364 = .ok (.if_icmp .ge 16, 3) := by decide +kernel
theorem dX16_alone_367 : decode cX16_alone 367 = .ok (.aload_n 1, 1) := by decide +kernel
theorem dX16_alone_368 : decode cX16_alone 368 = .ok (.getfield 484, 3) := by decide +kernel
theorem dX16_alone_371 : decode cX16_alone 371 = .ok (.iload_n 2, 1) := by decide +kernel
theorem dX16_alone_372 : decode cX16_alone 372 = .ok (.iconst 0, 1) := by decide +kernel
theorem dX16_alone_373 : decode cX16_alone 373 = .ok (.bastore, 1) := by decide +kernel
theorem dX16_alone_374 : decode cX16_alone 374 = .ok (.iinc 2 1, 3) := by decide +kernel
theorem dX16_alone_377 : decode cX16_alone 377 = .ok (.goto (-17), 3) := by decide +kernel
theorem dX16_alone_380 : decode cX16_alone 380 = .ok (.aload_n 0, 1) := by decide +kernel
theorem dX16_alone_381 : decode cX16_alone 381 = .ok (.aload_n 1, 1) := by decide +kernel
theorem dX16_alone_382 : decode cX16_alone 382 = .ok (.invokevirtual 485, 3) := by decide +kernel
theorem dX16_alone_385 : decode cX16_alone 385 = .ok (.return_, 1) := by decide +kernel
theorem wX16_alone_L27 {x : GX} {n0 sl0 : Nat} (X : Cx x cX16_alone RX16 none n0 sl0 7 177) {out : Mm} (hE : Ends x n0 sl0 none out) (hn : xn x = 3) (fu : Nat)   (a0 : Nat)  (M : Mm) (h : fX16_alone_L27 fu  a0 M = some out) : Gw x M 27 [(0, pR (some a0))] [] := by
  unfold fX16_alone_L27 at h
  refine g_aload_n X (pc := 27) 0 rfl rfl dX16_alone_27 ?_
  obtain ⟨q1, eq1, h⟩ := bd h
  obtain ⟨M2, eM2, h⟩ := bd h
  refine g_callV X (pc := 28) (M' := M2) (ro := none) (c := 16) rfl (by decide) (as := []) (as' := []) (st := []) eq1 (ctX16_reset _ _ _ _ _ _ fu q1  M _ eM2) tb_2254 tb_2251 tb_2253 ts_105 tb_8 ⟨rfl, hyX16_reset⟩ rfl rfl ⟨by decide, by decide⟩ (Nat.le_of_ble_eq_true rfl) dX16_alone_28 ?_
  obtain rfl := Option.some.inj h
  exact g_return X hE dX16_alone_31
theorem wX16_alone_L360 {x : GX} {n0 sl0 : Nat} (X : Cx x cX16_alone RX16 none n0 sl0 7 177) {out : Mm} (hE : Ends x n0 sl0 none out) (hn : xn x = 3) (fu : Nat)   : ∀ (n : Nat) (a0 : Nat) (a1 : Option Nat) (a2 : Int32)  (M : Mm), fX16_alone_L360 fu  n a0 a1 a2 M = some out → Gw x M 360 [(0, pR (some a0)), (1, pR a1), (2, pI a2)] [] := by
  intro n
  induction n with
  | zero =>
    intro a0 a1 a2 M h
    have h : (none : Option (Mm)) = some out := h
    cases h
  | succ n ih =>
    intro a0 a1 a2 M h
    rw [fX16_alone_L360] at h
    refine g_iload_n X (pc := 360) 2 rfl rfl dX16_alone_360 ?_
    refine g_sipush X (pc := 361) (v := 4096) dX16_alone_361 (by decide) ?_
    refine g_icmp_ge X (pc := 364) (tgt := 380) dX16_alone_364 (by decide) (fun hc => ?_) (fun hc => ?_)
    · have h := (if_pos hc).symm.trans h
      refine g_aload_n X (pc := 380) 0 rfl rfl dX16_alone_380 ?_
      refine g_aload_n X (pc := 381) 1 rfl rfl dX16_alone_381 ?_
      obtain ⟨q1, eq1, h⟩ := bd h
      obtain ⟨M2, eM2, h⟩ := bd h
      refine g_callV X (pc := 382) (M' := M2) (ro := none) (c := 16) rfl (by decide) (as := [pR a1]) (as' := [pR a1]) (st := []) eq1 (ctX16_synAck _ _ _ _ _ _ fu q1 a1 M _ eM2) tb_2159 tb_2156 tb_2158 ts_83 tb_8 ⟨rfl, hyX16_synAck⟩ rfl rfl ⟨by decide, by decide⟩ (Nat.le_of_ble_eq_true rfl) dX16_alone_382 ?_
      obtain rfl := Option.some.inj h
      exact g_return X hE dX16_alone_385
    · have h := (if_neg hc).symm.trans h
      refine g_aload_n X (pc := 367) 1 rfl rfl dX16_alone_367 ?_
      obtain ⟨v3, ev3, h⟩ := bd h
      refine g_getR X (pc := 368) fk_12_33 rfl rfl ev3 tb_1620 dX16_alone_368 ?_
      refine g_iload_n X (pc := 371) 2 rfl rfl dX16_alone_371 ?_
      refine g_iconst X (pc := 372) (v := 0) dX16_alone_372 (by decide) ?_
      obtain ⟨M4, eM4, h⟩ := bd h
      refine g_zastore X (pc := 373) eM4 dX16_alone_373 ?_
      refine g_iinc X (pc := 374) 2 [(2, pI (a2 + (1 : Int32))), (0, pR (some a0)), (1, pR a1)] rfl (iinc_e (by decide)) (lt_n hn (by decide)) rfl dX16_alone_374 ?_
      refine g_goto X (pc := 377) (tgt := 360) dX16_alone_377 (by decide) ?_
      refine g_sub [1, 2, 0] [(0, pR (some a0)), (1, pR a1), (2, pI (a2 + (1 : Int32)))] rfl ?_
      exact ih a0 a1 (a2 + (1 : Int32)) M4 h
theorem wX16_alone_L255 {x : GX} {n0 sl0 : Nat} (X : Cx x cX16_alone RX16 none n0 sl0 7 177) {out : Mm} (hE : Ends x n0 sl0 none out) (hn : xn x = 3) (fu : Nat)   (a0 : Nat) (a1 : Option Nat) (s0 : Option Nat) (s1 : Int32) (M : Mm) (h : fX16_alone_L255 fu  a0 a1 s0 s1 M = some out) : Gw x M 255 [(0, pR (some a0)), (1, pR a1)] [pI s1, pR s0] := by
  unfold fX16_alone_L255 at h
  obtain ⟨M1, eM1, h⟩ := bd h
  refine g_putI X (pc := 255) fk_12_11 rfl rfl rfl eM1 tb_1591 (Or.inl rfl) dX16_alone_255 ?_
  refine g_aload_n X (pc := 258) 1 rfl rfl dX16_alone_258 ?_
  refine g_ldc X (pc := 259) tb_1565 dX16_alone_259 ?_
  obtain ⟨M2, eM2, h⟩ := bd h
  refine g_putI X (pc := 261) fk_12_12 rfl rfl rfl eM2 tb_1592 (Or.inl rfl) dX16_alone_261 ?_
  refine g_aload_n X (pc := 264) 1 rfl rfl dX16_alone_264 ?_
  refine g_sipush X (pc := 265) (v := 1000) dX16_alone_265 (by decide) ?_
  obtain ⟨M3, eM3, h⟩ := bd h
  refine g_putI X (pc := 268) fk_12_13 rfl rfl rfl eM3 tb_1593 (Or.inl rfl) dX16_alone_268 ?_
  refine g_aload_n X (pc := 271) 1 rfl rfl dX16_alone_271 ?_
  refine g_iconst X (pc := 272) (v := 0) dX16_alone_272 (by decide) ?_
  obtain ⟨M4, eM4, h⟩ := bd h
  refine g_putZ X (pc := 273) fk_12_16 rfl rfl rfl eM4 tb_1596 (Or.inl rfl) dX16_alone_273 ?_
  refine g_aload_n X (pc := 276) 1 rfl rfl dX16_alone_276 ?_
  refine g_iconst X (pc := 277) (v := 0) dX16_alone_277 (by decide) ?_
  obtain ⟨M5, eM5, h⟩ := bd h
  refine g_putZ X (pc := 278) fk_12_17 rfl rfl rfl eM5 tb_1597 (Or.inl rfl) dX16_alone_278 ?_
  refine g_aload_n X (pc := 281) 1 rfl rfl dX16_alone_281 ?_
  refine g_iconst X (pc := 282) (v := 0) dX16_alone_282 (by decide) ?_
  obtain ⟨M6, eM6, h⟩ := bd h
  refine g_putZ X (pc := 283) fk_12_18 rfl rfl rfl eM6 tb_1598 (Or.inl rfl) dX16_alone_283 ?_
  refine g_aload_n X (pc := 286) 1 rfl rfl dX16_alone_286 ?_
  refine g_iconst X (pc := 287) (v := 0) dX16_alone_287 (by decide) ?_
  obtain ⟨M7, eM7, h⟩ := bd h
  refine g_putZ X (pc := 288) fk_12_21 rfl rfl rfl eM7 tb_1601 (Or.inl rfl) dX16_alone_288 ?_
  refine g_aload_n X (pc := 291) 1 rfl rfl dX16_alone_291 ?_
  refine g_iconst X (pc := 292) (v := 0) dX16_alone_292 (by decide) ?_
  obtain ⟨M8, eM8, h⟩ := bd h
  refine g_putI X (pc := 293) fk_12_23 rfl rfl rfl eM8 tb_1603 (Or.inl rfl) dX16_alone_293 ?_
  refine g_aload_n X (pc := 296) 1 rfl rfl dX16_alone_296 ?_
  refine g_iconst X (pc := 297) (v := 0) dX16_alone_297 (by decide) ?_
  obtain ⟨M9, eM9, h⟩ := bd h
  refine g_putI X (pc := 298) fk_12_24 rfl rfl rfl eM9 tb_1604 (Or.inl rfl) dX16_alone_298 ?_
  refine g_aload_n X (pc := 301) 1 rfl rfl dX16_alone_301 ?_
  refine g_iconst X (pc := 302) (v := 0) dX16_alone_302 (by decide) ?_
  obtain ⟨M10, eM10, h⟩ := bd h
  refine g_putI X (pc := 303) fk_12_26 rfl rfl rfl eM10 tb_1608 (Or.inl rfl) dX16_alone_303 ?_
  refine g_aload_n X (pc := 306) 1 rfl rfl dX16_alone_306 ?_
  refine g_iconst X (pc := 307) (v := 0) dX16_alone_307 (by decide) ?_
  obtain ⟨M11, eM11, h⟩ := bd h
  refine g_putI X (pc := 308) fk_12_28 rfl rfl rfl eM11 tb_1611 (Or.inl rfl) dX16_alone_308 ?_
  refine g_aload_n X (pc := 311) 1 rfl rfl dX16_alone_311 ?_
  refine g_aload_n X (pc := 312) 1 rfl rfl dX16_alone_312 ?_
  obtain ⟨v12, ev12, h⟩ := bd h
  refine g_getI X (pc := 313) fk_12_3 rfl rfl ev12 tb_1583 dX16_alone_313 ?_
  refine g_iconst X (pc := 316) (v := 1) dX16_alone_316 (by decide) ?_
  refine g_iadd X (pc := 317) dX16_alone_317 ?_
  obtain ⟨M13, eM13, h⟩ := bd h
  refine g_putI X (pc := 318) fk_12_29 rfl rfl rfl eM13 tb_1613 (Or.inl rfl) dX16_alone_318 ?_
  refine g_aload_n X (pc := 321) 1 rfl rfl dX16_alone_321 ?_
  refine g_iconst X (pc := 322) (v := 0) dX16_alone_322 (by decide) ?_
  obtain ⟨M14, eM14, h⟩ := bd h
  refine g_putZ X (pc := 323) fk_12_30 rfl rfl rfl eM14 tb_1615 (Or.inl rfl) dX16_alone_323 ?_
  refine g_aload_n X (pc := 326) 1 rfl rfl dX16_alone_326 ?_
  refine g_iconst X (pc := 327) (v := 0) dX16_alone_327 (by decide) ?_
  obtain ⟨M15, eM15, h⟩ := bd h
  refine g_putZ X (pc := 328) fk_12_31 rfl rfl rfl eM15 tb_1616 (Or.inl rfl) dX16_alone_328 ?_
  refine g_aload_n X (pc := 331) 1 rfl rfl dX16_alone_331 ?_
  refine g_iconst X (pc := 332) (v := 0) dX16_alone_332 (by decide) ?_
  obtain ⟨M16, eM16, h⟩ := bd h
  refine g_putI X (pc := 333) fk_12_38 rfl rfl rfl eM16 tb_1627 (Or.inl rfl) dX16_alone_333 ?_
  refine g_aload_n X (pc := 336) 1 rfl rfl dX16_alone_336 ?_
  refine g_iconst X (pc := 337) (v := 0) dX16_alone_337 (by decide) ?_
  obtain ⟨M17, eM17, h⟩ := bd h
  refine g_putZ X (pc := 338) fk_12_39 rfl rfl rfl eM17 tb_1628 (Or.inl rfl) dX16_alone_338 ?_
  refine g_aload_n X (pc := 341) 1 rfl rfl dX16_alone_341 ?_
  refine g_iconst X (pc := 342) (v := 0) dX16_alone_342 (by decide) ?_
  obtain ⟨M18, eM18, h⟩ := bd h
  refine g_putZ X (pc := 343) fk_12_40 rfl rfl rfl eM18 tb_1629 (Or.inl rfl) dX16_alone_343 ?_
  refine g_aload_n X (pc := 346) 1 rfl rfl dX16_alone_346 ?_
  refine g_iconst X (pc := 347) (v := 0) dX16_alone_347 (by decide) ?_
  obtain ⟨M19, eM19, h⟩ := bd h
  refine g_putZ X (pc := 348) fk_12_41 rfl rfl rfl eM19 tb_1631 (Or.inl rfl) dX16_alone_348 ?_
  refine g_aload_n X (pc := 351) 1 rfl rfl dX16_alone_351 ?_
  refine g_sipush X (pc := 352) (v := 4096) dX16_alone_352 (by decide) ?_
  obtain ⟨M20, eM20, h⟩ := bd h
  refine g_putI X (pc := 355) fk_12_37 rfl rfl rfl eM20 tb_1626 (Or.inl rfl) dX16_alone_355 ?_
  refine g_iconst X (pc := 358) (v := 0) dX16_alone_358 (by decide) ?_
  refine g_istore_n X (pc := 359) [(2, pI (0 : Int32)), (0, pR (some a0)), (1, pR a1)] rfl (lt_n hn (by decide)) rfl dX16_alone_359 ?_
  refine g_sub [1, 2, 0] [(0, pR (some a0)), (1, pR a1), (2, pI (0 : Int32))] rfl ?_
  exact wX16_alone_L360 X hE hn fu   fu a0 a1 (0 : Int32) M20 h
theorem wX16_alone_L77 {x : GX} {n0 sl0 : Nat} (X : Cx x cX16_alone RX16 none n0 sl0 7 177) {out : Mm} (hE : Ends x n0 sl0 none out) (hn : xn x = 3) (fu : Nat) (k54 : Nat → Option Nat → Int32 → Mm → Option (Mm)) (hk54 : ∀ (b0 : Nat) (b1 : Option Nat) (b2 : Int32)  (M : Mm), k54 b0 b1 b2 M = some out → Gw x M 54 [(0, pR (some b0)), (1, pR b1), (2, pI b2)] []) (a0 : Nat) (a1 : Option Nat) (a2 : Int32)  (M : Mm) (h : fX16_alone_L77 fu k54 a0 a1 a2 M = some out) : Gw x M 77 [(0, pR (some a0)), (1, pR a1), (2, pI a2)] [] := by
  unfold fX16_alone_L77 at h
  refine g_iinc X (pc := 77) 2 [(2, pI (a2 + (-1 : Int32))), (0, pR (some a0)), (1, pR a1)] rfl (iinc_e (by decide)) (lt_n hn (by decide)) rfl dX16_alone_77 ?_
  refine g_goto X (pc := 80) (tgt := 54) dX16_alone_80 (by decide) ?_
  refine g_sub [1, 2, 0] [(0, pR (some a0)), (1, pR a1), (2, pI (a2 + (-1 : Int32)))] rfl ?_
  exact hk54 a0 a1 (a2 + (-1 : Int32)) M h
theorem wX16_alone_L54 {x : GX} {n0 sl0 : Nat} (X : Cx x cX16_alone RX16 none n0 sl0 7 177) {out : Mm} (hE : Ends x n0 sl0 none out) (hn : xn x = 3) (fu : Nat)   : ∀ (n : Nat) (a0 : Nat) (a1 : Option Nat) (a2 : Int32)  (M : Mm), fX16_alone_L54 fu  n a0 a1 a2 M = some out → Gw x M 54 [(0, pR (some a0)), (1, pR a1), (2, pI a2)] [] := by
  intro n
  induction n with
  | zero =>
    intro a0 a1 a2 M h
    have h : (none : Option (Mm)) = some out := h
    cases h
  | succ n ih =>
    intro a0 a1 a2 M h
    rw [fX16_alone_L54] at h
    refine g_iload_n X (pc := 54) 2 rfl rfl dX16_alone_54 ?_
    refine g_if_lt X (pc := 55) (tgt := 83) dX16_alone_55 (by decide) (fun hc => ?_) (fun hc => ?_)
    · have h := (if_pos hc).symm.trans h
      refine g_aload_n X (pc := 83) 1 rfl rfl dX16_alone_83 ?_
      refine g_ifnonnull X (pc := 84) (tgt := 88) dX16_alone_84 (by decide) (fun hc => ?_) (fun hc => ?_)
      · have h := (if_neg hc).symm.trans h
        refine g_aload_n X (pc := 88) 0 rfl rfl dX16_alone_88 ?_
        refine g_dup X (pc := 89) rfl dX16_alone_89 ?_
        obtain ⟨v1, ev1, h⟩ := bd h
        refine g_getI X (pc := 90) fk_16_12 rfl rfl ev1 tb_1826 dX16_alone_90 ?_
        refine g_iconst X (pc := 93) (v := 1) dX16_alone_93 (by decide) ?_
        refine g_iadd X (pc := 94) dX16_alone_94 ?_
        obtain ⟨M2, eM2, h⟩ := bd h
        refine g_putI X (pc := 95) fk_16_12 rfl rfl rfl eM2 tb_1826 (Or.inl rfl) dX16_alone_95 ?_
        refine g_aload_n X (pc := 98) 0 rfl rfl dX16_alone_98 ?_
        obtain ⟨v3, ev3, h⟩ := bd h
        refine g_getR X (pc := 99) fk_16_17 rfl rfl ev3 tb_1831 dX16_alone_99 ?_
        refine g_iconst X (pc := 102) (v := 5) dX16_alone_102 (by decide) ?_
        refine g_dup2 X (pc := 103) rfl rfl dX16_alone_103 ?_
        obtain ⟨v4, ev4, h⟩ := bd h
        refine g_iaload X (pc := 104) ev4 dX16_alone_104 ?_
        refine g_iconst X (pc := 105) (v := 1) dX16_alone_105 (by decide) ?_
        refine g_iadd X (pc := 106) dX16_alone_106 ?_
        obtain ⟨M5, eM5, h⟩ := bd h
        refine g_iastore X (pc := 107) eM5 dX16_alone_107 ?_
        refine g_aload_n X (pc := 108) 1 rfl rfl dX16_alone_108 ?_
        refine g_iconst X (pc := 109) (v := 1) dX16_alone_109 (by decide) ?_
        obtain ⟨M6, eM6, h⟩ := bd h
        refine g_putI X (pc := 110) fk_12_0 rfl rfl rfl eM6 tb_1580 (Or.inl rfl) dX16_alone_110 ?_
        refine g_aload_n X (pc := 113) 1 rfl rfl dX16_alone_113 ?_
        refine g_aload_n X (pc := 114) 0 rfl rfl dX16_alone_114 ?_
        obtain ⟨v7, ev7, h⟩ := bd h
        refine g_getI X (pc := 115) fk_16_30 rfl rfl ev7 tb_1844 dX16_alone_115 ?_
        obtain ⟨M8, eM8, h⟩ := bd h
        refine g_putI X (pc := 118) fk_12_1 rfl rfl rfl eM8 tb_1581 (Or.inl rfl) dX16_alone_118 ?_
        refine g_aload_n X (pc := 121) 1 rfl rfl dX16_alone_121 ?_
        refine g_aload_n X (pc := 122) 0 rfl rfl dX16_alone_122 ?_
        obtain ⟨v9, ev9, h⟩ := bd h
        refine g_getI X (pc := 123) fk_16_32 rfl rfl ev9 tb_1846 dX16_alone_123 ?_
        obtain ⟨M10, eM10, h⟩ := bd h
        refine g_putI X (pc := 126) fk_12_2 rfl rfl rfl eM10 tb_1582 (Or.inl rfl) dX16_alone_126 ?_
        refine g_aload_n X (pc := 129) 1 rfl rfl dX16_alone_129 ?_
        refine g_aload_n X (pc := 130) 0 rfl rfl dX16_alone_130 ?_
        obtain ⟨v11, ev11, h⟩ := bd h
        refine g_getI X (pc := 131) fk_16_34 rfl rfl ev11 tb_1848 dX16_alone_131 ?_
        obtain ⟨M12, eM12, h⟩ := bd h
        refine g_putI X (pc := 134) fk_12_34 rfl rfl rfl eM12 tb_1621 (Or.inl rfl) dX16_alone_134 ?_
        refine g_aload_n X (pc := 137) 1 rfl rfl dX16_alone_137 ?_
        refine g_aload_n X (pc := 138) 0 rfl rfl dX16_alone_138 ?_
        obtain ⟨v13, ev13, h⟩ := bd h
        refine g_getI X (pc := 139) fk_16_34 rfl rfl ev13 tb_1848 dX16_alone_139 ?_
        refine g_iconst X (pc := 142) (v := 1) dX16_alone_142 (by decide) ?_
        refine g_iadd X (pc := 143) dX16_alone_143 ?_
        obtain ⟨M14, eM14, h⟩ := bd h
        refine g_putI X (pc := 144) fk_12_36 rfl rfl rfl eM14 tb_1625 (Or.inl rfl) dX16_alone_144 ?_
        refine g_aload_n X (pc := 147) 1 rfl rfl dX16_alone_147 ?_
        refine g_aload_n X (pc := 148) 1 rfl rfl dX16_alone_148 ?_
        obtain ⟨v15, ev15, h⟩ := bd h
        refine g_getI X (pc := 149) fk_12_36 rfl rfl ev15 tb_1625 dX16_alone_149 ?_
        obtain ⟨M16, eM16, h⟩ := bd h
        refine g_putI X (pc := 152) fk_12_35 rfl rfl rfl eM16 tb_1623 (Or.inl rfl) dX16_alone_152 ?_
        refine g_aload_n X (pc := 155) 1 rfl rfl dX16_alone_155 ?_
        refine g_ldcw X (pc := 156) tb_2259 dX16_alone_156 ?_
        refine g_aload_n X (pc := 159) 0 rfl rfl dX16_alone_159 ?_
        obtain ⟨v17, ev17, h⟩ := bd h
        refine g_getI X (pc := 160) fk_16_12 rfl rfl ev17 tb_1826 dX16_alone_160 ?_
        refine g_imul X (pc := 163) dX16_alone_163 ?_
        refine g_sipush X (pc := 164) (v := 250) dX16_alone_164 (by decide) ?_
        refine g_aload_n X (pc := 167) 0 rfl rfl dX16_alone_167 ?_
        obtain ⟨v18, ev18, h⟩ := bd h
        refine g_getI X (pc := 168) fk_16_10 rfl rfl ev18 tb_1824 dX16_alone_168 ?_
        refine g_imul X (pc := 171) dX16_alone_171 ?_
        refine g_iadd X (pc := 172) dX16_alone_172 ?_
        obtain ⟨M19, eM19, h⟩ := bd h
        refine g_putI X (pc := 173) fk_12_3 rfl rfl rfl eM19 tb_1583 (Or.inl rfl) dX16_alone_173 ?_
        refine g_aload_n X (pc := 176) 1 rfl rfl dX16_alone_176 ?_
        refine g_aload_n X (pc := 177) 1 rfl rfl dX16_alone_177 ?_
        obtain ⟨v20, ev20, h⟩ := bd h
        refine g_getI X (pc := 178) fk_12_3 rfl rfl ev20 tb_1583 dX16_alone_178 ?_
        obtain ⟨M21, eM21, h⟩ := bd h
        refine g_putI X (pc := 181) fk_12_4 rfl rfl rfl eM21 tb_1584 (Or.inl rfl) dX16_alone_181 ?_
        refine g_aload_n X (pc := 184) 1 rfl rfl dX16_alone_184 ?_
        refine g_aload_n X (pc := 185) 1 rfl rfl dX16_alone_185 ?_
        obtain ⟨v22, ev22, h⟩ := bd h
        refine g_getI X (pc := 186) fk_12_3 rfl rfl ev22 tb_1583 dX16_alone_186 ?_
        obtain ⟨M23, eM23, h⟩ := bd h
        refine g_putI X (pc := 189) fk_12_5 rfl rfl rfl eM23 tb_1585 (Or.inl rfl) dX16_alone_189 ?_
        refine g_aload_n X (pc := 192) 1 rfl rfl dX16_alone_192 ?_
        refine g_aload_n X (pc := 193) 1 rfl rfl dX16_alone_193 ?_
        obtain ⟨v24, ev24, h⟩ := bd h
        refine g_getI X (pc := 194) fk_12_3 rfl rfl ev24 tb_1583 dX16_alone_194 ?_
        obtain ⟨M25, eM25, h⟩ := bd h
        refine g_putI X (pc := 197) fk_12_6 rfl rfl rfl eM25 tb_1586 (Or.inl rfl) dX16_alone_197 ?_
        refine g_aload_n X (pc := 200) 1 rfl rfl dX16_alone_200 ?_
        refine g_aload_n X (pc := 201) 0 rfl rfl dX16_alone_201 ?_
        obtain ⟨v26, ev26, h⟩ := bd h
        refine g_getI X (pc := 202) fk_16_37 rfl rfl ev26 tb_1851 dX16_alone_202 ?_
        obtain ⟨M27, eM27, h⟩ := bd h
        refine g_putI X (pc := 205) fk_12_7 rfl rfl rfl eM27 tb_1587 (Or.inl rfl) dX16_alone_205 ?_
        refine g_aload_n X (pc := 208) 1 rfl rfl dX16_alone_208 ?_
        refine g_aload_n X (pc := 209) 0 rfl rfl dX16_alone_209 ?_
        obtain ⟨v28, ev28, h⟩ := bd h
        refine g_getI X (pc := 210) fk_16_34 rfl rfl ev28 tb_1848 dX16_alone_210 ?_
        obtain ⟨M29, eM29, h⟩ := bd h
        refine g_putI X (pc := 213) fk_12_8 rfl rfl rfl eM29 tb_1588 (Or.inl rfl) dX16_alone_213 ?_
        refine g_aload_n X (pc := 216) 1 rfl rfl dX16_alone_216 ?_
        refine g_iconst X (pc := 217) (v := 0) dX16_alone_217 (by decide) ?_
        obtain ⟨M30, eM30, h⟩ := bd h
        refine g_putI X (pc := 218) fk_12_9 rfl rfl rfl eM30 tb_1589 (Or.inl rfl) dX16_alone_218 ?_
        refine g_aload_n X (pc := 221) 1 rfl rfl dX16_alone_221 ?_
        refine g_aload_n X (pc := 222) 0 rfl rfl dX16_alone_222 ?_
        obtain ⟨q31, eq31, h⟩ := bd h
        obtain ⟨v33, M32, eM32, h⟩ := b2d h
        refine g_callV X (pc := 223) (M' := M32) (ro := some (pI v33)) (c := 16) rfl (by decide) (as := []) (as' := []) (st := [pR a1]) eq31 (ctX16_optionMss _ _ _ _ _ _ fu q31  M30 _ eM32) tb_2263 tb_2260 tb_2262 ts_107 tb_8 ⟨rfl, hyX16_optionMss⟩ rfl rfl ⟨by decide, by decide⟩ (Nat.le_of_ble_eq_true rfl) dX16_alone_223 ?_
        obtain ⟨M34, eM34, h⟩ := bd h
        refine g_putI X (pc := 226) fk_12_10 rfl rfl rfl eM34 tb_1590 (Or.inl rfl) dX16_alone_226 ?_
        refine g_aload_n X (pc := 229) 1 rfl rfl dX16_alone_229 ?_
        refine g_aload_n X (pc := 230) 1 rfl rfl dX16_alone_230 ?_
        obtain ⟨v35, ev35, h⟩ := bd h
        refine g_getI X (pc := 231) fk_12_10 rfl rfl ev35 tb_1590 dX16_alone_231 ?_
        refine g_sipush X (pc := 234) (v := 1095) dX16_alone_234 (by decide) ?_
        refine g_icmp_gt X (pc := 237) (tgt := 249) dX16_alone_237 (by decide) (fun hc => ?_) (fun hc => ?_)
        · have h := (if_pos hc).symm.trans h
          refine g_iconst X (pc := 249) (v := 3) dX16_alone_249 (by decide) ?_
          refine g_aload_n X (pc := 250) 1 rfl rfl dX16_alone_250 ?_
          obtain ⟨v36, ev36, h⟩ := bd h
          refine g_getI X (pc := 251) fk_12_10 rfl rfl ev36 tb_1590 dX16_alone_251 ?_
          refine g_imul X (pc := 254) dX16_alone_254 ?_
          refine g_sub [0, 1] [(0, pR (some a0)), (1, pR a1)] rfl ?_
          exact wX16_alone_L255 X hE hn fu   a0 a1 a1 ((3 : Int32) * v36) M34 h
        · have h := (if_neg hc).symm.trans h
          refine g_iconst X (pc := 240) (v := 4) dX16_alone_240 (by decide) ?_
          refine g_aload_n X (pc := 241) 1 rfl rfl dX16_alone_241 ?_
          obtain ⟨v37, ev37, h⟩ := bd h
          refine g_getI X (pc := 242) fk_12_10 rfl rfl ev37 tb_1590 dX16_alone_242 ?_
          refine g_imul X (pc := 245) dX16_alone_245 ?_
          refine g_goto X (pc := 246) (tgt := 255) dX16_alone_246 (by decide) ?_
          refine g_sub [0, 1] [(0, pR (some a0)), (1, pR a1)] rfl ?_
          exact wX16_alone_L255 X hE hn fu   a0 a1 a1 ((4 : Int32) * v37) M34 h
      · have h := (if_pos hc).symm.trans h
        obtain rfl := Option.some.inj h
        exact g_return X hE dX16_alone_87
    · have h := (if_neg hc).symm.trans h
      refine g_aload_n X (pc := 58) 0 rfl rfl dX16_alone_58 ?_
      obtain ⟨v38, ev38, h⟩ := bd h
      refine g_getR X (pc := 59) fk_16_31 rfl rfl ev38 tb_1845 dX16_alone_59 ?_
      refine g_iload_n X (pc := 62) 2 rfl rfl dX16_alone_62 ?_
      obtain ⟨v39, ev39, h⟩ := bd h
      refine g_aaload X (pc := 63) (k := 9) rfl rfl (by decide) ev39 dX16_alone_63 ?_
      obtain ⟨v40, ev40, h⟩ := bd h
      refine g_getI X (pc := 64) fk_12_0 rfl rfl ev40 tb_1580 dX16_alone_64 ?_
      refine g_if_ne X (pc := 67) (tgt := 77) dX16_alone_67 (by decide) (fun hc => ?_) (fun hc => ?_)
      · have h := (if_neg hc).symm.trans h
        exact wX16_alone_L77 X hE hn fu (fun b0 b1 b2 M => fX16_alone_L54 fu  n b0 b1 b2 M) ih a0 a1 a2 M h
      · have h := (if_pos hc).symm.trans h
        refine g_aload_n X (pc := 70) 0 rfl rfl dX16_alone_70 ?_
        obtain ⟨v41, ev41, h⟩ := bd h
        refine g_getR X (pc := 71) fk_16_31 rfl rfl ev41 tb_1845 dX16_alone_71 ?_
        refine g_iload_n X (pc := 74) 2 rfl rfl dX16_alone_74 ?_
        obtain ⟨v42, ev42, h⟩ := bd h
        refine g_aaload X (pc := 75) (k := 9) rfl rfl (by decide) ev42 dX16_alone_75 ?_
        refine g_astore_n X (pc := 76) [(1, pR v42), (0, pR (some a0)), (2, pI a2)] rfl (lt_n hn (by decide)) rfl dX16_alone_76 ?_
        refine g_sub [1, 0, 2] [(0, pR (some a0)), (1, pR v42), (2, pI a2)] rfl ?_
        exact wX16_alone_L77 X hE hn fu (fun b0 b1 b2 M => fX16_alone_L54 fu  n b0 b1 b2 M) ih a0 v42 a2 M h
theorem wX16_alone {x : GX} {n0 sl0 : Nat} (X : Cx x cX16_alone RX16 none n0 sl0 7 177) {out : Mm} (hE : Ends x n0 sl0 none out) (hn : xn x = 3) (fu : Nat)   (a0 : Nat)  (M : Mm) (h : fX16_alone fu  a0 M = some out) : Gw x M 0 [(0, pR (some a0))] [] := by
  unfold fX16_alone at h
  refine g_aload_n X (pc := 0) 0 rfl rfl dX16_alone_0 ?_
  refine g_iconst X (pc := 1) (v := 4) dX16_alone_1 (by decide) ?_
  obtain ⟨q1, eq1, h⟩ := bd h
  obtain ⟨v3, M2, eM2, h⟩ := b2d h
  refine g_callV X (pc := 2) (M' := M2) (ro := some (pI v3)) (c := 16) rfl (by decide) (as := [pI (4 : Int32)]) (as' := [pI (4 : Int32)]) (st := []) eq1 (ctX16_is _ _ _ _ _ _ fu q1 (4 : Int32) M _ eM2) tb_2250 tb_2247 tb_2249 ts_104 tb_8 ⟨rfl, hyX16_is⟩ rfl rfl ⟨by decide, by decide⟩ (Nat.le_of_ble_eq_true rfl) dX16_alone_2 ?_
  refine g_if_eq X (pc := 5) (tgt := 9) dX16_alone_5 (by decide) (fun hc => ?_) (fun hc => ?_)
  · have h := (if_pos hc).symm.trans h
    refine g_aload_n X (pc := 9) 0 rfl rfl dX16_alone_9 ?_
    obtain ⟨v4, ev4, h⟩ := bd h
    refine g_getI X (pc := 10) fk_16_33 rfl rfl ev4 tb_1847 dX16_alone_10 ?_
    refine g_bipush X (pc := 13) (v := 80) dX16_alone_13 (by decide) ?_
    refine g_icmp_ne X (pc := 15) (tgt := 27) dX16_alone_15 (by decide) (fun hc => ?_) (fun hc => ?_)
    · have h := (if_neg hc).symm.trans h
      exact wX16_alone_L27 X hE hn fu   a0 M2 h
    · have h := (if_pos hc).symm.trans h
      refine g_aload_n X (pc := 18) 0 rfl rfl dX16_alone_18 ?_
      refine g_bipush X (pc := 19) (v := 16) dX16_alone_19 (by decide) ?_
      obtain ⟨q5, eq5, h⟩ := bd h
      obtain ⟨v7, M6, eM6, h⟩ := b2d h
      refine g_callV X (pc := 21) (M' := M6) (ro := some (pI v7)) (c := 16) rfl (by decide) (as := [pI (16 : Int32)]) (as' := [pI (16 : Int32)]) (st := []) eq5 (ctX16_is _ _ _ _ _ _ fu q5 (16 : Int32) M2 _ eM6) tb_2250 tb_2247 tb_2249 ts_104 tb_8 ⟨rfl, hyX16_is⟩ rfl rfl ⟨by decide, by decide⟩ (Nat.le_of_ble_eq_true rfl) dX16_alone_21 ?_
      refine g_if_eq X (pc := 24) (tgt := 32) dX16_alone_24 (by decide) (fun hc => ?_) (fun hc => ?_)
      · have h := (if_pos hc).symm.trans h
        refine g_aload_n X (pc := 32) 0 rfl rfl dX16_alone_32 ?_
        refine g_iconst X (pc := 33) (v := 2) dX16_alone_33 (by decide) ?_
        obtain ⟨q8, eq8, h⟩ := bd h
        obtain ⟨v10, M9, eM9, h⟩ := b2d h
        refine g_callV X (pc := 34) (M' := M9) (ro := some (pI v10)) (c := 16) rfl (by decide) (as := [pI (2 : Int32)]) (as' := [pI (2 : Int32)]) (st := []) eq8 (ctX16_is _ _ _ _ _ _ fu q8 (2 : Int32) M6 _ eM9) tb_2250 tb_2247 tb_2249 ts_104 tb_8 ⟨rfl, hyX16_is⟩ rfl rfl ⟨by decide, by decide⟩ (Nat.le_of_ble_eq_true rfl) dX16_alone_34 ?_
        refine g_if_eq X (pc := 37) (tgt := 48) dX16_alone_37 (by decide) (fun hc => ?_) (fun hc => ?_)
        · have h := (if_pos hc).symm.trans h
          obtain rfl := Option.some.inj h
          exact g_return X hE dX16_alone_48
        · have h := (if_neg hc).symm.trans h
          refine g_aload_n X (pc := 40) 0 rfl rfl dX16_alone_40 ?_
          refine g_iconst X (pc := 41) (v := 1) dX16_alone_41 (by decide) ?_
          obtain ⟨q11, eq11, h⟩ := bd h
          obtain ⟨v13, M12, eM12, h⟩ := b2d h
          refine g_callV X (pc := 42) (M' := M12) (ro := some (pI v13)) (c := 16) rfl (by decide) (as := [pI (1 : Int32)]) (as' := [pI (1 : Int32)]) (st := []) eq11 (ctX16_is _ _ _ _ _ _ fu q11 (1 : Int32) M9 _ eM12) tb_2250 tb_2247 tb_2249 ts_104 tb_8 ⟨rfl, hyX16_is⟩ rfl rfl ⟨by decide, by decide⟩ (Nat.le_of_ble_eq_true rfl) dX16_alone_42 ?_
          refine g_if_eq X (pc := 45) (tgt := 49) dX16_alone_45 (by decide) (fun hc => ?_) (fun hc => ?_)
          · have h := (if_pos hc).symm.trans h
            refine g_null X (pc := 49) dX16_alone_49 ?_
            refine g_astore_n X (pc := 50) [(1, pR none), (0, pR (some a0))] rfl (lt_n hn (by decide)) rfl dX16_alone_50 ?_
            refine g_bipush X (pc := 51) (v := 15) dX16_alone_51 (by decide) ?_
            refine g_istore_n X (pc := 53) [(2, pI (15 : Int32)), (1, pR none), (0, pR (some a0))] rfl (lt_n hn (by decide)) rfl dX16_alone_53 ?_
            refine g_sub [2, 1, 0] [(0, pR (some a0)), (1, pR none), (2, pI (15 : Int32))] rfl ?_
            exact wX16_alone_L54 X hE hn fu   fu a0 none (15 : Int32) M12 h
          · have h := (if_neg hc).symm.trans h
            obtain rfl := Option.some.inj h
            exact g_return X hE dX16_alone_48
      · have h := (if_neg hc).symm.trans h
        exact wX16_alone_L27 X hE hn fu   a0 M6 h
  · have h := (if_neg hc).symm.trans h
    obtain rfl := Option.some.inj h
    exact g_return X hE dX16_alone_8
theorem hyX16_alone : yX16_alone.cls ≠ "java/lang/invoke/MethodHandle" ∧ yX16_alone.cls ≠ "java/lang/invoke/VarHandle" ∧ (parseMethodDescriptor yX16_alone.desc).map (fun d => d.parameters.length) = some 0 := ⟨by decide +kernel, by decide +kernel, by decide +kernel⟩
theorem ctX16_alone (l : Launch) (E : Nat → Nat) (D : va_G) (dA : Nat → ClassId) (lo : Nat) (H0 : Heap) (fu : Nat) (a0 : Nat) (M : Mm) (out : Mm) (h : fX16_alone fu a0 M = some out) : Ct l E D dA lo H0 yX16_alone cX16_alone 3 none 7 177 [pR (some a0)] M none out := by
  refine ct_of (by decide +kernel) (Nat.le_of_ble_eq_true rfl) ?_
  intro x hl he hd ha ho hh hn hin X hE
  exact wX16_alone X hE hn fu a0 M h
/-! WebHostModel.lies(LWebHostModel$Connection;II)Z -/
def fX16_lies (fu : Nat)  (a0 : Option Nat) (a1 : Int32) (a2 : Int32)  (M : Mm) : Option (Int32 × Mm) :=
    (gI M 12 804 a0).bind fun v1 =>
    b2 (fX16_before fu  a1 v1 M) fun v3 M2 =>
    if v3 = 0 then (
    (gI M2 12 804 a0).bind fun v4 =>
    b2 (fX16_before fu  a1 (v4 + a2) M2) fun v6 M5 =>
    if v6 = 0 then (
    rN .boolean (0 : Int32) M5)
    else (
    rN .boolean (1 : Int32) M5))
    else (
    rN .boolean (0 : Int32) M2)
theorem dX16_lies_0 : decode cX16_lies 0 = .ok (.iload_n 1, 1) := by decide +kernel
theorem dX16_lies_1 : decode cX16_lies 1 = .ok (.aload_n 0, 1) := by decide +kernel
theorem dX16_lies_2 : decode cX16_lies 2 = .ok (.getfield 348, 3) := by decide +kernel
theorem dX16_lies_5 : decode cX16_lies 5 = .ok (.invokestatic 363, 3) := by decide +kernel
theorem dX16_lies_8 : decode cX16_lies 8 = .ok (.ifCond .ne 20, 3) := by decide +kernel
theorem dX16_lies_11 : decode cX16_lies 11 = .ok (.iload_n 1, 1) := by decide +kernel
theorem dX16_lies_12 : decode cX16_lies 12 = .ok (.aload_n 0, 1) := by decide +kernel
theorem dX16_lies_13 : decode cX16_lies 13 = .ok (.getfield 348, 3) := by decide +kernel
theorem dX16_lies_16 : decode cX16_lies 16 = .ok (.iload_n 2, 1) := by decide +kernel
theorem dX16_lies_17 : decode cX16_lies 17 = .ok (.iadd, 1) := by decide +kernel
theorem dX16_lies_18 : decode cX16_lies 18 = .ok (.invokestatic 363, 3) := by decide +kernel
theorem dX16_lies_21 : decode cX16_lies 21 = .ok (.ifCond .eq 7, 3) := by decide +kernel
theorem dX16_lies_24 : decode cX16_lies 24 = .ok (.iconst 1, 1) := by decide +kernel
theorem dX16_lies_25 : decode cX16_lies 25 = .ok (.goto 4, 3) := by decide +kernel
theorem dX16_lies_28 : decode cX16_lies 28 = .ok (.iconst 0, 1) := by decide +kernel
theorem dX16_lies_29 : decode cX16_lies 29 = .ok (.ireturn, 1) := by decide +kernel
theorem wX16_lies {x : GX} {n0 sl0 : Nat} (X : Cx x cX16_lies RX16 (some .boolean) n0 sl0 1 21) {out : Int32 × Mm} (hE : Ends x n0 sl0 (some (pI out.1)) out.2) (hn : xn x = 3) (fu : Nat)   (a0 : Option Nat) (a1 : Int32) (a2 : Int32)  (M : Mm) (h : fX16_lies fu  a0 a1 a2 M = some out) : Gw x M 0 [(0, pR a0), (1, pI a1), (2, pI a2)] [] := by
  unfold fX16_lies at h
  refine g_iload_n X (pc := 0) 1 rfl rfl dX16_lies_0 ?_
  refine g_aload_n X (pc := 1) 0 rfl rfl dX16_lies_1 ?_
  obtain ⟨v1, ev1, h⟩ := bd h
  refine g_getI X (pc := 2) fk_12_36 rfl rfl ev1 tb_1625 dX16_lies_2 ?_
  obtain ⟨v3, M2, eM2, h⟩ := b2d h
  refine g_callS X (pc := 5) (M' := M2) (ro := some (pI v3)) (as := [pI a1, pI v1]) (as' := [pI v1, pI a1]) (st := []) (ctX16_before _ _ _ _ _ _ fu  a1 v1 M _ eM2) tb_2170 tb_2168 tb_2169 tb_8 hyX16_before rfl rfl ⟨by decide, by decide⟩ (Nat.le_of_ble_eq_true rfl) dX16_lies_5 ?_
  refine g_if_ne X (pc := 8) (tgt := 28) dX16_lies_8 (by decide) (fun hc => ?_) (fun hc => ?_)
  · have h := (if_neg hc).symm.trans h
    refine g_iconst X (pc := 28) (v := 0) dX16_lies_28 (by decide) ?_
    obtain ⟨hz, rfl⟩ := rN_some h
    exact g_nreturn X rfl hz hE dX16_lies_29
  · have h := (if_pos hc).symm.trans h
    refine g_iload_n X (pc := 11) 1 rfl rfl dX16_lies_11 ?_
    refine g_aload_n X (pc := 12) 0 rfl rfl dX16_lies_12 ?_
    obtain ⟨v4, ev4, h⟩ := bd h
    refine g_getI X (pc := 13) fk_12_36 rfl rfl ev4 tb_1625 dX16_lies_13 ?_
    refine g_iload_n X (pc := 16) 2 rfl rfl dX16_lies_16 ?_
    refine g_iadd X (pc := 17) dX16_lies_17 ?_
    obtain ⟨v6, M5, eM5, h⟩ := b2d h
    refine g_callS X (pc := 18) (M' := M5) (ro := some (pI v6)) (as := [pI a1, pI (v4 + a2)]) (as' := [pI (v4 + a2), pI a1]) (st := []) (ctX16_before _ _ _ _ _ _ fu  a1 (v4 + a2) M2 _ eM5) tb_2170 tb_2168 tb_2169 tb_8 hyX16_before rfl rfl ⟨by decide, by decide⟩ (Nat.le_of_ble_eq_true rfl) dX16_lies_18 ?_
    refine g_if_eq X (pc := 21) (tgt := 28) dX16_lies_21 (by decide) (fun hc => ?_) (fun hc => ?_)
    · have h := (if_pos hc).symm.trans h
      refine g_iconst X (pc := 28) (v := 0) dX16_lies_28 (by decide) ?_
      obtain ⟨hz, rfl⟩ := rN_some h
      exact g_nreturn X rfl hz hE dX16_lies_29
    · have h := (if_neg hc).symm.trans h
      refine g_iconst X (pc := 24) (v := 1) dX16_lies_24 (by decide) ?_
      refine g_goto X (pc := 25) (tgt := 29) dX16_lies_25 (by decide) ?_
      obtain ⟨hz, rfl⟩ := rN_some h
      exact g_nreturn X rfl hz hE dX16_lies_29
theorem hyX16_lies : yX16_lies.cls ≠ "java/lang/invoke/MethodHandle" ∧ yX16_lies.cls ≠ "java/lang/invoke/VarHandle" ∧ (parseMethodDescriptor yX16_lies.desc).map (fun d => d.parameters.length) = some 3 := ⟨by decide +kernel, by decide +kernel, by decide +kernel⟩
theorem ctX16_lies (l : Launch) (E : Nat → Nat) (D : va_G) (dA : Nat → ClassId) (lo : Nat) (H0 : Heap) (fu : Nat) (a0 : Option Nat) (a1 : Int32) (a2 : Int32) (M : Mm) (out : Int32 × Mm) (h : fX16_lies fu a0 a1 a2 M = some out) : Ct l E D dA lo H0 yX16_lies cX16_lies 3 (some .boolean) 1 21 [pR a0, pI a1, pI a2] M (some (pI out.1)) out.2 := by
  refine ct_of (by decide +kernel) (Nat.le_of_ble_eq_true rfl) ?_
  intro x hl he hd ha ho hh hn hin X hE
  exact wX16_lies X hE hn fu a0 a1 a2 M h
/-! WebHostModel.isAcceptable(LWebHostModel$Connection;)Z -/
def fX16_isAcceptable (fu : Nat)  (a0 : Nat) (a1 : Option Nat)  (M : Mm) : Option (Int32 × Mm) :=
    (rc M 12 a1).bind fun q1 =>
    b2 (fX12_open fu q1  M) fun v3 M2 =>
    (rc M2 16 (some a0)).bind fun q4 =>
    b2 (fX16_extent fu q4  M2) fun v6 M5 =>
    if v3 = 0 then (
    if v6 = 0 then (
    (gI M5 16 1058 (some a0)).bind fun v13 =>
    (gI M5 12 804 a1).bind fun v14 =>
    if v13 = v14 then (
    rN .boolean (1 : Int32) M5)
    else (
    rN .boolean (0 : Int32) M5))
    else (
    rN .boolean (0 : Int32) M5))
    else (
    (gI M5 16 1058 (some a0)).bind fun v7 =>
    (gI M5 16 1058 (some a0)).bind fun v8 =>
    b2 (fX16_lies fu  a1 v8 v3 M5) fun v10 M9 =>
    if v10 = 0 then (
    if v6 ≤ 0 then (
    rN .boolean (0 : Int32) M9)
    else (
    b2 (fX16_lies fu  a1 ((v7 + v6) - (1 : Int32)) v3 M9) fun v12 M11 =>
    if v12 = 0 then (
    rN .boolean (0 : Int32) M11)
    else (
    rN .boolean (1 : Int32) M11)))
    else (
    rN .boolean (1 : Int32) M9))
theorem dX16_isAcceptable_0 : decode cX16_isAcceptable 0 = .ok (.aload_n 1, 1) := by decide +kernel
theorem dX16_isAcceptable_1 : decode cX16_isAcceptable 1 = .ok (.invokevirtual 339, 3) := by decide +kernel
theorem dX16_isAcceptable_4 : decode cX16_isAcceptable 4 = .ok (.istore_n 2, 1) := by decide +kernel
theorem dX16_isAcceptable_5 : decode cX16_isAcceptable 5 = .ok (.aload_n 0, 1) := by decide +kernel
theorem dX16_isAcceptable_6 : decode cX16_isAcceptable 6 = .ok (.invokevirtual 333, 3) := by decide +kernel
theorem dX16_isAcceptable_9 : decode cX16_isAcceptable 9 = .ok (.istore_n 3, 1) := by decide +kernel
theorem dX16_isAcceptable_10 : decode cX16_isAcceptable 10 = .ok (.iload_n 2, 1) := by decide +kernel
theorem dX16_isAcceptable_11 : decode cX16_isAcceptable 11 = .ok (.ifCond .ne 24, 3) := by decide +kernel
theorem dX16_isAcceptable_14 : decode cX16_isAcceptable 14 = .ok (.iload_n 3, 1) := by decide +kernel
theorem dX16_isAcceptable_15 : decode cX16_isAcceptable 15 = .ok (.ifCond .ne 18, 3) := by decide +kernel
theorem dX16_isAcceptable_18 : decode cX16_isAcceptable 18 = .ok (.aload_n 0, 1) := by decide +kernel
theorem dX16_isAcceptable_19 : decode cX16_isAcceptable 19 = .ok (.getfield 298, 3) := by decide +kernel
theorem dX16_isAcceptable_22 : decode cX16_isAcceptable 22 = .ok (.aload_n 1, 1) := by decide +kernel
theorem dX16_isAcceptable_23 : decode cX16_isAcceptable 23 = .ok (.getfield 348, 3) := by decide +kernel
theorem dX16_isAcceptable_26 : decode cX16_isAcceptable 26 = .ok (.if_icmp .ne 7, 3) := by decide +kernel
theorem dX16_isAcceptable_29 : decode cX16_isAcceptable 29 = .ok (.iconst 1, 1) := by decide +kernel
theorem dX16_isAcceptable_30 : decode cX16_isAcceptable 30 = .ok (.goto 4, 3) := by decide +kernel
theorem dX16_isAcceptable_33 : decode cX16_isAcceptable 33 = .ok (.iconst 0, 1) := by decide +kernel
theorem dX16_isAcceptable_34 : decode cX16_isAcceptable 34 = .ok (.ireturn, 1) := by decide +kernel
theorem dX16_isAcceptable_35 : decode cX16_isAcceptable 35 = .ok (.aload_n 0, 1) := by decide +kernel
theorem dX16_isAcceptable_36 : decode cX16_isAcceptable 36 = .ok (.getfield 298, 3) := by decide +kernel
theorem dX16_isAcceptable_39 : decode cX16_isAcceptable 39 = .ok (.iload_n 3, 1) := by decide +kernel
theorem dX16_isAcceptable_40 : decode cX16_isAcceptable 40 = .ok (.iadd, 1) := by decide +kernel
theorem dX16_isAcceptable_41 : decode cX16_isAcceptable 41 = .ok (.iconst 1, 1) := by decide +kernel
theorem dX16_isAcceptable_42 : decode cX16_isAcceptable 42 = .ok (.isub, 1) := by decide +kernel
theorem dX16_isAcceptable_43 : decode cX16_isAcceptable 43 = .ok (.istore 4, 2) := by decide +kernel
theorem dX16_isAcceptable_45 : decode cX16_isAcceptable 45 = .ok (.aload_n 1, 1) := by decide +kernel
theorem dX16_isAcceptable_46 : decode cX16_isAcceptable 46 = .ok (.aload_n 0, 1) := by decide +kernel
theorem dX16_isAcceptable_47 : decode cX16_isAcceptable 47 = .ok (.getfield 298, 3) := by decide +kernel
theorem dX16_isAcceptable_50 : decode cX16_isAcceptable 50 = .ok (.iload_n 2, 1) := by decide +kernel
theorem dX16_isAcceptable_51 : decode cX16_isAcceptable 51 = .ok (.invokestatic 488, 3) := by decide +kernel
theorem dX16_isAcceptable_54 : decode cX16_isAcceptable 54 = .ok (.ifCond .ne 17, 3) := by decide +kernel
theorem dX16_isAcceptable_57 : decode cX16_isAcceptable 57 = .ok (.iload_n 3, 1) := by decide +kernel
theorem dX16_isAcceptable_58 : decode cX16_isAcceptable 58 = .ok (.ifCond .le 17, 3) := by decide +kernel
theorem dX16_isAcceptable_61 : decode cX16_isAcceptable 61 = .ok (.aload_n 1, 1) := by decide +kernel
theorem dX16_isAcceptable_62 : decode cX16_isAcceptable 62 = .ok (.iload 4, 2) := by decide +kernel
theorem dX16_isAcceptable_64 : decode cX16_isAcceptable 64 = .ok (.iload_n 2, 1) := by decide +kernel
theorem dX16_isAcceptable_65 : decode cX16_isAcceptable 65 = .ok (.invokestatic 488, 3) := by decide +kernel
theorem dX16_isAcceptable_68 : decode cX16_isAcceptable 68 = .ok (.ifCond .eq 7, 3) := by decide +kernel
theorem dX16_isAcceptable_71 : decode cX16_isAcceptable 71 = .ok (.iconst 1, 1) := by decide +kernel
theorem dX16_isAcceptable_72 : decode cX16_isAcceptable 72 = .ok (.goto 4, 3) := by decide +kernel
theorem dX16_isAcceptable_75 : decode cX16_isAcceptable 75 = .ok (.iconst 0, 1) := by decide +kernel
theorem dX16_isAcceptable_76 : decode cX16_isAcceptable 76 = .ok (.ireturn, 1) := by decide +kernel
theorem wX16_isAcceptable {x : GX} {n0 sl0 : Nat} (X : Cx x cX16_isAcceptable RX16 (some .boolean) n0 sl0 2 43) {out : Int32 × Mm} (hE : Ends x n0 sl0 (some (pI out.1)) out.2) (hn : xn x = 5) (fu : Nat)   (a0 : Nat) (a1 : Option Nat)  (M : Mm) (h : fX16_isAcceptable fu  a0 a1 M = some out) : Gw x M 0 [(0, pR (some a0)), (1, pR a1)] [] := by
  unfold fX16_isAcceptable at h
  refine g_aload_n X (pc := 0) 1 rfl rfl dX16_isAcceptable_0 ?_
  obtain ⟨q1, eq1, h⟩ := bd h
  obtain ⟨v3, M2, eM2, h⟩ := b2d h
  refine g_callV X (pc := 1) (M' := M2) (ro := some (pI v3)) (c := 12) rfl (by decide) (as := []) (as' := []) (st := []) eq1 (ctX12_open _ _ _ _ _ _ fu q1  M _ eM2) tb_2108 tb_2105 tb_2106 tb_2107 tb_9 ⟨rfl, hyX12_open⟩ rfl rfl ⟨by decide, by decide⟩ (Nat.le_of_ble_eq_true rfl) dX16_isAcceptable_1 ?_
  refine g_istore_n X (pc := 4) [(2, pI v3), (0, pR (some a0)), (1, pR a1)] rfl (lt_n hn (by decide)) rfl dX16_isAcceptable_4 ?_
  refine g_aload_n X (pc := 5) 1 rfl rfl dX16_isAcceptable_5 ?_
  obtain ⟨q4, eq4, h⟩ := bd h
  obtain ⟨v6, M5, eM5, h⟩ := b2d h
  refine g_callV X (pc := 6) (M' := M5) (ro := some (pI v6)) (c := 16) rfl (by decide) (as := []) (as' := []) (st := []) eq4 (ctX16_extent _ _ _ _ _ _ fu q4  M2 _ eM5) tb_2258 tb_2255 tb_2257 ts_106 tb_8 ⟨rfl, hyX16_extent⟩ rfl rfl ⟨by decide, by decide⟩ (Nat.le_of_ble_eq_true rfl) dX16_isAcceptable_6 ?_
  refine g_istore_n X (pc := 9) [(3, pI v6), (2, pI v3), (0, pR (some a0)), (1, pR a1)] rfl (lt_n hn (by decide)) rfl dX16_isAcceptable_9 ?_
  refine g_iload_n X (pc := 10) 1 rfl rfl dX16_isAcceptable_10 ?_
  refine g_if_ne X (pc := 11) (tgt := 35) dX16_isAcceptable_11 (by decide) (fun hc => ?_) (fun hc => ?_)
  · have h := (if_neg hc).symm.trans h
    refine g_aload_n X (pc := 35) 2 rfl rfl dX16_isAcceptable_35 ?_
    obtain ⟨v7, ev7, h⟩ := bd h
    refine g_getI X (pc := 36) fk_16_34 rfl rfl ev7 tb_1848 dX16_isAcceptable_36 ?_
    refine g_iload_n X (pc := 39) 0 rfl rfl dX16_isAcceptable_39 ?_
    refine g_iadd X (pc := 40) dX16_isAcceptable_40 ?_
    refine g_iconst X (pc := 41) (v := 1) dX16_isAcceptable_41 (by decide) ?_
    refine g_isub X (pc := 42) dX16_isAcceptable_42 ?_
    refine g_istore X (pc := 43) [(4, pI ((v7 + v6) - (1 : Int32))), (3, pI v6), (2, pI v3), (0, pR (some a0)), (1, pR a1)] (lt_n hn (by decide)) rfl dX16_isAcceptable_43 ?_
    refine g_aload_n X (pc := 45) 4 rfl rfl dX16_isAcceptable_45 ?_
    refine g_aload_n X (pc := 46) 3 rfl rfl dX16_isAcceptable_46 ?_
    obtain ⟨v8, ev8, h⟩ := bd h
    refine g_getI X (pc := 47) fk_16_34 rfl rfl ev8 tb_1848 dX16_isAcceptable_47 ?_
    refine g_iload_n X (pc := 50) 2 rfl rfl dX16_isAcceptable_50 ?_
    obtain ⟨v10, M9, eM9, h⟩ := b2d h
    refine g_callS X (pc := 51) (M' := M9) (ro := some (pI v10)) (as := [pR a1, pI v8, pI v3]) (as' := [pI v3, pI v8, pR a1]) (st := []) (ctX16_lies _ _ _ _ _ _ fu  a1 v8 v3 M5 _ eM9) tb_2274 tb_2272 tb_2273 tb_8 hyX16_lies rfl rfl ⟨by decide, by decide⟩ (Nat.le_of_ble_eq_true rfl) dX16_isAcceptable_51 ?_
    refine g_if_ne X (pc := 54) (tgt := 71) dX16_isAcceptable_54 (by decide) (fun hc => ?_) (fun hc => ?_)
    · have h := (if_neg hc).symm.trans h
      refine g_iconst X (pc := 71) (v := 1) dX16_isAcceptable_71 (by decide) ?_
      refine g_goto X (pc := 72) (tgt := 76) dX16_isAcceptable_72 (by decide) ?_
      obtain ⟨hz, rfl⟩ := rN_some h
      exact g_nreturn X rfl hz hE dX16_isAcceptable_76
    · have h := (if_pos hc).symm.trans h
      refine g_iload_n X (pc := 57) 1 rfl rfl dX16_isAcceptable_57 ?_
      refine g_if_le X (pc := 58) (tgt := 75) dX16_isAcceptable_58 (by decide) (fun hc => ?_) (fun hc => ?_)
      · have h := (if_pos hc).symm.trans h
        refine g_iconst X (pc := 75) (v := 0) dX16_isAcceptable_75 (by decide) ?_
        obtain ⟨hz, rfl⟩ := rN_some h
        exact g_nreturn X rfl hz hE dX16_isAcceptable_76
      · have h := (if_neg hc).symm.trans h
        refine g_aload_n X (pc := 61) 4 rfl rfl dX16_isAcceptable_61 ?_
        refine g_iload X (pc := 62) 0 rfl dX16_isAcceptable_62 ?_
        refine g_iload_n X (pc := 64) 2 rfl rfl dX16_isAcceptable_64 ?_
        obtain ⟨v12, M11, eM11, h⟩ := b2d h
        refine g_callS X (pc := 65) (M' := M11) (ro := some (pI v12)) (as := [pR a1, pI ((v7 + v6) - (1 : Int32)), pI v3]) (as' := [pI v3, pI ((v7 + v6) - (1 : Int32)), pR a1]) (st := []) (ctX16_lies _ _ _ _ _ _ fu  a1 ((v7 + v6) - (1 : Int32)) v3 M9 _ eM11) tb_2274 tb_2272 tb_2273 tb_8 hyX16_lies rfl rfl ⟨by decide, by decide⟩ (Nat.le_of_ble_eq_true rfl) dX16_isAcceptable_65 ?_
        refine g_if_eq X (pc := 68) (tgt := 75) dX16_isAcceptable_68 (by decide) (fun hc => ?_) (fun hc => ?_)
        · have h := (if_pos hc).symm.trans h
          refine g_iconst X (pc := 75) (v := 0) dX16_isAcceptable_75 (by decide) ?_
          obtain ⟨hz, rfl⟩ := rN_some h
          exact g_nreturn X rfl hz hE dX16_isAcceptable_76
        · have h := (if_neg hc).symm.trans h
          refine g_iconst X (pc := 71) (v := 1) dX16_isAcceptable_71 (by decide) ?_
          refine g_goto X (pc := 72) (tgt := 76) dX16_isAcceptable_72 (by decide) ?_
          obtain ⟨hz, rfl⟩ := rN_some h
          exact g_nreturn X rfl hz hE dX16_isAcceptable_76
  · have h := (if_pos hc).symm.trans h
    refine g_iload_n X (pc := 14) 0 rfl rfl dX16_isAcceptable_14 ?_
    refine g_if_ne X (pc := 15) (tgt := 33) dX16_isAcceptable_15 (by decide) (fun hc => ?_) (fun hc => ?_)
    · have h := (if_neg hc).symm.trans h
      refine g_iconst X (pc := 33) (v := 0) dX16_isAcceptable_33 (by decide) ?_
      obtain ⟨hz, rfl⟩ := rN_some h
      exact g_nreturn X rfl hz hE dX16_isAcceptable_34
    · have h := (if_pos hc).symm.trans h
      refine g_aload_n X (pc := 18) 2 rfl rfl dX16_isAcceptable_18 ?_
      obtain ⟨v13, ev13, h⟩ := bd h
      refine g_getI X (pc := 19) fk_16_34 rfl rfl ev13 tb_1848 dX16_isAcceptable_19 ?_
      refine g_aload_n X (pc := 22) 3 rfl rfl dX16_isAcceptable_22 ?_
      obtain ⟨v14, ev14, h⟩ := bd h
      refine g_getI X (pc := 23) fk_12_36 rfl rfl ev14 tb_1625 dX16_isAcceptable_23 ?_
      refine g_icmp_ne X (pc := 26) (tgt := 33) dX16_isAcceptable_26 (by decide) (fun hc => ?_) (fun hc => ?_)
      · have h := (if_neg hc).symm.trans h
        refine g_iconst X (pc := 33) (v := 0) dX16_isAcceptable_33 (by decide) ?_
        obtain ⟨hz, rfl⟩ := rN_some h
        exact g_nreturn X rfl hz hE dX16_isAcceptable_34
      · have h := (if_pos hc).symm.trans h
        refine g_iconst X (pc := 29) (v := 1) dX16_isAcceptable_29 (by decide) ?_
        refine g_goto X (pc := 30) (tgt := 34) dX16_isAcceptable_30 (by decide) ?_
        obtain ⟨hz, rfl⟩ := rN_some h
        exact g_nreturn X rfl hz hE dX16_isAcceptable_34
theorem hyX16_isAcceptable : yX16_isAcceptable.cls ≠ "java/lang/invoke/MethodHandle" ∧ yX16_isAcceptable.cls ≠ "java/lang/invoke/VarHandle" ∧ (parseMethodDescriptor yX16_isAcceptable.desc).map (fun d => d.parameters.length) = some 1 := ⟨by decide +kernel, by decide +kernel, by decide +kernel⟩
theorem ctX16_isAcceptable (l : Launch) (E : Nat → Nat) (D : va_G) (dA : Nat → ClassId) (lo : Nat) (H0 : Heap) (fu : Nat) (a0 : Nat) (a1 : Option Nat) (M : Mm) (out : Int32 × Mm) (h : fX16_isAcceptable fu a0 a1 M = some out) : Ct l E D dA lo H0 yX16_isAcceptable cX16_isAcceptable 5 (some .boolean) 2 43 [pR (some a0), pR a1] M (some (pI out.1)) out.2 := by
  refine ct_of (by decide +kernel) (Nat.le_of_ble_eq_true rfl) ?_
  intro x hl he hd ha ho hh hn hin X hE
  exact wX16_isAcceptable X hE hn fu a0 a1 M h
/-! WebHostModel.acknowledge(LWebHostModel$Connection;)V -/
def fX16_acknowledge (fu : Nat)  (a0 : Nat) (a1 : Option Nat)  (M : Mm) : Option (Mm) :=
    (gI M 12 769 a1).bind fun v1 =>
    (gI M 12 770 a1).bind fun v2 =>
    (gI M 12 773 a1).bind fun v3 =>
    (gI M 12 804 a1).bind fun v4 =>
    (rc M 12 a1).bind fun q5 =>
    b2 (fX12_open fu q5  M) fun v7 M6 =>
    (rc M6 16 (some a0)).bind fun q8 =>
    (fX16_segmentOut fu q8 v1 (80 : Int32) v2 v3 v4 (16 : Int32) v7 (0 : Int32) (0 : Int32) M6).bind fun M9 =>
    (rc M9 16 (some a0)).bind fun q10 =>
    (fX16_pays fu q10 a1 M9).bind fun M11 =>
    some M11
theorem dX16_acknowledge_0 : decode cX16_acknowledge 0 = .ok (.aload_n 0, 1) := by decide +kernel
theorem dX16_acknowledge_1 : decode cX16_acknowledge 1 = .ok (.aload_n 1, 1) := by decide +kernel
theorem dX16_acknowledge_2 : decode cX16_acknowledge 2 = .ok (.getfield 314, 3) := by decide +kernel
theorem dX16_acknowledge_5 : decode cX16_acknowledge 5 = .ok (.bipush 80, 2) := by decide +kernel
theorem dX16_acknowledge_7 : decode cX16_acknowledge 7 = .ok (.aload_n 1, 1) := by decide +kernel
theorem dX16_acknowledge_8 : decode cX16_acknowledge 8 = .ok (.getfield 315, 3) := by decide +kernel
theorem dX16_acknowledge_11 : decode cX16_acknowledge 11 = .ok (.aload_n 1, 1) := by decide +kernel
theorem dX16_acknowledge_12 : decode cX16_acknowledge 12 = .ok (.getfield 345, 3) := by decide +kernel
theorem dX16_acknowledge_15 : decode cX16_acknowledge 15 = .ok (.aload_n 1, 1) := by decide +kernel
theorem dX16_acknowledge_16 : decode cX16_acknowledge 16 = .ok (.getfield 348, 3) := by decide +kernel
theorem dX16_acknowledge_19 : decode cX16_acknowledge 19 = .ok (.bipush 16, 2) := by decide +kernel
theorem dX16_acknowledge_21 : decode cX16_acknowledge 21 = .ok (.aload_n 1, 1) := by decide +kernel
theorem dX16_acknowledge_22 : decode cX16_acknowledge 22 = .ok (.invokevirtual 339, 3) := by decide +kernel
theorem dX16_acknowledge_25 : decode cX16_acknowledge 25 = .ok (.iconst 0, 1) := by decide +kernel
theorem dX16_acknowledge_26 : decode cX16_acknowledge 26 = .ok (.iconst 0, 1) := by decide +kernel
theorem dX16_acknowledge_27 : decode cX16_acknowledge 27 = .ok (.invokevirtual 329, 3) := by decide +kernel
theorem dX16_acknowledge_30 : decode cX16_acknowledge 30 = .ok (.aload_n 0, 1) := by decide +kernel
theorem dX16_acknowledge_31 : decode cX16_acknowledge 31 = .ok (.aload_n 1, 1) := by decide +kernel
theorem dX16_acknowledge_32 : decode cX16_acknowledge 32 = .ok (.invokevirtual 351, 3) := by decide +kernel
theorem dX16_acknowledge_35 : decode cX16_acknowledge 35 = .ok (.return_, 1) := by decide +kernel
theorem wX16_acknowledge {x : GX} {n0 sl0 : Nat} (X : Cx x cX16_acknowledge RX16 none n0 sl0 6 156) {out : Mm} (hE : Ends x n0 sl0 none out) (hn : xn x = 2) (fu : Nat)   (a0 : Nat) (a1 : Option Nat)  (M : Mm) (h : fX16_acknowledge fu  a0 a1 M = some out) : Gw x M 0 [(0, pR (some a0)), (1, pR a1)] [] := by
  unfold fX16_acknowledge at h
  refine g_aload_n X (pc := 0) 0 rfl rfl dX16_acknowledge_0 ?_
  refine g_aload_n X (pc := 1) 1 rfl rfl dX16_acknowledge_1 ?_
  obtain ⟨v1, ev1, h⟩ := bd h
  refine g_getI X (pc := 2) fk_12_1 rfl rfl ev1 tb_1581 dX16_acknowledge_2 ?_
  refine g_bipush X (pc := 5) (v := 80) dX16_acknowledge_5 (by decide) ?_
  refine g_aload_n X (pc := 7) 1 rfl rfl dX16_acknowledge_7 ?_
  obtain ⟨v2, ev2, h⟩ := bd h
  refine g_getI X (pc := 8) fk_12_2 rfl rfl ev2 tb_1582 dX16_acknowledge_8 ?_
  refine g_aload_n X (pc := 11) 1 rfl rfl dX16_acknowledge_11 ?_
  obtain ⟨v3, ev3, h⟩ := bd h
  refine g_getI X (pc := 12) fk_12_5 rfl rfl ev3 tb_1585 dX16_acknowledge_12 ?_
  refine g_aload_n X (pc := 15) 1 rfl rfl dX16_acknowledge_15 ?_
  obtain ⟨v4, ev4, h⟩ := bd h
  refine g_getI X (pc := 16) fk_12_36 rfl rfl ev4 tb_1625 dX16_acknowledge_16 ?_
  refine g_bipush X (pc := 19) (v := 16) dX16_acknowledge_19 (by decide) ?_
  refine g_aload_n X (pc := 21) 1 rfl rfl dX16_acknowledge_21 ?_
  obtain ⟨q5, eq5, h⟩ := bd h
  obtain ⟨v7, M6, eM6, h⟩ := b2d h
  refine g_callV X (pc := 22) (M' := M6) (ro := some (pI v7)) (c := 12) rfl (by decide) (as := []) (as' := []) (st := [pI (16 : Int32), pI v4, pI v3, pI v2, pI (80 : Int32), pI v1, pR (some a0)]) eq5 (ctX12_open _ _ _ _ _ _ fu q5  M _ eM6) tb_2108 tb_2105 tb_2106 tb_2107 tb_9 ⟨rfl, hyX12_open⟩ rfl rfl ⟨by decide, by decide⟩ (Nat.le_of_ble_eq_true rfl) dX16_acknowledge_22 ?_
  refine g_iconst X (pc := 25) (v := 0) dX16_acknowledge_25 (by decide) ?_
  refine g_iconst X (pc := 26) (v := 0) dX16_acknowledge_26 (by decide) ?_
  obtain ⟨q8, eq8, h⟩ := bd h
  obtain ⟨M9, eM9, h⟩ := bd h
  refine g_callV X (pc := 27) (M' := M9) (ro := none) (c := 16) rfl (by decide) (as := [pI v1, pI (80 : Int32), pI v2, pI v3, pI v4, pI (16 : Int32), pI v7, pI (0 : Int32), pI (0 : Int32)]) (as' := [pI (0 : Int32), pI (0 : Int32), pI v7, pI (16 : Int32), pI v4, pI v3, pI v2, pI (80 : Int32), pI v1]) (st := []) eq8 (ctX16_segmentOut _ _ _ _ _ _ fu q8 v1 (80 : Int32) v2 v3 v4 (16 : Int32) v7 (0 : Int32) (0 : Int32) M6 _ eM9) tb_2116 tb_2113 tb_2115 ts_75 tb_8 ⟨rfl, hyX16_segmentOut⟩ rfl rfl ⟨by decide, by decide⟩ (Nat.le_of_ble_eq_true rfl) dX16_acknowledge_27 ?_
  refine g_aload_n X (pc := 30) 0 rfl rfl dX16_acknowledge_30 ?_
  refine g_aload_n X (pc := 31) 1 rfl rfl dX16_acknowledge_31 ?_
  obtain ⟨q10, eq10, h⟩ := bd h
  obtain ⟨M11, eM11, h⟩ := bd h
  refine g_callV X (pc := 32) (M' := M11) (ro := none) (c := 16) rfl (by decide) (as := [pR a1]) (as' := [pR a1]) (st := []) eq10 (ctX16_pays _ _ _ _ _ _ fu q10 a1 M9 _ eM11) tb_2163 tb_2160 tb_2162 ts_84 tb_8 ⟨rfl, hyX16_pays⟩ rfl rfl ⟨by decide, by decide⟩ (Nat.le_of_ble_eq_true rfl) dX16_acknowledge_32 ?_
  obtain rfl := Option.some.inj h
  exact g_return X hE dX16_acknowledge_35
theorem hyX16_acknowledge : yX16_acknowledge.cls ≠ "java/lang/invoke/MethodHandle" ∧ yX16_acknowledge.cls ≠ "java/lang/invoke/VarHandle" ∧ (parseMethodDescriptor yX16_acknowledge.desc).map (fun d => d.parameters.length) = some 1 := ⟨by decide +kernel, by decide +kernel, by decide +kernel⟩
theorem ctX16_acknowledge (l : Launch) (E : Nat → Nat) (D : va_G) (dA : Nat → ClassId) (lo : Nat) (H0 : Heap) (fu : Nat) (a0 : Nat) (a1 : Option Nat) (M : Mm) (out : Mm) (h : fX16_acknowledge fu a0 a1 M = some out) : Ct l E D dA lo H0 yX16_acknowledge cX16_acknowledge 2 none 6 156 [pR (some a0), pR a1] M none out := by
  refine ct_of (by decide +kernel) (Nat.le_of_ble_eq_true rfl) ?_
  intro x hl he hd ha ho hh hn hin X hE
  exact wX16_acknowledge X hE hn fu a0 a1 M h
/-! WebHostModel.gone(LWebHostModel$Connection;)V -/
def fX16_gone (fu : Nat)  (a0 : Nat) (a1 : Option Nat)  (M : Mm) : Option (Mm) :=
    (pF M 12 768 a1 (0 : Int32)).bind fun M1 =>
    (pZ M1 12 789 a1 (0 : Int32)).bind fun M2 =>
    some M2
theorem dX16_gone_0 : decode cX16_gone 0 = .ok (.aload_n 1, 1) := by decide +kernel
theorem dX16_gone_1 : decode cX16_gone 1 = .ok (.iconst 0, 1) := by decide +kernel
theorem dX16_gone_2 : decode cX16_gone 2 = .ok (.putfield 152, 3) := by decide +kernel
theorem dX16_gone_5 : decode cX16_gone 5 = .ok (.aload_n 1, 1) := by decide +kernel
theorem dX16_gone_6 : decode cX16_gone 6 = .ok (.iconst 0, 1) := by decide +kernel
theorem dX16_gone_7 : decode cX16_gone 7 = .ok (.putfield 376, 3) := by decide +kernel
theorem dX16_gone_10 : decode cX16_gone 10 = .ok (.return_, 1) := by decide +kernel
theorem wX16_gone {x : GX} {n0 sl0 : Nat} (X : Cx x cX16_gone RX16 none n0 sl0 0 0) {out : Mm} (hE : Ends x n0 sl0 none out) (hn : xn x = 2) (fu : Nat)   (a0 : Nat) (a1 : Option Nat)  (M : Mm) (h : fX16_gone fu  a0 a1 M = some out) : Gw x M 0 [(0, pR (some a0)), (1, pR a1)] [] := by
  unfold fX16_gone at h
  refine g_aload_n X (pc := 0) 1 rfl rfl dX16_gone_0 ?_
  refine g_iconst X (pc := 1) (v := 0) dX16_gone_1 (by decide) ?_
  obtain ⟨M1, eM1, h⟩ := bd h
  refine g_putI X (pc := 2) fk_12_0 rfl rfl rfl eM1 tb_1580 (Or.inl rfl) dX16_gone_2 ?_
  refine g_aload_n X (pc := 5) 1 rfl rfl dX16_gone_5 ?_
  refine g_iconst X (pc := 6) (v := 0) dX16_gone_6 (by decide) ?_
  obtain ⟨M2, eM2, h⟩ := bd h
  refine g_putZ X (pc := 7) fk_12_21 rfl rfl rfl eM2 tb_1601 (Or.inl rfl) dX16_gone_7 ?_
  obtain rfl := Option.some.inj h
  exact g_return X hE dX16_gone_10
theorem hyX16_gone : yX16_gone.cls ≠ "java/lang/invoke/MethodHandle" ∧ yX16_gone.cls ≠ "java/lang/invoke/VarHandle" ∧ (parseMethodDescriptor yX16_gone.desc).map (fun d => d.parameters.length) = some 1 := ⟨by decide +kernel, by decide +kernel, by decide +kernel⟩
theorem ctX16_gone (l : Launch) (E : Nat → Nat) (D : va_G) (dA : Nat → ClassId) (lo : Nat) (H0 : Heap) (fu : Nat) (a0 : Nat) (a1 : Option Nat) (M : Mm) (out : Mm) (h : fX16_gone fu a0 a1 M = some out) : Ct l E D dA lo H0 yX16_gone cX16_gone 2 none 0 0 [pR (some a0), pR a1] M none out := by
  refine ct_of (by decide +kernel) (Nat.le_of_ble_eq_true rfl) ?_
  intro x hl he hd ha ho hh hn hin X hE
  exact wX16_gone X hE hn fu a0 a1 M h
/-! WebHostModel.isBehind(II)Z -/
def fX16_isBehind (fu : Nat)  (a0 : Int32) (a1 : Int32)  (M : Mm) : Option (Int32 × Mm) :=
    if (a0 - a1) ≤ 0 then (
    rN .boolean (0 : Int32) M)
    else (
    rN .boolean (1 : Int32) M)
theorem dX16_isBehind_0 : decode cX16_isBehind 0 = .ok (.iload_n 0, 1) := by decide +kernel
theorem dX16_isBehind_1 : decode cX16_isBehind 1 = .ok (.iload_n 1, 1) := by decide +kernel
theorem dX16_isBehind_2 : decode cX16_isBehind 2 = .ok (.isub, 1) := by decide +kernel
theorem dX16_isBehind_3 : decode cX16_isBehind 3 = .ok (.ifCond .le 7, 3) := by decide +kernel
theorem dX16_isBehind_6 : decode cX16_isBehind 6 = .ok (.iconst 1, 1) := by decide +kernel
theorem dX16_isBehind_7 : decode cX16_isBehind 7 = .ok (.goto 4, 3) := by decide +kernel
theorem dX16_isBehind_10 : decode cX16_isBehind 10 = .ok (.iconst 0, 1) := by decide +kernel
theorem dX16_isBehind_11 : decode cX16_isBehind 11 = .ok (.ireturn, 1) := by decide +kernel
theorem wX16_isBehind {x : GX} {n0 sl0 : Nat} (X : Cx x cX16_isBehind RX16 (some .boolean) n0 sl0 0 0) {out : Int32 × Mm} (hE : Ends x n0 sl0 (some (pI out.1)) out.2) (hn : xn x = 2) (fu : Nat)   (a0 : Int32) (a1 : Int32)  (M : Mm) (h : fX16_isBehind fu  a0 a1 M = some out) : Gw x M 0 [(0, pI a0), (1, pI a1)] [] := by
  unfold fX16_isBehind at h
  refine g_iload_n X (pc := 0) 0 rfl rfl dX16_isBehind_0 ?_
  refine g_iload_n X (pc := 1) 1 rfl rfl dX16_isBehind_1 ?_
  refine g_isub X (pc := 2) dX16_isBehind_2 ?_
  refine g_if_le X (pc := 3) (tgt := 10) dX16_isBehind_3 (by decide) (fun hc => ?_) (fun hc => ?_)
  · have h := (if_pos hc).symm.trans h
    refine g_iconst X (pc := 10) (v := 0) dX16_isBehind_10 (by decide) ?_
    obtain ⟨hz, rfl⟩ := rN_some h
    exact g_nreturn X rfl hz hE dX16_isBehind_11
  · have h := (if_neg hc).symm.trans h
    refine g_iconst X (pc := 6) (v := 1) dX16_isBehind_6 (by decide) ?_
    refine g_goto X (pc := 7) (tgt := 11) dX16_isBehind_7 (by decide) ?_
    obtain ⟨hz, rfl⟩ := rN_some h
    exact g_nreturn X rfl hz hE dX16_isBehind_11
theorem hyX16_isBehind : yX16_isBehind.cls ≠ "java/lang/invoke/MethodHandle" ∧ yX16_isBehind.cls ≠ "java/lang/invoke/VarHandle" ∧ (parseMethodDescriptor yX16_isBehind.desc).map (fun d => d.parameters.length) = some 2 := ⟨by decide +kernel, by decide +kernel, by decide +kernel⟩
theorem ctX16_isBehind (l : Launch) (E : Nat → Nat) (D : va_G) (dA : Nat → ClassId) (lo : Nat) (H0 : Heap) (fu : Nat) (a0 : Int32) (a1 : Int32) (M : Mm) (out : Int32 × Mm) (h : fX16_isBehind fu a0 a1 M = some out) : Ct l E D dA lo H0 yX16_isBehind cX16_isBehind 2 (some .boolean) 0 0 [pI a0, pI a1] M (some (pI out.1)) out.2 := by
  refine ct_of (by decide +kernel) (Nat.le_of_ble_eq_true rfl) ?_
  intro x hl he hd ha ho hh hn hin X hE
  exact wX16_isBehind X hE hn fu a0 a1 M h
/-! WebHostModel.measure(LWebHostModel$Connection;I)V -/
def fX16_measure_L73 (fu : Nat)  (a0 : Option Nat)  (M : Mm) : Option (Mm) :=
    (gI M 12 782 a0).bind fun v1 =>
    (gI M 12 783 a0).bind fun v2 =>
    (some ((Int32.toInt64 v1) + (jmaxL (10 : Int64) ((4 : Int64) * (Int32.toInt64 v2))))).bind fun v3 =>
    (pF M 12 781 a0 (Int64.toInt32 (jmaxL (1000 : Int64) (jminL (60000 : Int64) v3)))).bind fun M4 =>
    some M4
def fX16_measure_L31 (fu : Nat)  (a0 : Option Nat) (a1 : Int32) (s0 : Option Nat) (s1 : Int32) (s2 : Int32) (M : Mm) : Option (Mm) :=
    (pF M 12 783 s0 ((s1 + s2) / (4 : Int32))).bind fun M1 =>
    (gI M1 12 782 a0).bind fun v2 =>
    (pF M1 12 782 a0 ((((7 : Int32) * v2) + a1) / (8 : Int32))).bind fun M3 =>
    fX16_measure_L73 fu  a0 M3
def fX16_measure (fu : Nat)  (a0 : Option Nat) (a1 : Int32)  (M : Mm) : Option (Mm) :=
    (gI M 12 784 a0).bind fun v1 =>
    if v1 = 0 then (
    (pZ M 12 784 a0 (1 : Int32)).bind fun M2 =>
    (pF M2 12 782 a0 a1).bind fun M3 =>
    (pF M3 12 783 a0 (a1 / (2 : Int32))).bind fun M4 =>
    fX16_measure_L73 fu  a0 M4)
    else (
    (gI M 12 782 a0).bind fun v5 =>
    (gI M 12 783 a0).bind fun v6 =>
    if 0 ≤ (v5 - a1) then (
    fX16_measure_L31 fu  a0 a1 a0 ((3 : Int32) * v6) (v5 - a1) M)
    else (
    fX16_measure_L31 fu  a0 a1 a0 ((3 : Int32) * v6) (-(v5 - a1)) M))
theorem dX16_measure_0 : decode cX16_measure 0 = .ok (.aload_n 0, 1) := by decide +kernel
theorem dX16_measure_1 : decode cX16_measure 1 = .ok (.getfield 460, 3) := by decide +kernel
theorem dX16_measure_4 : decode cX16_measure 4 = .ok (.ifCond .eq 52, 3) := by decide +kernel
theorem dX16_measure_7 : decode cX16_measure 7 = .ok (.aload_n 0, 1) := by decide +kernel
theorem dX16_measure_8 : decode cX16_measure 8 = .ok (.getfield 538, 3) := by decide +kernel
theorem dX16_measure_11 : decode cX16_measure 11 = .ok (.iload_n 1, 1) := by decide +kernel
theorem dX16_measure_12 : decode cX16_measure 12 = .ok (.isub, 1) := by decide +kernel
theorem dX16_measure_13 : decode cX16_measure 13 = .ok (.istore_n 2, 1) := by decide +kernel
theorem dX16_measure_14 : decode cX16_measure 14 = .ok (.aload_n 0, 1) := by decide +kernel
theorem dX16_measure_15 : decode cX16_measure 15 = .ok (.iconst 3, 1) := by decide +kernel
theorem dX16_measure_16 : decode cX16_measure 16 = .ok (.aload_n 0, 1) := by decide +kernel
theorem dX16_measure_17 : decode cX16_measure 17 = .ok (.getfield 541, 3) := by decide +kernel
theorem dX16_measure_20 : decode cX16_measure 20 = .ok (.imul, 1) := by decide +kernel
theorem dX16_measure_21 : decode cX16_measure 21 = .ok (.iload_n 2, 1) := by decide +kernel
theorem dX16_measure_22 : decode cX16_measure 22 = .ok (.ifCond .ge 8, 3) := by decide +kernel
theorem dX16_measure_25 : decode cX16_measure 25 = .ok (.iload_n 2, 1) := by decide +kernel
theorem dX16_measure_26 : decode cX16_measure 26 = .ok (.ineg, 1) := by decide +kernel
theorem dX16_measure_27 : decode cX16_measure 27 = .ok (.goto 4, 3) := by decide +kernel
theorem dX16_measure_30 : decode cX16_measure 30 = .ok (.iload_n 2, 1) := by decide +kernel
theorem dX16_measure_31 : decode cX16_measure 31 = .ok (.iadd, 1) := by decide +kernel
theorem dX16_measure_32 : decode cX16_measure 32 = .ok (.iconst 4, 1) := by decide +kernel
theorem dX16_measure_33 : decode cX16_measure 33 = .ok (.idiv, 1) := by decide +kernel
theorem dX16_measure_34 : decode cX16_measure 34 = .ok (.putfield 541, 3) := by decide +kernel
theorem dX16_measure_37 : decode cX16_measure 37 = .ok (.aload_n 0, 1) := by decide +kernel
theorem dX16_measure_38 : decode cX16_measure 38 = .ok (.bipush 7, 2) := by decide +kernel
theorem dX16_measure_40 : decode cX16_measure 40 = .ok (.aload_n 0, 1) := by decide +kernel
theorem dX16_measure_41 : decode cX16_measure 41 = .ok (.getfield 538, 3) := by decide +kernel
theorem dX16_measure_44 : decode cX16_measure 44 = .ok (.imul, 1) := by decide +kernel
theorem dX16_measure_45 : decode cX16_measure 45 = .ok (.iload_n 1, 1) := by decide +kernel
theorem dX16_measure_46 : decode cX16_measure 46 = .ok (.iadd, 1) := by decide +kernel
theorem dX16_measure_47 : decode cX16_measure 47 = .ok (.bipush 8, 2) := by decide +kernel
theorem dX16_measure_49 : decode cX16_measure 49 = .ok (.idiv, 1) := by decide +kernel
theorem dX16_measure_50 : decode cX16_measure 50 = .ok (.putfield 538, 3) := by decide +kernel
theorem dX16_measure_53 : decode cX16_measure 53 = .ok (.goto 20, 3) := by decide +kernel
theorem dX16_measure_56 : decode cX16_measure 56 = .ok (.aload_n 0, 1) := by decide +kernel
theorem dX16_measure_57 : decode cX16_measure 57 = .ok (.iconst 1, 1) := by decide +kernel
theorem dX16_measure_58 : decode cX16_measure 58 = .ok (.putfield 460, 3) := by decide +kernel
theorem dX16_measure_61 : decode cX16_measure 61 = .ok (.aload_n 0, 1) := by decide +kernel
theorem dX16_measure_62 : decode cX16_measure 62 = .ok (.iload_n 1, 1) := by decide +kernel
theorem dX16_measure_63 : decode cX16_measure 63 = .ok (.putfield 538, 3) := by decide +kernel
theorem dX16_measure_66 : decode cX16_measure 66 = .ok (.aload_n 0, 1) := by decide +kernel
theorem dX16_measure_67 : decode cX16_measure 67 = .ok (.iload_n 1, 1) := by decide +kernel
theorem dX16_measure_68 : decode cX16_measure 68 = .ok (.iconst 2, 1) := by decide +kernel
theorem dX16_measure_69 : decode cX16_measure 69 = .ok (.idiv, 1) := by decide +kernel
theorem dX16_measure_70 : decode cX16_measure 70 = .ok (.putfield 541, 3) := by decide +kernel
theorem dX16_measure_73 : decode cX16_measure 73 = .ok (.aload_n 0, 1) := by decide +kernel
theorem dX16_measure_74 : decode cX16_measure 74 = .ok (.getfield 538, 3) := by decide +kernel
theorem dX16_measure_77 : decode cX16_measure 77 = .ok (.i2l, 1) := by decide +kernel
theorem dX16_measure_78 : decode cX16_measure 78 = .ok (.ldc2_w 544, 3) := by decide +kernel
theorem dX16_measure_81 : decode cX16_measure 81 = .ok (.ldc2_w 546, 3) := by decide +kernel
theorem dX16_measure_84 : decode cX16_measure 84 = .ok (.aload_n 0, 1) := by decide +kernel
theorem dX16_measure_85 : decode cX16_measure 85 = .ok (.getfield 541, 3) := by decide +kernel
theorem dX16_measure_88 : decode cX16_measure 88 = .ok (.i2l, 1) := by decide +kernel
theorem dX16_measure_89 : decode cX16_measure 89 = .ok (.lmul, 1) := by decide +kernel
theorem dX16_measure_90 : decode cX16_measure 90 = .ok (.invokestatic 548, 3) := by decide +kernel
theorem dX16_measure_93 : decode cX16_measure 93 = .ok (.ladd, 1) := by decide +kernel
theorem dX16_measure_94 : decode cX16_measure 94 = .ok (.lstore_n 2, 1) := by decide +kernel
theorem dX16_measure_95 : decode cX16_measure 95 = .ok (.aload_n 0, 1) := by decide +kernel
theorem dX16_measure_96 : decode cX16_measure 96 = .ok (.ldc2_w 551, 3) := by decide +kernel
theorem dX16_measure_99 : decode cX16_measure 99 = .ok (.ldc2_w 553, 3) := by decide +kernel
theorem dX16_measure_102 : decode cX16_measure 102 = .ok (.lload_n 2, 1) := by decide +kernel
theorem dX16_measure_103 : decode cX16_measure 103 = .ok (.invokestatic 555, 3) := by decide +kernel
theorem dX16_measure_106 : decode cX16_measure 106 = .ok (.invokestatic 548, 3) := by decide +kernel
theorem dX16_measure_109 : decode cX16_measure 109 = .ok (.l2i, 1) := by decide +kernel
theorem dX16_measure_110 : decode cX16_measure 110 = .ok (.putfield 382, 3) := by decide +kernel
theorem dX16_measure_113 : decode cX16_measure 113 = .ok (.return_, 1) := by decide +kernel
theorem wX16_measure_L73 {x : GX} {n0 sl0 : Nat} (X : Cx x cX16_measure RX16 none n0 sl0 1 18) {out : Mm} (hE : Ends x n0 sl0 none out) (hn : xn x = 4) (fu : Nat)   (a0 : Option Nat)  (M : Mm) (h : fX16_measure_L73 fu  a0 M = some out) : Gw x M 73 [(0, pR a0)] [] := by
  unfold fX16_measure_L73 at h
  refine g_aload_n X (pc := 73) 0 rfl rfl dX16_measure_73 ?_
  obtain ⟨v1, ev1, h⟩ := bd h
  refine g_getI X (pc := 74) fk_12_14 rfl rfl ev1 tb_1594 dX16_measure_74 ?_
  refine g_i2l X (pc := 77) dX16_measure_77 ?_
  refine g_ldc2 X (pc := 78) tb_2293 dX16_measure_78 ?_
  refine g_ldc2 X (pc := 81) tb_2294 dX16_measure_81 ?_
  refine g_aload_n X (pc := 84) 0 rfl rfl dX16_measure_84 ?_
  obtain ⟨v2, ev2, h⟩ := bd h
  refine g_getI X (pc := 85) fk_12_15 rfl rfl ev2 tb_1595 dX16_measure_85 ?_
  refine g_i2l X (pc := 88) dX16_measure_88 ?_
  refine g_lmul X (pc := 89) dX16_measure_89 ?_
  refine g_mmaxL X (pc := 90) tb_2076 tb_2077 tb_13 tb_2078 ⟨by decide, Nat.le_of_ble_eq_true rfl⟩ dX16_measure_90 ?_
  refine g_ladd X (pc := 93) dX16_measure_93 ?_
  obtain ⟨v3, ev3, h⟩ := bd h
  refine g_nmJ ev3 ?_
  refine g_lstore_n X (pc := 94) [(2, pL v3), (0, pR a0)] rfl (lt_n hn (by decide)) rfl dX16_measure_94 ?_
  refine g_aload_n X (pc := 95) 1 rfl rfl dX16_measure_95 ?_
  refine g_ldc2 X (pc := 96) tb_2058 dX16_measure_96 ?_
  refine g_ldc2 X (pc := 99) tb_2063 dX16_measure_99 ?_
  refine g_lload_n X (pc := 102) 0 rfl rfl dX16_measure_102 ?_
  refine g_mminL X (pc := 103) tb_2295 tb_2296 tb_13 tb_2297 ⟨by decide, Nat.le_of_ble_eq_true rfl⟩ dX16_measure_103 ?_
  refine g_mmaxL X (pc := 106) tb_2076 tb_2077 tb_13 tb_2078 ⟨by decide, Nat.le_of_ble_eq_true rfl⟩ dX16_measure_106 ?_
  refine g_l2i X (pc := 109) dX16_measure_109 ?_
  obtain ⟨M4, eM4, h⟩ := bd h
  refine g_putI X (pc := 110) fk_12_13 rfl rfl rfl eM4 tb_1593 (Or.inl rfl) dX16_measure_110 ?_
  obtain rfl := Option.some.inj h
  exact g_return X hE dX16_measure_113
theorem wX16_measure_L31 {x : GX} {n0 sl0 : Nat} (X : Cx x cX16_measure RX16 none n0 sl0 1 18) {out : Mm} (hE : Ends x n0 sl0 none out) (hn : xn x = 4) (fu : Nat)   (a0 : Option Nat) (a1 : Int32) (s0 : Option Nat) (s1 : Int32) (s2 : Int32) (M : Mm) (h : fX16_measure_L31 fu  a0 a1 s0 s1 s2 M = some out) : Gw x M 31 [(0, pR a0), (1, pI a1)] [pI s2, pI s1, pR s0] := by
  unfold fX16_measure_L31 at h
  refine g_iadd X (pc := 31) dX16_measure_31 ?_
  refine g_iconst X (pc := 32) (v := 4) dX16_measure_32 (by decide) ?_
  refine g_idiv X (pc := 33) (by decide) dX16_measure_33 ?_
  obtain ⟨M1, eM1, h⟩ := bd h
  refine g_putI X (pc := 34) fk_12_15 rfl rfl rfl eM1 tb_1595 (Or.inl rfl) dX16_measure_34 ?_
  refine g_aload_n X (pc := 37) 0 rfl rfl dX16_measure_37 ?_
  refine g_bipush X (pc := 38) (v := 7) dX16_measure_38 (by decide) ?_
  refine g_aload_n X (pc := 40) 0 rfl rfl dX16_measure_40 ?_
  obtain ⟨v2, ev2, h⟩ := bd h
  refine g_getI X (pc := 41) fk_12_14 rfl rfl ev2 tb_1594 dX16_measure_41 ?_
  refine g_imul X (pc := 44) dX16_measure_44 ?_
  refine g_iload_n X (pc := 45) 1 rfl rfl dX16_measure_45 ?_
  refine g_iadd X (pc := 46) dX16_measure_46 ?_
  refine g_bipush X (pc := 47) (v := 8) dX16_measure_47 (by decide) ?_
  refine g_idiv X (pc := 49) (by decide) dX16_measure_49 ?_
  obtain ⟨M3, eM3, h⟩ := bd h
  refine g_putI X (pc := 50) fk_12_14 rfl rfl rfl eM3 tb_1594 (Or.inl rfl) dX16_measure_50 ?_
  refine g_goto X (pc := 53) (tgt := 73) dX16_measure_53 (by decide) ?_
  refine g_sub [0] [(0, pR a0)] rfl ?_
  exact wX16_measure_L73 X hE hn fu   a0 M3 h
theorem wX16_measure {x : GX} {n0 sl0 : Nat} (X : Cx x cX16_measure RX16 none n0 sl0 1 18) {out : Mm} (hE : Ends x n0 sl0 none out) (hn : xn x = 4) (fu : Nat)   (a0 : Option Nat) (a1 : Int32)  (M : Mm) (h : fX16_measure fu  a0 a1 M = some out) : Gw x M 0 [(0, pR a0), (1, pI a1)] [] := by
  unfold fX16_measure at h
  refine g_aload_n X (pc := 0) 0 rfl rfl dX16_measure_0 ?_
  obtain ⟨v1, ev1, h⟩ := bd h
  refine g_getI X (pc := 1) fk_12_16 rfl rfl ev1 tb_1596 dX16_measure_1 ?_
  refine g_if_eq X (pc := 4) (tgt := 56) dX16_measure_4 (by decide) (fun hc => ?_) (fun hc => ?_)
  · have h := (if_pos hc).symm.trans h
    refine g_aload_n X (pc := 56) 0 rfl rfl dX16_measure_56 ?_
    refine g_iconst X (pc := 57) (v := 1) dX16_measure_57 (by decide) ?_
    obtain ⟨M2, eM2, h⟩ := bd h
    refine g_putZ X (pc := 58) fk_12_16 rfl rfl rfl eM2 tb_1596 (Or.inl rfl) dX16_measure_58 ?_
    refine g_aload_n X (pc := 61) 0 rfl rfl dX16_measure_61 ?_
    refine g_iload_n X (pc := 62) 1 rfl rfl dX16_measure_62 ?_
    obtain ⟨M3, eM3, h⟩ := bd h
    refine g_putI X (pc := 63) fk_12_14 rfl rfl rfl eM3 tb_1594 (Or.inl rfl) dX16_measure_63 ?_
    refine g_aload_n X (pc := 66) 0 rfl rfl dX16_measure_66 ?_
    refine g_iload_n X (pc := 67) 1 rfl rfl dX16_measure_67 ?_
    refine g_iconst X (pc := 68) (v := 2) dX16_measure_68 (by decide) ?_
    refine g_idiv X (pc := 69) (by decide) dX16_measure_69 ?_
    obtain ⟨M4, eM4, h⟩ := bd h
    refine g_putI X (pc := 70) fk_12_15 rfl rfl rfl eM4 tb_1595 (Or.inl rfl) dX16_measure_70 ?_
    refine g_sub [0] [(0, pR a0)] rfl ?_
    exact wX16_measure_L73 X hE hn fu   a0 M4 h
  · have h := (if_neg hc).symm.trans h
    refine g_aload_n X (pc := 7) 0 rfl rfl dX16_measure_7 ?_
    obtain ⟨v5, ev5, h⟩ := bd h
    refine g_getI X (pc := 8) fk_12_14 rfl rfl ev5 tb_1594 dX16_measure_8 ?_
    refine g_iload_n X (pc := 11) 1 rfl rfl dX16_measure_11 ?_
    refine g_isub X (pc := 12) dX16_measure_12 ?_
    refine g_istore_n X (pc := 13) [(2, pI (v5 - a1)), (0, pR a0), (1, pI a1)] rfl (lt_n hn (by decide)) rfl dX16_measure_13 ?_
    refine g_aload_n X (pc := 14) 1 rfl rfl dX16_measure_14 ?_
    refine g_iconst X (pc := 15) (v := 3) dX16_measure_15 (by decide) ?_
    refine g_aload_n X (pc := 16) 1 rfl rfl dX16_measure_16 ?_
    obtain ⟨v6, ev6, h⟩ := bd h
    refine g_getI X (pc := 17) fk_12_15 rfl rfl ev6 tb_1595 dX16_measure_17 ?_
    refine g_imul X (pc := 20) dX16_measure_20 ?_
    refine g_iload_n X (pc := 21) 0 rfl rfl dX16_measure_21 ?_
    refine g_if_ge X (pc := 22) (tgt := 30) dX16_measure_22 (by decide) (fun hc => ?_) (fun hc => ?_)
    · have h := (if_pos hc).symm.trans h
      refine g_iload_n X (pc := 30) 0 rfl rfl dX16_measure_30 ?_
      refine g_sub [1, 2] [(0, pR a0), (1, pI a1)] rfl ?_
      exact wX16_measure_L31 X hE hn fu   a0 a1 a0 ((3 : Int32) * v6) (v5 - a1) M h
    · have h := (if_neg hc).symm.trans h
      refine g_iload_n X (pc := 25) 0 rfl rfl dX16_measure_25 ?_
      refine g_ineg X (pc := 26) dX16_measure_26 ?_
      refine g_goto X (pc := 27) (tgt := 31) dX16_measure_27 (by decide) ?_
      refine g_sub [1, 2] [(0, pR a0), (1, pI a1)] rfl ?_
      exact wX16_measure_L31 X hE hn fu   a0 a1 a0 ((3 : Int32) * v6) (-(v5 - a1)) M h
theorem hyX16_measure : yX16_measure.cls ≠ "java/lang/invoke/MethodHandle" ∧ yX16_measure.cls ≠ "java/lang/invoke/VarHandle" ∧ (parseMethodDescriptor yX16_measure.desc).map (fun d => d.parameters.length) = some 2 := ⟨by decide +kernel, by decide +kernel, by decide +kernel⟩
theorem ctX16_measure (l : Launch) (E : Nat → Nat) (D : va_G) (dA : Nat → ClassId) (lo : Nat) (H0 : Heap) (fu : Nat) (a0 : Option Nat) (a1 : Int32) (M : Mm) (out : Mm) (h : fX16_measure fu a0 a1 M = some out) : Ct l E D dA lo H0 yX16_measure cX16_measure 4 none 1 18 [pR a0, pI a1] M none out := by
  refine ct_of (by decide +kernel) (Nat.le_of_ble_eq_true rfl) ?_
  intro x hl he hd ha ho hh hn hin X hE
  exact wX16_measure X hE hn fu a0 a1 M h
