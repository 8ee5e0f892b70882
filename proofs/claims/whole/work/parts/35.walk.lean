/-! ===== walks of methods, printed by a program of ours ===== -/
/-! WebHostModel.contentLength(II)V -/
def fX16_contentLength_L80 (fu : Nat)  (a0 : Nat) (a3 : Int32) (a4 : Int32)  (M : Mm) : Option (Mm) :=
    if a4 = 0 then (
    (pZ M 16 1076 (some a0) (1 : Int32)).bind fun M3 =>
    some M3)
    else (
    if a3 ≤ (65536 : Int32) then (
    (pF M 16 1075 (some a0) a3).bind fun M1 =>
    some M1)
    else (
    (pZ M 16 1077 (some a0) (1 : Int32)).bind fun M2 =>
    some M2))
def fX16_contentLength_L37 (fu : Nat)  : Nat → Nat → Int32 → Int32 → Int32 → Int32 → Mm → Option (Mm)
  | 0, _, _, _, _, _, _ => none
  | n + 1, a0, a2, a3, a4, a5, M =>
    if a2 ≤ a5 then (
    fX16_contentLength_L80 fu  a0 a3 a4 M)
    else (
    if a4 = 0 then (
    fX16_contentLength_L80 fu  a0 a3 a4 M)
    else (
    (rc M 16 (some a0)).bind fun q1 =>
    b2 (fX16_headAt fu q1 a5 M) fun v3 M2 =>
    b2 (fX16_isDigit fu  v3 M2) fun v5 M4 =>
    (rc M4 16 (some a0)).bind fun q6 =>
    b2 (fX16_headAt fu q6 a5 M4) fun v8 M7 =>
    (some ((((10 : Int32) * a3) + v8) - (48 : Int32))).bind fun v9 =>
    fX16_contentLength_L37 fu  n a0 a2 v9 v5 (a5 + (1 : Int32)) M7))
def fX16_contentLength_L32 (fu : Nat)  (a0 : Nat) (a1 : Int32) (a2 : Int32) (a3 : Int32) (s0 : Int32) (M : Mm) : Option (Mm) :=
    fX16_contentLength_L37 fu  fu a0 a2 a3 s0 a1 M
def fX16_contentLength_L31 (fu : Nat)  (a0 : Nat) (a1 : Int32) (a2 : Int32) (a3 : Int32)  (M : Mm) : Option (Mm) :=
    fX16_contentLength_L32 fu  a0 a1 a2 a3 (0 : Int32) M
def fX16_contentLength (fu : Nat)  (a0 : Nat) (a1 : Int32) (a2 : Int32)  (M : Mm) : Option (Mm) :=
    (gI M 16 1073 (some a0)).bind fun v1 =>
    (pF M 16 1073 (some a0) (v1 + (1 : Int32))).bind fun M2 =>
    if (a2 - a1) < (1 : Int32) then (
    fX16_contentLength_L31 fu  a0 a1 a2 (0 : Int32) M2)
    else (
    if (9 : Int32) < (a2 - a1) then (
    fX16_contentLength_L31 fu  a0 a1 a2 (0 : Int32) M2)
    else (
    fX16_contentLength_L32 fu  a0 a1 a2 (0 : Int32) (1 : Int32) M2))
theorem dX16_contentLength_0 : decode cX16_contentLength 0 = .ok (.aload_n 0, 1) := by decide +kernel
theorem dX16_contentLength_1 : decode cX16_contentLength 1 = .ok (.dup, 1) := by decide +kernel
theorem dX16_contentLength_2 : decode cX16_contentLength 2 = .ok (.getfield 657, 3) := by decide +kernel
theorem dX16_contentLength_5 : decode cX16_contentLength 5 = .ok (.iconst 1, 1) := by decide +kernel
theorem dX16_contentLength_6 : decode cX16_contentLength 6 = .ok (.iadd, 1) := by decide +kernel
theorem dX16_contentLength_7 : decode cX16_contentLength 7 = .ok (.putfield 657, 3) := by decide +kernel
theorem dX16_contentLength_10 : decode cX16_contentLength 10 = .ok (.iconst 0, 1) := by decide +kernel
theorem dX16_contentLength_11 : decode cX16_contentLength 11 = .ok (.istore_n 3, 1) := by decide +kernel
theorem dX16_contentLength_12 : decode cX16_contentLength 12 = .ok (.iload_n 2, 1) := by decide +kernel
theorem dX16_contentLength_13 : decode cX16_contentLength 13 = .ok (.iload_n 1, 1) := by decide +kernel
theorem dX16_contentLength_14 : decode cX16_contentLength 14 = .ok (.isub, 1) := by decide +kernel
theorem dX16_contentLength_15 : decode cX16_contentLength 15 = .ok (.iconst 1, 1) := by decide +kernel
theorem dX16_contentLength_16 : decode cX16_contentLength 16 = .ok (.if_icmp .lt 15, 3) := by decide +kernel
theorem dX16_contentLength_19 : decode cX16_contentLength 19 = .ok (.iload_n 2, 1) := by decide +kernel
theorem dX16_contentLength_20 : decode cX16_contentLength 20 = .ok (.iload_n 1, 1) := by decide +kernel
theorem dX16_contentLength_21 : decode cX16_contentLength 21 = .ok (.isub, 1) := by decide +kernel
theorem dX16_contentLength_22 : decode cX16_contentLength 22 = .ok (.bipush 9, 2) := by decide +kernel
theorem dX16_contentLength_24 : decode cX16_contentLength 24 = .ok (.if_icmp .gt 7, 3) := by decide +kernel
theorem dX16_contentLength_27 : decode cX16_contentLength 27 = .ok (.iconst 1, 1) := by decide +kernel
theorem dX16_contentLength_28 : decode cX16_contentLength 28 = .ok (.goto 4, 3) := by decide +kernel
theorem dX16_contentLength_31 : decode cX16_contentLength 31 = .ok (.iconst 0, 1) := by decide +kernel
theorem dX16_contentLength_32 : decode cX16_contentLength 32 = .ok (.istore 4, 2) := by decide +kernel
theorem dX16_contentLength_34 : decode cX16_contentLength 34 = .ok (.iload_n 1, 1) := by decide +kernel
theorem dX16_contentLength_35 : decode cX16_contentLength 35 = .ok (.istore 5, 2) := by decide +kernel
theorem dX16_contentLength_37 : decode cX16_contentLength 37 = .ok (.iload 5, 2) := by decide +kernel
theorem dX16_contentLength_39 : decode cX16_contentLength 39 = .ok (.iload_n 2, 1) := by decide +kernel
theorem dX16_contentLength_40 : decode cX16_contentLength 40 = .ok (.if_icmp .ge 40, 3) := by decide +kernel
theorem dX16_contentLength_43 : decode cX16_contentLength 43 = .ok (.iload 4, 2) := by decide +kernel
theorem dX16_contentLength_45 : decode cX16_contentLength 45 = .ok (.ifCond .eq 35, 3) := by decide +kernel
theorem dX16_contentLength_48 : decode cX16_contentLength 48 = .ok (.aload_n 0, 1) := by decide +kernel
theorem dX16_contentLength_49 : decode cX16_contentLength 49 = .ok (.iload 5, 2) := by decide +kernel
theorem dX16_contentLength_51 : decode cX16_contentLength 51 = .ok (.invokevirtual 693, 3) := by decide +kernel
theorem dX16_contentLength_54 : decode cX16_contentLength 54 = .ok (.invokestatic 728, 3) := by decide +kernel
theorem dX16_contentLength_57 : decode cX16_contentLength 57 = .ok (.istore 4, 2) := by decide +kernel
theorem dX16_contentLength_59 : decode cX16_contentLength 59 = .ok (.bipush 10, 2) := by decide +kernel
theorem dX16_contentLength_61 : decode cX16_contentLength 61 = .ok (.iload_n 3, 1) := by decide +kernel
theorem dX16_contentLength_62 : decode cX16_contentLength 62 = .ok (.imul, 1) := by decide +kernel
theorem dX16_contentLength_63 : decode cX16_contentLength 63 = .ok (.aload_n 0, 1) := by decide +kernel
theorem dX16_contentLength_64 : decode cX16_contentLength 64 = .ok (.iload 5, 2) := by decide +kernel
theorem dX16_contentLength_66 : decode cX16_contentLength 66 = .ok (.invokevirtual 693, 3) := by decide +kernel
theorem dX16_contentLength_69 : decode cX16_contentLength 69 = .ok (.iadd, 1) := by decide +kernel
theorem dX16_contentLength_70 : decode cX16_contentLength 70 = .ok (.bipush 48, 2) := by decide +kernel
theorem dX16_contentLength_72 : decode cX16_contentLength 72 = .ok (.isub, 1) := by decide +kernel
theorem dX16_contentLength_73 : decode cX16_contentLength 73 = .ok (.istore_n 3, 1) := by decide +kernel
theorem dX16_contentLength_74 : decode cX16_contentLength 74 = .ok (.iinc 5 1, 3) := by decide +kernel
theorem dX16_contentLength_77 : decode cX16_contentLength 77 = .ok (.goto (-40), 3) := by decide +kernel
theorem dX16_contentLength_80 : decode cX16_contentLength 80 = .ok (.iload 4, 2) := by decide +kernel
theorem dX16_contentLength_82 : decode cX16_contentLength 82 = .ok (.ifCond .ne 11, 3) := by decide +kernel
theorem dX16_contentLength_85 : decode cX16_contentLength 85 = .ok (.aload_n 0, 1) := by decide +kernel
theorem dX16_contentLength_86 : decode cX16_contentLength 86 = .ok (.iconst 1, 1) := by decide +kernel
theorem dX16_contentLength_87 : decode cX16_contentLength 87 = .ok (.putfield 666, 3) := by decide +kernel
theorem dX16_contentLength_90 : decode cX16_contentLength 90 = .ok (.goto 23, 3) := by decide +kernel
theorem dX16_contentLength_93 : decode cX16_contentLength 93 = .ok (.iload_n 3, 1) := by decide +kernel
theorem dX16_contentLength_94 : decode cX16_contentLength 94 = .ok (.ldc_w 762, 3) := by decide +kernel
theorem dX16_contentLength_97 : decode cX16_contentLength 97 = .ok (.if_icmp .le 11, 3) := by decide +kernel
theorem dX16_contentLength_100 : decode cX16_contentLength 100 = .ok (.aload_n 0, 1) := by decide +kernel
theorem dX16_contentLength_101 : decode cX16_contentLength 101 = .ok (.iconst 1, 1) := by decide +kernel
theorem dX16_contentLength_102 : decode cX16_contentLength 102 = .ok (.putfield 669, 3) := by decide +kernel
theorem dX16_contentLength_105 : decode cX16_contentLength 105 = .ok (.goto 8, 3) := by decide +kernel
theorem dX16_contentLength_108 : decode cX16_contentLength 108 = .ok (.aload_n 0, 1) := by decide +kernel
theorem dX16_contentLength_109 : decode cX16_contentLength 109 = .ok (.iload_n 3, 1) := by decide +kernel
theorem dX16_contentLength_110 : decode cX16_contentLength 110 = .ok (.putfield 663, 3) := by decide +kernel
theorem dX16_contentLength_113 : decode cX16_contentLength 113 = .ok (.return_, 1) := by decide +kernel
theorem wX16_contentLength_L80 {x : GX} {n0 sl0 : Nat} (X : Cx x cX16_contentLength RX16 none n0 sl0 1 21) {out : Mm} (hE : Ends x n0 sl0 none out) (hn : xn x = 6) (fu : Nat)   (a0 : Nat) (a3 : Int32) (a4 : Int32)  (M : Mm) (h : fX16_contentLength_L80 fu  a0 a3 a4 M = some out) : Gw x M 80 [(0, pR (some a0)), (3, pI a3), (4, pI a4)] [] := by
  unfold fX16_contentLength_L80 at h
  refine g_iload X (pc := 80) 2 rfl dX16_contentLength_80 ?_
  refine g_if_ne X (pc := 82) (tgt := 93) dX16_contentLength_82 (by decide) (fun hc => ?_) (fun hc => ?_)
  · have h := (if_neg hc).symm.trans h
    refine g_iload_n X (pc := 93) 1 rfl rfl dX16_contentLength_93 ?_
    refine g_ldcw X (pc := 94) tb_2390 dX16_contentLength_94 ?_
    refine g_icmp_le X (pc := 97) (tgt := 108) dX16_contentLength_97 (by decide) (fun hc => ?_) (fun hc => ?_)
    · have h := (if_pos hc).symm.trans h
      refine g_aload_n X (pc := 108) 0 rfl rfl dX16_contentLength_108 ?_
      refine g_iload_n X (pc := 109) 1 rfl rfl dX16_contentLength_109 ?_
      obtain ⟨M1, eM1, h⟩ := bd h
      refine g_putI X (pc := 110) fk_16_51 rfl rfl rfl eM1 tb_1865 (Or.inl rfl) dX16_contentLength_110 ?_
      obtain rfl := Option.some.inj h
      exact g_return X hE dX16_contentLength_113
    · have h := (if_neg hc).symm.trans h
      refine g_aload_n X (pc := 100) 0 rfl rfl dX16_contentLength_100 ?_
      refine g_iconst X (pc := 101) (v := 1) dX16_contentLength_101 (by decide) ?_
      obtain ⟨M2, eM2, h⟩ := bd h
      refine g_putZ X (pc := 102) fk_16_53 rfl rfl rfl eM2 tb_1867 (Or.inl rfl) dX16_contentLength_102 ?_
      refine g_goto X (pc := 105) (tgt := 113) dX16_contentLength_105 (by decide) ?_
      obtain rfl := Option.some.inj h
      exact g_return X hE dX16_contentLength_113
  · have h := (if_pos hc).symm.trans h
    refine g_aload_n X (pc := 85) 0 rfl rfl dX16_contentLength_85 ?_
    refine g_iconst X (pc := 86) (v := 1) dX16_contentLength_86 (by decide) ?_
    obtain ⟨M3, eM3, h⟩ := bd h
    refine g_putZ X (pc := 87) fk_16_52 rfl rfl rfl eM3 tb_1866 (Or.inl rfl) dX16_contentLength_87 ?_
    refine g_goto X (pc := 90) (tgt := 113) dX16_contentLength_90 (by decide) ?_
    obtain rfl := Option.some.inj h
    exact g_return X hE dX16_contentLength_113
theorem wX16_contentLength_L37 {x : GX} {n0 sl0 : Nat} (X : Cx x cX16_contentLength RX16 none n0 sl0 1 21) {out : Mm} (hE : Ends x n0 sl0 none out) (hn : xn x = 6) (fu : Nat)   : ∀ (n : Nat) (a0 : Nat) (a2 : Int32) (a3 : Int32) (a4 : Int32) (a5 : Int32)  (M : Mm), fX16_contentLength_L37 fu  n a0 a2 a3 a4 a5 M = some out → Gw x M 37 [(0, pR (some a0)), (2, pI a2), (3, pI a3), (4, pI a4), (5, pI a5)] [] := by
  intro n
  induction n with
  | zero =>
    intro a0 a2 a3 a4 a5 M h
    have h : (none : Option (Mm)) = some out := h
    cases h
  | succ n ih =>
    intro a0 a2 a3 a4 a5 M h
    rw [fX16_contentLength_L37] at h
    refine g_iload X (pc := 37) 4 rfl dX16_contentLength_37 ?_
    refine g_iload_n X (pc := 39) 1 rfl rfl dX16_contentLength_39 ?_
    refine g_icmp_ge X (pc := 40) (tgt := 80) dX16_contentLength_40 (by decide) (fun hc => ?_) (fun hc => ?_)
    · have h := (if_pos hc).symm.trans h
      refine g_sub [0, 2, 3] [(0, pR (some a0)), (3, pI a3), (4, pI a4)] rfl ?_
      exact wX16_contentLength_L80 X hE hn fu   a0 a3 a4 M h
    · have h := (if_neg hc).symm.trans h
      refine g_iload X (pc := 43) 3 rfl dX16_contentLength_43 ?_
      refine g_if_eq X (pc := 45) (tgt := 80) dX16_contentLength_45 (by decide) (fun hc => ?_) (fun hc => ?_)
      · have h := (if_pos hc).symm.trans h
        refine g_sub [0, 2, 3] [(0, pR (some a0)), (3, pI a3), (4, pI a4)] rfl ?_
        exact wX16_contentLength_L80 X hE hn fu   a0 a3 a4 M h
      · have h := (if_neg hc).symm.trans h
        refine g_aload_n X (pc := 48) 0 rfl rfl dX16_contentLength_48 ?_
        refine g_iload X (pc := 49) 4 rfl dX16_contentLength_49 ?_
        obtain ⟨q1, eq1, h⟩ := bd h
        obtain ⟨v3, M2, eM2, h⟩ := b2d h
        refine g_callV X (pc := 51) (M' := M2) (ro := some (pI v3)) (c := 16) rfl (by decide) (as := [pI a5]) (as' := [pI a5]) (st := []) eq1 (ctX16_headAt _ _ _ _ _ _ fu q1 a5 M _ eM2) tb_2352 tb_2349 tb_2351 ts_124 tb_8 ⟨rfl, hyX16_headAt⟩ rfl rfl ⟨by decide, by decide⟩ (Nat.le_of_ble_eq_true rfl) dX16_contentLength_51 ?_
        obtain ⟨v5, M4, eM4, h⟩ := b2d h
        refine g_callS X (pc := 54) (M' := M4) (ro := some (pI v5)) (as := [pI v3]) (as' := [pI v3]) (st := []) (ctX16_isDigit _ _ _ _ _ _ fu  v3 M2 _ eM4) tb_2375 tb_2373 tb_2374 tb_8 hyX16_isDigit rfl rfl ⟨by decide, by decide⟩ (Nat.le_of_ble_eq_true rfl) dX16_contentLength_54 ?_
        refine g_istore X (pc := 57) [(4, pI v5), (0, pR (some a0)), (2, pI a2), (3, pI a3), (5, pI a5)] (lt_n hn (by decide)) rfl dX16_contentLength_57 ?_
        refine g_bipush X (pc := 59) (v := 10) dX16_contentLength_59 (by decide) ?_
        refine g_iload_n X (pc := 61) 3 rfl rfl dX16_contentLength_61 ?_
        refine g_imul X (pc := 62) dX16_contentLength_62 ?_
        refine g_aload_n X (pc := 63) 1 rfl rfl dX16_contentLength_63 ?_
        refine g_iload X (pc := 64) 4 rfl dX16_contentLength_64 ?_
        obtain ⟨q6, eq6, h⟩ := bd h
        obtain ⟨v8, M7, eM7, h⟩ := b2d h
        refine g_callV X (pc := 66) (M' := M7) (ro := some (pI v8)) (c := 16) rfl (by decide) (as := [pI a5]) (as' := [pI a5]) (st := [pI ((10 : Int32) * a3)]) eq6 (ctX16_headAt _ _ _ _ _ _ fu q6 a5 M4 _ eM7) tb_2352 tb_2349 tb_2351 ts_124 tb_8 ⟨rfl, hyX16_headAt⟩ rfl rfl ⟨by decide, by decide⟩ (Nat.le_of_ble_eq_true rfl) dX16_contentLength_66 ?_
        refine g_iadd X (pc := 69) dX16_contentLength_69 ?_
        refine g_bipush X (pc := 70) (v := 48) dX16_contentLength_70 (by decide) ?_
        refine g_isub X (pc := 72) dX16_contentLength_72 ?_
        obtain ⟨v9, ev9, h⟩ := bd h
        refine g_nmI ev9 ?_
        refine g_istore_n X (pc := 73) [(3, pI v9), (4, pI v5), (0, pR (some a0)), (2, pI a2), (5, pI a5)] rfl (lt_n hn (by decide)) rfl dX16_contentLength_73 ?_
        refine g_iinc X (pc := 74) 4 [(5, pI (a5 + (1 : Int32))), (3, pI v9), (4, pI v5), (0, pR (some a0)), (2, pI a2)] rfl (iinc_e (by decide)) (lt_n hn (by decide)) rfl dX16_contentLength_74 ?_
        refine g_goto X (pc := 77) (tgt := 37) dX16_contentLength_77 (by decide) ?_
        refine g_sub [3, 4, 1, 2, 0] [(0, pR (some a0)), (2, pI a2), (3, pI v9), (4, pI v5), (5, pI (a5 + (1 : Int32)))] rfl ?_
        exact ih a0 a2 v9 v5 (a5 + (1 : Int32)) M7 h
theorem wX16_contentLength_L32 {x : GX} {n0 sl0 : Nat} (X : Cx x cX16_contentLength RX16 none n0 sl0 1 21) {out : Mm} (hE : Ends x n0 sl0 none out) (hn : xn x = 6) (fu : Nat)   (a0 : Nat) (a1 : Int32) (a2 : Int32) (a3 : Int32) (s0 : Int32) (M : Mm) (h : fX16_contentLength_L32 fu  a0 a1 a2 a3 s0 M = some out) : Gw x M 32 [(0, pR (some a0)), (1, pI a1), (2, pI a2), (3, pI a3)] [pI s0] := by
  unfold fX16_contentLength_L32 at h
  refine g_istore X (pc := 32) [(4, pI s0), (0, pR (some a0)), (1, pI a1), (2, pI a2), (3, pI a3)] (lt_n hn (by decide)) rfl dX16_contentLength_32 ?_
  refine g_iload_n X (pc := 34) 2 rfl rfl dX16_contentLength_34 ?_
  refine g_istore X (pc := 35) [(5, pI a1), (4, pI s0), (0, pR (some a0)), (1, pI a1), (2, pI a2), (3, pI a3)] (lt_n hn (by decide)) rfl dX16_contentLength_35 ?_
  refine g_sub [2, 4, 5, 1, 0] [(0, pR (some a0)), (2, pI a2), (3, pI a3), (4, pI s0), (5, pI a1)] rfl ?_
  exact wX16_contentLength_L37 X hE hn fu   fu a0 a2 a3 s0 a1 M h
theorem wX16_contentLength_L31 {x : GX} {n0 sl0 : Nat} (X : Cx x cX16_contentLength RX16 none n0 sl0 1 21) {out : Mm} (hE : Ends x n0 sl0 none out) (hn : xn x = 6) (fu : Nat)   (a0 : Nat) (a1 : Int32) (a2 : Int32) (a3 : Int32)  (M : Mm) (h : fX16_contentLength_L31 fu  a0 a1 a2 a3 M = some out) : Gw x M 31 [(0, pR (some a0)), (1, pI a1), (2, pI a2), (3, pI a3)] [] := by
  unfold fX16_contentLength_L31 at h
  refine g_iconst X (pc := 31) (v := 0) dX16_contentLength_31 (by decide) ?_
  exact wX16_contentLength_L32 X hE hn fu   a0 a1 a2 a3 (0 : Int32) M h
theorem wX16_contentLength {x : GX} {n0 sl0 : Nat} (X : Cx x cX16_contentLength RX16 none n0 sl0 1 21) {out : Mm} (hE : Ends x n0 sl0 none out) (hn : xn x = 6) (fu : Nat)   (a0 : Nat) (a1 : Int32) (a2 : Int32)  (M : Mm) (h : fX16_contentLength fu  a0 a1 a2 M = some out) : Gw x M 0 [(0, pR (some a0)), (1, pI a1), (2, pI a2)] [] := by
  unfold fX16_contentLength at h
  refine g_aload_n X (pc := 0) 0 rfl rfl dX16_contentLength_0 ?_
  refine g_dup X (pc := 1) rfl dX16_contentLength_1 ?_
  obtain ⟨v1, ev1, h⟩ := bd h
  refine g_getI X (pc := 2) fk_16_49 rfl rfl ev1 tb_1863 dX16_contentLength_2 ?_
  refine g_iconst X (pc := 5) (v := 1) dX16_contentLength_5 (by decide) ?_
  refine g_iadd X (pc := 6) dX16_contentLength_6 ?_
  obtain ⟨M2, eM2, h⟩ := bd h
  refine g_putI X (pc := 7) fk_16_49 rfl rfl rfl eM2 tb_1863 (Or.inl rfl) dX16_contentLength_7 ?_
  refine g_iconst X (pc := 10) (v := 0) dX16_contentLength_10 (by decide) ?_
  refine g_istore_n X (pc := 11) [(3, pI (0 : Int32)), (0, pR (some a0)), (1, pI a1), (2, pI a2)] rfl (lt_n hn (by decide)) rfl dX16_contentLength_11 ?_
  refine g_iload_n X (pc := 12) 3 rfl rfl dX16_contentLength_12 ?_
  refine g_iload_n X (pc := 13) 2 rfl rfl dX16_contentLength_13 ?_
  refine g_isub X (pc := 14) dX16_contentLength_14 ?_
  refine g_iconst X (pc := 15) (v := 1) dX16_contentLength_15 (by decide) ?_
  refine g_icmp_lt X (pc := 16) (tgt := 31) dX16_contentLength_16 (by decide) (fun hc => ?_) (fun hc => ?_)
  · have h := (if_pos hc).symm.trans h
    refine g_sub [1, 2, 3, 0] [(0, pR (some a0)), (1, pI a1), (2, pI a2), (3, pI (0 : Int32))] rfl ?_
    exact wX16_contentLength_L31 X hE hn fu   a0 a1 a2 (0 : Int32) M2 h
  · have h := (if_neg hc).symm.trans h
    refine g_iload_n X (pc := 19) 3 rfl rfl dX16_contentLength_19 ?_
    refine g_iload_n X (pc := 20) 2 rfl rfl dX16_contentLength_20 ?_
    refine g_isub X (pc := 21) dX16_contentLength_21 ?_
    refine g_bipush X (pc := 22) (v := 9) dX16_contentLength_22 (by decide) ?_
    refine g_icmp_gt X (pc := 24) (tgt := 31) dX16_contentLength_24 (by decide) (fun hc => ?_) (fun hc => ?_)
    · have h := (if_pos hc).symm.trans h
      refine g_sub [1, 2, 3, 0] [(0, pR (some a0)), (1, pI a1), (2, pI a2), (3, pI (0 : Int32))] rfl ?_
      exact wX16_contentLength_L31 X hE hn fu   a0 a1 a2 (0 : Int32) M2 h
    · have h := (if_neg hc).symm.trans h
      refine g_iconst X (pc := 27) (v := 1) dX16_contentLength_27 (by decide) ?_
      refine g_goto X (pc := 28) (tgt := 32) dX16_contentLength_28 (by decide) ?_
      refine g_sub [1, 2, 3, 0] [(0, pR (some a0)), (1, pI a1), (2, pI a2), (3, pI (0 : Int32))] rfl ?_
      exact wX16_contentLength_L32 X hE hn fu   a0 a1 a2 (0 : Int32) (1 : Int32) M2 h
theorem hyX16_contentLength : yX16_contentLength.cls ≠ "java/lang/invoke/MethodHandle" ∧ yX16_contentLength.cls ≠ "java/lang/invoke/VarHandle" ∧ (parseMethodDescriptor yX16_contentLength.desc).map (fun d => d.parameters.length) = some 2 := ⟨by decide +kernel, by decide +kernel, by decide +kernel⟩
theorem ctX16_contentLength (l : Launch) (E : Nat → Nat) (D : va_G) (dA : Nat → ClassId) (lo : Nat) (H0 : Heap) (fu : Nat) (a0 : Nat) (a1 : Int32) (a2 : Int32) (M : Mm) (out : Mm) (h : fX16_contentLength fu a0 a1 a2 M = some out) : Ct l E D dA lo H0 yX16_contentLength cX16_contentLength 6 none 1 21 [pR (some a0), pI a1, pI a2] M none out := by
  refine ct_of (by decide +kernel) (Nat.le_of_ble_eq_true rfl) ?_
  intro x hl he hd ha ho hh hn hin X hE
  exact wX16_contentLength X hE hn fu a0 a1 a2 M h
/-! WebHostModel.hexadecimal(I)I -/
def fX16_hexadecimal (fu : Nat)  (a0 : Int32)  (M : Mm) : Option (Int32 × Mm) :=
    b2 (fX16_isDigit fu  a0 M) fun v2 M1 =>
    if v2 = 0 then (
    b2 (fX16_small fu  a0 M1) fun v4 M3 =>
    if v4 < (97 : Int32) then (
    some ((-1 : Int32), M3))
    else (
    b2 (fX16_small fu  a0 M3) fun v6 M5 =>
    if (102 : Int32) < v6 then (
    some ((-1 : Int32), M5))
    else (
    b2 (fX16_small fu  a0 M5) fun v8 M7 =>
    some (((v8 - (97 : Int32)) + (10 : Int32)), M7))))
    else (
    some ((a0 - (48 : Int32)), M1))
theorem dX16_hexadecimal_0 : decode cX16_hexadecimal 0 = .ok (.iload_n 0, 1) := by decide +kernel
theorem dX16_hexadecimal_1 : decode cX16_hexadecimal 1 = .ok (.invokestatic 728, 3) := by decide +kernel
theorem dX16_hexadecimal_4 : decode cX16_hexadecimal 4 = .ok (.ifCond .eq 10, 3) := by decide +kernel
theorem dX16_hexadecimal_7 : decode cX16_hexadecimal 7 = .ok (.iload_n 0, 1) := by decide +kernel
theorem dX16_hexadecimal_8 : decode cX16_hexadecimal 8 = .ok (.bipush 48, 2) := by decide +kernel
theorem dX16_hexadecimal_10 : decode cX16_hexadecimal 10 = .ok (.isub, 1) := by decide +kernel
theorem dX16_hexadecimal_11 : decode cX16_hexadecimal 11 = .ok (.goto 35, 3) := by decide +kernel
theorem dX16_hexadecimal_14 : decode cX16_hexadecimal 14 = .ok (.iload_n 0, 1) := by decide +kernel
theorem dX16_hexadecimal_15 : decode cX16_hexadecimal 15 = .ok (.invokestatic 725, 3) := by decide +kernel
theorem dX16_hexadecimal_18 : decode cX16_hexadecimal 18 = .ok (.bipush 97, 2) := by decide +kernel
theorem dX16_hexadecimal_20 : decode cX16_hexadecimal 20 = .ok (.if_icmp .lt 25, 3) := by decide +kernel
theorem dX16_hexadecimal_23 : decode cX16_hexadecimal 23 = .ok (.iload_n 0, 1) := by decide +kernel
theorem dX16_hexadecimal_24 : decode cX16_hexadecimal 24 = .ok (.invokestatic 725, 3) := by decide +kernel
theorem dX16_hexadecimal_27 : decode cX16_hexadecimal 27 = .ok (.bipush 102, 2) := by decide +kernel
theorem dX16_hexadecimal_29 : decode cX16_hexadecimal 29 = .ok (.if_icmp .gt 16, 3) := by decide +kernel
theorem dX16_hexadecimal_32 : decode cX16_hexadecimal 32 = .ok (.iload_n 0, 1) := by decide +kernel
theorem dX16_hexadecimal_33 : decode cX16_hexadecimal 33 = .ok (.invokestatic 725, 3) := by decide +kernel
theorem dX16_hexadecimal_36 : decode cX16_hexadecimal 36 = .ok (.bipush 97, 2) := by decide +kernel
theorem dX16_hexadecimal_38 : decode cX16_hexadecimal 38 = .ok (.isub, 1) := by decide +kernel
theorem dX16_hexadecimal_39 : decode cX16_hexadecimal 39 = .ok (.bipush 10, 2) := by decide +kernel
theorem dX16_hexadecimal_41 : decode cX16_hexadecimal 41 = .ok (.iadd, 1) := by decide +kernel
theorem dX16_hexadecimal_42 : decode cX16_hexadecimal 42 = .ok (.goto 4, 3) := by decide +kernel
theorem dX16_hexadecimal_45 : decode cX16_hexadecimal 45 = .ok (.iconst (-1), 1) := by decide +kernel
theorem dX16_hexadecimal_46 : decode cX16_hexadecimal 46 = .ok (.ireturn, 1) := by decide +kernel
theorem wX16_hexadecimal {x : GX} {n0 sl0 : Nat} (X : Cx x cX16_hexadecimal RX16 (some .int) n0 sl0 1 20) {out : Int32 × Mm} (hE : Ends x n0 sl0 (some (pI out.1)) out.2) (hn : xn x = 1) (fu : Nat)   (a0 : Int32)  (M : Mm) (h : fX16_hexadecimal fu  a0 M = some out) : Gw x M 0 [(0, pI a0)] [] := by
  unfold fX16_hexadecimal at h
  refine g_iload_n X (pc := 0) 0 rfl rfl dX16_hexadecimal_0 ?_
  obtain ⟨v2, M1, eM1, h⟩ := b2d h
  refine g_callS X (pc := 1) (M' := M1) (ro := some (pI v2)) (as := [pI a0]) (as' := [pI a0]) (st := []) (ctX16_isDigit _ _ _ _ _ _ fu  a0 M _ eM1) tb_2375 tb_2373 tb_2374 tb_8 hyX16_isDigit rfl rfl ⟨by decide, by decide⟩ (Nat.le_of_ble_eq_true rfl) dX16_hexadecimal_1 ?_
  refine g_if_eq X (pc := 4) (tgt := 14) dX16_hexadecimal_4 (by decide) (fun hc => ?_) (fun hc => ?_)
  · have h := (if_pos hc).symm.trans h
    refine g_iload_n X (pc := 14) 0 rfl rfl dX16_hexadecimal_14 ?_
    obtain ⟨v4, M3, eM3, h⟩ := b2d h
    refine g_callS X (pc := 15) (M' := M3) (ro := some (pI v4)) (as := [pI a0]) (as' := [pI a0]) (st := []) (ctX16_small _ _ _ _ _ _ fu  a0 M1 _ eM3) tb_2372 tb_2370 tb_2371 tb_8 hyX16_small rfl rfl ⟨by decide, by decide⟩ (Nat.le_of_ble_eq_true rfl) dX16_hexadecimal_15 ?_
    refine g_bipush X (pc := 18) (v := 97) dX16_hexadecimal_18 (by decide) ?_
    refine g_icmp_lt X (pc := 20) (tgt := 45) dX16_hexadecimal_20 (by decide) (fun hc => ?_) (fun hc => ?_)
    · have h := (if_pos hc).symm.trans h
      refine g_iconst X (pc := 45) (v := (-1)) dX16_hexadecimal_45 (by decide) ?_
      obtain rfl := Option.some.inj h
      exact g_ireturn X hE dX16_hexadecimal_46
    · have h := (if_neg hc).symm.trans h
      refine g_iload_n X (pc := 23) 0 rfl rfl dX16_hexadecimal_23 ?_
      obtain ⟨v6, M5, eM5, h⟩ := b2d h
      refine g_callS X (pc := 24) (M' := M5) (ro := some (pI v6)) (as := [pI a0]) (as' := [pI a0]) (st := []) (ctX16_small _ _ _ _ _ _ fu  a0 M3 _ eM5) tb_2372 tb_2370 tb_2371 tb_8 hyX16_small rfl rfl ⟨by decide, by decide⟩ (Nat.le_of_ble_eq_true rfl) dX16_hexadecimal_24 ?_
      refine g_bipush X (pc := 27) (v := 102) dX16_hexadecimal_27 (by decide) ?_
      refine g_icmp_gt X (pc := 29) (tgt := 45) dX16_hexadecimal_29 (by decide) (fun hc => ?_) (fun hc => ?_)
      · have h := (if_pos hc).symm.trans h
        refine g_iconst X (pc := 45) (v := (-1)) dX16_hexadecimal_45 (by decide) ?_
        obtain rfl := Option.some.inj h
        exact g_ireturn X hE dX16_hexadecimal_46
      · have h := (if_neg hc).symm.trans h
        refine g_iload_n X (pc := 32) 0 rfl rfl dX16_hexadecimal_32 ?_
        obtain ⟨v8, M7, eM7, h⟩ := b2d h
        refine g_callS X (pc := 33) (M' := M7) (ro := some (pI v8)) (as := [pI a0]) (as' := [pI a0]) (st := []) (ctX16_small _ _ _ _ _ _ fu  a0 M5 _ eM7) tb_2372 tb_2370 tb_2371 tb_8 hyX16_small rfl rfl ⟨by decide, by decide⟩ (Nat.le_of_ble_eq_true rfl) dX16_hexadecimal_33 ?_
        refine g_bipush X (pc := 36) (v := 97) dX16_hexadecimal_36 (by decide) ?_
        refine g_isub X (pc := 38) dX16_hexadecimal_38 ?_
        refine g_bipush X (pc := 39) (v := 10) dX16_hexadecimal_39 (by decide) ?_
        refine g_iadd X (pc := 41) dX16_hexadecimal_41 ?_
        refine g_goto X (pc := 42) (tgt := 46) dX16_hexadecimal_42 (by decide) ?_
        obtain rfl := Option.some.inj h
        exact g_ireturn X hE dX16_hexadecimal_46
  · have h := (if_neg hc).symm.trans h
    refine g_iload_n X (pc := 7) 0 rfl rfl dX16_hexadecimal_7 ?_
    refine g_bipush X (pc := 8) (v := 48) dX16_hexadecimal_8 (by decide) ?_
    refine g_isub X (pc := 10) dX16_hexadecimal_10 ?_
    refine g_goto X (pc := 11) (tgt := 46) dX16_hexadecimal_11 (by decide) ?_
    obtain rfl := Option.some.inj h
    exact g_ireturn X hE dX16_hexadecimal_46
theorem hyX16_hexadecimal : yX16_hexadecimal.cls ≠ "java/lang/invoke/MethodHandle" ∧ yX16_hexadecimal.cls ≠ "java/lang/invoke/VarHandle" ∧ (parseMethodDescriptor yX16_hexadecimal.desc).map (fun d => d.parameters.length) = some 1 := ⟨by decide +kernel, by decide +kernel, by decide +kernel⟩
theorem ctX16_hexadecimal (l : Launch) (E : Nat → Nat) (D : va_G) (dA : Nat → ClassId) (lo : Nat) (H0 : Heap) (fu : Nat) (a0 : Int32) (M : Mm) (out : Int32 × Mm) (h : fX16_hexadecimal fu a0 M = some out) : Ct l E D dA lo H0 yX16_hexadecimal cX16_hexadecimal 1 (some .int) 1 20 [pI a0] M (some (pI out.1)) out.2 := by
  refine ct_of (by decide +kernel) (Nat.le_of_ble_eq_true rfl) ?_
  intro x hl he hd ha ho hh hn hin X hE
  exact wX16_hexadecimal X hE hn fu a0 M h
/-! WebHostModel.found()I -/
def fX16_found_L70 (fu : Nat) (k2 : Nat → Int32 → Mm → Option (Int32 × Mm)) (k23 : Nat → Int32 → Int32 → Int32 → Mm → Option (Int32 × Mm)) (a0 : Nat) (a1 : Int32) (a3 : Int32) (s0 : Int32) (M : Mm) : Option (Int32 × Mm) :=
    k23 a0 a1 s0 (a3 + (1 : Int32)) M
def fX16_found_L69 (fu : Nat) (k2 : Nat → Int32 → Mm → Option (Int32 × Mm)) (k23 : Nat → Int32 → Int32 → Int32 → Mm → Option (Int32 × Mm)) (a0 : Nat) (a1 : Int32) (a3 : Int32)  (M : Mm) : Option (Int32 × Mm) :=
    fX16_found_L70 fu k2 k23 a0 a1 a3 (0 : Int32) M
def fX16_found_L62 (fu : Nat) (k2 : Nat → Int32 → Mm → Option (Int32 × Mm)) (k23 : Nat → Int32 → Int32 → Int32 → Mm → Option (Int32 × Mm)) (a0 : Nat) (a1 : Int32) (a3 : Int32) (s0 : Int32) (s1 : Int32) (M : Mm) : Option (Int32 × Mm) :=
    if s0 = s1 then (
    fX16_found_L70 fu k2 k23 a0 a1 a3 (1 : Int32) M)
    else (
    fX16_found_L69 fu k2 k23 a0 a1 a3 M)
def fX16_found_L23 (fu : Nat) (k2 : Nat → Int32 → Mm → Option (Int32 × Mm)) : Nat → Nat → Int32 → Int32 → Int32 → Mm → Option (Int32 × Mm)
  | 0, _, _, _, _, _ => none
  | n + 1, a0, a1, a2, a3, M =>
    if (48 : Int32) ≤ a3 then (
    if a2 = 0 then (
    k2 a0 (a1 + (1 : Int32)) M)
    else (
    some (a1, M)))
    else (
    if a2 = 0 then (
    fX16_found_L69 fu k2 (fun b0 b1 b2 b3 M => fX16_found_L23 fu k2 n b0 b1 b2 b3 M) a0 a1 a3 M)
    else (
    (gR M 16 1037 (some a0)).bind fun v1 =>
    (gA M 100 v1 (((48 : Int32) * a1) + a3)).bind fun v2 =>
    (gI M 16 1083 (some a0)).bind fun v3 =>
    if v3 ≤ a3 then (
    fX16_found_L62 fu k2 (fun b0 b1 b2 b3 M => fX16_found_L23 fu k2 n b0 b1 b2 b3 M) a0 a1 a3 v2 (0 : Int32) M)
    else (
    (gR M 16 1082 (some a0)).bind fun v4 =>
    (gA M 100 v4 a3).bind fun v5 =>
    fX16_found_L62 fu k2 (fun b0 b1 b2 b3 M => fX16_found_L23 fu k2 n b0 b1 b2 b3 M) a0 a1 a3 v2 v5 M)))
def fX16_found_L2 (fu : Nat)  : Nat → Nat → Int32 → Mm → Option (Int32 × Mm)
  | 0, _, _, _ => none
  | n + 1, a0, a1, M =>
    (gI M 16 1035 (some a0)).bind fun v1 =>
    if v1 ≤ a1 then (
    some ((-1 : Int32), M))
    else (
    (gI M 16 1083 (some a0)).bind fun v2 =>
    if (48 : Int32) ≤ v2 then (
    some ((-1 : Int32), M))
    else (
    fX16_found_L23 fu (fun b0 b1 M => fX16_found_L2 fu  n b0 b1 M) fu a0 a1 (1 : Int32) (0 : Int32) M))
def fX16_found (fu : Nat)  (a0 : Nat)  (M : Mm) : Option (Int32 × Mm) :=
    fX16_found_L2 fu  fu a0 (0 : Int32) M
theorem dX16_found_0 : decode cX16_found 0 = .ok (.iconst 0, 1) := by decide +kernel
theorem dX16_found_1 : decode cX16_found 1 = .ok (.istore_n 1, 1) := by decide +kernel
theorem dX16_found_2 : decode cX16_found 2 = .ok (.iload_n 1, 1) := by decide +kernel
theorem dX16_found_3 : decode cX16_found 3 = .ok (.aload_n 0, 1) := by decide +kernel
theorem dX16_found_4 : decode cX16_found 4 = .ok (.getfield 131, 3) := by decide +kernel
theorem dX16_found_7 : decode cX16_found 7 = .ok (.if_icmp .ge 82, 3) := by decide +kernel
theorem dX16_found_10 : decode cX16_found 10 = .ok (.aload_n 0, 1) := by decide +kernel
theorem dX16_found_11 : decode cX16_found 11 = .ok (.getfield 776, 3) := by decide +kernel
theorem dX16_found_14 : decode cX16_found 14 = .ok (.bipush 48, 2) := by decide +kernel
theorem dX16_found_16 : decode cX16_found 16 = .ok (.if_icmp .ge 73, 3) := by decide +kernel
theorem dX16_found_19 : decode cX16_found 19 = .ok (.iconst 1, 1) := by decide +kernel
theorem dX16_found_20 : decode cX16_found 20 = .ok (.istore_n 2, 1) := by decide +kernel
theorem dX16_found_21 : decode cX16_found 21 = .ok (.iconst 0, 1) := by decide +kernel
theorem dX16_found_22 : decode cX16_found 22 = .ok (.istore_n 3, 1) := by decide +kernel
theorem dX16_found_23 : decode cX16_found 23 = .ok (.iload_n 3, 1) := by decide +kernel
theorem dX16_found_24 : decode cX16_found 24 = .ok (.bipush 48, 2) := by decide +kernel
theorem dX16_found_26 : decode cX16_found 26 = .ok (.if_icmp .ge 51, 3) := by decide +kernel
theorem dX16_found_29 : decode cX16_found 29 = .ok (.iload_n 2, 1) := by decide +kernel
theorem dX16_found_30 : decode cX16_found 30 = .ok (.ifCond .eq 39, 3) := by decide +kernel
theorem dX16_found_33 : decode cX16_found 33 = .ok (.aload_n 0, 1) := by decide +kernel
theorem dX16_found_34 : decode cX16_found 34 = .ok (.getfield 18, 3) := by decide +kernel
theorem dX16_found_37 : decode cX16_found 37 = .ok (.bipush 48, 2) := by decide +kernel
theorem dX16_found_39 : decode cX16_found 39 = .ok (.iload_n 1, 1) := by decide +kernel
theorem dX16_found_40 : decode cX16_found 40 = .ok (.imul, 1) := by decide +kernel
theorem dX16_found_41 : decode cX16_found 41 = .ok (.iload_n 3, 1) := by decide +kernel
theorem dX16_found_42 : decode cX16_found 42 = .ok (.iadd, 1) := by decide +kernel
theorem dX16_found_43 : decode cX16_found 43 = .ok (.baload, 1) := by decide +kernel
theorem dX16_found_44 : decode cX16_found 44 = .ok (.iload_n 3, 1) := by decide +kernel
theorem dX16_found_45 : decode cX16_found 45 = .ok (.aload_n 0, 1) := by decide +kernel
theorem dX16_found_46 : decode cX16_found 46 = .ok (.getfield 776, 3) := by decide +kernel
theorem dX16_found_49 : decode cX16_found 49 = .ok (.if_icmp .ge 12, 3) := by decide +kernel
theorem dX16_found_52 : decode cX16_found 52 = .ok (.aload_n 0, 1) := by decide +kernel
theorem dX16_found_53 : decode cX16_found 53 = .ok (.getfield 77, 3) := by decide +kernel
theorem dX16_found_56 : decode cX16_found 56 = .ok (.iload_n 3, 1) := by decide +kernel
theorem dX16_found_57 : decode cX16_found 57 = .ok (.baload, 1) := by decide +kernel
theorem dX16_found_58 : decode cX16_found 58 = .ok (.goto 4, 3) := by decide +kernel
theorem dX16_found_61 : decode cX16_found 61 = .ok (.iconst 0, 1) := by decide +kernel
theorem dX16_found_62 : decode cX16_found 62 = .ok (.if_icmp .ne 7, 3) := by decide +kernel
theorem dX16_found_65 : decode cX16_found 65 = .ok (.iconst 1, 1) := by decide +kernel
theorem dX16_found_66 : decode cX16_found 66 = .ok (.goto 4, 3) := by decide +kernel
theorem dX16_found_69 : decode cX16_found 69 = .ok (.iconst 0, 1) := by decide +kernel
theorem dX16_found_70 : decode cX16_found 70 = .ok (.istore_n 2, 1) := by decide +kernel
theorem dX16_found_71 : decode cX16_found 71 = .ok (.iinc 3 1, 3) := by decide +kernel
theorem dX16_found_74 : decode cX16_found 74 = .ok (.goto (-51), 3) := by decide +kernel
theorem dX16_found_77 : decode cX16_found 77 = .ok (.iload_n 2, 1) := by decide +kernel
theorem dX16_found_78 : decode cX16_found 78 = .ok (.ifCond .eq 5, 3) := by decide +kernel
theorem dX16_found_81 : decode cX16_found 81 = .ok (.iload_n 1, 1) := by decide +kernel
theorem dX16_found_82 : decode cX16_found 82 = .ok (.ireturn, 1) := by decide +kernel
theorem dX16_found_83 : decode cX16_found 83 = .ok (.iinc 1 1, 3) := by decide +kernel
theorem dX16_found_86 : decode cX16_found 86 = .ok (.goto (-84), 3) := by decide +kernel
theorem dX16_found_89 : decode cX16_found 89 = .ok (.iconst (-1), 1) := by decide +kernel
theorem dX16_found_90 : decode cX16_found 90 = .ok (.ireturn, 1) := by decide +kernel
theorem wX16_found_L70 {x : GX} {n0 sl0 : Nat} (X : Cx x cX16_found RX16 (some .int) n0 sl0 0 0) {out : Int32 × Mm} (hE : Ends x n0 sl0 (some (pI out.1)) out.2) (hn : xn x = 4) (fu : Nat) (k2 : Nat → Int32 → Mm → Option (Int32 × Mm)) (k23 : Nat → Int32 → Int32 → Int32 → Mm → Option (Int32 × Mm)) (hk2 : ∀ (b0 : Nat) (b1 : Int32)  (M : Mm), k2 b0 b1 M = some out → Gw x M 2 [(0, pR (some b0)), (1, pI b1)] []) (hk23 : ∀ (b0 : Nat) (b1 : Int32) (b2 : Int32) (b3 : Int32)  (M : Mm), k23 b0 b1 b2 b3 M = some out → Gw x M 23 [(0, pR (some b0)), (1, pI b1), (2, pI b2), (3, pI b3)] []) (a0 : Nat) (a1 : Int32) (a3 : Int32) (s0 : Int32) (M : Mm) (h : fX16_found_L70 fu k2 k23 a0 a1 a3 s0 M = some out) : Gw x M 70 [(0, pR (some a0)), (1, pI a1), (3, pI a3)] [pI s0] := by
  unfold fX16_found_L70 at h
  refine g_istore_n X (pc := 70) [(2, pI s0), (0, pR (some a0)), (1, pI a1), (3, pI a3)] rfl (lt_n hn (by decide)) rfl dX16_found_70 ?_
  refine g_iinc X (pc := 71) 3 [(3, pI (a3 + (1 : Int32))), (2, pI s0), (0, pR (some a0)), (1, pI a1)] rfl (iinc_e (by decide)) (lt_n hn (by decide)) rfl dX16_found_71 ?_
  refine g_goto X (pc := 74) (tgt := 23) dX16_found_74 (by decide) ?_
  refine g_sub [2, 3, 1, 0] [(0, pR (some a0)), (1, pI a1), (2, pI s0), (3, pI (a3 + (1 : Int32)))] rfl ?_
  exact hk23 a0 a1 s0 (a3 + (1 : Int32)) M h
theorem wX16_found_L69 {x : GX} {n0 sl0 : Nat} (X : Cx x cX16_found RX16 (some .int) n0 sl0 0 0) {out : Int32 × Mm} (hE : Ends x n0 sl0 (some (pI out.1)) out.2) (hn : xn x = 4) (fu : Nat) (k2 : Nat → Int32 → Mm → Option (Int32 × Mm)) (k23 : Nat → Int32 → Int32 → Int32 → Mm → Option (Int32 × Mm)) (hk2 : ∀ (b0 : Nat) (b1 : Int32)  (M : Mm), k2 b0 b1 M = some out → Gw x M 2 [(0, pR (some b0)), (1, pI b1)] []) (hk23 : ∀ (b0 : Nat) (b1 : Int32) (b2 : Int32) (b3 : Int32)  (M : Mm), k23 b0 b1 b2 b3 M = some out → Gw x M 23 [(0, pR (some b0)), (1, pI b1), (2, pI b2), (3, pI b3)] []) (a0 : Nat) (a1 : Int32) (a3 : Int32)  (M : Mm) (h : fX16_found_L69 fu k2 k23 a0 a1 a3 M = some out) : Gw x M 69 [(0, pR (some a0)), (1, pI a1), (3, pI a3)] [] := by
  unfold fX16_found_L69 at h
  refine g_iconst X (pc := 69) (v := 0) dX16_found_69 (by decide) ?_
  exact wX16_found_L70 X hE hn fu k2 k23 hk2 hk23 a0 a1 a3 (0 : Int32) M h
theorem wX16_found_L62 {x : GX} {n0 sl0 : Nat} (X : Cx x cX16_found RX16 (some .int) n0 sl0 0 0) {out : Int32 × Mm} (hE : Ends x n0 sl0 (some (pI out.1)) out.2) (hn : xn x = 4) (fu : Nat) (k2 : Nat → Int32 → Mm → Option (Int32 × Mm)) (k23 : Nat → Int32 → Int32 → Int32 → Mm → Option (Int32 × Mm)) (hk2 : ∀ (b0 : Nat) (b1 : Int32)  (M : Mm), k2 b0 b1 M = some out → Gw x M 2 [(0, pR (some b0)), (1, pI b1)] []) (hk23 : ∀ (b0 : Nat) (b1 : Int32) (b2 : Int32) (b3 : Int32)  (M : Mm), k23 b0 b1 b2 b3 M = some out → Gw x M 23 [(0, pR (some b0)), (1, pI b1), (2, pI b2), (3, pI b3)] []) (a0 : Nat) (a1 : Int32) (a3 : Int32) (s0 : Int32) (s1 : Int32) (M : Mm) (h : fX16_found_L62 fu k2 k23 a0 a1 a3 s0 s1 M = some out) : Gw x M 62 [(0, pR (some a0)), (1, pI a1), (3, pI a3)] [pI s1, pI s0] := by
  unfold fX16_found_L62 at h
  refine g_icmp_ne X (pc := 62) (tgt := 69) dX16_found_62 (by decide) (fun hc => ?_) (fun hc => ?_)
  · have h := (if_neg hc).symm.trans h
    exact wX16_found_L69 X hE hn fu k2 k23 hk2 hk23 a0 a1 a3 M h
  · have h := (if_pos hc).symm.trans h
    refine g_iconst X (pc := 65) (v := 1) dX16_found_65 (by decide) ?_
    refine g_goto X (pc := 66) (tgt := 70) dX16_found_66 (by decide) ?_
    exact wX16_found_L70 X hE hn fu k2 k23 hk2 hk23 a0 a1 a3 (1 : Int32) M h
theorem wX16_found_L23 {x : GX} {n0 sl0 : Nat} (X : Cx x cX16_found RX16 (some .int) n0 sl0 0 0) {out : Int32 × Mm} (hE : Ends x n0 sl0 (some (pI out.1)) out.2) (hn : xn x = 4) (fu : Nat) (k2 : Nat → Int32 → Mm → Option (Int32 × Mm)) (hk2 : ∀ (b0 : Nat) (b1 : Int32)  (M : Mm), k2 b0 b1 M = some out → Gw x M 2 [(0, pR (some b0)), (1, pI b1)] []) : ∀ (n : Nat) (a0 : Nat) (a1 : Int32) (a2 : Int32) (a3 : Int32)  (M : Mm), fX16_found_L23 fu k2 n a0 a1 a2 a3 M = some out → Gw x M 23 [(0, pR (some a0)), (1, pI a1), (2, pI a2), (3, pI a3)] [] := by
  intro n
  induction n with
  | zero =>
    intro a0 a1 a2 a3 M h
    have h : (none : Option (Int32 × Mm)) = some out := h
    cases h
  | succ n ih =>
    intro a0 a1 a2 a3 M h
    rw [fX16_found_L23] at h
    refine g_iload_n X (pc := 23) 3 rfl rfl dX16_found_23 ?_
    refine g_bipush X (pc := 24) (v := 48) dX16_found_24 (by decide) ?_
    refine g_icmp_ge X (pc := 26) (tgt := 77) dX16_found_26 (by decide) (fun hc => ?_) (fun hc => ?_)
    · have h := (if_pos hc).symm.trans h
      refine g_iload_n X (pc := 77) 2 rfl rfl dX16_found_77 ?_
      refine g_if_eq X (pc := 78) (tgt := 83) dX16_found_78 (by decide) (fun hc => ?_) (fun hc => ?_)
      · have h := (if_pos hc).symm.trans h
        refine g_iinc X (pc := 83) 1 [(1, pI (a1 + (1 : Int32))), (0, pR (some a0)), (2, pI a2), (3, pI a3)] rfl (iinc_e (by decide)) (lt_n hn (by decide)) rfl dX16_found_83 ?_
        refine g_goto X (pc := 86) (tgt := 2) dX16_found_86 (by decide) ?_
        refine g_sub [1, 0] [(0, pR (some a0)), (1, pI (a1 + (1 : Int32)))] rfl ?_
        exact hk2 a0 (a1 + (1 : Int32)) M h
      · have h := (if_neg hc).symm.trans h
        refine g_iload_n X (pc := 81) 1 rfl rfl dX16_found_81 ?_
        obtain rfl := Option.some.inj h
        exact g_ireturn X hE dX16_found_82
    · have h := (if_neg hc).symm.trans h
      refine g_iload_n X (pc := 29) 2 rfl rfl dX16_found_29 ?_
      refine g_if_eq X (pc := 30) (tgt := 69) dX16_found_30 (by decide) (fun hc => ?_) (fun hc => ?_)
      · have h := (if_pos hc).symm.trans h
        refine g_sub [0, 1, 3] [(0, pR (some a0)), (1, pI a1), (3, pI a3)] rfl ?_
        exact wX16_found_L69 X hE hn fu k2 (fun b0 b1 b2 b3 M => fX16_found_L23 fu k2 n b0 b1 b2 b3 M) hk2 ih a0 a1 a3 M h
      · have h := (if_neg hc).symm.trans h
        refine g_aload_n X (pc := 33) 0 rfl rfl dX16_found_33 ?_
        obtain ⟨v1, ev1, h⟩ := bd h
        refine g_getR X (pc := 34) fk_16_13 rfl rfl ev1 tb_1827 dX16_found_34 ?_
        refine g_bipush X (pc := 37) (v := 48) dX16_found_37 (by decide) ?_
        refine g_iload_n X (pc := 39) 1 rfl rfl dX16_found_39 ?_
        refine g_imul X (pc := 40) dX16_found_40 ?_
        refine g_iload_n X (pc := 41) 3 rfl rfl dX16_found_41 ?_
        refine g_iadd X (pc := 42) dX16_found_42 ?_
        obtain ⟨v2, ev2, h⟩ := bd h
        refine g_baload X (pc := 43) ev2 dX16_found_43 ?_
        refine g_iload_n X (pc := 44) 3 rfl rfl dX16_found_44 ?_
        refine g_aload_n X (pc := 45) 0 rfl rfl dX16_found_45 ?_
        obtain ⟨v3, ev3, h⟩ := bd h
        refine g_getI X (pc := 46) fk_16_59 rfl rfl ev3 tb_1873 dX16_found_46 ?_
        refine g_icmp_ge X (pc := 49) (tgt := 61) dX16_found_49 (by decide) (fun hc => ?_) (fun hc => ?_)
        · have h := (if_pos hc).symm.trans h
          refine g_iconst X (pc := 61) (v := 0) dX16_found_61 (by decide) ?_
          refine g_sub [0, 1, 3] [(0, pR (some a0)), (1, pI a1), (3, pI a3)] rfl ?_
          exact wX16_found_L62 X hE hn fu k2 (fun b0 b1 b2 b3 M => fX16_found_L23 fu k2 n b0 b1 b2 b3 M) hk2 ih a0 a1 a3 v2 (0 : Int32) M h
        · have h := (if_neg hc).symm.trans h
          refine g_aload_n X (pc := 52) 0 rfl rfl dX16_found_52 ?_
          obtain ⟨v4, ev4, h⟩ := bd h
          refine g_getR X (pc := 53) fk_16_58 rfl rfl ev4 tb_1872 dX16_found_53 ?_
          refine g_iload_n X (pc := 56) 3 rfl rfl dX16_found_56 ?_
          obtain ⟨v5, ev5, h⟩ := bd h
          refine g_baload X (pc := 57) ev5 dX16_found_57 ?_
          refine g_goto X (pc := 58) (tgt := 62) dX16_found_58 (by decide) ?_
          refine g_sub [0, 1, 3] [(0, pR (some a0)), (1, pI a1), (3, pI a3)] rfl ?_
          exact wX16_found_L62 X hE hn fu k2 (fun b0 b1 b2 b3 M => fX16_found_L23 fu k2 n b0 b1 b2 b3 M) hk2 ih a0 a1 a3 v2 v5 M h
theorem wX16_found_L2 {x : GX} {n0 sl0 : Nat} (X : Cx x cX16_found RX16 (some .int) n0 sl0 0 0) {out : Int32 × Mm} (hE : Ends x n0 sl0 (some (pI out.1)) out.2) (hn : xn x = 4) (fu : Nat)   : ∀ (n : Nat) (a0 : Nat) (a1 : Int32)  (M : Mm), fX16_found_L2 fu  n a0 a1 M = some out → Gw x M 2 [(0, pR (some a0)), (1, pI a1)] [] := by
  intro n
  induction n with
  | zero =>
    intro a0 a1 M h
    have h : (none : Option (Int32 × Mm)) = some out := h
    cases h
  | succ n ih =>
    intro a0 a1 M h
    rw [fX16_found_L2] at h
    refine g_iload_n X (pc := 2) 1 rfl rfl dX16_found_2 ?_
    refine g_aload_n X (pc := 3) 0 rfl rfl dX16_found_3 ?_
    obtain ⟨v1, ev1, h⟩ := bd h
    refine g_getI X (pc := 4) fk_16_11 rfl rfl ev1 tb_1825 dX16_found_4 ?_
    refine g_icmp_ge X (pc := 7) (tgt := 89) dX16_found_7 (by decide) (fun hc => ?_) (fun hc => ?_)
    · have h := (if_pos hc).symm.trans h
      refine g_iconst X (pc := 89) (v := (-1)) dX16_found_89 (by decide) ?_
      obtain rfl := Option.some.inj h
      exact g_ireturn X hE dX16_found_90
    · have h := (if_neg hc).symm.trans h
      refine g_aload_n X (pc := 10) 0 rfl rfl dX16_found_10 ?_
      obtain ⟨v2, ev2, h⟩ := bd h
      refine g_getI X (pc := 11) fk_16_59 rfl rfl ev2 tb_1873 dX16_found_11 ?_
      refine g_bipush X (pc := 14) (v := 48) dX16_found_14 (by decide) ?_
      refine g_icmp_ge X (pc := 16) (tgt := 89) dX16_found_16 (by decide) (fun hc => ?_) (fun hc => ?_)
      · have h := (if_pos hc).symm.trans h
        refine g_iconst X (pc := 89) (v := (-1)) dX16_found_89 (by decide) ?_
        obtain rfl := Option.some.inj h
        exact g_ireturn X hE dX16_found_90
      · have h := (if_neg hc).symm.trans h
        refine g_iconst X (pc := 19) (v := 1) dX16_found_19 (by decide) ?_
        refine g_istore_n X (pc := 20) [(2, pI (1 : Int32)), (0, pR (some a0)), (1, pI a1)] rfl (lt_n hn (by decide)) rfl dX16_found_20 ?_
        refine g_iconst X (pc := 21) (v := 0) dX16_found_21 (by decide) ?_
        refine g_istore_n X (pc := 22) [(3, pI (0 : Int32)), (2, pI (1 : Int32)), (0, pR (some a0)), (1, pI a1)] rfl (lt_n hn (by decide)) rfl dX16_found_22 ?_
        refine g_sub [2, 3, 1, 0] [(0, pR (some a0)), (1, pI a1), (2, pI (1 : Int32)), (3, pI (0 : Int32))] rfl ?_
        exact wX16_found_L23 X hE hn fu (fun b0 b1 M => fX16_found_L2 fu  n b0 b1 M) ih fu a0 a1 (1 : Int32) (0 : Int32) M h
theorem wX16_found {x : GX} {n0 sl0 : Nat} (X : Cx x cX16_found RX16 (some .int) n0 sl0 0 0) {out : Int32 × Mm} (hE : Ends x n0 sl0 (some (pI out.1)) out.2) (hn : xn x = 4) (fu : Nat)   (a0 : Nat)  (M : Mm) (h : fX16_found fu  a0 M = some out) : Gw x M 0 [(0, pR (some a0))] [] := by
  unfold fX16_found at h
  refine g_iconst X (pc := 0) (v := 0) dX16_found_0 (by decide) ?_
  refine g_istore_n X (pc := 1) [(1, pI (0 : Int32)), (0, pR (some a0))] rfl (lt_n hn (by decide)) rfl dX16_found_1 ?_
  refine g_sub [1, 0] [(0, pR (some a0)), (1, pI (0 : Int32))] rfl ?_
  exact wX16_found_L2 X hE hn fu   fu a0 (0 : Int32) M h
theorem hyX16_found : yX16_found.cls ≠ "java/lang/invoke/MethodHandle" ∧ yX16_found.cls ≠ "java/lang/invoke/VarHandle" ∧ (parseMethodDescriptor yX16_found.desc).map (fun d => d.parameters.length) = some 0 := ⟨by decide +kernel, by decide +kernel, by decide +kernel⟩
theorem ctX16_found (l : Launch) (E : Nat → Nat) (D : va_G) (dA : Nat → ClassId) (lo : Nat) (H0 : Heap) (fu : Nat) (a0 : Nat) (M : Mm) (out : Int32 × Mm) (h : fX16_found fu a0 M = some out) : Ct l E D dA lo H0 yX16_found cX16_found 4 (some .int) 0 0 [pR (some a0)] M (some (pI out.1)) out.2 := by
  refine ct_of (by decide +kernel) (Nat.le_of_ble_eq_true rfl) ?_
  intro x hl he hd ha ho hh hn hin X hE
  exact wX16_found X hE hn fu a0 M h
/-! WebHostModel.hexDigit(II)I -/
def fX16_hexDigit (fu : Nat)  (a0 : Int32) (a1 : Int32)  (M : Mm) : Option (Int32 × Mm) :=
    (some ((a0 >>> (((28 : Int32) - ((4 : Int32) * a1)) &&& 31)) &&& (15 : Int32))).bind fun v1 =>
    if (10 : Int32) ≤ v1 then (
    some ((((97 : Int32) + v1) - (10 : Int32)), M))
    else (
    some (((48 : Int32) + v1), M))
theorem dX16_hexDigit_0 : decode cX16_hexDigit 0 = .ok (.iload_n 0, 1) := by decide +kernel
theorem dX16_hexDigit_1 : decode cX16_hexDigit 1 = .ok (.bipush 28, 2) := by decide +kernel
theorem dX16_hexDigit_3 : decode cX16_hexDigit 3 = .ok (.iconst 4, 1) := by decide +kernel
theorem dX16_hexDigit_4 : decode cX16_hexDigit 4 = .ok (.iload_n 1, 1) := by decide +kernel
theorem dX16_hexDigit_5 : decode cX16_hexDigit 5 = .ok (.imul, 1) := by decide +kernel
theorem dX16_hexDigit_6 : decode cX16_hexDigit 6 = .ok (.isub, 1) := by decide +kernel
theorem dX16_hexDigit_7 : decode cX16_hexDigit 7 = .ok (.ishr, 1) := by decide +kernel
theorem dX16_hexDigit_8 : decode cX16_hexDigit 8 = .ok (.bipush 15, 2) := by decide +kernel
theorem dX16_hexDigit_10 : decode cX16_hexDigit 10 = .ok (.iand, 1) := by decide +kernel
theorem dX16_hexDigit_11 : decode cX16_hexDigit 11 = .ok (.istore_n 2, 1) := by decide +kernel
theorem dX16_hexDigit_12 : decode cX16_hexDigit 12 = .ok (.iload_n 2, 1) := by decide +kernel
theorem dX16_hexDigit_13 : decode cX16_hexDigit 13 = .ok (.bipush 10, 2) := by decide +kernel
theorem dX16_hexDigit_15 : decode cX16_hexDigit 15 = .ok (.if_icmp .ge 10, 3) := by decide +kernel
theorem dX16_hexDigit_18 : decode cX16_hexDigit 18 = .ok (.bipush 48, 2) := by decide +kernel
theorem dX16_hexDigit_20 : decode cX16_hexDigit 20 = .ok (.iload_n 2, 1) := by decide +kernel
theorem dX16_hexDigit_21 : decode cX16_hexDigit 21 = .ok (.iadd, 1) := by decide +kernel
theorem dX16_hexDigit_22 : decode cX16_hexDigit 22 = .ok (.goto 10, 3) := by decide +kernel
theorem dX16_hexDigit_25 : decode cX16_hexDigit 25 = .ok (.bipush 97, 2) := by decide +kernel
theorem dX16_hexDigit_27 : decode cX16_hexDigit 27 = .ok (.iload_n 2, 1) := by decide +kernel
theorem dX16_hexDigit_28 : decode cX16_hexDigit 28 = .ok (.iadd, 1) := by decide +kernel
theorem dX16_hexDigit_29 : decode cX16_hexDigit 29 = .ok (.bipush 10, 2) := by decide +kernel
theorem dX16_hexDigit_31 : decode cX16_hexDigit 31 = .ok (.isub, 1) := by decide +kernel
theorem dX16_hexDigit_32 : decode cX16_hexDigit 32 = .ok (.ireturn, 1) := by decide +kernel
theorem wX16_hexDigit {x : GX} {n0 sl0 : Nat} (X : Cx x cX16_hexDigit RX16 (some .int) n0 sl0 0 0) {out : Int32 × Mm} (hE : Ends x n0 sl0 (some (pI out.1)) out.2) (hn : xn x = 3) (fu : Nat)   (a0 : Int32) (a1 : Int32)  (M : Mm) (h : fX16_hexDigit fu  a0 a1 M = some out) : Gw x M 0 [(0, pI a0), (1, pI a1)] [] := by
  unfold fX16_hexDigit at h
  refine g_iload_n X (pc := 0) 0 rfl rfl dX16_hexDigit_0 ?_
  refine g_bipush X (pc := 1) (v := 28) dX16_hexDigit_1 (by decide) ?_
  refine g_iconst X (pc := 3) (v := 4) dX16_hexDigit_3 (by decide) ?_
  refine g_iload_n X (pc := 4) 1 rfl rfl dX16_hexDigit_4 ?_
  refine g_imul X (pc := 5) dX16_hexDigit_5 ?_
  refine g_isub X (pc := 6) dX16_hexDigit_6 ?_
  refine g_ishr X (pc := 7) dX16_hexDigit_7 ?_
  refine g_bipush X (pc := 8) (v := 15) dX16_hexDigit_8 (by decide) ?_
  refine g_iand X (pc := 10) dX16_hexDigit_10 ?_
  obtain ⟨v1, ev1, h⟩ := bd h
  refine g_nmI ev1 ?_
  refine g_istore_n X (pc := 11) [(2, pI v1), (0, pI a0), (1, pI a1)] rfl (lt_n hn (by decide)) rfl dX16_hexDigit_11 ?_
  refine g_iload_n X (pc := 12) 0 rfl rfl dX16_hexDigit_12 ?_
  refine g_bipush X (pc := 13) (v := 10) dX16_hexDigit_13 (by decide) ?_
  refine g_icmp_ge X (pc := 15) (tgt := 25) dX16_hexDigit_15 (by decide) (fun hc => ?_) (fun hc => ?_)
  · have h := (if_pos hc).symm.trans h
    refine g_bipush X (pc := 25) (v := 97) dX16_hexDigit_25 (by decide) ?_
    refine g_iload_n X (pc := 27) 0 rfl rfl dX16_hexDigit_27 ?_
    refine g_iadd X (pc := 28) dX16_hexDigit_28 ?_
    refine g_bipush X (pc := 29) (v := 10) dX16_hexDigit_29 (by decide) ?_
    refine g_isub X (pc := 31) dX16_hexDigit_31 ?_
    obtain rfl := Option.some.inj h
    exact g_ireturn X hE dX16_hexDigit_32
  · have h := (if_neg hc).symm.trans h
    refine g_bipush X (pc := 18) (v := 48) dX16_hexDigit_18 (by decide) ?_
    refine g_iload_n X (pc := 20) 0 rfl rfl dX16_hexDigit_20 ?_
    refine g_iadd X (pc := 21) dX16_hexDigit_21 ?_
    refine g_goto X (pc := 22) (tgt := 32) dX16_hexDigit_22 (by decide) ?_
    obtain rfl := Option.some.inj h
    exact g_ireturn X hE dX16_hexDigit_32
theorem hyX16_hexDigit : yX16_hexDigit.cls ≠ "java/lang/invoke/MethodHandle" ∧ yX16_hexDigit.cls ≠ "java/lang/invoke/VarHandle" ∧ (parseMethodDescriptor yX16_hexDigit.desc).map (fun d => d.parameters.length) = some 2 := ⟨by decide +kernel, by decide +kernel, by decide +kernel⟩
theorem ctX16_hexDigit (l : Launch) (E : Nat → Nat) (D : va_G) (dA : Nat → ClassId) (lo : Nat) (H0 : Heap) (fu : Nat) (a0 : Int32) (a1 : Int32) (M : Mm) (out : Int32 × Mm) (h : fX16_hexDigit fu a0 a1 M = some out) : Ct l E D dA lo H0 yX16_hexDigit cX16_hexDigit 3 (some .int) 0 0 [pI a0, pI a1] M (some (pI out.1)) out.2 := by
  refine ct_of (by decide +kernel) (Nat.le_of_ble_eq_true rfl) ?_
  intro x hl he hd ha ho hh hn hin X hE
  exact wX16_hexDigit X hE hn fu a0 a1 M h
/-! WebHostModel.code(LWebHostModel$Connection;I)V -/
def fX16_code (fu : Nat)  (a0 : Nat) (a1 : Option Nat) (a2 : Int32)  (M : Mm) : Option (Mm) :=
    (gR M 12 793 a1).bind fun v1 =>
    (gI M 12 794 a1).bind fun v2 =>
    (pA M 100 v1 v2 (Int8.toInt32 (Int32.toInt8 (Int8.toInt32 (Int32.toInt8 a2))))).bind fun M3 =>
    (gI M3 12 794 a1).bind fun v4 =>
    (pF M3 12 794 a1 (v4 + (1 : Int32))).bind fun M5 =>
    some M5
theorem dX16_code_0 : decode cX16_code 0 = .ok (.aload_n 1, 1) := by decide +kernel
theorem dX16_code_1 : decode cX16_code 1 = .ok (.getfield 394, 3) := by decide +kernel
theorem dX16_code_4 : decode cX16_code 4 = .ok (.aload_n 1, 1) := by decide +kernel
theorem dX16_code_5 : decode cX16_code 5 = .ok (.getfield 391, 3) := by decide +kernel
theorem dX16_code_8 : decode cX16_code 8 = .ok (.iload_n 2, 1) := by decide +kernel
theorem dX16_code_9 : decode cX16_code 9 = .ok (.i2b, 1) := by decide +kernel
theorem dX16_code_10 : decode cX16_code 10 = .ok (.bastore, 1) := by decide +kernel
theorem dX16_code_11 : decode cX16_code 11 = .ok (.aload_n 1, 1) := by decide +kernel
theorem dX16_code_12 : decode cX16_code 12 = .ok (.dup, 1) := by decide +kernel
theorem dX16_code_13 : decode cX16_code 13 = .ok (.getfield 391, 3) := by decide +kernel
theorem dX16_code_16 : decode cX16_code 16 = .ok (.iconst 1, 1) := by decide +kernel
theorem dX16_code_17 : decode cX16_code 17 = .ok (.iadd, 1) := by decide +kernel
theorem dX16_code_18 : decode cX16_code 18 = .ok (.putfield 391, 3) := by decide +kernel
theorem dX16_code_21 : decode cX16_code 21 = .ok (.return_, 1) := by decide +kernel
theorem wX16_code {x : GX} {n0 sl0 : Nat} (X : Cx x cX16_code RX16 none n0 sl0 0 0) {out : Mm} (hE : Ends x n0 sl0 none out) (hn : xn x = 3) (fu : Nat)   (a0 : Nat) (a1 : Option Nat) (a2 : Int32)  (M : Mm) (h : fX16_code fu  a0 a1 a2 M = some out) : Gw x M 0 [(0, pR (some a0)), (1, pR a1), (2, pI a2)] [] := by
  unfold fX16_code at h
  refine g_aload_n X (pc := 0) 1 rfl rfl dX16_code_0 ?_
  obtain ⟨v1, ev1, h⟩ := bd h
  refine g_getR X (pc := 1) fk_12_25 rfl rfl ev1 tb_1606 dX16_code_1 ?_
  refine g_aload_n X (pc := 4) 1 rfl rfl dX16_code_4 ?_
  obtain ⟨v2, ev2, h⟩ := bd h
  refine g_getI X (pc := 5) fk_12_26 rfl rfl ev2 tb_1608 dX16_code_5 ?_
  refine g_iload_n X (pc := 8) 2 rfl rfl dX16_code_8 ?_
  refine g_i2b X (pc := 9) dX16_code_9 ?_
  obtain ⟨M3, eM3, h⟩ := bd h
  refine g_bastore X (pc := 10) eM3 dX16_code_10 ?_
  refine g_aload_n X (pc := 11) 1 rfl rfl dX16_code_11 ?_
  refine g_dup X (pc := 12) rfl dX16_code_12 ?_
  obtain ⟨v4, ev4, h⟩ := bd h
  refine g_getI X (pc := 13) fk_12_26 rfl rfl ev4 tb_1608 dX16_code_13 ?_
  refine g_iconst X (pc := 16) (v := 1) dX16_code_16 (by decide) ?_
  refine g_iadd X (pc := 17) dX16_code_17 ?_
  obtain ⟨M5, eM5, h⟩ := bd h
  refine g_putI X (pc := 18) fk_12_26 rfl rfl rfl eM5 tb_1608 (Or.inl rfl) dX16_code_18 ?_
  obtain rfl := Option.some.inj h
  exact g_return X hE dX16_code_21
theorem hyX16_code : yX16_code.cls ≠ "java/lang/invoke/MethodHandle" ∧ yX16_code.cls ≠ "java/lang/invoke/VarHandle" ∧ (parseMethodDescriptor yX16_code.desc).map (fun d => d.parameters.length) = some 2 := ⟨by decide +kernel, by decide +kernel, by decide +kernel⟩
theorem ctX16_code (l : Launch) (E : Nat → Nat) (D : va_G) (dA : Nat → ClassId) (lo : Nat) (H0 : Heap) (fu : Nat) (a0 : Nat) (a1 : Option Nat) (a2 : Int32) (M : Mm) (out : Mm) (h : fX16_code fu a0 a1 a2 M = some out) : Ct l E D dA lo H0 yX16_code cX16_code 3 none 0 0 [pR (some a0), pR a1, pI a2] M none out := by
  refine ct_of (by decide +kernel) (Nat.le_of_ble_eq_true rfl) ?_
  intro x hl he hd ha ho hh hn hin X hE
  exact wX16_code X hE hn fu a0 a1 a2 M h
/-! WebHostModel.sayNumber(LWebHostModel$Connection;I)V -/
def fX16_sayNumber_L21 (fu : Nat)  : Nat → Nat → Option Nat → Int32 → Int32 → Mm → Option (Mm)
  | 0, _, _, _, _, _ => none
  | n + 1, a0, a1, a2, a4, M =>
    if a4 ≤ 0 then (
    some M)
    else (
    if a4 = 0 then none else
    (rc M 16 (some a0)).bind fun q1 =>
    (fX16_code fu q1 a1 ((48 : Int32) + (irm (a2 / a4) (10 : Int32))) M).bind fun M2 =>
    fX16_sayNumber_L21 fu  n a0 a1 a2 (a4 / (10 : Int32)) M2)
def fX16_sayNumber_L2 (fu : Nat)  : Nat → Nat → Option Nat → Int32 → Int32 → Mm → Option (Mm)
  | 0, _, _, _, _, _ => none
  | n + 1, a0, a1, a2, a3, M =>
    if a3 = 0 then none else
    if (a2 / a3) < (10 : Int32) then (
    fX16_sayNumber_L21 fu  fu a0 a1 a2 a3 M)
    else (
    fX16_sayNumber_L2 fu  n a0 a1 a2 (a3 * (10 : Int32)) M)
def fX16_sayNumber (fu : Nat)  (a0 : Nat) (a1 : Option Nat) (a2 : Int32)  (M : Mm) : Option (Mm) :=
    fX16_sayNumber_L2 fu  fu a0 a1 a2 (1 : Int32) M
theorem dX16_sayNumber_0 : decode cX16_sayNumber 0 = .ok (.iconst 1, 1) := by decide +kernel
theorem dX16_sayNumber_1 : decode cX16_sayNumber 1 = .ok (.istore_n 3, 1) := by decide +kernel
theorem dX16_sayNumber_2 : decode cX16_sayNumber 2 = .ok (.iload_n 2, 1) := by decide +kernel
theorem dX16_sayNumber_3 : decode cX16_sayNumber 3 = .ok (.iload_n 3, 1) := by decide +kernel
theorem dX16_sayNumber_4 : decode cX16_sayNumber 4 = .ok (.idiv, 1) := by decide +kernel
theorem dX16_sayNumber_5 : decode cX16_sayNumber 5 = .ok (.bipush 10, 2) := by decide +kernel
theorem dX16_sayNumber_7 : decode cX16_sayNumber 7 = .ok (.if_icmp .lt 11, 3) := by decide +kernel
theorem dX16_sayNumber_10 : decode cX16_sayNumber 10 = .ok (.iload_n 3, 1) := by decide +kernel
theorem dX16_sayNumber_11 : decode cX16_sayNumber 11 = .ok (.bipush 10, 2) := by decide +kernel
theorem dX16_sayNumber_13 : decode cX16_sayNumber 13 = .ok (.imul, 1) := by decide +kernel
theorem dX16_sayNumber_14 : decode cX16_sayNumber 14 = .ok (.istore_n 3, 1) := by decide +kernel
theorem dX16_sayNumber_15 : decode cX16_sayNumber 15 = .ok (.goto (-13), 3) := by decide +kernel
theorem dX16_sayNumber_18 : decode cX16_sayNumber 18 = .ok (.iload_n 3, 1) := by decide +kernel
theorem dX16_sayNumber_19 : decode cX16_sayNumber 19 = .ok (.istore 4, 2) := by decide +kernel
theorem dX16_sayNumber_21 : decode cX16_sayNumber 21 = .ok (.iload 4, 2) := by decide +kernel
theorem dX16_sayNumber_23 : decode cX16_sayNumber 23 = .ok (.ifCond .le 28, 3) := by decide +kernel
theorem dX16_sayNumber_26 : decode cX16_sayNumber 26 = .ok (.aload_n 0, 1) := by decide +kernel
theorem dX16_sayNumber_27 : decode cX16_sayNumber 27 = .ok (.aload_n 1, 1) := by decide +kernel
theorem dX16_sayNumber_28 : decode cX16_sayNumber 28 = .ok (.bipush 48, 2) := by decide +kernel
theorem dX16_sayNumber_30 : decode cX16_sayNumber 30 = .ok (.iload_n 2, 1) := by decide +kernel
theorem dX16_sayNumber_31 : decode cX16_sayNumber 31 = .ok (.iload 4, 2) := by decide +kernel
theorem dX16_sayNumber_33 : decode cX16_sayNumber 33 = .ok (.idiv, 1) := by decide +kernel
theorem dX16_sayNumber_34 : decode cX16_sayNumber 34 = .ok (.bipush 10, 2) := by decide +kernel
theorem dX16_sayNumber_36 : decode cX16_sayNumber 36 = .ok (.irem, 1) := by decide +kernel
theorem dX16_sayNumber_37 : decode cX16_sayNumber 37 = .ok (.iadd, 1) := by decide +kernel
theorem dX16_sayNumber_38 : decode cX16_sayNumber 38 = .ok (.invokevirtual 789, 3) := by decide +kernel
theorem dX16_sayNumber_41 : decode cX16_sayNumber 41 = .ok (.iload 4, 2) := by decide +kernel
theorem dX16_sayNumber_43 : decode cX16_sayNumber 43 = .ok (.bipush 10, 2) := by decide +kernel
theorem dX16_sayNumber_45 : decode cX16_sayNumber 45 = .ok (.idiv, 1) := by decide +kernel
theorem dX16_sayNumber_46 : decode cX16_sayNumber 46 = .ok (.istore 4, 2) := by decide +kernel
theorem dX16_sayNumber_48 : decode cX16_sayNumber 48 = .ok (.goto (-27), 3) := by decide +kernel
theorem dX16_sayNumber_51 : decode cX16_sayNumber 51 = .ok (.return_, 1) := by decide +kernel
theorem wX16_sayNumber_L21 {x : GX} {n0 sl0 : Nat} (X : Cx x cX16_sayNumber RX16 none n0 sl0 1 22) {out : Mm} (hE : Ends x n0 sl0 none out) (hn : xn x = 5) (fu : Nat)   : ∀ (n : Nat) (a0 : Nat) (a1 : Option Nat) (a2 : Int32) (a4 : Int32)  (M : Mm), fX16_sayNumber_L21 fu  n a0 a1 a2 a4 M = some out → Gw x M 21 [(0, pR (some a0)), (1, pR a1), (2, pI a2), (4, pI a4)] [] := by
  intro n
  induction n with
  | zero =>
    intro a0 a1 a2 a4 M h
    have h : (none : Option (Mm)) = some out := h
    cases h
  | succ n ih =>
    intro a0 a1 a2 a4 M h
    rw [fX16_sayNumber_L21] at h
    refine g_iload X (pc := 21) 3 rfl dX16_sayNumber_21 ?_
    refine g_if_le X (pc := 23) (tgt := 51) dX16_sayNumber_23 (by decide) (fun hc => ?_) (fun hc => ?_)
    · have h := (if_pos hc).symm.trans h
      obtain rfl := Option.some.inj h
      exact g_return X hE dX16_sayNumber_51
    · have h := (if_neg hc).symm.trans h
      refine g_aload_n X (pc := 26) 0 rfl rfl dX16_sayNumber_26 ?_
      refine g_aload_n X (pc := 27) 1 rfl rfl dX16_sayNumber_27 ?_
      refine g_bipush X (pc := 28) (v := 48) dX16_sayNumber_28 (by decide) ?_
      refine g_iload_n X (pc := 30) 2 rfl rfl dX16_sayNumber_30 ?_
      refine g_iload X (pc := 31) 3 rfl dX16_sayNumber_31 ?_
      by_cases hz : a4 = 0
      · rw [if_pos hz] at h; cases h
      have h := (if_neg hz).symm.trans h
      refine g_idiv X (pc := 33) hz dX16_sayNumber_33 ?_
      refine g_bipush X (pc := 34) (v := 10) dX16_sayNumber_34 (by decide) ?_
      refine g_irem X (pc := 36) (by decide) dX16_sayNumber_36 ?_
      refine g_iadd X (pc := 37) dX16_sayNumber_37 ?_
      obtain ⟨q1, eq1, h⟩ := bd h
      obtain ⟨M2, eM2, h⟩ := bd h
      refine g_callV X (pc := 38) (M' := M2) (ro := none) (c := 16) rfl (by decide) (as := [pR a1, pI ((48 : Int32) + (irm (a2 / a4) (10 : Int32)))]) (as' := [pI ((48 : Int32) + (irm (a2 / a4) (10 : Int32))), pR a1]) (st := []) eq1 (ctX16_code _ _ _ _ _ _ fu q1 a1 ((48 : Int32) + (irm (a2 / a4) (10 : Int32))) M _ eM2) tb_2435 tb_2432 tb_2434 ts_136 tb_8 ⟨rfl, hyX16_code⟩ rfl rfl ⟨by decide, by decide⟩ (Nat.le_of_ble_eq_true rfl) dX16_sayNumber_38 ?_
      refine g_iload X (pc := 41) 3 rfl dX16_sayNumber_41 ?_
      refine g_bipush X (pc := 43) (v := 10) dX16_sayNumber_43 (by decide) ?_
      refine g_idiv X (pc := 45) (by decide) dX16_sayNumber_45 ?_
      refine g_istore X (pc := 46) [(4, pI (a4 / (10 : Int32))), (0, pR (some a0)), (1, pR a1), (2, pI a2)] (lt_n hn (by decide)) rfl dX16_sayNumber_46 ?_
      refine g_goto X (pc := 48) (tgt := 21) dX16_sayNumber_48 (by decide) ?_
      refine g_sub [1, 2, 3, 0] [(0, pR (some a0)), (1, pR a1), (2, pI a2), (4, pI (a4 / (10 : Int32)))] rfl ?_
      exact ih a0 a1 a2 (a4 / (10 : Int32)) M2 h
theorem wX16_sayNumber_L2 {x : GX} {n0 sl0 : Nat} (X : Cx x cX16_sayNumber RX16 none n0 sl0 1 22) {out : Mm} (hE : Ends x n0 sl0 none out) (hn : xn x = 5) (fu : Nat)   : ∀ (n : Nat) (a0 : Nat) (a1 : Option Nat) (a2 : Int32) (a3 : Int32)  (M : Mm), fX16_sayNumber_L2 fu  n a0 a1 a2 a3 M = some out → Gw x M 2 [(0, pR (some a0)), (1, pR a1), (2, pI a2), (3, pI a3)] [] := by
  intro n
  induction n with
  | zero =>
    intro a0 a1 a2 a3 M h
    have h : (none : Option (Mm)) = some out := h
    cases h
  | succ n ih =>
    intro a0 a1 a2 a3 M h
    rw [fX16_sayNumber_L2] at h
    refine g_iload_n X (pc := 2) 2 rfl rfl dX16_sayNumber_2 ?_
    refine g_iload_n X (pc := 3) 3 rfl rfl dX16_sayNumber_3 ?_
    by_cases hz : a3 = 0
    · rw [if_pos hz] at h; cases h
    have h := (if_neg hz).symm.trans h
    refine g_idiv X (pc := 4) hz dX16_sayNumber_4 ?_
    refine g_bipush X (pc := 5) (v := 10) dX16_sayNumber_5 (by decide) ?_
    refine g_icmp_lt X (pc := 7) (tgt := 18) dX16_sayNumber_7 (by decide) (fun hc => ?_) (fun hc => ?_)
    · have h := (if_pos hc).symm.trans h
      refine g_iload_n X (pc := 18) 3 rfl rfl dX16_sayNumber_18 ?_
      refine g_istore X (pc := 19) [(4, pI a3), (0, pR (some a0)), (1, pR a1), (2, pI a2), (3, pI a3)] (lt_n hn (by decide)) rfl dX16_sayNumber_19 ?_
      refine g_sub [1, 2, 3, 0] [(0, pR (some a0)), (1, pR a1), (2, pI a2), (4, pI a3)] rfl ?_
      exact wX16_sayNumber_L21 X hE hn fu   fu a0 a1 a2 a3 M h
    · have h := (if_neg hc).symm.trans h
      refine g_iload_n X (pc := 10) 3 rfl rfl dX16_sayNumber_10 ?_
      refine g_bipush X (pc := 11) (v := 10) dX16_sayNumber_11 (by decide) ?_
      refine g_imul X (pc := 13) dX16_sayNumber_13 ?_
      refine g_istore_n X (pc := 14) [(3, pI (a3 * (10 : Int32))), (0, pR (some a0)), (1, pR a1), (2, pI a2)] rfl (lt_n hn (by decide)) rfl dX16_sayNumber_14 ?_
      refine g_goto X (pc := 15) (tgt := 2) dX16_sayNumber_15 (by decide) ?_
      refine g_sub [1, 2, 3, 0] [(0, pR (some a0)), (1, pR a1), (2, pI a2), (3, pI (a3 * (10 : Int32)))] rfl ?_
      exact ih a0 a1 a2 (a3 * (10 : Int32)) M h
theorem wX16_sayNumber {x : GX} {n0 sl0 : Nat} (X : Cx x cX16_sayNumber RX16 none n0 sl0 1 22) {out : Mm} (hE : Ends x n0 sl0 none out) (hn : xn x = 5) (fu : Nat)   (a0 : Nat) (a1 : Option Nat) (a2 : Int32)  (M : Mm) (h : fX16_sayNumber fu  a0 a1 a2 M = some out) : Gw x M 0 [(0, pR (some a0)), (1, pR a1), (2, pI a2)] [] := by
  unfold fX16_sayNumber at h
  refine g_iconst X (pc := 0) (v := 1) dX16_sayNumber_0 (by decide) ?_
  refine g_istore_n X (pc := 1) [(3, pI (1 : Int32)), (0, pR (some a0)), (1, pR a1), (2, pI a2)] rfl (lt_n hn (by decide)) rfl dX16_sayNumber_1 ?_
  refine g_sub [1, 2, 3, 0] [(0, pR (some a0)), (1, pR a1), (2, pI a2), (3, pI (1 : Int32))] rfl ?_
  exact wX16_sayNumber_L2 X hE hn fu   fu a0 a1 a2 (1 : Int32) M h
theorem hyX16_sayNumber : yX16_sayNumber.cls ≠ "java/lang/invoke/MethodHandle" ∧ yX16_sayNumber.cls ≠ "java/lang/invoke/VarHandle" ∧ (parseMethodDescriptor yX16_sayNumber.desc).map (fun d => d.parameters.length) = some 2 := ⟨by decide +kernel, by decide +kernel, by decide +kernel⟩
theorem ctX16_sayNumber (l : Launch) (E : Nat → Nat) (D : va_G) (dA : Nat → ClassId) (lo : Nat) (H0 : Heap) (fu : Nat) (a0 : Nat) (a1 : Option Nat) (a2 : Int32) (M : Mm) (out : Mm) (h : fX16_sayNumber fu a0 a1 a2 M = some out) : Ct l E D dA lo H0 yX16_sayNumber cX16_sayNumber 5 none 1 22 [pR (some a0), pR a1, pI a2] M none out := by
  refine ct_of (by decide +kernel) (Nat.le_of_ble_eq_true rfl) ?_
  intro x hl he hd ha ho hh hn hin X hE
  exact wX16_sayNumber X hE hn fu a0 a1 a2 M h
/-! WebHostModel.line(LWebHostModel$Connection;)V -/
def fX16_line (fu : Nat)  (a0 : Nat) (a1 : Option Nat)  (M : Mm) : Option (Mm) :=
    (rc M 16 (some a0)).bind fun q1 =>
    (fX16_code fu q1 a1 (13 : Int32) M).bind fun M2 =>
    (rc M2 16 (some a0)).bind fun q3 =>
    (fX16_code fu q3 a1 (10 : Int32) M2).bind fun M4 =>
    some M4
theorem dX16_line_0 : decode cX16_line 0 = .ok (.aload_n 0, 1) := by decide +kernel
theorem dX16_line_1 : decode cX16_line 1 = .ok (.aload_n 1, 1) := by decide +kernel
theorem dX16_line_2 : decode cX16_line 2 = .ok (.bipush 13, 2) := by decide +kernel
theorem dX16_line_4 : decode cX16_line 4 = .ok (.invokevirtual 789, 3) := by decide +kernel
theorem dX16_line_7 : decode cX16_line 7 = .ok (.aload_n 0, 1) := by decide +kernel
theorem dX16_line_8 : decode cX16_line 8 = .ok (.aload_n 1, 1) := by decide +kernel
theorem dX16_line_9 : decode cX16_line 9 = .ok (.bipush 10, 2) := by decide +kernel
theorem dX16_line_11 : decode cX16_line 11 = .ok (.invokevirtual 789, 3) := by decide +kernel
theorem dX16_line_14 : decode cX16_line 14 = .ok (.return_, 1) := by decide +kernel
theorem wX16_line {x : GX} {n0 sl0 : Nat} (X : Cx x cX16_line RX16 none n0 sl0 1 22) {out : Mm} (hE : Ends x n0 sl0 none out) (hn : xn x = 2) (fu : Nat)   (a0 : Nat) (a1 : Option Nat)  (M : Mm) (h : fX16_line fu  a0 a1 M = some out) : Gw x M 0 [(0, pR (some a0)), (1, pR a1)] [] := by
  unfold fX16_line at h
  refine g_aload_n X (pc := 0) 0 rfl rfl dX16_line_0 ?_
  refine g_aload_n X (pc := 1) 1 rfl rfl dX16_line_1 ?_
  refine g_bipush X (pc := 2) (v := 13) dX16_line_2 (by decide) ?_
  obtain ⟨q1, eq1, h⟩ := bd h
  obtain ⟨M2, eM2, h⟩ := bd h
  refine g_callV X (pc := 4) (M' := M2) (ro := none) (c := 16) rfl (by decide) (as := [pR a1, pI (13 : Int32)]) (as' := [pI (13 : Int32), pR a1]) (st := []) eq1 (ctX16_code _ _ _ _ _ _ fu q1 a1 (13 : Int32) M _ eM2) tb_2435 tb_2432 tb_2434 ts_136 tb_8 ⟨rfl, hyX16_code⟩ rfl rfl ⟨by decide, by decide⟩ (Nat.le_of_ble_eq_true rfl) dX16_line_4 ?_
  refine g_aload_n X (pc := 7) 0 rfl rfl dX16_line_7 ?_
  refine g_aload_n X (pc := 8) 1 rfl rfl dX16_line_8 ?_
  refine g_bipush X (pc := 9) (v := 10) dX16_line_9 (by decide) ?_
  obtain ⟨q3, eq3, h⟩ := bd h
  obtain ⟨M4, eM4, h⟩ := bd h
  refine g_callV X (pc := 11) (M' := M4) (ro := none) (c := 16) rfl (by decide) (as := [pR a1, pI (10 : Int32)]) (as' := [pI (10 : Int32), pR a1]) (st := []) eq3 (ctX16_code _ _ _ _ _ _ fu q3 a1 (10 : Int32) M2 _ eM4) tb_2435 tb_2432 tb_2434 ts_136 tb_8 ⟨rfl, hyX16_code⟩ rfl rfl ⟨by decide, by decide⟩ (Nat.le_of_ble_eq_true rfl) dX16_line_11 ?_
  obtain rfl := Option.some.inj h
  exact g_return X hE dX16_line_14
theorem hyX16_line : yX16_line.cls ≠ "java/lang/invoke/MethodHandle" ∧ yX16_line.cls ≠ "java/lang/invoke/VarHandle" ∧ (parseMethodDescriptor yX16_line.desc).map (fun d => d.parameters.length) = some 1 := ⟨by decide +kernel, by decide +kernel, by decide +kernel⟩
theorem ctX16_line (l : Launch) (E : Nat → Nat) (D : va_G) (dA : Nat → ClassId) (lo : Nat) (H0 : Heap) (fu : Nat) (a0 : Nat) (a1 : Option Nat) (M : Mm) (out : Mm) (h : fX16_line fu a0 a1 M = some out) : Ct l E D dA lo H0 yX16_line cX16_line 2 none 1 22 [pR (some a0), pR a1] M none out := by
  refine ct_of (by decide +kernel) (Nat.le_of_ble_eq_true rfl) ?_
  intro x hl he hd ha ho hh hn hin X hE
  exact wX16_line X hE hn fu a0 a1 M h
/-! WebHostModel.dataWithin(LWebHostModel$Connection;I)I -/
def fX16_dataWithin (fu : Nat)  (a0 : Option Nat) (a1 : Int32)  (M : Mm) : Option (Int32 × Mm) :=
    (rc M 12 a0).bind fun q1 =>
    b2 (fX12_behind fu q1  M) fun v3 M2 =>
    (gI M2 12 773 a0).bind fun v4 =>
    (gI M2 12 778 a0).bind fun v5 =>
    some ((jmax (0 : Int32) (jmin (jmin v5 (v3 - v4)) a1)), M2)
theorem dX16_dataWithin_0 : decode cX16_dataWithin 0 = .ok (.aload_n 0, 1) := by decide +kernel
theorem dX16_dataWithin_1 : decode cX16_dataWithin 1 = .ok (.invokevirtual 402, 3) := by decide +kernel
theorem dX16_dataWithin_4 : decode cX16_dataWithin 4 = .ok (.aload_n 0, 1) := by decide +kernel
theorem dX16_dataWithin_5 : decode cX16_dataWithin 5 = .ok (.getfield 345, 3) := by decide +kernel
theorem dX16_dataWithin_8 : decode cX16_dataWithin 8 = .ok (.isub, 1) := by decide +kernel
theorem dX16_dataWithin_9 : decode cX16_dataWithin 9 = .ok (.istore_n 2, 1) := by decide +kernel
theorem dX16_dataWithin_10 : decode cX16_dataWithin 10 = .ok (.iconst 0, 1) := by decide +kernel
theorem dX16_dataWithin_11 : decode cX16_dataWithin 11 = .ok (.aload_n 0, 1) := by decide +kernel
theorem dX16_dataWithin_12 : decode cX16_dataWithin 12 = .ok (.getfield 405, 3) := by decide +kernel
theorem dX16_dataWithin_15 : decode cX16_dataWithin 15 = .ok (.iload_n 2, 1) := by decide +kernel
theorem dX16_dataWithin_16 : decode cX16_dataWithin 16 = .ok (.invokestatic 411, 3) := by decide +kernel
theorem dX16_dataWithin_19 : decode cX16_dataWithin 19 = .ok (.iload_n 1, 1) := by decide +kernel
theorem dX16_dataWithin_20 : decode cX16_dataWithin 20 = .ok (.invokestatic 411, 3) := by decide +kernel
theorem dX16_dataWithin_23 : decode cX16_dataWithin 23 = .ok (.invokestatic 164, 3) := by decide +kernel
theorem dX16_dataWithin_26 : decode cX16_dataWithin 26 = .ok (.ireturn, 1) := by decide +kernel
theorem wX16_dataWithin {x : GX} {n0 sl0 : Nat} (X : Cx x cX16_dataWithin RX16 (some .int) n0 sl0 1 20) {out : Int32 × Mm} (hE : Ends x n0 sl0 (some (pI out.1)) out.2) (hn : xn x = 3) (fu : Nat)   (a0 : Option Nat) (a1 : Int32)  (M : Mm) (h : fX16_dataWithin fu  a0 a1 M = some out) : Gw x M 0 [(0, pR a0), (1, pI a1)] [] := by
  unfold fX16_dataWithin at h
  refine g_aload_n X (pc := 0) 0 rfl rfl dX16_dataWithin_0 ?_
  obtain ⟨q1, eq1, h⟩ := bd h
  obtain ⟨v3, M2, eM2, h⟩ := b2d h
  refine g_callV X (pc := 1) (M' := M2) (ro := some (pI v3)) (c := 12) rfl (by decide) (as := []) (as' := []) (st := []) eq1 (ctX12_behind _ _ _ _ _ _ fu q1  M _ eM2) tb_2074 tb_2182 tb_2072 tb_2073 tb_9 ⟨rfl, hyX12_behind⟩ rfl rfl ⟨by decide, by decide⟩ (Nat.le_of_ble_eq_true rfl) dX16_dataWithin_1 ?_
  refine g_aload_n X (pc := 4) 0 rfl rfl dX16_dataWithin_4 ?_
  obtain ⟨v4, ev4, h⟩ := bd h
  refine g_getI X (pc := 5) fk_12_5 rfl rfl ev4 tb_1585 dX16_dataWithin_5 ?_
  refine g_isub X (pc := 8) dX16_dataWithin_8 ?_
  refine g_istore_n X (pc := 9) [(2, pI (v3 - v4)), (0, pR a0), (1, pI a1)] rfl (lt_n hn (by decide)) rfl dX16_dataWithin_9 ?_
  refine g_iconst X (pc := 10) (v := 0) dX16_dataWithin_10 (by decide) ?_
  refine g_aload_n X (pc := 11) 1 rfl rfl dX16_dataWithin_11 ?_
  obtain ⟨v5, ev5, h⟩ := bd h
  refine g_getI X (pc := 12) fk_12_10 rfl rfl ev5 tb_1590 dX16_dataWithin_12 ?_
  refine g_iload_n X (pc := 15) 0 rfl rfl dX16_dataWithin_15 ?_
  refine g_mmin X (pc := 16) tb_2155 tb_348 tb_13 tb_349 ⟨by decide, Nat.le_of_ble_eq_true rfl⟩ dX16_dataWithin_16 ?_
  refine g_iload_n X (pc := 19) 2 rfl rfl dX16_dataWithin_19 ?_
  refine g_mmin X (pc := 20) tb_2155 tb_348 tb_13 tb_349 ⟨by decide, Nat.le_of_ble_eq_true rfl⟩ dX16_dataWithin_20 ?_
  refine g_mmax X (pc := 23) tb_2100 tb_405 tb_13 tb_406 ⟨by decide, Nat.le_of_ble_eq_true rfl⟩ dX16_dataWithin_23 ?_
  obtain rfl := Option.some.inj h
  exact g_ireturn X hE dX16_dataWithin_26
theorem hyX16_dataWithin : yX16_dataWithin.cls ≠ "java/lang/invoke/MethodHandle" ∧ yX16_dataWithin.cls ≠ "java/lang/invoke/VarHandle" ∧ (parseMethodDescriptor yX16_dataWithin.desc).map (fun d => d.parameters.length) = some 2 := ⟨by decide +kernel, by decide +kernel, by decide +kernel⟩
theorem ctX16_dataWithin (l : Launch) (E : Nat → Nat) (D : va_G) (dA : Nat → ClassId) (lo : Nat) (H0 : Heap) (fu : Nat) (a0 : Option Nat) (a1 : Int32) (M : Mm) (out : Int32 × Mm) (h : fX16_dataWithin fu a0 a1 M = some out) : Ct l E D dA lo H0 yX16_dataWithin cX16_dataWithin 3 (some .int) 1 20 [pR a0, pI a1] M (some (pI out.1)) out.2 := by
  refine ct_of (by decide +kernel) (Nat.le_of_ble_eq_true rfl) ?_
  intro x hl he hd ha ho hh hn hin X hE
  exact wX16_dataWithin X hE hn fu a0 a1 M h
/-! WebHostModel.one(LWebHostModel$Connection;I)V -/
def fX16_one_L69 (fu : Nat)  (a1 : Option Nat) (s0 : Option Nat) (s1 : Int32) (s2 : Int32) (M : Mm) : Option (Mm) :=
    (pF M 12 773 s0 (s1 + s2)).bind fun M1 =>
    (gI M1 12 774 a1).bind fun v2 =>
    (gI M1 12 773 a1).bind fun v3 =>
    b2 (fX16_before fu  v2 v3 M1) fun v5 M4 =>
    if v5 = 0 then (
    some M4)
    else (
    (gI M4 12 773 a1).bind fun v6 =>
    (pF M4 12 774 a1 v6).bind fun M7 =>
    some M7)
def fX16_one_L36 (fu : Nat)  (a0 : Nat) (a1 : Option Nat) (a3 : Int32) (s0 : Int32) (M : Mm) : Option (Mm) :=
    (gI M 12 773 a1).bind fun v1 =>
    (rc M 16 (some a0)).bind fun q2 =>
    (fX16_dataOut fu q2 a1 v1 a3 s0 M).bind fun M3 =>
    if s0 = 0 then (
    fX16_one_L69 fu  a1 a1 (v1 + a3) (0 : Int32) M3)
    else (
    fX16_one_L69 fu  a1 a1 (v1 + a3) (1 : Int32) M3)
def fX16_one_L35 (fu : Nat)  (a0 : Nat) (a1 : Option Nat) (a3 : Int32)  (M : Mm) : Option (Mm) :=
    fX16_one_L36 fu  a0 a1 a3 (0 : Int32) M
def fX16_one (fu : Nat)  (a0 : Nat) (a1 : Option Nat) (a2 : Int32)  (M : Mm) : Option (Mm) :=
    b2 (fX16_dataWithin fu  a1 a2 M) fun v2 M1 =>
    (gI M1 12 798 a1).bind fun v3 =>
    if v3 = 0 then (
    fX16_one_L35 fu  a0 a1 v2 M1)
    else (
    (gI M1 12 773 a1).bind fun v4 =>
    (rc M1 12 a1).bind fun q5 =>
    b2 (fX12_behind fu q5  M1) fun v7 M6 =>
    if (v4 + v2) = v7 then (
    if a2 ≤ v2 then (
    fX16_one_L35 fu  a0 a1 v2 M6)
    else (
    fX16_one_L36 fu  a0 a1 v2 (1 : Int32) M6))
    else (
    fX16_one_L35 fu  a0 a1 v2 M6))
theorem dX16_one_0 : decode cX16_one 0 = .ok (.aload_n 1, 1) := by decide +kernel
theorem dX16_one_1 : decode cX16_one 1 = .ok (.iload_n 2, 1) := by decide +kernel
theorem dX16_one_2 : decode cX16_one 2 = .ok (.invokestatic 414, 3) := by decide +kernel
theorem dX16_one_5 : decode cX16_one 5 = .ok (.istore_n 3, 1) := by decide +kernel
theorem dX16_one_6 : decode cX16_one 6 = .ok (.aload_n 1, 1) := by decide +kernel
theorem dX16_one_7 : decode cX16_one 7 = .ok (.getfield 418, 3) := by decide +kernel
theorem dX16_one_10 : decode cX16_one 10 = .ok (.ifCond .eq 25, 3) := by decide +kernel
theorem dX16_one_13 : decode cX16_one 13 = .ok (.aload_n 1, 1) := by decide +kernel
theorem dX16_one_14 : decode cX16_one 14 = .ok (.getfield 345, 3) := by decide +kernel
theorem dX16_one_17 : decode cX16_one 17 = .ok (.iload_n 3, 1) := by decide +kernel
theorem dX16_one_18 : decode cX16_one 18 = .ok (.iadd, 1) := by decide +kernel
theorem dX16_one_19 : decode cX16_one 19 = .ok (.aload_n 1, 1) := by decide +kernel
theorem dX16_one_20 : decode cX16_one 20 = .ok (.invokevirtual 402, 3) := by decide +kernel
theorem dX16_one_23 : decode cX16_one 23 = .ok (.if_icmp .ne 12, 3) := by decide +kernel
theorem dX16_one_26 : decode cX16_one 26 = .ok (.iload_n 3, 1) := by decide +kernel
theorem dX16_one_27 : decode cX16_one 27 = .ok (.iload_n 2, 1) := by decide +kernel
theorem dX16_one_28 : decode cX16_one 28 = .ok (.if_icmp .ge 7, 3) := by decide +kernel
theorem dX16_one_31 : decode cX16_one 31 = .ok (.iconst 1, 1) := by decide +kernel
theorem dX16_one_32 : decode cX16_one 32 = .ok (.goto 4, 3) := by decide +kernel
theorem dX16_one_35 : decode cX16_one 35 = .ok (.iconst 0, 1) := by decide +kernel
theorem dX16_one_36 : decode cX16_one 36 = .ok (.istore 4, 2) := by decide +kernel
theorem dX16_one_38 : decode cX16_one 38 = .ok (.aload_n 1, 1) := by decide +kernel
theorem dX16_one_39 : decode cX16_one 39 = .ok (.getfield 345, 3) := by decide +kernel
theorem dX16_one_42 : decode cX16_one 42 = .ok (.istore 5, 2) := by decide +kernel
theorem dX16_one_44 : decode cX16_one 44 = .ok (.aload_n 0, 1) := by decide +kernel
theorem dX16_one_45 : decode cX16_one 45 = .ok (.aload_n 1, 1) := by decide +kernel
theorem dX16_one_46 : decode cX16_one 46 = .ok (.iload 5, 2) := by decide +kernel
theorem dX16_one_48 : decode cX16_one 48 = .ok (.iload_n 3, 1) := by decide +kernel
theorem dX16_one_49 : decode cX16_one 49 = .ok (.iload 4, 2) := by decide +kernel
theorem dX16_one_51 : decode cX16_one 51 = .ok (.invokevirtual 421, 3) := by decide +kernel
theorem dX16_one_54 : decode cX16_one 54 = .ok (.aload_n 1, 1) := by decide +kernel
theorem dX16_one_55 : decode cX16_one 55 = .ok (.iload 5, 2) := by decide +kernel
theorem dX16_one_57 : decode cX16_one 57 = .ok (.iload_n 3, 1) := by decide +kernel
theorem dX16_one_58 : decode cX16_one 58 = .ok (.iadd, 1) := by decide +kernel
theorem dX16_one_59 : decode cX16_one 59 = .ok (.iload 4, 2) := by decide +kernel
theorem dX16_one_61 : decode cX16_one 61 = .ok (.ifCond .eq 7, 3) := by decide +kernel
theorem dX16_one_64 : decode cX16_one 64 = .ok (.iconst 1, 1) := by decide +kernel
theorem dX16_one_65 : decode cX16_one 65 = .ok (.goto 4, 3) := by decide +kernel
theorem dX16_one_68 : decode cX16_one 68 = .ok (.iconst 0, 1) := by decide +kernel
theorem dX16_one_69 : decode cX16_one 69 = .ok (.iadd, 1) := by decide +kernel
theorem dX16_one_70 : decode cX16_one 70 = .ok (.putfield 345, 3) := by decide +kernel
theorem dX16_one_73 : decode cX16_one 73 = .ok (.aload_n 1, 1) := by decide +kernel
theorem dX16_one_74 : decode cX16_one 74 = .ok (.getfield 361, 3) := by decide +kernel
theorem dX16_one_77 : decode cX16_one 77 = .ok (.aload_n 1, 1) := by decide +kernel
theorem dX16_one_78 : decode cX16_one 78 = .ok (.getfield 345, 3) := by decide +kernel
theorem dX16_one_81 : decode cX16_one 81 = .ok (.invokestatic 363, 3) := by decide +kernel
theorem dX16_one_84 : decode cX16_one 84 = .ok (.ifCond .eq 11, 3) := by decide +kernel
theorem dX16_one_87 : decode cX16_one 87 = .ok (.aload_n 1, 1) := by decide +kernel
theorem dX16_one_88 : decode cX16_one 88 = .ok (.aload_n 1, 1) := by decide +kernel
theorem dX16_one_89 : decode cX16_one 89 = .ok (.getfield 345, 3) := by decide +kernel
theorem dX16_one_92 : decode cX16_one 92 = .ok (.putfield 361, 3) := by decide +kernel
theorem dX16_one_95 : decode cX16_one 95 = .ok (.return_, 1) := by decide +kernel
theorem wX16_one_L69 {x : GX} {n0 sl0 : Nat} (X : Cx x cX16_one RX16 none n0 sl0 7 181) {out : Mm} (hE : Ends x n0 sl0 none out) (hn : xn x = 6) (fu : Nat)   (a1 : Option Nat) (s0 : Option Nat) (s1 : Int32) (s2 : Int32) (M : Mm) (h : fX16_one_L69 fu  a1 s0 s1 s2 M = some out) : Gw x M 69 [(1, pR a1)] [pI s2, pI s1, pR s0] := by
  unfold fX16_one_L69 at h
  refine g_iadd X (pc := 69) dX16_one_69 ?_
  obtain ⟨M1, eM1, h⟩ := bd h
  refine g_putI X (pc := 70) fk_12_5 rfl rfl rfl eM1 tb_1585 (Or.inl rfl) dX16_one_70 ?_
  refine g_aload_n X (pc := 73) 0 rfl rfl dX16_one_73 ?_
  obtain ⟨v2, ev2, h⟩ := bd h
  refine g_getI X (pc := 74) fk_12_6 rfl rfl ev2 tb_1586 dX16_one_74 ?_
  refine g_aload_n X (pc := 77) 0 rfl rfl dX16_one_77 ?_
  obtain ⟨v3, ev3, h⟩ := bd h
  refine g_getI X (pc := 78) fk_12_5 rfl rfl ev3 tb_1585 dX16_one_78 ?_
  obtain ⟨v5, M4, eM4, h⟩ := b2d h
  refine g_callS X (pc := 81) (M' := M4) (ro := some (pI v5)) (as := [pI v2, pI v3]) (as' := [pI v3, pI v2]) (st := []) (ctX16_before _ _ _ _ _ _ fu  v2 v3 M1 _ eM4) tb_2170 tb_2168 tb_2169 tb_8 hyX16_before rfl rfl ⟨by decide, by decide⟩ (Nat.le_of_ble_eq_true rfl) dX16_one_81 ?_
  refine g_if_eq X (pc := 84) (tgt := 95) dX16_one_84 (by decide) (fun hc => ?_) (fun hc => ?_)
  · have h := (if_pos hc).symm.trans h
    obtain rfl := Option.some.inj h
    exact g_return X hE dX16_one_95
  · have h := (if_neg hc).symm.trans h
    refine g_aload_n X (pc := 87) 0 rfl rfl dX16_one_87 ?_
    refine g_aload_n X (pc := 88) 0 rfl rfl dX16_one_88 ?_
    obtain ⟨v6, ev6, h⟩ := bd h
    refine g_getI X (pc := 89) fk_12_5 rfl rfl ev6 tb_1585 dX16_one_89 ?_
    obtain ⟨M7, eM7, h⟩ := bd h
    refine g_putI X (pc := 92) fk_12_6 rfl rfl rfl eM7 tb_1586 (Or.inl rfl) dX16_one_92 ?_
    obtain rfl := Option.some.inj h
    exact g_return X hE dX16_one_95
theorem wX16_one_L36 {x : GX} {n0 sl0 : Nat} (X : Cx x cX16_one RX16 none n0 sl0 7 181) {out : Mm} (hE : Ends x n0 sl0 none out) (hn : xn x = 6) (fu : Nat)   (a0 : Nat) (a1 : Option Nat) (a3 : Int32) (s0 : Int32) (M : Mm) (h : fX16_one_L36 fu  a0 a1 a3 s0 M = some out) : Gw x M 36 [(0, pR (some a0)), (1, pR a1), (3, pI a3)] [pI s0] := by
  unfold fX16_one_L36 at h
  refine g_istore X (pc := 36) [(4, pI s0), (0, pR (some a0)), (1, pR a1), (3, pI a3)] (lt_n hn (by decide)) rfl dX16_one_36 ?_
  refine g_aload_n X (pc := 38) 2 rfl rfl dX16_one_38 ?_
  obtain ⟨v1, ev1, h⟩ := bd h
  refine g_getI X (pc := 39) fk_12_5 rfl rfl ev1 tb_1585 dX16_one_39 ?_
  refine g_istore X (pc := 42) [(5, pI v1), (4, pI s0), (0, pR (some a0)), (1, pR a1), (3, pI a3)] (lt_n hn (by decide)) rfl dX16_one_42 ?_
  refine g_aload_n X (pc := 44) 2 rfl rfl dX16_one_44 ?_
  refine g_aload_n X (pc := 45) 3 rfl rfl dX16_one_45 ?_
  refine g_iload X (pc := 46) 0 rfl dX16_one_46 ?_
  refine g_iload_n X (pc := 48) 4 rfl rfl dX16_one_48 ?_
  refine g_iload X (pc := 49) 1 rfl dX16_one_49 ?_
  obtain ⟨q2, eq2, h⟩ := bd h
  obtain ⟨M3, eM3, h⟩ := bd h
  refine g_callV X (pc := 51) (M' := M3) (ro := none) (c := 16) rfl (by decide) (as := [pR a1, pI v1, pI a3, pI s0]) (as' := [pI s0, pI a3, pI v1, pR a1]) (st := []) eq2 (ctX16_dataOut _ _ _ _ _ _ fu q2 a1 v1 a3 s0 M _ eM3) tb_2186 tb_2183 tb_2185 ts_88 tb_8 ⟨rfl, hyX16_dataOut⟩ rfl rfl ⟨by decide, by decide⟩ (Nat.le_of_ble_eq_true rfl) dX16_one_51 ?_
  refine g_aload_n X (pc := 54) 3 rfl rfl dX16_one_54 ?_
  refine g_iload X (pc := 55) 0 rfl dX16_one_55 ?_
  refine g_iload_n X (pc := 57) 4 rfl rfl dX16_one_57 ?_
  refine g_iadd X (pc := 58) dX16_one_58 ?_
  refine g_iload X (pc := 59) 1 rfl dX16_one_59 ?_
  refine g_if_eq X (pc := 61) (tgt := 68) dX16_one_61 (by decide) (fun hc => ?_) (fun hc => ?_)
  · have h := (if_pos hc).symm.trans h
    refine g_iconst X (pc := 68) (v := 0) dX16_one_68 (by decide) ?_
    refine g_sub [3] [(1, pR a1)] rfl ?_
    exact wX16_one_L69 X hE hn fu   a1 a1 (v1 + a3) (0 : Int32) M3 h
  · have h := (if_neg hc).symm.trans h
    refine g_iconst X (pc := 64) (v := 1) dX16_one_64 (by decide) ?_
    refine g_goto X (pc := 65) (tgt := 69) dX16_one_65 (by decide) ?_
    refine g_sub [3] [(1, pR a1)] rfl ?_
    exact wX16_one_L69 X hE hn fu   a1 a1 (v1 + a3) (1 : Int32) M3 h
theorem wX16_one_L35 {x : GX} {n0 sl0 : Nat} (X : Cx x cX16_one RX16 none n0 sl0 7 181) {out : Mm} (hE : Ends x n0 sl0 none out) (hn : xn x = 6) (fu : Nat)   (a0 : Nat) (a1 : Option Nat) (a3 : Int32)  (M : Mm) (h : fX16_one_L35 fu  a0 a1 a3 M = some out) : Gw x M 35 [(0, pR (some a0)), (1, pR a1), (3, pI a3)] [] := by
  unfold fX16_one_L35 at h
  refine g_iconst X (pc := 35) (v := 0) dX16_one_35 (by decide) ?_
  exact wX16_one_L36 X hE hn fu   a0 a1 a3 (0 : Int32) M h
theorem wX16_one {x : GX} {n0 sl0 : Nat} (X : Cx x cX16_one RX16 none n0 sl0 7 181) {out : Mm} (hE : Ends x n0 sl0 none out) (hn : xn x = 6) (fu : Nat)   (a0 : Nat) (a1 : Option Nat) (a2 : Int32)  (M : Mm) (h : fX16_one fu  a0 a1 a2 M = some out) : Gw x M 0 [(0, pR (some a0)), (1, pR a1), (2, pI a2)] [] := by
  unfold fX16_one at h
  refine g_aload_n X (pc := 0) 1 rfl rfl dX16_one_0 ?_
  refine g_iload_n X (pc := 1) 2 rfl rfl dX16_one_1 ?_
  obtain ⟨v2, M1, eM1, h⟩ := b2d h
  refine g_callS X (pc := 2) (M' := M1) (ro := some (pI v2)) (as := [pR a1, pI a2]) (as' := [pI a2, pR a1]) (st := []) (ctX16_dataWithin _ _ _ _ _ _ fu  a1 a2 M _ eM1) tb_2181 tb_2179 tb_2180 tb_8 hyX16_dataWithin rfl rfl ⟨by decide, by decide⟩ (Nat.le_of_ble_eq_true rfl) dX16_one_2 ?_
  refine g_istore_n X (pc := 5) [(3, pI v2), (0, pR (some a0)), (1, pR a1), (2, pI a2)] rfl (lt_n hn (by decide)) rfl dX16_one_5 ?_
  refine g_aload_n X (pc := 6) 2 rfl rfl dX16_one_6 ?_
  obtain ⟨v3, ev3, h⟩ := bd h
  refine g_getI X (pc := 7) fk_12_30 rfl rfl ev3 tb_1615 dX16_one_7 ?_
  refine g_if_eq X (pc := 10) (tgt := 35) dX16_one_10 (by decide) (fun hc => ?_) (fun hc => ?_)
  · have h := (if_pos hc).symm.trans h
    refine g_sub [1, 2, 0] [(0, pR (some a0)), (1, pR a1), (3, pI v2)] rfl ?_
    exact wX16_one_L35 X hE hn fu   a0 a1 v2 M1 h
  · have h := (if_neg hc).symm.trans h
    refine g_aload_n X (pc := 13) 2 rfl rfl dX16_one_13 ?_
    obtain ⟨v4, ev4, h⟩ := bd h
    refine g_getI X (pc := 14) fk_12_5 rfl rfl ev4 tb_1585 dX16_one_14 ?_
    refine g_iload_n X (pc := 17) 0 rfl rfl dX16_one_17 ?_
    refine g_iadd X (pc := 18) dX16_one_18 ?_
    refine g_aload_n X (pc := 19) 2 rfl rfl dX16_one_19 ?_
    obtain ⟨q5, eq5, h⟩ := bd h
    obtain ⟨v7, M6, eM6, h⟩ := b2d h
    refine g_callV X (pc := 20) (M' := M6) (ro := some (pI v7)) (c := 12) rfl (by decide) (as := []) (as' := []) (st := [pI (v4 + v2)]) eq5 (ctX12_behind _ _ _ _ _ _ fu q5  M1 _ eM6) tb_2074 tb_2182 tb_2072 tb_2073 tb_9 ⟨rfl, hyX12_behind⟩ rfl rfl ⟨by decide, by decide⟩ (Nat.le_of_ble_eq_true rfl) dX16_one_20 ?_
    refine g_icmp_ne X (pc := 23) (tgt := 35) dX16_one_23 (by decide) (fun hc => ?_) (fun hc => ?_)
    · have h := (if_neg hc).symm.trans h
      refine g_sub [1, 2, 0] [(0, pR (some a0)), (1, pR a1), (3, pI v2)] rfl ?_
      exact wX16_one_L35 X hE hn fu   a0 a1 v2 M6 h
    · have h := (if_pos hc).symm.trans h
      refine g_iload_n X (pc := 26) 0 rfl rfl dX16_one_26 ?_
      refine g_iload_n X (pc := 27) 3 rfl rfl dX16_one_27 ?_
      refine g_icmp_ge X (pc := 28) (tgt := 35) dX16_one_28 (by decide) (fun hc => ?_) (fun hc => ?_)
      · have h := (if_pos hc).symm.trans h
        refine g_sub [1, 2, 0] [(0, pR (some a0)), (1, pR a1), (3, pI v2)] rfl ?_
        exact wX16_one_L35 X hE hn fu   a0 a1 v2 M6 h
      · have h := (if_neg hc).symm.trans h
        refine g_iconst X (pc := 31) (v := 1) dX16_one_31 (by decide) ?_
        refine g_goto X (pc := 32) (tgt := 36) dX16_one_32 (by decide) ?_
        refine g_sub [1, 2, 0] [(0, pR (some a0)), (1, pR a1), (3, pI v2)] rfl ?_
        exact wX16_one_L36 X hE hn fu   a0 a1 v2 (1 : Int32) M6 h
theorem hyX16_one : yX16_one.cls ≠ "java/lang/invoke/MethodHandle" ∧ yX16_one.cls ≠ "java/lang/invoke/VarHandle" ∧ (parseMethodDescriptor yX16_one.desc).map (fun d => d.parameters.length) = some 2 := ⟨by decide +kernel, by decide +kernel, by decide +kernel⟩
theorem ctX16_one (l : Launch) (E : Nat → Nat) (D : va_G) (dA : Nat → ClassId) (lo : Nat) (H0 : Heap) (fu : Nat) (a0 : Nat) (a1 : Option Nat) (a2 : Int32) (M : Mm) (out : Mm) (h : fX16_one fu a0 a1 a2 M = some out) : Ct l E D dA lo H0 yX16_one cX16_one 6 none 7 181 [pR (some a0), pR a1, pI a2] M none out := by
  refine ct_of (by decide +kernel) (Nat.le_of_ble_eq_true rfl) ?_
  intro x hl he hd ha ho hh hn hin X hE
  exact wX16_one X hE hn fu a0 a1 a2 M h
/-! WebHostModel.sendAll(LWebHostModel$Connection;)V -/
def fX16_sendAll_L172 (fu : Nat) (k17 : Nat → Option Nat → Int32 → Mm → Option (Mm)) (a0 : Nat) (a1 : Option Nat) (s0 : Int32) (M : Mm) : Option (Mm) :=
    k17 a0 a1 s0 M
def fX16_sendAll_L171 (fu : Nat) (k17 : Nat → Option Nat → Int32 → Mm → Option (Mm)) (a0 : Nat) (a1 : Option Nat)  (M : Mm) : Option (Mm) :=
    fX16_sendAll_L172 fu k17 a0 a1 (0 : Int32) M
def fX16_sendAll_L152 (fu : Nat) (k17 : Nat → Option Nat → Int32 → Mm → Option (Mm)) (a0 : Nat) (a1 : Option Nat) (a2 : Int32)  (M : Mm) : Option (Mm) :=
    if a2 = 0 then (
    fX16_sendAll_L171 fu k17 a0 a1 M)
    else (
    (gI M 12 773 a1).bind fun v1 =>
    (rc M 12 a1).bind fun q2 =>
    b2 (fX12_left fu q2 v1 M) fun v4 M3 =>
    if v4 ≤ 0 then (
    fX16_sendAll_L171 fu k17 a0 a1 M3)
    else (
    fX16_sendAll_L172 fu k17 a0 a1 (1 : Int32) M3))
def fX16_sendAll_L140 (fu : Nat) (k17 : Nat → Option Nat → Int32 → Mm → Option (Mm)) (a0 : Nat) (a1 : Option Nat) (a4 : Int32) (s0 : Int32) (M : Mm) : Option (Mm) :=
    if s0 = 0 then (
    fX16_sendAll_L152 fu k17 a0 a1 s0 M)
    else (
    (rc M 16 (some a0)).bind fun q1 =>
    (fX16_one fu q1 a1 a4 M).bind fun M2 =>
    fX16_sendAll_L152 fu k17 a0 a1 s0 M2)
def fX16_sendAll_L139 (fu : Nat) (k17 : Nat → Option Nat → Int32 → Mm → Option (Mm)) (a0 : Nat) (a1 : Option Nat) (a4 : Int32)  (M : Mm) : Option (Mm) :=
    fX16_sendAll_L140 fu k17 a0 a1 a4 (0 : Int32) M
def fX16_sendAll_L135 (fu : Nat) (k17 : Nat → Option Nat → Int32 → Mm → Option (Mm)) (a0 : Nat) (a1 : Option Nat) (a4 : Int32)  (M : Mm) : Option (Mm) :=
    fX16_sendAll_L140 fu k17 a0 a1 a4 (1 : Int32) M
def fX16_sendAll_L101 (fu : Nat) (k17 : Nat → Option Nat → Int32 → Mm → Option (Mm)) (a0 : Nat) (a1 : Option Nat) (a3 : Int32) (a4 : Int32) (a5 : Int32) (s0 : Int32) (s1 : Int32) (M : Mm) : Option (Mm) :=
    if (s0 + s1) ≤ 0 then (
    fX16_sendAll_L139 fu k17 a0 a1 a4 M)
    else (
    (gI M 12 778 a1).bind fun v1 =>
    if a5 = v1 then (
    fX16_sendAll_L135 fu k17 a0 a1 a4 M)
    else (
    (gI M 12 773 a1).bind fun v2 =>
    (rc M 12 a1).bind fun q3 =>
    b2 (fX12_left fu q3 v2 M) fun v5 M4 =>
    if (s0 + s1) = v5 then (
    fX16_sendAll_L135 fu k17 a0 a1 a4 M4)
    else (
    if a3 = 0 then (
    fX16_sendAll_L135 fu k17 a0 a1 a4 M4)
    else (
    fX16_sendAll_L139 fu k17 a0 a1 a4 M4))))
def fX16_sendAll_L87 (fu : Nat) (k17 : Nat → Option Nat → Int32 → Mm → Option (Mm)) (a0 : Nat) (a1 : Option Nat) (a3 : Int32) (a4 : Int32) (a5 : Int32) (s0 : Int32) (M : Mm) : Option (Mm) :=
    if s0 = 0 then (
    fX16_sendAll_L101 fu k17 a0 a1 a3 a4 a5 a5 (0 : Int32) M)
    else (
    fX16_sendAll_L101 fu k17 a0 a1 a3 a4 a5 a5 (1 : Int32) M)
def fX16_sendAll_L86 (fu : Nat) (k17 : Nat → Option Nat → Int32 → Mm → Option (Mm)) (a0 : Nat) (a1 : Option Nat) (a3 : Int32) (a4 : Int32) (a5 : Int32)  (M : Mm) : Option (Mm) :=
    fX16_sendAll_L87 fu k17 a0 a1 a3 a4 a5 (0 : Int32) M
def fX16_sendAll_L17 (fu : Nat)  : Nat → Nat → Option Nat → Int32 → Mm → Option (Mm)
  | 0, _, _, _, _ => none
  | n + 1, a0, a1, a2, M =>
    if a2 = 0 then (
    (gI M 12 773 a1).bind fun v1 =>
    (rc M 12 a1).bind fun q2 =>
    b2 (fX12_left fu q2 v1 M) fun v4 M3 =>
    if v4 ≤ 0 then (
    some M3)
    else (
    (gI M3 12 773 a1).bind fun v5 =>
    (gI M3 12 772 a1).bind fun v6 =>
    if v5 = v6 then (
    (gI M3 12 775 a1).bind fun v7 =>
    if v7 = 0 then (
    (gI M3 12 789 a1).bind fun v8 =>
    if v8 = 0 then (
    (rc M3 16 (some a0)).bind fun q9 =>
    (fX16_timerSet fu q9 a1 M3).bind fun M10 =>
    some M10)
    else (
    some M3))
    else (
    some M3))
    else (
    some M3)))
    else (
    (gI M 12 773 a1).bind fun v11 =>
    (gI M 12 772 a1).bind fun v12 =>
    (gI M 12 779 a1).bind fun v13 =>
    (gI M 12 775 a1).bind fun v14 =>
    b2 (fX16_dataWithin fu  a1 ((jmin v13 v14) - (v11 - v12)) M) fun v16 M15 =>
    (gI M15 12 798 a1).bind fun v17 =>
    if v17 = 0 then (
    fX16_sendAll_L86 fu (fun b0 b1 b2 M => fX16_sendAll_L17 fu  n b0 b1 b2 M) a0 a1 (v11 - v12) ((jmin v13 v14) - (v11 - v12)) v16 M15)
    else (
    (gI M15 12 773 a1).bind fun v18 =>
    (rc M15 12 a1).bind fun q19 =>
    b2 (fX12_behind fu q19  M15) fun v21 M20 =>
    if (v18 + v16) = v21 then (
    if ((jmin v13 v14) - (v11 - v12)) ≤ v16 then (
    fX16_sendAll_L86 fu (fun b0 b1 b2 M => fX16_sendAll_L17 fu  n b0 b1 b2 M) a0 a1 (v11 - v12) ((jmin v13 v14) - (v11 - v12)) v16 M20)
    else (
    fX16_sendAll_L87 fu (fun b0 b1 b2 M => fX16_sendAll_L17 fu  n b0 b1 b2 M) a0 a1 (v11 - v12) ((jmin v13 v14) - (v11 - v12)) v16 (1 : Int32) M20))
    else (
    fX16_sendAll_L86 fu (fun b0 b1 b2 M => fX16_sendAll_L17 fu  n b0 b1 b2 M) a0 a1 (v11 - v12) ((jmin v13 v14) - (v11 - v12)) v16 M20)))
def fX16_sendAll_L16 (fu : Nat)  (a0 : Nat) (a1 : Option Nat) (s0 : Int32) (M : Mm) : Option (Mm) :=
    fX16_sendAll_L17 fu  fu a0 a1 s0 M
def fX16_sendAll (fu : Nat)  (a0 : Nat) (a1 : Option Nat)  (M : Mm) : Option (Mm) :=
    (gI M 12 773 a1).bind fun v1 =>
    (rc M 12 a1).bind fun q2 =>
    b2 (fX12_left fu q2 v1 M) fun v4 M3 =>
    if v4 ≤ 0 then (
    fX16_sendAll_L16 fu  a0 a1 (0 : Int32) M3)
    else (
    fX16_sendAll_L16 fu  a0 a1 (1 : Int32) M3)
theorem dX16_sendAll_0 : decode cX16_sendAll 0 = .ok (.aload_n 1, 1) := by decide +kernel
theorem dX16_sendAll_1 : decode cX16_sendAll 1 = .ok (.aload_n 1, 1) := by decide +kernel
theorem dX16_sendAll_2 : decode cX16_sendAll 2 = .ok (.getfield 345, 3) := by decide +kernel
theorem dX16_sendAll_5 : decode cX16_sendAll 5 = .ok (.invokevirtual 425, 3) := by decide +kernel
theorem dX16_sendAll_8 : decode cX16_sendAll 8 = .ok (.ifCond .le 7, 3) := by decide +kernel
theorem dX16_sendAll_11 : decode cX16_sendAll 11 = .ok (.iconst 1, 1) := by decide +kernel
theorem dX16_sendAll_12 : decode cX16_sendAll 12 = .ok (.goto 4, 3) := by decide +kernel
theorem dX16_sendAll_15 : decode cX16_sendAll 15 = .ok (.iconst 0, 1) := by decide +kernel
theorem dX16_sendAll_16 : decode cX16_sendAll 16 = .ok (.istore_n 2, 1) := by decide +kernel
theorem dX16_sendAll_17 : decode cX16_sendAll 17 = .ok (.iload_n 2, 1) := by decide +kernel
theorem dX16_sendAll_18 : decode cX16_sendAll 18 = .ok (.ifCond .eq 158, 3) := by decide +kernel
theorem dX16_sendAll_21 : decode cX16_sendAll 21 = .ok (.aload_n 1, 1) := by decide +kernel
theorem dX16_sendAll_22 : decode cX16_sendAll 22 = .ok (.getfield 345, 3) := by decide +kernel
theorem dX16_sendAll_25 : decode cX16_sendAll 25 = .ok (.aload_n 1, 1) := by decide +kernel
theorem dX16_sendAll_26 : decode cX16_sendAll 26 = .ok (.getfield 428, 3) := by decide +kernel
theorem dX16_sendAll_29 : decode cX16_sendAll 29 = .ok (.isub, 1) := by decide +kernel
theorem dX16_sendAll_30 : decode cX16_sendAll 30 = .ok (.istore_n 3, 1) := by decide +kernel
theorem dX16_sendAll_31 : decode cX16_sendAll 31 = .ok (.aload_n 1, 1) := by decide +kernel
theorem dX16_sendAll_32 : decode cX16_sendAll 32 = .ok (.getfield 431, 3) := by decide +kernel
theorem dX16_sendAll_35 : decode cX16_sendAll 35 = .ok (.aload_n 1, 1) := by decide +kernel
theorem dX16_sendAll_36 : decode cX16_sendAll 36 = .ok (.getfield 434, 3) := by decide +kernel
theorem dX16_sendAll_39 : decode cX16_sendAll 39 = .ok (.invokestatic 411, 3) := by decide +kernel
theorem dX16_sendAll_42 : decode cX16_sendAll 42 = .ok (.iload_n 3, 1) := by decide +kernel
theorem dX16_sendAll_43 : decode cX16_sendAll 43 = .ok (.isub, 1) := by decide +kernel
theorem dX16_sendAll_44 : decode cX16_sendAll 44 = .ok (.istore 4, 2) := by decide +kernel
theorem dX16_sendAll_46 : decode cX16_sendAll 46 = .ok (.aload_n 1, 1) := by decide +kernel
theorem dX16_sendAll_47 : decode cX16_sendAll 47 = .ok (.iload 4, 2) := by decide +kernel
theorem dX16_sendAll_49 : decode cX16_sendAll 49 = .ok (.invokestatic 414, 3) := by decide +kernel
theorem dX16_sendAll_52 : decode cX16_sendAll 52 = .ok (.istore 5, 2) := by decide +kernel
theorem dX16_sendAll_54 : decode cX16_sendAll 54 = .ok (.aload_n 1, 1) := by decide +kernel
theorem dX16_sendAll_55 : decode cX16_sendAll 55 = .ok (.getfield 418, 3) := by decide +kernel
theorem dX16_sendAll_58 : decode cX16_sendAll 58 = .ok (.ifCond .eq 28, 3) := by decide +kernel
theorem dX16_sendAll_61 : decode cX16_sendAll 61 = .ok (.aload_n 1, 1) := by decide +kernel
theorem dX16_sendAll_62 : decode cX16_sendAll 62 = .ok (.getfield 345, 3) := by decide +kernel
theorem dX16_sendAll_65 : decode cX16_sendAll 65 = .ok (.iload 5, 2) := by decide +kernel
theorem dX16_sendAll_67 : decode cX16_sendAll 67 = .ok (.iadd, 1) := by decide +kernel
theorem dX16_sendAll_68 : decode cX16_sendAll 68 = .ok (.aload_n 1, 1) := by decide +kernel
theorem dX16_sendAll_69 : decode cX16_sendAll 69 = .ok (.invokevirtual 402, 3) := by decide +kernel
theorem dX16_sendAll_72 : decode cX16_sendAll 72 = .ok (.if_icmp .ne 14, 3) := by decide +kernel
theorem dX16_sendAll_75 : decode cX16_sendAll 75 = .ok (.iload 5, 2) := by decide +kernel
theorem dX16_sendAll_77 : decode cX16_sendAll 77 = .ok (.iload 4, 2) := by decide +kernel
theorem dX16_sendAll_79 : decode cX16_sendAll 79 = .ok (.if_icmp .ge 7, 3) := by decide +kernel
theorem dX16_sendAll_82 : decode cX16_sendAll 82 = .ok (.iconst 1, 1) := by decide +kernel
theorem dX16_sendAll_83 : decode cX16_sendAll 83 = .ok (.goto 4, 3) := by decide +kernel
theorem dX16_sendAll_86 : decode cX16_sendAll 86 = .ok (.iconst 0, 1) := by decide +kernel
theorem dX16_sendAll_87 : decode cX16_sendAll 87 = .ok (.istore 6, 2) := by decide +kernel
theorem dX16_sendAll_89 : decode cX16_sendAll 89 = .ok (.iload 5, 2) := by decide +kernel
theorem dX16_sendAll_91 : decode cX16_sendAll 91 = .ok (.iload 6, 2) := by decide +kernel
theorem dX16_sendAll_93 : decode cX16_sendAll 93 = .ok (.ifCond .eq 7, 3) := by decide +kernel
theorem dX16_sendAll_96 : decode cX16_sendAll 96 = .ok (.iconst 1, 1) := by decide +kernel
theorem dX16_sendAll_97 : decode cX16_sendAll 97 = .ok (.goto 4, 3) := by decide +kernel
theorem dX16_sendAll_100 : decode cX16_sendAll 100 = .ok (.iconst 0, 1) := by decide +kernel
theorem dX16_sendAll_101 : decode cX16_sendAll 101 = .ok (.iadd, 1) := by decide +kernel
theorem dX16_sendAll_102 : decode cX16_sendAll 102 = .ok (.istore 7, 2) := by decide +kernel
theorem dX16_sendAll_104 : decode cX16_sendAll 104 = .ok (.iload 7, 2) := by decide +kernel
theorem dX16_sendAll_106 : decode cX16_sendAll 106 = .ok (.ifCond .le 33, 3) := by decide +kernel
theorem dX16_sendAll_109 : decode cX16_sendAll 109 = .ok (.iload 5, 2) := by decide +kernel
theorem dX16_sendAll_111 : decode cX16_sendAll 111 = .ok (.aload_n 1, 1) := by decide +kernel
theorem dX16_sendAll_112 : decode cX16_sendAll 112 = .ok (.getfield 405, 3) := by decide +kernel
theorem dX16_sendAll_115 : decode cX16_sendAll 115 = .ok (.if_icmp .eq 20, 3) := by decide +kernel
theorem dX16_sendAll_118 : decode cX16_sendAll 118 = .ok (.iload 7, 2) := by decide +kernel
theorem dX16_sendAll_120 : decode cX16_sendAll 120 = .ok (.aload_n 1, 1) := by decide +kernel
theorem dX16_sendAll_121 : decode cX16_sendAll 121 = .ok (.aload_n 1, 1) := by decide +kernel
theorem dX16_sendAll_122 : decode cX16_sendAll 122 = .ok (.getfield 345, 3) := by decide +kernel
theorem dX16_sendAll_125 : decode cX16_sendAll 125 = .ok (.invokevirtual 425, 3) := by decide +kernel
theorem dX16_sendAll_128 : decode cX16_sendAll 128 = .ok (.if_icmp .eq 7, 3) := by decide +kernel
theorem dX16_sendAll_131 : decode cX16_sendAll 131 = .ok (.iload_n 3, 1) := by decide +kernel
theorem dX16_sendAll_132 : decode cX16_sendAll 132 = .ok (.ifCond .ne 7, 3) := by decide +kernel
theorem dX16_sendAll_135 : decode cX16_sendAll 135 = .ok (.iconst 1, 1) := by decide +kernel
theorem dX16_sendAll_136 : decode cX16_sendAll 136 = .ok (.goto 4, 3) := by decide +kernel
theorem dX16_sendAll_139 : decode cX16_sendAll 139 = .ok (.iconst 0, 1) := by decide +kernel
theorem dX16_sendAll_140 : decode cX16_sendAll 140 = .ok (.istore_n 2, 1) := by decide +kernel
theorem dX16_sendAll_141 : decode cX16_sendAll 141 = .ok (.iload_n 2, 1) := by decide +kernel
theorem dX16_sendAll_142 : decode cX16_sendAll 142 = .ok (.ifCond .eq 10, 3) := by decide +kernel
theorem dX16_sendAll_145 : decode cX16_sendAll 145 = .ok (.aload_n 0, 1) := by decide +kernel
theorem dX16_sendAll_146 : decode cX16_sendAll 146 = .ok (.aload_n 1, 1) := by decide +kernel
theorem dX16_sendAll_147 : decode cX16_sendAll 147 = .ok (.iload 4, 2) := by decide +kernel
theorem dX16_sendAll_149 : decode cX16_sendAll 149 = .ok (.invokevirtual 435, 3) := by decide +kernel
theorem dX16_sendAll_152 : decode cX16_sendAll 152 = .ok (.iload_n 2, 1) := by decide +kernel
theorem dX16_sendAll_153 : decode cX16_sendAll 153 = .ok (.ifCond .eq 18, 3) := by decide +kernel
theorem dX16_sendAll_156 : decode cX16_sendAll 156 = .ok (.aload_n 1, 1) := by decide +kernel
theorem dX16_sendAll_157 : decode cX16_sendAll 157 = .ok (.aload_n 1, 1) := by decide +kernel
theorem dX16_sendAll_158 : decode cX16_sendAll 158 = .ok (.getfield 345, 3) := by decide +kernel
theorem dX16_sendAll_161 : decode cX16_sendAll 161 = .ok (.invokevirtual 425, 3) := by decide +kernel
theorem dX16_sendAll_164 : decode cX16_sendAll 164 = .ok (.ifCond .le 7, 3) := by decide +kernel
theorem dX16_sendAll_167 : decode cX16_sendAll 167 = .ok (.iconst 1, 1) := by decide +kernel
theorem dX16_sendAll_168 : decode cX16_sendAll 168 = .ok (.goto 4, 3) := by decide +kernel
theorem dX16_sendAll_171 : decode cX16_sendAll 171 = .ok (.iconst 0, 1) := by decide +kernel
theorem dX16_sendAll_172 : decode cX16_sendAll 172 = .ok (.istore_n 2, 1) := by decide +kernel
theorem dX16_sendAll_173 : decode cX16_sendAll 173 = .ok (.goto (-156), 3) := by decide +kernel
theorem dX16_sendAll_176 : decode cX16_sendAll 176 = .ok (.aload_n 1, 1) := by decide +kernel
theorem dX16_sendAll_177 : decode cX16_sendAll 177 = .ok (.aload_n 1, 1) := by decide +kernel
theorem dX16_sendAll_178 : decode cX16_sendAll 178 = .ok (.getfield 345, 3) := by decide +kernel
theorem dX16_sendAll_181 : decode cX16_sendAll 181 = .ok (.invokevirtual 425, 3) := by decide +kernel
theorem dX16_sendAll_184 : decode cX16_sendAll 184 = .ok (.ifCond .le 33, 3) := by decide +kernel
theorem dX16_sendAll_187 : decode cX16_sendAll 187 = .ok (.aload_n 1, 1) := by decide +kernel
theorem dX16_sendAll_188 : decode cX16_sendAll 188 = .ok (.getfield 345, 3) := by decide +kernel
theorem dX16_sendAll_191 : decode cX16_sendAll 191 = .ok (.aload_n 1, 1) := by decide +kernel
theorem dX16_sendAll_192 : decode cX16_sendAll 192 = .ok (.getfield 428, 3) := by decide +kernel
theorem dX16_sendAll_195 : decode cX16_sendAll 195 = .ok (.if_icmp .ne 22, 3) := by decide +kernel
theorem dX16_sendAll_198 : decode cX16_sendAll 198 = .ok (.aload_n 1, 1) := by decide +kernel
theorem dX16_sendAll_199 : decode cX16_sendAll 199 = .ok (.getfield 434, 3) := by decide +kernel
theorem dX16_sendAll_202 : decode cX16_sendAll 202 = .ok (.ifCond .ne 15, 3) := by decide +kernel
theorem dX16_sendAll_205 : decode cX16_sendAll 205 = .ok (.aload_n 1, 1) := by decide +kernel
theorem dX16_sendAll_206 : decode cX16_sendAll 206 = .ok (.getfield 376, 3) := by decide +kernel
theorem dX16_sendAll_209 : decode cX16_sendAll 209 = .ok (.ifCond .ne 8, 3) := by decide +kernel
theorem dX16_sendAll_212 : decode cX16_sendAll 212 = .ok (.aload_n 0, 1) := by decide +kernel
theorem dX16_sendAll_213 : decode cX16_sendAll 213 = .ok (.aload_n 1, 1) := by decide +kernel
theorem dX16_sendAll_214 : decode cX16_sendAll 214 = .ok (.invokevirtual 379, 3) := by decide +kernel
theorem dX16_sendAll_217 : decode cX16_sendAll 217 = .ok (.return_, 1) := by decide +kernel
theorem wX16_sendAll_L172 {x : GX} {n0 sl0 : Nat} (X : Cx x cX16_sendAll RX16 none n0 sl0 8 206) {out : Mm} (hE : Ends x n0 sl0 none out) (hn : xn x = 8) (fu : Nat) (k17 : Nat → Option Nat → Int32 → Mm → Option (Mm)) (hk17 : ∀ (b0 : Nat) (b1 : Option Nat) (b2 : Int32)  (M : Mm), k17 b0 b1 b2 M = some out → Gw x M 17 [(0, pR (some b0)), (1, pR b1), (2, pI b2)] []) (a0 : Nat) (a1 : Option Nat) (s0 : Int32) (M : Mm) (h : fX16_sendAll_L172 fu k17 a0 a1 s0 M = some out) : Gw x M 172 [(0, pR (some a0)), (1, pR a1)] [pI s0] := by
  unfold fX16_sendAll_L172 at h
  refine g_istore_n X (pc := 172) [(2, pI s0), (0, pR (some a0)), (1, pR a1)] rfl (lt_n hn (by decide)) rfl dX16_sendAll_172 ?_
  refine g_goto X (pc := 173) (tgt := 17) dX16_sendAll_173 (by decide) ?_
  refine g_sub [1, 2, 0] [(0, pR (some a0)), (1, pR a1), (2, pI s0)] rfl ?_
  exact hk17 a0 a1 s0 M h
theorem wX16_sendAll_L171 {x : GX} {n0 sl0 : Nat} (X : Cx x cX16_sendAll RX16 none n0 sl0 8 206) {out : Mm} (hE : Ends x n0 sl0 none out) (hn : xn x = 8) (fu : Nat) (k17 : Nat → Option Nat → Int32 → Mm → Option (Mm)) (hk17 : ∀ (b0 : Nat) (b1 : Option Nat) (b2 : Int32)  (M : Mm), k17 b0 b1 b2 M = some out → Gw x M 17 [(0, pR (some b0)), (1, pR b1), (2, pI b2)] []) (a0 : Nat) (a1 : Option Nat)  (M : Mm) (h : fX16_sendAll_L171 fu k17 a0 a1 M = some out) : Gw x M 171 [(0, pR (some a0)), (1, pR a1)] [] := by
  unfold fX16_sendAll_L171 at h
  refine g_iconst X (pc := 171) (v := 0) dX16_sendAll_171 (by decide) ?_
  exact wX16_sendAll_L172 X hE hn fu k17 hk17 a0 a1 (0 : Int32) M h
theorem wX16_sendAll_L152 {x : GX} {n0 sl0 : Nat} (X : Cx x cX16_sendAll RX16 none n0 sl0 8 206) {out : Mm} (hE : Ends x n0 sl0 none out) (hn : xn x = 8) (fu : Nat) (k17 : Nat → Option Nat → Int32 → Mm → Option (Mm)) (hk17 : ∀ (b0 : Nat) (b1 : Option Nat) (b2 : Int32)  (M : Mm), k17 b0 b1 b2 M = some out → Gw x M 17 [(0, pR (some b0)), (1, pR b1), (2, pI b2)] []) (a0 : Nat) (a1 : Option Nat) (a2 : Int32)  (M : Mm) (h : fX16_sendAll_L152 fu k17 a0 a1 a2 M = some out) : Gw x M 152 [(0, pR (some a0)), (1, pR a1), (2, pI a2)] [] := by
  unfold fX16_sendAll_L152 at h
  refine g_iload_n X (pc := 152) 2 rfl rfl dX16_sendAll_152 ?_
  refine g_if_eq X (pc := 153) (tgt := 171) dX16_sendAll_153 (by decide) (fun hc => ?_) (fun hc => ?_)
  · have h := (if_pos hc).symm.trans h
    refine g_sub [0, 1] [(0, pR (some a0)), (1, pR a1)] rfl ?_
    exact wX16_sendAll_L171 X hE hn fu k17 hk17 a0 a1 M h
  · have h := (if_neg hc).symm.trans h
    refine g_aload_n X (pc := 156) 1 rfl rfl dX16_sendAll_156 ?_
    refine g_aload_n X (pc := 157) 1 rfl rfl dX16_sendAll_157 ?_
    obtain ⟨v1, ev1, h⟩ := bd h
    refine g_getI X (pc := 158) fk_12_5 rfl rfl ev1 tb_1585 dX16_sendAll_158 ?_
    obtain ⟨q2, eq2, h⟩ := bd h
    obtain ⟨v4, M3, eM3, h⟩ := b2d h
    refine g_callV X (pc := 161) (M' := M3) (ro := some (pI v4)) (c := 12) rfl (by decide) (as := [pI v1]) (as' := [pI v1]) (st := []) eq2 (ctX12_left _ _ _ _ _ _ fu q2 v1 M _ eM3) tb_2070 tb_2067 tb_2068 tb_2069 tb_9 ⟨rfl, hyX12_left⟩ rfl rfl ⟨by decide, by decide⟩ (Nat.le_of_ble_eq_true rfl) dX16_sendAll_161 ?_
    refine g_if_le X (pc := 164) (tgt := 171) dX16_sendAll_164 (by decide) (fun hc => ?_) (fun hc => ?_)
    · have h := (if_pos hc).symm.trans h
      refine g_sub [0, 1] [(0, pR (some a0)), (1, pR a1)] rfl ?_
      exact wX16_sendAll_L171 X hE hn fu k17 hk17 a0 a1 M3 h
    · have h := (if_neg hc).symm.trans h
      refine g_iconst X (pc := 167) (v := 1) dX16_sendAll_167 (by decide) ?_
      refine g_goto X (pc := 168) (tgt := 172) dX16_sendAll_168 (by decide) ?_
      refine g_sub [0, 1] [(0, pR (some a0)), (1, pR a1)] rfl ?_
      exact wX16_sendAll_L172 X hE hn fu k17 hk17 a0 a1 (1 : Int32) M3 h
theorem wX16_sendAll_L140 {x : GX} {n0 sl0 : Nat} (X : Cx x cX16_sendAll RX16 none n0 sl0 8 206) {out : Mm} (hE : Ends x n0 sl0 none out) (hn : xn x = 8) (fu : Nat) (k17 : Nat → Option Nat → Int32 → Mm → Option (Mm)) (hk17 : ∀ (b0 : Nat) (b1 : Option Nat) (b2 : Int32)  (M : Mm), k17 b0 b1 b2 M = some out → Gw x M 17 [(0, pR (some b0)), (1, pR b1), (2, pI b2)] []) (a0 : Nat) (a1 : Option Nat) (a4 : Int32) (s0 : Int32) (M : Mm) (h : fX16_sendAll_L140 fu k17 a0 a1 a4 s0 M = some out) : Gw x M 140 [(0, pR (some a0)), (1, pR a1), (4, pI a4)] [pI s0] := by
  unfold fX16_sendAll_L140 at h
  refine g_istore_n X (pc := 140) [(2, pI s0), (0, pR (some a0)), (1, pR a1), (4, pI a4)] rfl (lt_n hn (by decide)) rfl dX16_sendAll_140 ?_
  refine g_iload_n X (pc := 141) 0 rfl rfl dX16_sendAll_141 ?_
  refine g_if_eq X (pc := 142) (tgt := 152) dX16_sendAll_142 (by decide) (fun hc => ?_) (fun hc => ?_)
  · have h := (if_pos hc).symm.trans h
    refine g_sub [1, 2, 0] [(0, pR (some a0)), (1, pR a1), (2, pI s0)] rfl ?_
    exact wX16_sendAll_L152 X hE hn fu k17 hk17 a0 a1 s0 M h
  · have h := (if_neg hc).symm.trans h
    refine g_aload_n X (pc := 145) 1 rfl rfl dX16_sendAll_145 ?_
    refine g_aload_n X (pc := 146) 2 rfl rfl dX16_sendAll_146 ?_
    refine g_iload X (pc := 147) 3 rfl dX16_sendAll_147 ?_
    obtain ⟨q1, eq1, h⟩ := bd h
    obtain ⟨M2, eM2, h⟩ := bd h
    refine g_callV X (pc := 149) (M' := M2) (ro := none) (c := 16) rfl (by decide) (as := [pR a1, pI a4]) (as' := [pI a4, pR a1]) (st := []) eq1 (ctX16_one _ _ _ _ _ _ fu q1 a1 a4 M _ eM2) tb_2178 tb_2175 tb_2177 ts_87 tb_8 ⟨rfl, hyX16_one⟩ rfl rfl ⟨by decide, by decide⟩ (Nat.le_of_ble_eq_true rfl) dX16_sendAll_149 ?_
    refine g_sub [1, 2, 0] [(0, pR (some a0)), (1, pR a1), (2, pI s0)] rfl ?_
    exact wX16_sendAll_L152 X hE hn fu k17 hk17 a0 a1 s0 M2 h
theorem wX16_sendAll_L139 {x : GX} {n0 sl0 : Nat} (X : Cx x cX16_sendAll RX16 none n0 sl0 8 206) {out : Mm} (hE : Ends x n0 sl0 none out) (hn : xn x = 8) (fu : Nat) (k17 : Nat → Option Nat → Int32 → Mm → Option (Mm)) (hk17 : ∀ (b0 : Nat) (b1 : Option Nat) (b2 : Int32)  (M : Mm), k17 b0 b1 b2 M = some out → Gw x M 17 [(0, pR (some b0)), (1, pR b1), (2, pI b2)] []) (a0 : Nat) (a1 : Option Nat) (a4 : Int32)  (M : Mm) (h : fX16_sendAll_L139 fu k17 a0 a1 a4 M = some out) : Gw x M 139 [(0, pR (some a0)), (1, pR a1), (4, pI a4)] [] := by
  unfold fX16_sendAll_L139 at h
  refine g_iconst X (pc := 139) (v := 0) dX16_sendAll_139 (by decide) ?_
  exact wX16_sendAll_L140 X hE hn fu k17 hk17 a0 a1 a4 (0 : Int32) M h
theorem wX16_sendAll_L135 {x : GX} {n0 sl0 : Nat} (X : Cx x cX16_sendAll RX16 none n0 sl0 8 206) {out : Mm} (hE : Ends x n0 sl0 none out) (hn : xn x = 8) (fu : Nat) (k17 : Nat → Option Nat → Int32 → Mm → Option (Mm)) (hk17 : ∀ (b0 : Nat) (b1 : Option Nat) (b2 : Int32)  (M : Mm), k17 b0 b1 b2 M = some out → Gw x M 17 [(0, pR (some b0)), (1, pR b1), (2, pI b2)] []) (a0 : Nat) (a1 : Option Nat) (a4 : Int32)  (M : Mm) (h : fX16_sendAll_L135 fu k17 a0 a1 a4 M = some out) : Gw x M 135 [(0, pR (some a0)), (1, pR a1), (4, pI a4)] [] := by
  unfold fX16_sendAll_L135 at h
  refine g_iconst X (pc := 135) (v := 1) dX16_sendAll_135 (by decide) ?_
  refine g_goto X (pc := 136) (tgt := 140) dX16_sendAll_136 (by decide) ?_
  exact wX16_sendAll_L140 X hE hn fu k17 hk17 a0 a1 a4 (1 : Int32) M h
theorem wX16_sendAll_L101 {x : GX} {n0 sl0 : Nat} (X : Cx x cX16_sendAll RX16 none n0 sl0 8 206) {out : Mm} (hE : Ends x n0 sl0 none out) (hn : xn x = 8) (fu : Nat) (k17 : Nat → Option Nat → Int32 → Mm → Option (Mm)) (hk17 : ∀ (b0 : Nat) (b1 : Option Nat) (b2 : Int32)  (M : Mm), k17 b0 b1 b2 M = some out → Gw x M 17 [(0, pR (some b0)), (1, pR b1), (2, pI b2)] []) (a0 : Nat) (a1 : Option Nat) (a3 : Int32) (a4 : Int32) (a5 : Int32) (s0 : Int32) (s1 : Int32) (M : Mm) (h : fX16_sendAll_L101 fu k17 a0 a1 a3 a4 a5 s0 s1 M = some out) : Gw x M 101 [(0, pR (some a0)), (1, pR a1), (3, pI a3), (4, pI a4), (5, pI a5)] [pI s1, pI s0] := by
  unfold fX16_sendAll_L101 at h
  refine g_iadd X (pc := 101) dX16_sendAll_101 ?_
  refine g_istore X (pc := 102) [(7, pI (s0 + s1)), (0, pR (some a0)), (1, pR a1), (3, pI a3), (4, pI a4), (5, pI a5)] (lt_n hn (by decide)) rfl dX16_sendAll_102 ?_
  refine g_iload X (pc := 104) 0 rfl dX16_sendAll_104 ?_
  refine g_if_le X (pc := 106) (tgt := 139) dX16_sendAll_106 (by decide) (fun hc => ?_) (fun hc => ?_)
  · have h := (if_pos hc).symm.trans h
    refine g_sub [1, 2, 4] [(0, pR (some a0)), (1, pR a1), (4, pI a4)] rfl ?_
    exact wX16_sendAll_L139 X hE hn fu k17 hk17 a0 a1 a4 M h
  · have h := (if_neg hc).symm.trans h
    refine g_iload X (pc := 109) 5 rfl dX16_sendAll_109 ?_
    refine g_aload_n X (pc := 111) 2 rfl rfl dX16_sendAll_111 ?_
    obtain ⟨v1, ev1, h⟩ := bd h
    refine g_getI X (pc := 112) fk_12_10 rfl rfl ev1 tb_1590 dX16_sendAll_112 ?_
    refine g_icmp_eq X (pc := 115) (tgt := 135) dX16_sendAll_115 (by decide) (fun hc => ?_) (fun hc => ?_)
    · have h := (if_pos hc).symm.trans h
      refine g_sub [1, 2, 4] [(0, pR (some a0)), (1, pR a1), (4, pI a4)] rfl ?_
      exact wX16_sendAll_L135 X hE hn fu k17 hk17 a0 a1 a4 M h
    · have h := (if_neg hc).symm.trans h
      refine g_iload X (pc := 118) 0 rfl dX16_sendAll_118 ?_
      refine g_aload_n X (pc := 120) 2 rfl rfl dX16_sendAll_120 ?_
      refine g_aload_n X (pc := 121) 2 rfl rfl dX16_sendAll_121 ?_
      obtain ⟨v2, ev2, h⟩ := bd h
      refine g_getI X (pc := 122) fk_12_5 rfl rfl ev2 tb_1585 dX16_sendAll_122 ?_
      obtain ⟨q3, eq3, h⟩ := bd h
      obtain ⟨v5, M4, eM4, h⟩ := b2d h
      refine g_callV X (pc := 125) (M' := M4) (ro := some (pI v5)) (c := 12) rfl (by decide) (as := [pI v2]) (as' := [pI v2]) (st := [pI (s0 + s1)]) eq3 (ctX12_left _ _ _ _ _ _ fu q3 v2 M _ eM4) tb_2070 tb_2067 tb_2068 tb_2069 tb_9 ⟨rfl, hyX12_left⟩ rfl rfl ⟨by decide, by decide⟩ (Nat.le_of_ble_eq_true rfl) dX16_sendAll_125 ?_
      refine g_icmp_eq X (pc := 128) (tgt := 135) dX16_sendAll_128 (by decide) (fun hc => ?_) (fun hc => ?_)
      · have h := (if_pos hc).symm.trans h
        refine g_sub [1, 2, 4] [(0, pR (some a0)), (1, pR a1), (4, pI a4)] rfl ?_
        exact wX16_sendAll_L135 X hE hn fu k17 hk17 a0 a1 a4 M4 h
      · have h := (if_neg hc).symm.trans h
        refine g_iload_n X (pc := 131) 3 rfl rfl dX16_sendAll_131 ?_
        refine g_if_ne X (pc := 132) (tgt := 139) dX16_sendAll_132 (by decide) (fun hc => ?_) (fun hc => ?_)
        · have h := (if_neg hc).symm.trans h
          refine g_sub [1, 2, 4] [(0, pR (some a0)), (1, pR a1), (4, pI a4)] rfl ?_
          exact wX16_sendAll_L139 X hE hn fu k17 hk17 a0 a1 a4 M4 h
        · have h := (if_pos hc).symm.trans h
          refine g_sub [1, 2, 4] [(0, pR (some a0)), (1, pR a1), (4, pI a4)] rfl ?_
          exact wX16_sendAll_L135 X hE hn fu k17 hk17 a0 a1 a4 M4 h
theorem wX16_sendAll_L87 {x : GX} {n0 sl0 : Nat} (X : Cx x cX16_sendAll RX16 none n0 sl0 8 206) {out : Mm} (hE : Ends x n0 sl0 none out) (hn : xn x = 8) (fu : Nat) (k17 : Nat → Option Nat → Int32 → Mm → Option (Mm)) (hk17 : ∀ (b0 : Nat) (b1 : Option Nat) (b2 : Int32)  (M : Mm), k17 b0 b1 b2 M = some out → Gw x M 17 [(0, pR (some b0)), (1, pR b1), (2, pI b2)] []) (a0 : Nat) (a1 : Option Nat) (a3 : Int32) (a4 : Int32) (a5 : Int32) (s0 : Int32) (M : Mm) (h : fX16_sendAll_L87 fu k17 a0 a1 a3 a4 a5 s0 M = some out) : Gw x M 87 [(0, pR (some a0)), (1, pR a1), (3, pI a3), (4, pI a4), (5, pI a5)] [pI s0] := by
  unfold fX16_sendAll_L87 at h
  refine g_istore X (pc := 87) [(6, pI s0), (0, pR (some a0)), (1, pR a1), (3, pI a3), (4, pI a4), (5, pI a5)] (lt_n hn (by decide)) rfl dX16_sendAll_87 ?_
  refine g_iload X (pc := 89) 5 rfl dX16_sendAll_89 ?_
  refine g_iload X (pc := 91) 0 rfl dX16_sendAll_91 ?_
  refine g_if_eq X (pc := 93) (tgt := 100) dX16_sendAll_93 (by decide) (fun hc => ?_) (fun hc => ?_)
  · have h := (if_pos hc).symm.trans h
    refine g_iconst X (pc := 100) (v := 0) dX16_sendAll_100 (by decide) ?_
    refine g_sub [1, 2, 3, 4, 5] [(0, pR (some a0)), (1, pR a1), (3, pI a3), (4, pI a4), (5, pI a5)] rfl ?_
    exact wX16_sendAll_L101 X hE hn fu k17 hk17 a0 a1 a3 a4 a5 a5 (0 : Int32) M h
  · have h := (if_neg hc).symm.trans h
    refine g_iconst X (pc := 96) (v := 1) dX16_sendAll_96 (by decide) ?_
    refine g_goto X (pc := 97) (tgt := 101) dX16_sendAll_97 (by decide) ?_
    refine g_sub [1, 2, 3, 4, 5] [(0, pR (some a0)), (1, pR a1), (3, pI a3), (4, pI a4), (5, pI a5)] rfl ?_
    exact wX16_sendAll_L101 X hE hn fu k17 hk17 a0 a1 a3 a4 a5 a5 (1 : Int32) M h
theorem wX16_sendAll_L86 {x : GX} {n0 sl0 : Nat} (X : Cx x cX16_sendAll RX16 none n0 sl0 8 206) {out : Mm} (hE : Ends x n0 sl0 none out) (hn : xn x = 8) (fu : Nat) (k17 : Nat → Option Nat → Int32 → Mm → Option (Mm)) (hk17 : ∀ (b0 : Nat) (b1 : Option Nat) (b2 : Int32)  (M : Mm), k17 b0 b1 b2 M = some out → Gw x M 17 [(0, pR (some b0)), (1, pR b1), (2, pI b2)] []) (a0 : Nat) (a1 : Option Nat) (a3 : Int32) (a4 : Int32) (a5 : Int32)  (M : Mm) (h : fX16_sendAll_L86 fu k17 a0 a1 a3 a4 a5 M = some out) : Gw x M 86 [(0, pR (some a0)), (1, pR a1), (3, pI a3), (4, pI a4), (5, pI a5)] [] := by
  unfold fX16_sendAll_L86 at h
  refine g_iconst X (pc := 86) (v := 0) dX16_sendAll_86 (by decide) ?_
  exact wX16_sendAll_L87 X hE hn fu k17 hk17 a0 a1 a3 a4 a5 (0 : Int32) M h
theorem wX16_sendAll_L17 {x : GX} {n0 sl0 : Nat} (X : Cx x cX16_sendAll RX16 none n0 sl0 8 206) {out : Mm} (hE : Ends x n0 sl0 none out) (hn : xn x = 8) (fu : Nat)   : ∀ (n : Nat) (a0 : Nat) (a1 : Option Nat) (a2 : Int32)  (M : Mm), fX16_sendAll_L17 fu  n a0 a1 a2 M = some out → Gw x M 17 [(0, pR (some a0)), (1, pR a1), (2, pI a2)] [] := by
  intro n
  induction n with
  | zero =>
    intro a0 a1 a2 M h
    have h : (none : Option (Mm)) = some out := h
    cases h
  | succ n ih =>
    intro a0 a1 a2 M h
    rw [fX16_sendAll_L17] at h
    refine g_iload_n X (pc := 17) 2 rfl rfl dX16_sendAll_17 ?_
    refine g_if_eq X (pc := 18) (tgt := 176) dX16_sendAll_18 (by decide) (fun hc => ?_) (fun hc => ?_)
    · have h := (if_pos hc).symm.trans h
      refine g_aload_n X (pc := 176) 1 rfl rfl dX16_sendAll_176 ?_
      refine g_aload_n X (pc := 177) 1 rfl rfl dX16_sendAll_177 ?_
      obtain ⟨v1, ev1, h⟩ := bd h
      refine g_getI X (pc := 178) fk_12_5 rfl rfl ev1 tb_1585 dX16_sendAll_178 ?_
      obtain ⟨q2, eq2, h⟩ := bd h
      obtain ⟨v4, M3, eM3, h⟩ := b2d h
      refine g_callV X (pc := 181) (M' := M3) (ro := some (pI v4)) (c := 12) rfl (by decide) (as := [pI v1]) (as' := [pI v1]) (st := []) eq2 (ctX12_left _ _ _ _ _ _ fu q2 v1 M _ eM3) tb_2070 tb_2067 tb_2068 tb_2069 tb_9 ⟨rfl, hyX12_left⟩ rfl rfl ⟨by decide, by decide⟩ (Nat.le_of_ble_eq_true rfl) dX16_sendAll_181 ?_
      refine g_if_le X (pc := 184) (tgt := 217) dX16_sendAll_184 (by decide) (fun hc => ?_) (fun hc => ?_)
      · have h := (if_pos hc).symm.trans h
        obtain rfl := Option.some.inj h
        exact g_return X hE dX16_sendAll_217
      · have h := (if_neg hc).symm.trans h
        refine g_aload_n X (pc := 187) 1 rfl rfl dX16_sendAll_187 ?_
        obtain ⟨v5, ev5, h⟩ := bd h
        refine g_getI X (pc := 188) fk_12_5 rfl rfl ev5 tb_1585 dX16_sendAll_188 ?_
        refine g_aload_n X (pc := 191) 1 rfl rfl dX16_sendAll_191 ?_
        obtain ⟨v6, ev6, h⟩ := bd h
        refine g_getI X (pc := 192) fk_12_4 rfl rfl ev6 tb_1584 dX16_sendAll_192 ?_
        refine g_icmp_ne X (pc := 195) (tgt := 217) dX16_sendAll_195 (by decide) (fun hc => ?_) (fun hc => ?_)
        · have h := (if_neg hc).symm.trans h
          obtain rfl := Option.some.inj h
          exact g_return X hE dX16_sendAll_217
        · have h := (if_pos hc).symm.trans h
          refine g_aload_n X (pc := 198) 1 rfl rfl dX16_sendAll_198 ?_
          obtain ⟨v7, ev7, h⟩ := bd h
          refine g_getI X (pc := 199) fk_12_7 rfl rfl ev7 tb_1587 dX16_sendAll_199 ?_
          refine g_if_ne X (pc := 202) (tgt := 217) dX16_sendAll_202 (by decide) (fun hc => ?_) (fun hc => ?_)
          · have h := (if_neg hc).symm.trans h
            obtain rfl := Option.some.inj h
            exact g_return X hE dX16_sendAll_217
          · have h := (if_pos hc).symm.trans h
            refine g_aload_n X (pc := 205) 1 rfl rfl dX16_sendAll_205 ?_
            obtain ⟨v8, ev8, h⟩ := bd h
            refine g_getI X (pc := 206) fk_12_21 rfl rfl ev8 tb_1601 dX16_sendAll_206 ?_
            refine g_if_ne X (pc := 209) (tgt := 217) dX16_sendAll_209 (by decide) (fun hc => ?_) (fun hc => ?_)
            · have h := (if_neg hc).symm.trans h
              obtain rfl := Option.some.inj h
              exact g_return X hE dX16_sendAll_217
            · have h := (if_pos hc).symm.trans h
              refine g_aload_n X (pc := 212) 0 rfl rfl dX16_sendAll_212 ?_
              refine g_aload_n X (pc := 213) 1 rfl rfl dX16_sendAll_213 ?_
              obtain ⟨q9, eq9, h⟩ := bd h
              obtain ⟨M10, eM10, h⟩ := bd h
              refine g_callV X (pc := 214) (M' := M10) (ro := none) (c := 16) rfl (by decide) (as := [pR a1]) (as' := [pR a1]) (st := []) eq9 (ctX16_timerSet _ _ _ _ _ _ fu q9 a1 M3 _ eM10) tb_2174 tb_2171 tb_2173 ts_86 tb_8 ⟨rfl, hyX16_timerSet⟩ rfl rfl ⟨by decide, by decide⟩ (Nat.le_of_ble_eq_true rfl) dX16_sendAll_214 ?_
              obtain rfl := Option.some.inj h
              exact g_return X hE dX16_sendAll_217
    · have h := (if_neg hc).symm.trans h
      refine g_aload_n X (pc := 21) 1 rfl rfl dX16_sendAll_21 ?_
      obtain ⟨v11, ev11, h⟩ := bd h
      refine g_getI X (pc := 22) fk_12_5 rfl rfl ev11 tb_1585 dX16_sendAll_22 ?_
      refine g_aload_n X (pc := 25) 1 rfl rfl dX16_sendAll_25 ?_
      obtain ⟨v12, ev12, h⟩ := bd h
      refine g_getI X (pc := 26) fk_12_4 rfl rfl ev12 tb_1584 dX16_sendAll_26 ?_
      refine g_isub X (pc := 29) dX16_sendAll_29 ?_
      refine g_istore_n X (pc := 30) [(3, pI (v11 - v12)), (0, pR (some a0)), (1, pR a1), (2, pI a2)] rfl (lt_n hn (by decide)) rfl dX16_sendAll_30 ?_
      refine g_aload_n X (pc := 31) 2 rfl rfl dX16_sendAll_31 ?_
      obtain ⟨v13, ev13, h⟩ := bd h
      refine g_getI X (pc := 32) fk_12_11 rfl rfl ev13 tb_1591 dX16_sendAll_32 ?_
      refine g_aload_n X (pc := 35) 2 rfl rfl dX16_sendAll_35 ?_
      obtain ⟨v14, ev14, h⟩ := bd h
      refine g_getI X (pc := 36) fk_12_7 rfl rfl ev14 tb_1587 dX16_sendAll_36 ?_
      refine g_mmin X (pc := 39) tb_2155 tb_348 tb_13 tb_349 ⟨by decide, Nat.le_of_ble_eq_true rfl⟩ dX16_sendAll_39 ?_
      refine g_iload_n X (pc := 42) 0 rfl rfl dX16_sendAll_42 ?_
      refine g_isub X (pc := 43) dX16_sendAll_43 ?_
      refine g_istore X (pc := 44) [(4, pI ((jmin v13 v14) - (v11 - v12))), (3, pI (v11 - v12)), (0, pR (some a0)), (1, pR a1), (2, pI a2)] (lt_n hn (by decide)) rfl dX16_sendAll_44 ?_
      refine g_aload_n X (pc := 46) 3 rfl rfl dX16_sendAll_46 ?_
      refine g_iload X (pc := 47) 0 rfl dX16_sendAll_47 ?_
      obtain ⟨v16, M15, eM15, h⟩ := b2d h
      refine g_callS X (pc := 49) (M' := M15) (ro := some (pI v16)) (as := [pR a1, pI ((jmin v13 v14) - (v11 - v12))]) (as' := [pI ((jmin v13 v14) - (v11 - v12)), pR a1]) (st := []) (ctX16_dataWithin _ _ _ _ _ _ fu  a1 ((jmin v13 v14) - (v11 - v12)) M _ eM15) tb_2181 tb_2179 tb_2180 tb_8 hyX16_dataWithin rfl rfl ⟨by decide, by decide⟩ (Nat.le_of_ble_eq_true rfl) dX16_sendAll_49 ?_
      refine g_istore X (pc := 52) [(5, pI v16), (4, pI ((jmin v13 v14) - (v11 - v12))), (3, pI (v11 - v12)), (0, pR (some a0)), (1, pR a1), (2, pI a2)] (lt_n hn (by decide)) rfl dX16_sendAll_52 ?_
      refine g_aload_n X (pc := 54) 4 rfl rfl dX16_sendAll_54 ?_
      obtain ⟨v17, ev17, h⟩ := bd h
      refine g_getI X (pc := 55) fk_12_30 rfl rfl ev17 tb_1615 dX16_sendAll_55 ?_
      refine g_if_eq X (pc := 58) (tgt := 86) dX16_sendAll_58 (by decide) (fun hc => ?_) (fun hc => ?_)
      · have h := (if_pos hc).symm.trans h
        refine g_sub [3, 4, 2, 1, 0] [(0, pR (some a0)), (1, pR a1), (3, pI (v11 - v12)), (4, pI ((jmin v13 v14) - (v11 - v12))), (5, pI v16)] rfl ?_
        exact wX16_sendAll_L86 X hE hn fu (fun b0 b1 b2 M => fX16_sendAll_L17 fu  n b0 b1 b2 M) ih a0 a1 (v11 - v12) ((jmin v13 v14) - (v11 - v12)) v16 M15 h
      · have h := (if_neg hc).symm.trans h
        refine g_aload_n X (pc := 61) 4 rfl rfl dX16_sendAll_61 ?_
        obtain ⟨v18, ev18, h⟩ := bd h
        refine g_getI X (pc := 62) fk_12_5 rfl rfl ev18 tb_1585 dX16_sendAll_62 ?_
        refine g_iload X (pc := 65) 0 rfl dX16_sendAll_65 ?_
        refine g_iadd X (pc := 67) dX16_sendAll_67 ?_
        refine g_aload_n X (pc := 68) 4 rfl rfl dX16_sendAll_68 ?_
        obtain ⟨q19, eq19, h⟩ := bd h
        obtain ⟨v21, M20, eM20, h⟩ := b2d h
        refine g_callV X (pc := 69) (M' := M20) (ro := some (pI v21)) (c := 12) rfl (by decide) (as := []) (as' := []) (st := [pI (v18 + v16)]) eq19 (ctX12_behind _ _ _ _ _ _ fu q19  M15 _ eM20) tb_2074 tb_2182 tb_2072 tb_2073 tb_9 ⟨rfl, hyX12_behind⟩ rfl rfl ⟨by decide, by decide⟩ (Nat.le_of_ble_eq_true rfl) dX16_sendAll_69 ?_
        refine g_icmp_ne X (pc := 72) (tgt := 86) dX16_sendAll_72 (by decide) (fun hc => ?_) (fun hc => ?_)
        · have h := (if_neg hc).symm.trans h
          refine g_sub [3, 4, 2, 1, 0] [(0, pR (some a0)), (1, pR a1), (3, pI (v11 - v12)), (4, pI ((jmin v13 v14) - (v11 - v12))), (5, pI v16)] rfl ?_
          exact wX16_sendAll_L86 X hE hn fu (fun b0 b1 b2 M => fX16_sendAll_L17 fu  n b0 b1 b2 M) ih a0 a1 (v11 - v12) ((jmin v13 v14) - (v11 - v12)) v16 M20 h
        · have h := (if_pos hc).symm.trans h
          refine g_iload X (pc := 75) 0 rfl dX16_sendAll_75 ?_
          refine g_iload X (pc := 77) 1 rfl dX16_sendAll_77 ?_
          refine g_icmp_ge X (pc := 79) (tgt := 86) dX16_sendAll_79 (by decide) (fun hc => ?_) (fun hc => ?_)
          · have h := (if_pos hc).symm.trans h
            refine g_sub [3, 4, 2, 1, 0] [(0, pR (some a0)), (1, pR a1), (3, pI (v11 - v12)), (4, pI ((jmin v13 v14) - (v11 - v12))), (5, pI v16)] rfl ?_
            exact wX16_sendAll_L86 X hE hn fu (fun b0 b1 b2 M => fX16_sendAll_L17 fu  n b0 b1 b2 M) ih a0 a1 (v11 - v12) ((jmin v13 v14) - (v11 - v12)) v16 M20 h
          · have h := (if_neg hc).symm.trans h
            refine g_iconst X (pc := 82) (v := 1) dX16_sendAll_82 (by decide) ?_
            refine g_goto X (pc := 83) (tgt := 87) dX16_sendAll_83 (by decide) ?_
            refine g_sub [3, 4, 2, 1, 0] [(0, pR (some a0)), (1, pR a1), (3, pI (v11 - v12)), (4, pI ((jmin v13 v14) - (v11 - v12))), (5, pI v16)] rfl ?_
            exact wX16_sendAll_L87 X hE hn fu (fun b0 b1 b2 M => fX16_sendAll_L17 fu  n b0 b1 b2 M) ih a0 a1 (v11 - v12) ((jmin v13 v14) - (v11 - v12)) v16 (1 : Int32) M20 h
theorem wX16_sendAll_L16 {x : GX} {n0 sl0 : Nat} (X : Cx x cX16_sendAll RX16 none n0 sl0 8 206) {out : Mm} (hE : Ends x n0 sl0 none out) (hn : xn x = 8) (fu : Nat)   (a0 : Nat) (a1 : Option Nat) (s0 : Int32) (M : Mm) (h : fX16_sendAll_L16 fu  a0 a1 s0 M = some out) : Gw x M 16 [(0, pR (some a0)), (1, pR a1)] [pI s0] := by
  unfold fX16_sendAll_L16 at h
  refine g_istore_n X (pc := 16) [(2, pI s0), (0, pR (some a0)), (1, pR a1)] rfl (lt_n hn (by decide)) rfl dX16_sendAll_16 ?_
  refine g_sub [1, 2, 0] [(0, pR (some a0)), (1, pR a1), (2, pI s0)] rfl ?_
  exact wX16_sendAll_L17 X hE hn fu   fu a0 a1 s0 M h
theorem wX16_sendAll {x : GX} {n0 sl0 : Nat} (X : Cx x cX16_sendAll RX16 none n0 sl0 8 206) {out : Mm} (hE : Ends x n0 sl0 none out) (hn : xn x = 8) (fu : Nat)   (a0 : Nat) (a1 : Option Nat)  (M : Mm) (h : fX16_sendAll fu  a0 a1 M = some out) : Gw x M 0 [(0, pR (some a0)), (1, pR a1)] [] := by
  unfold fX16_sendAll at h
  refine g_aload_n X (pc := 0) 1 rfl rfl dX16_sendAll_0 ?_
  refine g_aload_n X (pc := 1) 1 rfl rfl dX16_sendAll_1 ?_
  obtain ⟨v1, ev1, h⟩ := bd h
  refine g_getI X (pc := 2) fk_12_5 rfl rfl ev1 tb_1585 dX16_sendAll_2 ?_
  obtain ⟨q2, eq2, h⟩ := bd h
  obtain ⟨v4, M3, eM3, h⟩ := b2d h
  refine g_callV X (pc := 5) (M' := M3) (ro := some (pI v4)) (c := 12) rfl (by decide) (as := [pI v1]) (as' := [pI v1]) (st := []) eq2 (ctX12_left _ _ _ _ _ _ fu q2 v1 M _ eM3) tb_2070 tb_2067 tb_2068 tb_2069 tb_9 ⟨rfl, hyX12_left⟩ rfl rfl ⟨by decide, by decide⟩ (Nat.le_of_ble_eq_true rfl) dX16_sendAll_5 ?_
  refine g_if_le X (pc := 8) (tgt := 15) dX16_sendAll_8 (by decide) (fun hc => ?_) (fun hc => ?_)
  · have h := (if_pos hc).symm.trans h
    refine g_iconst X (pc := 15) (v := 0) dX16_sendAll_15 (by decide) ?_
    exact wX16_sendAll_L16 X hE hn fu   a0 a1 (0 : Int32) M3 h
  · have h := (if_neg hc).symm.trans h
    refine g_iconst X (pc := 11) (v := 1) dX16_sendAll_11 (by decide) ?_
    refine g_goto X (pc := 12) (tgt := 16) dX16_sendAll_12 (by decide) ?_
    exact wX16_sendAll_L16 X hE hn fu   a0 a1 (1 : Int32) M3 h
theorem hyX16_sendAll : yX16_sendAll.cls ≠ "java/lang/invoke/MethodHandle" ∧ yX16_sendAll.cls ≠ "java/lang/invoke/VarHandle" ∧ (parseMethodDescriptor yX16_sendAll.desc).map (fun d => d.parameters.length) = some 1 := ⟨by decide +kernel, by decide +kernel, by decide +kernel⟩
theorem ctX16_sendAll (l : Launch) (E : Nat → Nat) (D : va_G) (dA : Nat → ClassId) (lo : Nat) (H0 : Heap) (fu : Nat) (a0 : Nat) (a1 : Option Nat) (M : Mm) (out : Mm) (h : fX16_sendAll fu a0 a1 M = some out) : Ct l E D dA lo H0 yX16_sendAll cX16_sendAll 8 none 8 206 [pR (some a0), pR a1] M none out := by
  refine ct_of (by decide +kernel) (Nat.le_of_ble_eq_true rfl) ?_
  intro x hl he hd ha ho hh hn hin X hE
  exact wX16_sendAll X hE hn fu a0 a1 M h
