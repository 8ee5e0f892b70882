/-! ===== walks of methods, printed by a program of ours ===== -/
/-! WebHost$Link.entryOf(I)I -/
def fX4_entryOf_L2 (fu : Nat)  : Nat → Nat → Int32 → Int32 → Mm → Option (Int32 × Mm)
  | 0, _, _, _, _ => none
  | n + 1, a0, a1, a2, M =>
    (gI M 4 265 (some a0)).bind fun v1 =>
    if v1 ≤ a2 then (
    some ((-1 : Int32), M))
    else (
    if (16 : Int32) ≤ a2 then (
    some ((-1 : Int32), M))
    else (
    (gR M 4 266 (some a0)).bind fun v2 =>
    (gA M 101 v2 a2).bind fun v3 =>
    if v3 = a1 then (
    some (a2, M))
    else (
    fX4_entryOf_L2 fu  n a0 a1 (a2 + (1 : Int32)) M)))
def fX4_entryOf (fu : Nat)  (a0 : Nat) (a1 : Int32)  (M : Mm) : Option (Int32 × Mm) :=
    fX4_entryOf_L2 fu  fu a0 a1 (0 : Int32) M
theorem dX4_entryOf_0 : decode cX4_entryOf 0 = .ok (.iconst 0, 1) := by decide +kernel
theorem dX4_entryOf_1 : decode cX4_entryOf 1 = .ok (.istore_n 2, 1) := by decide +kernel
theorem dX4_entryOf_2 : decode cX4_entryOf 2 = .ok (.iload_n 2, 1) := by decide +kernel
theorem dX4_entryOf_3 : decode cX4_entryOf 3 = .ok (.aload_n 0, 1) := by decide +kernel
theorem dX4_entryOf_4 : decode cX4_entryOf 4 = .ok (.getfield 57, 3) := by decide +kernel
theorem dX4_entryOf_7 : decode cX4_entryOf 7 = .ok (.if_icmp .ge 27, 3) := by decide +kernel
theorem dX4_entryOf_10 : decode cX4_entryOf 10 = .ok (.iload_n 2, 1) := by decide +kernel
theorem dX4_entryOf_11 : decode cX4_entryOf 11 = .ok (.bipush 16, 2) := by decide +kernel
theorem dX4_entryOf_13 : decode cX4_entryOf 13 = .ok (.if_icmp .ge 21, 3) := by decide +kernel
theorem dX4_entryOf_16 : decode cX4_entryOf 16 = .ok (.aload_n 0, 1) := by decide +kernel
theorem dX4_entryOf_17 : decode cX4_entryOf 17 = .ok (.getfield 19, 3) := by decide +kernel
theorem dX4_entryOf_20 : decode cX4_entryOf 20 = .ok (.iload_n 2, 1) := by decide +kernel
theorem dX4_entryOf_21 : decode cX4_entryOf 21 = .ok (.iaload, 1) := by decide +kernel
theorem dX4_entryOf_22 : decode cX4_entryOf 22 = .ok (.iload_n 1, 1) := by decide +kernel
theorem dX4_entryOf_23 : decode cX4_entryOf 23 = .ok (.if_icmp .ne 5, 3) := by decide +kernel
theorem dX4_entryOf_26 : decode cX4_entryOf 26 = .ok (.iload_n 2, 1) := by decide +kernel
theorem dX4_entryOf_27 : decode cX4_entryOf 27 = .ok (.ireturn, 1) := by decide +kernel
theorem dX4_entryOf_28 : decode cX4_entryOf 28 = .ok (.iinc 2 1, 3) := by decide +kernel
theorem dX4_entryOf_31 : decode cX4_entryOf 31 = .ok (.goto (-29), 3) := by decide +kernel
theorem dX4_entryOf_34 : decode cX4_entryOf 34 = .ok (.iconst (-1), 1) := by decide +kernel
theorem dX4_entryOf_35 : decode cX4_entryOf 35 = .ok (.ireturn, 1) := by decide +kernel
theorem wX4_entryOf_L2 {x : GX} {n0 sl0 : Nat} (X : Cx x cX4_entryOf RX4 (some .int) n0 sl0 0 0) {out : Int32 × Mm} (hE : Ends x n0 sl0 (some (pI out.1)) out.2) (hn : xn x = 3) (fu : Nat)   : ∀ (n : Nat) (a0 : Nat) (a1 : Int32) (a2 : Int32)  (M : Mm), fX4_entryOf_L2 fu  n a0 a1 a2 M = some out → Gw x M 2 [(0, pR (some a0)), (1, pI a1), (2, pI a2)] [] := by
  intro n
  induction n with
  | zero =>
    intro a0 a1 a2 M h
    have h : (none : Option (Int32 × Mm)) = some out := h
    cases h
  | succ n ih =>
    intro a0 a1 a2 M h
    rw [fX4_entryOf_L2] at h
    refine g_iload_n X (pc := 2) 2 rfl rfl dX4_entryOf_2 ?_
    refine g_aload_n X (pc := 3) 0 rfl rfl dX4_entryOf_3 ?_
    obtain ⟨v1, ev1, h⟩ := bd h
    refine g_getI X (pc := 4) fk_4_9 rfl rfl ev1 tb_113 dX4_entryOf_4 ?_
    refine g_icmp_ge X (pc := 7) (tgt := 34) dX4_entryOf_7 (by decide) (fun hc => ?_) (fun hc => ?_)
    · have h := (if_pos hc).symm.trans h
      refine g_iconst X (pc := 34) (v := (-1)) dX4_entryOf_34 (by decide) ?_
      obtain rfl := Option.some.inj h
      exact g_ireturn X hE dX4_entryOf_35
    · have h := (if_neg hc).symm.trans h
      refine g_iload_n X (pc := 10) 2 rfl rfl dX4_entryOf_10 ?_
      refine g_bipush X (pc := 11) (v := 16) dX4_entryOf_11 (by decide) ?_
      refine g_icmp_ge X (pc := 13) (tgt := 34) dX4_entryOf_13 (by decide) (fun hc => ?_) (fun hc => ?_)
      · have h := (if_pos hc).symm.trans h
        refine g_iconst X (pc := 34) (v := (-1)) dX4_entryOf_34 (by decide) ?_
        obtain rfl := Option.some.inj h
        exact g_ireturn X hE dX4_entryOf_35
      · have h := (if_neg hc).symm.trans h
        refine g_aload_n X (pc := 16) 0 rfl rfl dX4_entryOf_16 ?_
        obtain ⟨v2, ev2, h⟩ := bd h
        refine g_getR X (pc := 17) fk_4_10 rfl rfl ev2 tb_114 dX4_entryOf_17 ?_
        refine g_iload_n X (pc := 20) 2 rfl rfl dX4_entryOf_20 ?_
        obtain ⟨v3, ev3, h⟩ := bd h
        refine g_iaload X (pc := 21) ev3 dX4_entryOf_21 ?_
        refine g_iload_n X (pc := 22) 1 rfl rfl dX4_entryOf_22 ?_
        refine g_icmp_ne X (pc := 23) (tgt := 28) dX4_entryOf_23 (by decide) (fun hc => ?_) (fun hc => ?_)
        · have h := (if_neg hc).symm.trans h
          refine g_iinc X (pc := 28) 2 [(2, pI (a2 + (1 : Int32))), (0, pR (some a0)), (1, pI a1)] rfl (iinc_e (by decide)) (lt_n hn (by decide)) rfl dX4_entryOf_28 ?_
          refine g_goto X (pc := 31) (tgt := 2) dX4_entryOf_31 (by decide) ?_
          refine g_sub [1, 2, 0] [(0, pR (some a0)), (1, pI a1), (2, pI (a2 + (1 : Int32)))] rfl ?_
          exact ih a0 a1 (a2 + (1 : Int32)) M h
        · have h := (if_pos hc).symm.trans h
          refine g_iload_n X (pc := 26) 2 rfl rfl dX4_entryOf_26 ?_
          obtain rfl := Option.some.inj h
          exact g_ireturn X hE dX4_entryOf_27
theorem wX4_entryOf {x : GX} {n0 sl0 : Nat} (X : Cx x cX4_entryOf RX4 (some .int) n0 sl0 0 0) {out : Int32 × Mm} (hE : Ends x n0 sl0 (some (pI out.1)) out.2) (hn : xn x = 3) (fu : Nat)   (a0 : Nat) (a1 : Int32)  (M : Mm) (h : fX4_entryOf fu  a0 a1 M = some out) : Gw x M 0 [(0, pR (some a0)), (1, pI a1)] [] := by
  unfold fX4_entryOf at h
  refine g_iconst X (pc := 0) (v := 0) dX4_entryOf_0 (by decide) ?_
  refine g_istore_n X (pc := 1) [(2, pI (0 : Int32)), (0, pR (some a0)), (1, pI a1)] rfl (lt_n hn (by decide)) rfl dX4_entryOf_1 ?_
  refine g_sub [1, 2, 0] [(0, pR (some a0)), (1, pI a1), (2, pI (0 : Int32))] rfl ?_
  exact wX4_entryOf_L2 X hE hn fu   fu a0 a1 (0 : Int32) M h
theorem hyX4_entryOf : yX4_entryOf.cls ≠ "java/lang/invoke/MethodHandle" ∧ yX4_entryOf.cls ≠ "java/lang/invoke/VarHandle" ∧ (parseMethodDescriptor yX4_entryOf.desc).map (fun d => d.parameters.length) = some 1 := ⟨by decide +kernel, by decide +kernel, by decide +kernel⟩
theorem ctX4_entryOf (l : Launch) (E : Nat → Nat) (D : va_G) (dA : Nat → ClassId) (lo : Nat) (H0 : Heap) (fu : Nat) (a0 : Nat) (a1 : Int32) (M : Mm) (out : Int32 × Mm) (h : fX4_entryOf fu a0 a1 M = some out) : Ct l E D dA lo H0 yX4_entryOf cX4_entryOf 3 (some .int) 0 0 [pR (some a0), pI a1] M (some (pI out.1)) out.2 := by
  refine ct_of (by decide +kernel) (Nat.le_of_ble_eq_true rfl) ?_
  intro x hl he hd ha ho hh hn hin X hE
  exact wX4_entryOf X hE hn fu a0 a1 M h
/-! WebHost$Link.counting(I)I -/
def fX4_counting (fu : Nat)  (a0 : Nat) (a1 : Int32)  (M : Mm) : Option (Int32 × Mm) :=
    (rc M 4 (some a0)).bind fun q1 =>
    b2 (fX4_entryOf fu q1 a1 M) fun v3 M2 =>
    if v3 < 0 then (
    some ((-1 : Int32), M2))
    else (
    (gR M2 4 261 (some a0)).bind fun v4 =>
    (gI M2 10 641 v4).bind fun v5 =>
    (gR M2 4 269 (some a0)).bind fun v6 =>
    (gA M2 101 v6 v3).bind fun v7 =>
    if (60000 : Int32) ≤ (v5 - v7) then (
    some ((-1 : Int32), M2))
    else (
    some (v3, M2)))
theorem dX4_counting_0 : decode cX4_counting 0 = .ok (.aload_n 0, 1) := by decide +kernel
theorem dX4_counting_1 : decode cX4_counting 1 = .ok (.iload_n 1, 1) := by decide +kernel
theorem dX4_counting_2 : decode cX4_counting 2 = .ok (.invokevirtual 63, 3) := by decide +kernel
theorem dX4_counting_5 : decode cX4_counting 5 = .ok (.istore_n 2, 1) := by decide +kernel
theorem dX4_counting_6 : decode cX4_counting 6 = .ok (.iload_n 2, 1) := by decide +kernel
theorem dX4_counting_7 : decode cX4_counting 7 = .ok (.ifCond .lt 26, 3) := by decide +kernel
theorem dX4_counting_10 : decode cX4_counting 10 = .ok (.aload_n 0, 1) := by decide +kernel
theorem dX4_counting_11 : decode cX4_counting 11 = .ok (.getfield 9, 3) := by decide +kernel
theorem dX4_counting_14 : decode cX4_counting 14 = .ok (.getfield 67, 3) := by decide +kernel
theorem dX4_counting_17 : decode cX4_counting 17 = .ok (.aload_n 0, 1) := by decide +kernel
theorem dX4_counting_18 : decode cX4_counting 18 = .ok (.getfield 29, 3) := by decide +kernel
theorem dX4_counting_21 : decode cX4_counting 21 = .ok (.iload_n 2, 1) := by decide +kernel
theorem dX4_counting_22 : decode cX4_counting 22 = .ok (.iaload, 1) := by decide +kernel
theorem dX4_counting_23 : decode cX4_counting 23 = .ok (.isub, 1) := by decide +kernel
theorem dX4_counting_24 : decode cX4_counting 24 = .ok (.ldc 72, 2) := by decide +kernel
theorem dX4_counting_26 : decode cX4_counting 26 = .ok (.if_icmp .ge 7, 3) := by decide +kernel
theorem dX4_counting_29 : decode cX4_counting 29 = .ok (.iload_n 2, 1) := by decide +kernel
theorem dX4_counting_30 : decode cX4_counting 30 = .ok (.goto 4, 3) := by decide +kernel
theorem dX4_counting_33 : decode cX4_counting 33 = .ok (.iconst (-1), 1) := by decide +kernel
theorem dX4_counting_34 : decode cX4_counting 34 = .ok (.ireturn, 1) := by decide +kernel
theorem wX4_counting {x : GX} {n0 sl0 : Nat} (X : Cx x cX4_counting RX4 (some .int) n0 sl0 1 22) {out : Int32 × Mm} (hE : Ends x n0 sl0 (some (pI out.1)) out.2) (hn : xn x = 3) (fu : Nat)   (a0 : Nat) (a1 : Int32)  (M : Mm) (h : fX4_counting fu  a0 a1 M = some out) : Gw x M 0 [(0, pR (some a0)), (1, pI a1)] [] := by
  unfold fX4_counting at h
  refine g_aload_n X (pc := 0) 0 rfl rfl dX4_counting_0 ?_
  refine g_iload_n X (pc := 1) 1 rfl rfl dX4_counting_1 ?_
  obtain ⟨q1, eq1, h⟩ := bd h
  obtain ⟨v3, M2, eM2, h⟩ := b2d h
  refine g_callV X (pc := 2) (M' := M2) (ro := some (pI v3)) (c := 4) rfl (by decide) (as := [pI a1]) (as' := [pI a1]) (st := []) eq1 (ctX4_entryOf _ _ _ _ _ _ fu q1 a1 M _ eM2) tb_640 tb_637 tb_639 ts_16 tb_4 ⟨rfl, hyX4_entryOf⟩ rfl rfl ⟨by decide, by decide⟩ (Nat.le_of_ble_eq_true rfl) dX4_counting_2 ?_
  refine g_istore_n X (pc := 5) [(2, pI v3), (0, pR (some a0)), (1, pI a1)] rfl (lt_n hn (by decide)) rfl dX4_counting_5 ?_
  refine g_iload_n X (pc := 6) 0 rfl rfl dX4_counting_6 ?_
  refine g_if_lt X (pc := 7) (tgt := 33) dX4_counting_7 (by decide) (fun hc => ?_) (fun hc => ?_)
  · have h := (if_pos hc).symm.trans h
    refine g_iconst X (pc := 33) (v := (-1)) dX4_counting_33 (by decide) ?_
    obtain rfl := Option.some.inj h
    exact g_ireturn X hE dX4_counting_34
  · have h := (if_neg hc).symm.trans h
    refine g_aload_n X (pc := 10) 1 rfl rfl dX4_counting_10 ?_
    obtain ⟨v4, ev4, h⟩ := bd h
    refine g_getR X (pc := 11) fk_4_5 rfl rfl ev4 tb_109 dX4_counting_11 ?_
    obtain ⟨v5, ev5, h⟩ := bd h
    refine g_getI X (pc := 14) fk_10_1 rfl rfl ev5 tb_68 dX4_counting_14 ?_
    refine g_aload_n X (pc := 17) 1 rfl rfl dX4_counting_17 ?_
    obtain ⟨v6, ev6, h⟩ := bd h
    refine g_getR X (pc := 18) fk_4_13 rfl rfl ev6 tb_117 dX4_counting_18 ?_
    refine g_iload_n X (pc := 21) 0 rfl rfl dX4_counting_21 ?_
    obtain ⟨v7, ev7, h⟩ := bd h
    refine g_iaload X (pc := 22) ev7 dX4_counting_22 ?_
    refine g_isub X (pc := 23) dX4_counting_23 ?_
    refine g_ldc X (pc := 24) tb_641 dX4_counting_24 ?_
    refine g_icmp_ge X (pc := 26) (tgt := 33) dX4_counting_26 (by decide) (fun hc => ?_) (fun hc => ?_)
    · have h := (if_pos hc).symm.trans h
      refine g_iconst X (pc := 33) (v := (-1)) dX4_counting_33 (by decide) ?_
      obtain rfl := Option.some.inj h
      exact g_ireturn X hE dX4_counting_34
    · have h := (if_neg hc).symm.trans h
      refine g_iload_n X (pc := 29) 0 rfl rfl dX4_counting_29 ?_
      refine g_goto X (pc := 30) (tgt := 34) dX4_counting_30 (by decide) ?_
      obtain rfl := Option.some.inj h
      exact g_ireturn X hE dX4_counting_34
theorem hyX4_counting : yX4_counting.cls ≠ "java/lang/invoke/MethodHandle" ∧ yX4_counting.cls ≠ "java/lang/invoke/VarHandle" ∧ (parseMethodDescriptor yX4_counting.desc).map (fun d => d.parameters.length) = some 1 := ⟨by decide +kernel, by decide +kernel, by decide +kernel⟩
theorem ctX4_counting (l : Launch) (E : Nat → Nat) (D : va_G) (dA : Nat → ClassId) (lo : Nat) (H0 : Heap) (fu : Nat) (a0 : Nat) (a1 : Int32) (M : Mm) (out : Int32 × Mm) (h : fX4_counting fu a0 a1 M = some out) : Ct l E D dA lo H0 yX4_counting cX4_counting 3 (some .int) 1 22 [pR (some a0), pI a1] M (some (pI out.1)) out.2 := by
  refine ct_of (by decide +kernel) (Nat.le_of_ble_eq_true rfl) ?_
  intro x hl he hd ha ho hh hn hin X hE
  exact wX4_counting X hE hn fu a0 a1 M h
/-! WebHost$Link.fillLink([BIII)V -/
def fX4_fillLink (fu : Nat)  (a0 : Nat) (a1 : Option Nat) (a2 : Int32) (a3 : Int32) (a4 : Int32)  (M : Mm) : Option (Mm) :=
    (fX11_putTwo fu  a1 (0 : Int32) a2 M).bind fun M1 =>
    (fX11_putFour fu  a1 (2 : Int32) a3 M1).bind fun M2 =>
    (gI M2 4 258 (some a0)).bind fun v3 =>
    (fX11_putTwo fu  a1 (6 : Int32) v3 M2).bind fun M4 =>
    (gI M4 4 259 (some a0)).bind fun v5 =>
    (fX11_putFour fu  a1 (8 : Int32) v5 M4).bind fun M6 =>
    (fX11_putTwo fu  a1 (12 : Int32) a4 M6).bind fun M7 =>
    some M7
theorem dX4_fillLink_0 : decode cX4_fillLink 0 = .ok (.aload_n 1, 1) := by decide +kernel
theorem dX4_fillLink_1 : decode cX4_fillLink 1 = .ok (.iconst 0, 1) := by decide +kernel
theorem dX4_fillLink_2 : decode cX4_fillLink 2 = .ok (.iload_n 2, 1) := by decide +kernel
theorem dX4_fillLink_3 : decode cX4_fillLink 3 = .ok (.invokestatic 128, 3) := by decide +kernel
theorem dX4_fillLink_6 : decode cX4_fillLink 6 = .ok (.aload_n 1, 1) := by decide +kernel
theorem dX4_fillLink_7 : decode cX4_fillLink 7 = .ok (.iconst 2, 1) := by decide +kernel
theorem dX4_fillLink_8 : decode cX4_fillLink 8 = .ok (.iload_n 3, 1) := by decide +kernel
theorem dX4_fillLink_9 : decode cX4_fillLink 9 = .ok (.invokestatic 132, 3) := by decide +kernel
theorem dX4_fillLink_12 : decode cX4_fillLink 12 = .ok (.aload_n 1, 1) := by decide +kernel
theorem dX4_fillLink_13 : decode cX4_fillLink 13 = .ok (.bipush 6, 2) := by decide +kernel
theorem dX4_fillLink_15 : decode cX4_fillLink 15 = .ok (.aload_n 0, 1) := by decide +kernel
theorem dX4_fillLink_16 : decode cX4_fillLink 16 = .ok (.getfield 48, 3) := by decide +kernel
theorem dX4_fillLink_19 : decode cX4_fillLink 19 = .ok (.invokestatic 128, 3) := by decide +kernel
theorem dX4_fillLink_22 : decode cX4_fillLink 22 = .ok (.aload_n 1, 1) := by decide +kernel
theorem dX4_fillLink_23 : decode cX4_fillLink 23 = .ok (.bipush 8, 2) := by decide +kernel
theorem dX4_fillLink_25 : decode cX4_fillLink 25 = .ok (.aload_n 0, 1) := by decide +kernel
theorem dX4_fillLink_26 : decode cX4_fillLink 26 = .ok (.getfield 51, 3) := by decide +kernel
theorem dX4_fillLink_29 : decode cX4_fillLink 29 = .ok (.invokestatic 132, 3) := by decide +kernel
theorem dX4_fillLink_32 : decode cX4_fillLink 32 = .ok (.aload_n 1, 1) := by decide +kernel
theorem dX4_fillLink_33 : decode cX4_fillLink 33 = .ok (.bipush 12, 2) := by decide +kernel
theorem dX4_fillLink_35 : decode cX4_fillLink 35 = .ok (.iload 4, 2) := by decide +kernel
theorem dX4_fillLink_37 : decode cX4_fillLink 37 = .ok (.invokestatic 128, 3) := by decide +kernel
theorem dX4_fillLink_40 : decode cX4_fillLink 40 = .ok (.return_, 1) := by decide +kernel
theorem wX4_fillLink {x : GX} {n0 sl0 : Nat} (X : Cx x cX4_fillLink RX4 none n0 sl0 1 22) {out : Mm} (hE : Ends x n0 sl0 none out) (hn : xn x = 5) (fu : Nat)   (a0 : Nat) (a1 : Option Nat) (a2 : Int32) (a3 : Int32) (a4 : Int32)  (M : Mm) (h : fX4_fillLink fu  a0 a1 a2 a3 a4 M = some out) : Gw x M 0 [(0, pR (some a0)), (1, pR a1), (2, pI a2), (3, pI a3), (4, pI a4)] [] := by
  unfold fX4_fillLink at h
  refine g_aload_n X (pc := 0) 1 rfl rfl dX4_fillLink_0 ?_
  refine g_iconst X (pc := 1) (v := 0) dX4_fillLink_1 (by decide) ?_
  refine g_iload_n X (pc := 2) 2 rfl rfl dX4_fillLink_2 ?_
  obtain ⟨M1, eM1, h⟩ := bd h
  refine g_callSN X (pc := 3) (M' := M1) (ro := none) (as := [pR a1, pI (0 : Int32), pI a2]) (as' := [pI a2, pI (0 : Int32), pR a1]) (st := []) (ctX11_putTwo _ _ _ _ _ _ fu  a1 (0 : Int32) a2 M _ eM1) tb_525 (List.mem_of_getElem? (i := 4) rfl) tb_524 tb_1 hyX11_putTwo rfl rfl ⟨by decide, by decide⟩ (Nat.le_of_ble_eq_true rfl) dX4_fillLink_3 ?_
  refine g_aload_n X (pc := 6) 1 rfl rfl dX4_fillLink_6 ?_
  refine g_iconst X (pc := 7) (v := 2) dX4_fillLink_7 (by decide) ?_
  refine g_iload_n X (pc := 8) 3 rfl rfl dX4_fillLink_8 ?_
  obtain ⟨M2, eM2, h⟩ := bd h
  refine g_callSN X (pc := 9) (M' := M2) (ro := none) (as := [pR a1, pI (2 : Int32), pI a3]) (as' := [pI a3, pI (2 : Int32), pR a1]) (st := []) (ctX11_putFour _ _ _ _ _ _ fu  a1 (2 : Int32) a3 M1 _ eM2) tb_366 (List.mem_of_getElem? (i := 3) rfl) tb_365 tb_1 hyX11_putFour rfl rfl ⟨by decide, by decide⟩ (Nat.le_of_ble_eq_true rfl) dX4_fillLink_9 ?_
  refine g_aload_n X (pc := 12) 1 rfl rfl dX4_fillLink_12 ?_
  refine g_bipush X (pc := 13) (v := 6) dX4_fillLink_13 (by decide) ?_
  refine g_aload_n X (pc := 15) 0 rfl rfl dX4_fillLink_15 ?_
  obtain ⟨v3, ev3, h⟩ := bd h
  refine g_getI X (pc := 16) fk_4_2 rfl rfl ev3 tb_103 dX4_fillLink_16 ?_
  obtain ⟨M4, eM4, h⟩ := bd h
  refine g_callSN X (pc := 19) (M' := M4) (ro := none) (as := [pR a1, pI (6 : Int32), pI v3]) (as' := [pI v3, pI (6 : Int32), pR a1]) (st := []) (ctX11_putTwo _ _ _ _ _ _ fu  a1 (6 : Int32) v3 M2 _ eM4) tb_525 (List.mem_of_getElem? (i := 4) rfl) tb_524 tb_1 hyX11_putTwo rfl rfl ⟨by decide, by decide⟩ (Nat.le_of_ble_eq_true rfl) dX4_fillLink_19 ?_
  refine g_aload_n X (pc := 22) 1 rfl rfl dX4_fillLink_22 ?_
  refine g_bipush X (pc := 23) (v := 8) dX4_fillLink_23 (by decide) ?_
  refine g_aload_n X (pc := 25) 0 rfl rfl dX4_fillLink_25 ?_
  obtain ⟨v5, ev5, h⟩ := bd h
  refine g_getI X (pc := 26) fk_4_3 rfl rfl ev5 tb_105 dX4_fillLink_26 ?_
  obtain ⟨M6, eM6, h⟩ := bd h
  refine g_callSN X (pc := 29) (M' := M6) (ro := none) (as := [pR a1, pI (8 : Int32), pI v5]) (as' := [pI v5, pI (8 : Int32), pR a1]) (st := []) (ctX11_putFour _ _ _ _ _ _ fu  a1 (8 : Int32) v5 M4 _ eM6) tb_366 (List.mem_of_getElem? (i := 3) rfl) tb_365 tb_1 hyX11_putFour rfl rfl ⟨by decide, by decide⟩ (Nat.le_of_ble_eq_true rfl) dX4_fillLink_29 ?_
  refine g_aload_n X (pc := 32) 1 rfl rfl dX4_fillLink_32 ?_
  refine g_bipush X (pc := 33) (v := 12) dX4_fillLink_33 (by decide) ?_
  refine g_iload X (pc := 35) 4 rfl dX4_fillLink_35 ?_
  obtain ⟨M7, eM7, h⟩ := bd h
  refine g_callSN X (pc := 37) (M' := M7) (ro := none) (as := [pR a1, pI (12 : Int32), pI a4]) (as' := [pI a4, pI (12 : Int32), pR a1]) (st := []) (ctX11_putTwo _ _ _ _ _ _ fu  a1 (12 : Int32) a4 M6 _ eM7) tb_525 (List.mem_of_getElem? (i := 4) rfl) tb_524 tb_1 hyX11_putTwo rfl rfl ⟨by decide, by decide⟩ (Nat.le_of_ble_eq_true rfl) dX4_fillLink_37 ?_
  obtain rfl := Option.some.inj h
  exact g_return X hE dX4_fillLink_40
theorem hyX4_fillLink : yX4_fillLink.cls ≠ "java/lang/invoke/MethodHandle" ∧ yX4_fillLink.cls ≠ "java/lang/invoke/VarHandle" ∧ (parseMethodDescriptor yX4_fillLink.desc).map (fun d => d.parameters.length) = some 4 := ⟨by decide +kernel, by decide +kernel, by decide +kernel⟩
theorem ctX4_fillLink (l : Launch) (E : Nat → Nat) (D : va_G) (dA : Nat → ClassId) (lo : Nat) (H0 : Heap) (fu : Nat) (a0 : Nat) (a1 : Option Nat) (a2 : Int32) (a3 : Int32) (a4 : Int32) (M : Mm) (out : Mm) (h : fX4_fillLink fu a0 a1 a2 a3 a4 M = some out) : Ct l E D dA lo H0 yX4_fillLink cX4_fillLink 5 none 1 22 [pR (some a0), pR a1, pI a2, pI a3, pI a4] M none out := by
  refine ct_of (by decide +kernel) (Nat.le_of_ble_eq_true rfl) ?_
  intro x hl he hd ha ho hh hn hin X hE
  exact wX4_fillLink X hE hn fu a0 a1 a2 a3 a4 M h
/-! WebHost$Packet.<init>()V -/
def fX6_init (fu : Nat)  (a0 : Nat)  (M : Mm) : Option (Mm) :=
    b2 (mkA M 100 (1514 : Int32)) fun v1 M2 =>
    (pG M2 6 384 (some a0) (some v1)).bind fun M3 =>
    some M3
theorem dX6_init_0 : decode cX6_init 0 = .ok (.aload_n 0, 1) := by decide +kernel
theorem dX6_init_1 : decode cX6_init 1 = .ok (.invokespecial 3, 3) := by decide +kernel
theorem dX6_init_4 : decode cX6_init 4 = .ok (.aload_n 0, 1) := by decide +kernel
theorem dX6_init_5 : decode cX6_init 5 = .ok (.sipush 1514, 3) := by decide +kernel
theorem dX6_init_8 : decode cX6_init 8 = .ok (.newarray .byte, 2) := by decide +kernel
theorem dX6_init_10 : decode cX6_init 10 = .ok (.putfield 9, 3) := by decide +kernel
theorem dX6_init_13 : decode cX6_init 13 = .ok (.return_, 1) := by decide +kernel
theorem wX6_init {x : GX} {n0 sl0 : Nat} (X : Cx x cX6_init RX6 none n0 sl0 1 12) {out : Mm} (hE : Ends x n0 sl0 none out) (hn : xn x = 1) (hin : (xt x).name = "<init>") (fu : Nat)   (a0 : Nat)  (M : Mm) (h : fX6_init fu  a0 M = some out) : Gw x M 0 [(0, pR (some a0))] [] := by
  unfold fX6_init at h
  refine g_aload_n X (pc := 0) 0 rfl rfl dX6_init_0 ?_
  refine g_objInit X (pc := 1) (o := (some a0)) ⟨_, rfl⟩ tb_539 tb_32 tb_33 ⟨by decide, Nat.le_of_ble_eq_true rfl⟩ dX6_init_1 ?_
  refine g_aload_n X (pc := 4) 0 rfl rfl dX6_init_4 ?_
  refine g_sipush X (pc := 5) (v := 1514) dX6_init_5 (by decide) ?_
  obtain ⟨v1, M2, eM2, h⟩ := b2d h
  refine g_newarray X (pc := 8) (at9 := .byte) (k := 0) rfl (by decide) rfl (by decide) (fun _ _ q => q) tb_53 eM2 dX6_init_8 ?_
  obtain ⟨M3, eM3, h⟩ := bd h
  refine g_putG X (pc := 10) fk_6_0 rfl rfl rfl eM3 tb_540 (Or.inr ⟨rfl, hin, rfl⟩) dX6_init_10 ?_
  obtain rfl := Option.some.inj h
  exact g_return X hE dX6_init_13
theorem hyX6_init : yX6_init.cls ≠ "java/lang/invoke/MethodHandle" ∧ yX6_init.cls ≠ "java/lang/invoke/VarHandle" ∧ (parseMethodDescriptor yX6_init.desc).map (fun d => d.parameters.length) = some 0 := ⟨by decide +kernel, by decide +kernel, by decide +kernel⟩
theorem ctX6_init (l : Launch) (E : Nat → Nat) (D : va_G) (dA : Nat → ClassId) (lo : Nat) (H0 : Heap) (fu : Nat) (a0 : Nat) (M : Mm) (out : Mm) (h : fX6_init fu a0 M = some out) : Ct l E D dA lo H0 yX6_init cX6_init 1 none 1 12 [pR (some a0)] M none out := by
  refine ct_of (by decide +kernel) (Nat.le_of_ble_eq_true rfl) ?_
  intro x hl he hd ha ho hh hn hin X hE
  exact wX6_init X hE hn hin fu a0 M h
/-! WebHost$Wire.put([BI)V -/
def fX10_put_L19 (fu : Nat)  (a0 : Nat)  (M : Mm) : Option (Mm) :=
    (gI M 10 643 (some a0)).bind fun v1 =>
    (pF M 10 643 (some a0) (v1 + (1 : Int32))).bind fun M2 =>
    some M2
def fX10_put_L88 (fu : Nat)  : Nat → Nat → Int32 → Option Nat → Int32 → Mm → Option (Mm)
  | 0, _, _, _, _, _ => none
  | n + 1, a0, a2, a4, a5, M =>
    if (60 : Int32) ≤ a5 then (
    (pF M 6 385 a4 (jmax a2 (60 : Int32))).bind fun M1 =>
    (gI M1 10 641 (some a0)).bind fun v2 =>
    (pF M1 6 386 a4 v2).bind fun M3 =>
    (gI M3 10 642 (some a0)).bind fun v4 =>
    (pF M3 10 642 (some a0) (v4 + (1 : Int32))).bind fun M5 =>
    some M5)
    else (
    (gR M 6 384 a4).bind fun v6 =>
    (pA M 100 v6 a5 (Int8.toInt32 (Int32.toInt8 (0 : Int32)))).bind fun M7 =>
    fX10_put_L88 fu  n a0 a2 a4 (a5 + (1 : Int32)) M7)
def fX10_put_L73 (fu : Nat)  (a0 : Nat) (a1 : Option Nat) (a2 : Int32) (a4 : Option Nat)  (M : Mm) : Option (Mm) :=
    (gR M 6 384 a4).bind fun v1 =>
    (cpB M a1 (0 : Int32) v1 (0 : Int32) a2).bind fun M2 =>
    fX10_put_L88 fu  fu a0 a2 a4 a2 M2
def fX10_put (fu : Nat)  (a0 : Nat) (a1 : Option Nat) (a2 : Int32)  (M : Mm) : Option (Mm) :=
    if a2 < (42 : Int32) then (
    fX10_put_L19 fu  a0 M)
    else (
    if (1514 : Int32) < a2 then (
    fX10_put_L19 fu  a0 M)
    else (
    (aL M 100 a1).bind fun v1 =>
    if a2 ≤ v1 then (
    (gI M 10 642 (some a0)).bind fun v2 =>
    if 0 ≤ (irm v2 (32 : Int32)) then (
    (gR M 10 644 (some a0)).bind fun v3 =>
    (gB M 116 v3 (irm v2 (32 : Int32))).bind fun v4 =>
    if v4 = none then (
    b2 (mkO M 6) fun v5 M6 =>
    (fX6_init fu v5  M6).bind fun M7 =>
    (gR M7 10 644 (some a0)).bind fun v8 =>
    (pB M7 6 v8 (irm v2 (32 : Int32)) (some v5)).bind fun M9 =>
    fX10_put_L73 fu  a0 a1 a2 (some v5) M9)
    else (
    fX10_put_L73 fu  a0 a1 a2 v4 M))
    else (
    some M))
    else (
    fX10_put_L19 fu  a0 M)))
theorem dX10_put_0 : decode cX10_put 0 = .ok (.iload_n 2, 1) := by decide +kernel
theorem dX10_put_1 : decode cX10_put 1 = .ok (.bipush 42, 2) := by decide +kernel
theorem dX10_put_3 : decode cX10_put 3 = .ok (.if_icmp .lt 16, 3) := by decide +kernel
theorem dX10_put_6 : decode cX10_put 6 = .ok (.iload_n 2, 1) := by decide +kernel
theorem dX10_put_7 : decode cX10_put 7 = .ok (.sipush 1514, 3) := by decide +kernel
theorem dX10_put_10 : decode cX10_put 10 = .ok (.if_icmp .gt 9, 3) := by decide +kernel
theorem dX10_put_13 : decode cX10_put 13 = .ok (.iload_n 2, 1) := by decide +kernel
theorem dX10_put_14 : decode cX10_put 14 = .ok (.aload_n 1, 1) := by decide +kernel
theorem dX10_put_15 : decode cX10_put 15 = .ok (.arraylength, 1) := by decide +kernel
theorem dX10_put_16 : decode cX10_put 16 = .ok (.if_icmp .le 14, 3) := by decide +kernel
theorem dX10_put_19 : decode cX10_put 19 = .ok (.aload_n 0, 1) := by decide +kernel
theorem dX10_put_20 : decode cX10_put 20 = .ok (.dup, 1) := by decide +kernel
theorem dX10_put_21 : decode cX10_put 21 = .ok (.getfield 34, 3) := by decide +kernel
theorem dX10_put_24 : decode cX10_put 24 = .ok (.iconst 1, 1) := by decide +kernel
theorem dX10_put_25 : decode cX10_put 25 = .ok (.iadd, 1) := by decide +kernel
theorem dX10_put_26 : decode cX10_put 26 = .ok (.putfield 34, 3) := by decide +kernel
theorem dX10_put_29 : decode cX10_put 29 = .ok (.return_, 1) := by decide +kernel
theorem dX10_put_30 : decode cX10_put 30 = .ok (.aload_n 0, 1) := by decide +kernel
theorem dX10_put_31 : decode cX10_put 31 = .ok (.getfield 31, 3) := by decide +kernel
theorem dX10_put_34 : decode cX10_put 34 = .ok (.bipush 32, 2) := by decide +kernel
theorem dX10_put_36 : decode cX10_put 36 = .ok (.irem, 1) := by decide +kernel
theorem dX10_put_37 : decode cX10_put 37 = .ok (.istore_n 3, 1) := by decide +kernel
theorem dX10_put_38 : decode cX10_put 38 = .ok (.iload_n 3, 1) := by decide +kernel
theorem dX10_put_39 : decode cX10_put 39 = .ok (.ifCond .ge 4, 3) := by decide +kernel
theorem dX10_put_42 : decode cX10_put 42 = .ok (.return_, 1) := by decide +kernel
theorem dX10_put_43 : decode cX10_put 43 = .ok (.aload_n 0, 1) := by decide +kernel
theorem dX10_put_44 : decode cX10_put 44 = .ok (.getfield 17, 3) := by decide +kernel
theorem dX10_put_47 : decode cX10_put 47 = .ok (.iload_n 3, 1) := by decide +kernel
theorem dX10_put_48 : decode cX10_put 48 = .ok (.aaload, 1) := by decide +kernel
theorem dX10_put_49 : decode cX10_put 49 = .ok (.astore 4, 2) := by decide +kernel
theorem dX10_put_51 : decode cX10_put 51 = .ok (.aload 4, 2) := by decide +kernel
theorem dX10_put_53 : decode cX10_put 53 = .ok (.ifnonnull 20, 3) := by decide +kernel
theorem dX10_put_56 : decode cX10_put 56 = .ok (.new 15, 3) := by decide +kernel
theorem dX10_put_59 : decode cX10_put 59 = .ok (.dup, 1) := by decide +kernel
theorem dX10_put_60 : decode cX10_put 60 = .ok (.invokespecial 37, 3) := by decide +kernel
theorem dX10_put_63 : decode cX10_put 63 = .ok (.astore 4, 2) := by decide +kernel
theorem dX10_put_65 : decode cX10_put 65 = .ok (.aload_n 0, 1) := by decide +kernel
theorem dX10_put_66 : decode cX10_put 66 = .ok (.getfield 17, 3) := by decide +kernel
theorem dX10_put_69 : decode cX10_put 69 = .ok (.iload_n 3, 1) := by decide +kernel
theorem dX10_put_70 : decode cX10_put 70 = .ok (.aload 4, 2) := by decide +kernel
theorem dX10_put_72 : decode cX10_put 72 = .ok (.aastore, 1) := by decide +kernel
theorem dX10_put_73 : decode cX10_put 73 = .ok (.aload_n 1, 1) := by decide +kernel
theorem dX10_put_74 : decode cX10_put 74 = .ok (.iconst 0, 1) := by decide +kernel
theorem dX10_put_75 : decode cX10_put 75 = .ok (.aload 4, 2) := by decide +kernel
theorem dX10_put_77 : decode cX10_put 77 = .ok (.getfield 38, 3) := by decide +kernel
theorem dX10_put_80 : decode cX10_put 80 = .ok (.iconst 0, 1) := by decide +kernel
theorem dX10_put_81 : decode cX10_put 81 = .ok (.iload_n 2, 1) := by decide +kernel
theorem dX10_put_82 : decode cX10_put 82 = .ok (.invokestatic 42, 3) := by decide +kernel
theorem dX10_put_85 : decode cX10_put 85 = .ok (.iload_n 2, 1) := by decide +kernel
theorem dX10_put_86 : decode cX10_put 86 = .ok (.istore 5, 2) := by decide +kernel
theorem dX10_put_88 : decode cX10_put 88 = .ok (.iload 5, 2) := by decide +kernel
theorem dX10_put_90 : decode cX10_put 90 = .ok (.bipush 60, 2) := by decide +kernel
theorem dX10_put_92 : decode cX10_put 92 = .ok (.if_icmp .ge 18, 3) := by decide +kernel
theorem dX10_put_95 : decode cX10_put 95 = .ok (.aload 4, 2) := by decide +kernel
theorem dX10_put_97 : decode cX10_put 97 = .ok (.getfield 38, 3) := by decide +kernel
theorem dX10_put_100 : decode cX10_put 100 = .ok (.iload 5, 2) := by decide +kernel
theorem dX10_put_102 : decode cX10_put 102 = .ok (.iconst 0, 1) := by decide +kernel
theorem dX10_put_103 : decode cX10_put 103 = .ok (.bastore, 1) := by decide +kernel
theorem dX10_put_104 : decode cX10_put 104 = .ok (.iinc 5 1, 3) := by decide +kernel
theorem dX10_put_107 : decode cX10_put 107 = .ok (.goto (-19), 3) := by decide +kernel
theorem dX10_put_110 : decode cX10_put 110 = .ok (.aload 4, 2) := by decide +kernel
theorem dX10_put_112 : decode cX10_put 112 = .ok (.iload_n 2, 1) := by decide +kernel
theorem dX10_put_113 : decode cX10_put 113 = .ok (.bipush 60, 2) := by decide +kernel
theorem dX10_put_115 : decode cX10_put 115 = .ok (.invokestatic 48, 3) := by decide +kernel
theorem dX10_put_118 : decode cX10_put 118 = .ok (.putfield 54, 3) := by decide +kernel
theorem dX10_put_121 : decode cX10_put 121 = .ok (.aload 4, 2) := by decide +kernel
theorem dX10_put_123 : decode cX10_put 123 = .ok (.aload_n 0, 1) := by decide +kernel
theorem dX10_put_124 : decode cX10_put 124 = .ok (.getfield 27, 3) := by decide +kernel
theorem dX10_put_127 : decode cX10_put 127 = .ok (.putfield 57, 3) := by decide +kernel
theorem dX10_put_130 : decode cX10_put 130 = .ok (.aload_n 0, 1) := by decide +kernel
theorem dX10_put_131 : decode cX10_put 131 = .ok (.dup, 1) := by decide +kernel
theorem dX10_put_132 : decode cX10_put 132 = .ok (.getfield 31, 3) := by decide +kernel
theorem dX10_put_135 : decode cX10_put 135 = .ok (.iconst 1, 1) := by decide +kernel
theorem dX10_put_136 : decode cX10_put 136 = .ok (.iadd, 1) := by decide +kernel
theorem dX10_put_137 : decode cX10_put 137 = .ok (.putfield 31, 3) := by decide +kernel
theorem dX10_put_140 : decode cX10_put 140 = .ok (.return_, 1) := by decide +kernel
theorem wX10_put_L19 {x : GX} {n0 sl0 : Nat} (X : Cx x cX10_put RX10 none n0 sl0 2 40) {out : Mm} (hE : Ends x n0 sl0 none out) (hn : xn x = 6) (fu : Nat)   (a0 : Nat)  (M : Mm) (h : fX10_put_L19 fu  a0 M = some out) : Gw x M 19 [(0, pR (some a0))] [] := by
  unfold fX10_put_L19 at h
  refine g_aload_n X (pc := 19) 0 rfl rfl dX10_put_19 ?_
  refine g_dup X (pc := 20) rfl dX10_put_20 ?_
  obtain ⟨v1, ev1, h⟩ := bd h
  refine g_getI X (pc := 21) fk_10_3 rfl rfl ev1 tb_74 dX10_put_21 ?_
  refine g_iconst X (pc := 24) (v := 1) dX10_put_24 (by decide) ?_
  refine g_iadd X (pc := 25) dX10_put_25 ?_
  obtain ⟨M2, eM2, h⟩ := bd h
  refine g_putI X (pc := 26) fk_10_3 rfl rfl rfl eM2 tb_74 (Or.inl rfl) dX10_put_26 ?_
  obtain rfl := Option.some.inj h
  exact g_return X hE dX10_put_29
theorem wX10_put_L88 {x : GX} {n0 sl0 : Nat} (X : Cx x cX10_put RX10 none n0 sl0 2 40) {out : Mm} (hE : Ends x n0 sl0 none out) (hn : xn x = 6) (fu : Nat)   : ∀ (n : Nat) (a0 : Nat) (a2 : Int32) (a4 : Option Nat) (a5 : Int32)  (M : Mm), fX10_put_L88 fu  n a0 a2 a4 a5 M = some out → Gw x M 88 [(0, pR (some a0)), (2, pI a2), (4, pR a4), (5, pI a5)] [] := by
  intro n
  induction n with
  | zero =>
    intro a0 a2 a4 a5 M h
    have h : (none : Option (Mm)) = some out := h
    cases h
  | succ n ih =>
    intro a0 a2 a4 a5 M h
    rw [fX10_put_L88] at h
    refine g_iload X (pc := 88) 3 rfl dX10_put_88 ?_
    refine g_bipush X (pc := 90) (v := 60) dX10_put_90 (by decide) ?_
    refine g_icmp_ge X (pc := 92) (tgt := 110) dX10_put_92 (by decide) (fun hc => ?_) (fun hc => ?_)
    · have h := (if_pos hc).symm.trans h
      refine g_aload X (pc := 110) 2 rfl dX10_put_110 ?_
      refine g_iload_n X (pc := 112) 1 rfl rfl dX10_put_112 ?_
      refine g_bipush X (pc := 113) (v := 60) dX10_put_113 (by decide) ?_
      refine g_mmax X (pc := 115) tb_564 tb_405 tb_13 tb_406 ⟨by decide, Nat.le_of_ble_eq_true rfl⟩ dX10_put_115 ?_
      obtain ⟨M1, eM1, h⟩ := bd h
      refine g_putI X (pc := 118) fk_6_1 rfl rfl rfl eM1 tb_544 (Or.inl rfl) dX10_put_118 ?_
      refine g_aload X (pc := 121) 2 rfl dX10_put_121 ?_
      refine g_aload_n X (pc := 123) 0 rfl rfl dX10_put_123 ?_
      obtain ⟨v2, ev2, h⟩ := bd h
      refine g_getI X (pc := 124) fk_10_1 rfl rfl ev2 tb_67 dX10_put_124 ?_
      obtain ⟨M3, eM3, h⟩ := bd h
      refine g_putI X (pc := 127) fk_6_2 rfl rfl rfl eM3 tb_547 (Or.inl rfl) dX10_put_127 ?_
      refine g_aload_n X (pc := 130) 0 rfl rfl dX10_put_130 ?_
      refine g_dup X (pc := 131) rfl dX10_put_131 ?_
      obtain ⟨v4, ev4, h⟩ := bd h
      refine g_getI X (pc := 132) fk_10_2 rfl rfl ev4 tb_72 dX10_put_132 ?_
      refine g_iconst X (pc := 135) (v := 1) dX10_put_135 (by decide) ?_
      refine g_iadd X (pc := 136) dX10_put_136 ?_
      obtain ⟨M5, eM5, h⟩ := bd h
      refine g_putI X (pc := 137) fk_10_2 rfl rfl rfl eM5 tb_72 (Or.inl rfl) dX10_put_137 ?_
      obtain rfl := Option.some.inj h
      exact g_return X hE dX10_put_140
    · have h := (if_neg hc).symm.trans h
      refine g_aload X (pc := 95) 2 rfl dX10_put_95 ?_
      obtain ⟨v6, ev6, h⟩ := bd h
      refine g_getR X (pc := 97) fk_6_0 rfl rfl ev6 tb_541 dX10_put_97 ?_
      refine g_iload X (pc := 100) 3 rfl dX10_put_100 ?_
      refine g_iconst X (pc := 102) (v := 0) dX10_put_102 (by decide) ?_
      obtain ⟨M7, eM7, h⟩ := bd h
      refine g_bastore X (pc := 103) eM7 dX10_put_103 ?_
      refine g_iinc X (pc := 104) 3 [(5, pI (a5 + (1 : Int32))), (0, pR (some a0)), (2, pI a2), (4, pR a4)] rfl (iinc_e (by decide)) (lt_n hn (by decide)) rfl dX10_put_104 ?_
      refine g_goto X (pc := 107) (tgt := 88) dX10_put_107 (by decide) ?_
      refine g_sub [1, 2, 3, 0] [(0, pR (some a0)), (2, pI a2), (4, pR a4), (5, pI (a5 + (1 : Int32)))] rfl ?_
      exact ih a0 a2 a4 (a5 + (1 : Int32)) M7 h
theorem wX10_put_L73 {x : GX} {n0 sl0 : Nat} (X : Cx x cX10_put RX10 none n0 sl0 2 40) {out : Mm} (hE : Ends x n0 sl0 none out) (hn : xn x = 6) (fu : Nat)   (a0 : Nat) (a1 : Option Nat) (a2 : Int32) (a4 : Option Nat)  (M : Mm) (h : fX10_put_L73 fu  a0 a1 a2 a4 M = some out) : Gw x M 73 [(0, pR (some a0)), (1, pR a1), (2, pI a2), (4, pR a4)] [] := by
  unfold fX10_put_L73 at h
  refine g_aload_n X (pc := 73) 1 rfl rfl dX10_put_73 ?_
  refine g_iconst X (pc := 74) (v := 0) dX10_put_74 (by decide) ?_
  refine g_aload X (pc := 75) 3 rfl dX10_put_75 ?_
  obtain ⟨v1, ev1, h⟩ := bd h
  refine g_getR X (pc := 77) fk_6_0 rfl rfl ev1 tb_541 dX10_put_77 ?_
  refine g_iconst X (pc := 80) (v := 0) dX10_put_80 (by decide) ?_
  refine g_iload_n X (pc := 81) 2 rfl rfl dX10_put_81 ?_
  obtain ⟨M2, eM2, h⟩ := bd h
  refine g_copyB X (pc := 82) eM2 tb_563 tb_363 tb_362 tb_15 ⟨by decide, Nat.le_of_ble_eq_true rfl⟩ dX10_put_82 ?_
  refine g_iload_n X (pc := 85) 2 rfl rfl dX10_put_85 ?_
  refine g_istore X (pc := 86) [(5, pI a2), (0, pR (some a0)), (1, pR a1), (2, pI a2), (4, pR a4)] (lt_n hn (by decide)) rfl dX10_put_86 ?_
  refine g_sub [1, 3, 4, 0] [(0, pR (some a0)), (2, pI a2), (4, pR a4), (5, pI a2)] rfl ?_
  exact wX10_put_L88 X hE hn fu   fu a0 a2 a4 a2 M2 h
theorem wX10_put {x : GX} {n0 sl0 : Nat} (X : Cx x cX10_put RX10 none n0 sl0 2 40) {out : Mm} (hE : Ends x n0 sl0 none out) (hn : xn x = 6) (fu : Nat)   (a0 : Nat) (a1 : Option Nat) (a2 : Int32)  (M : Mm) (h : fX10_put fu  a0 a1 a2 M = some out) : Gw x M 0 [(0, pR (some a0)), (1, pR a1), (2, pI a2)] [] := by
  unfold fX10_put at h
  refine g_iload_n X (pc := 0) 2 rfl rfl dX10_put_0 ?_
  refine g_bipush X (pc := 1) (v := 42) dX10_put_1 (by decide) ?_
  refine g_icmp_lt X (pc := 3) (tgt := 19) dX10_put_3 (by decide) (fun hc => ?_) (fun hc => ?_)
  · have h := (if_pos hc).symm.trans h
    refine g_sub [0] [(0, pR (some a0))] rfl ?_
    exact wX10_put_L19 X hE hn fu   a0 M h
  · have h := (if_neg hc).symm.trans h
    refine g_iload_n X (pc := 6) 2 rfl rfl dX10_put_6 ?_
    refine g_sipush X (pc := 7) (v := 1514) dX10_put_7 (by decide) ?_
    refine g_icmp_gt X (pc := 10) (tgt := 19) dX10_put_10 (by decide) (fun hc => ?_) (fun hc => ?_)
    · have h := (if_pos hc).symm.trans h
      refine g_sub [0] [(0, pR (some a0))] rfl ?_
      exact wX10_put_L19 X hE hn fu   a0 M h
    · have h := (if_neg hc).symm.trans h
      refine g_iload_n X (pc := 13) 2 rfl rfl dX10_put_13 ?_
      refine g_aload_n X (pc := 14) 1 rfl rfl dX10_put_14 ?_
      obtain ⟨v1, ev1, h⟩ := bd h
      refine g_alen X (pc := 15) (k := 0) rfl (by decide) ev1 dX10_put_15 ?_
      refine g_icmp_le X (pc := 16) (tgt := 30) dX10_put_16 (by decide) (fun hc => ?_) (fun hc => ?_)
      · have h := (if_pos hc).symm.trans h
        refine g_aload_n X (pc := 30) 0 rfl rfl dX10_put_30 ?_
        obtain ⟨v2, ev2, h⟩ := bd h
        refine g_getI X (pc := 31) fk_10_2 rfl rfl ev2 tb_72 dX10_put_31 ?_
        refine g_bipush X (pc := 34) (v := 32) dX10_put_34 (by decide) ?_
        refine g_irem X (pc := 36) (by decide) dX10_put_36 ?_
        refine g_istore_n X (pc := 37) [(3, pI (irm v2 (32 : Int32))), (0, pR (some a0)), (1, pR a1), (2, pI a2)] rfl (lt_n hn (by decide)) rfl dX10_put_37 ?_
        refine g_iload_n X (pc := 38) 0 rfl rfl dX10_put_38 ?_
        refine g_if_ge X (pc := 39) (tgt := 43) dX10_put_39 (by decide) (fun hc => ?_) (fun hc => ?_)
        · have h := (if_pos hc).symm.trans h
          refine g_aload_n X (pc := 43) 1 rfl rfl dX10_put_43 ?_
          obtain ⟨v3, ev3, h⟩ := bd h
          refine g_getR X (pc := 44) fk_10_4 rfl rfl ev3 tb_77 dX10_put_44 ?_
          refine g_iload_n X (pc := 47) 0 rfl rfl dX10_put_47 ?_
          obtain ⟨v4, ev4, h⟩ := bd h
          refine g_aaload X (pc := 48) (k := 3) rfl rfl (by decide) ev4 dX10_put_48 ?_
          refine g_astore X (pc := 49) [(4, pR v4), (3, pI (irm v2 (32 : Int32))), (0, pR (some a0)), (1, pR a1), (2, pI a2)] (lt_n hn (by decide)) rfl dX10_put_49 ?_
          refine g_aload X (pc := 51) 0 rfl dX10_put_51 ?_
          refine g_ifnonnull X (pc := 53) (tgt := 73) dX10_put_53 (by decide) (fun hc => ?_) (fun hc => ?_)
          · have h := (if_neg hc).symm.trans h
            refine g_sub [2, 3, 4, 0] [(0, pR (some a0)), (1, pR a1), (2, pI a2), (4, pR v4)] rfl ?_
            exact wX10_put_L73 X hE hn fu   a0 a1 a2 v4 M h
          · have h := (if_pos hc).symm.trans h
            obtain ⟨v5, M6, eM6, h⟩ := b2d h
            refine g_new X (pc := 56) fk_6_0 dvX6 eM6 tb_60 tb_535 tb_16 dX10_put_56 ?_
            refine g_dup X (pc := 59) rfl dX10_put_59 ?_
            obtain ⟨M7, eM7, h⟩ := bd h
            refine g_callI X (pc := 60) (M' := M7) (as := []) (as' := []) (st := [pR (some v5)]) (ctX6_init _ _ _ _ _ _ fu v5  M6 _ eM7) tb_538 tb_536 tb_537 tb_16 rfl hyX6_init rfl rfl ⟨by decide, by decide⟩ (Nat.le_of_ble_eq_true rfl) dX10_put_60 ?_
            refine g_astore X (pc := 63) [(4, pR (some v5)), (3, pI (irm v2 (32 : Int32))), (0, pR (some a0)), (1, pR a1), (2, pI a2)] (lt_n hn (by decide)) rfl dX10_put_63 ?_
            refine g_aload_n X (pc := 65) 2 rfl rfl dX10_put_65 ?_
            obtain ⟨v8, ev8, h⟩ := bd h
            refine g_getR X (pc := 66) fk_10_4 rfl rfl ev8 tb_77 dX10_put_66 ?_
            refine g_iload_n X (pc := 69) 1 rfl rfl dX10_put_69 ?_
            refine g_aload X (pc := 70) 0 rfl dX10_put_70 ?_
            obtain ⟨M9, eM9, h⟩ := bd h
            refine g_aastore X (pc := 72) (c := 6) (k := 3) rfl (by decide) rfl eM9 dX10_put_72 ?_
            refine g_sub [2, 3, 4, 0] [(0, pR (some a0)), (1, pR a1), (2, pI a2), (4, pR (some v5))] rfl ?_
            exact wX10_put_L73 X hE hn fu   a0 a1 a2 (some v5) M9 h
        · have h := (if_neg hc).symm.trans h
          obtain rfl := Option.some.inj h
          exact g_return X hE dX10_put_42
      · have h := (if_neg hc).symm.trans h
        refine g_sub [0] [(0, pR (some a0))] rfl ?_
        exact wX10_put_L19 X hE hn fu   a0 M h
theorem hyX10_put : yX10_put.cls ≠ "java/lang/invoke/MethodHandle" ∧ yX10_put.cls ≠ "java/lang/invoke/VarHandle" ∧ (parseMethodDescriptor yX10_put.desc).map (fun d => d.parameters.length) = some 2 := ⟨by decide +kernel, by decide +kernel, by decide +kernel⟩
theorem ctX10_put (l : Launch) (E : Nat → Nat) (D : va_G) (dA : Nat → ClassId) (lo : Nat) (H0 : Heap) (fu : Nat) (a0 : Nat) (a1 : Option Nat) (a2 : Int32) (M : Mm) (out : Mm) (h : fX10_put fu a0 a1 a2 M = some out) : Ct l E D dA lo H0 yX10_put cX10_put 6 none 2 40 [pR (some a0), pR a1, pI a2] M none out := by
  refine ct_of (by decide +kernel) (Nat.le_of_ble_eq_true rfl) ?_
  intro x hl he hd ha ho hh hn hin X hE
  exact wX10_put X hE hn fu a0 a1 a2 M h
/-! WebHost$Link.waiterFor(I)I -/
def fX4_waiterFor_L37 (fu : Nat) (k2 : Nat → Int32 → Int32 → Mm → Option (Int32 × Mm)) (a0 : Nat) (a1 : Int32) (a2 : Int32)  (M : Mm) : Option (Int32 × Mm) :=
    k2 a0 a1 (a2 + (1 : Int32)) M
def fX4_waiterFor_L2 (fu : Nat)  : Nat → Nat → Int32 → Int32 → Mm → Option (Int32 × Mm)
  | 0, _, _, _, _ => none
  | n + 1, a0, a1, a2, M =>
    (gI M 4 260 (some a0)).bind fun v1 =>
    if v1 ≤ a2 then (
    some ((-1 : Int32), M))
    else (
    if (8 : Int32) ≤ a2 then (
    some ((-1 : Int32), M))
    else (
    (gR M 4 270 (some a0)).bind fun v2 =>
    (gB M 116 v2 a2).bind fun v3 =>
    if v3 = none then (
    fX4_waiterFor_L37 fu (fun b0 b1 b2 M => fX4_waiterFor_L2 fu  n b0 b1 b2 M) a0 a1 a2 M)
    else (
    (gI M 6 387 v3).bind fun v4 =>
    if v4 = a1 then (
    some (a2, M))
    else (
    fX4_waiterFor_L37 fu (fun b0 b1 b2 M => fX4_waiterFor_L2 fu  n b0 b1 b2 M) a0 a1 a2 M))))
def fX4_waiterFor (fu : Nat)  (a0 : Nat) (a1 : Int32)  (M : Mm) : Option (Int32 × Mm) :=
    fX4_waiterFor_L2 fu  fu a0 a1 (0 : Int32) M
theorem dX4_waiterFor_0 : decode cX4_waiterFor 0 = .ok (.iconst 0, 1) := by decide +kernel
theorem dX4_waiterFor_1 : decode cX4_waiterFor 1 = .ok (.istore_n 2, 1) := by decide +kernel
theorem dX4_waiterFor_2 : decode cX4_waiterFor 2 = .ok (.iload_n 2, 1) := by decide +kernel
theorem dX4_waiterFor_3 : decode cX4_waiterFor 3 = .ok (.aload_n 0, 1) := by decide +kernel
theorem dX4_waiterFor_4 : decode cX4_waiterFor 4 = .ok (.getfield 60, 3) := by decide +kernel
theorem dX4_waiterFor_7 : decode cX4_waiterFor 7 = .ok (.if_icmp .ge 36, 3) := by decide +kernel
theorem dX4_waiterFor_10 : decode cX4_waiterFor 10 = .ok (.iload_n 2, 1) := by decide +kernel
theorem dX4_waiterFor_11 : decode cX4_waiterFor 11 = .ok (.bipush 8, 2) := by decide +kernel
theorem dX4_waiterFor_13 : decode cX4_waiterFor 13 = .ok (.if_icmp .ge 30, 3) := by decide +kernel
theorem dX4_waiterFor_16 : decode cX4_waiterFor 16 = .ok (.aload_n 0, 1) := by decide +kernel
theorem dX4_waiterFor_17 : decode cX4_waiterFor 17 = .ok (.getfield 34, 3) := by decide +kernel
theorem dX4_waiterFor_20 : decode cX4_waiterFor 20 = .ok (.iload_n 2, 1) := by decide +kernel
theorem dX4_waiterFor_21 : decode cX4_waiterFor 21 = .ok (.aaload, 1) := by decide +kernel
theorem dX4_waiterFor_22 : decode cX4_waiterFor 22 = .ok (.astore_n 3, 1) := by decide +kernel
theorem dX4_waiterFor_23 : decode cX4_waiterFor 23 = .ok (.aload_n 3, 1) := by decide +kernel
theorem dX4_waiterFor_24 : decode cX4_waiterFor 24 = .ok (.ifnull 13, 3) := by decide +kernel
theorem dX4_waiterFor_27 : decode cX4_waiterFor 27 = .ok (.aload_n 3, 1) := by decide +kernel
theorem dX4_waiterFor_28 : decode cX4_waiterFor 28 = .ok (.getfield 141, 3) := by decide +kernel
theorem dX4_waiterFor_31 : decode cX4_waiterFor 31 = .ok (.iload_n 1, 1) := by decide +kernel
theorem dX4_waiterFor_32 : decode cX4_waiterFor 32 = .ok (.if_icmp .ne 5, 3) := by decide +kernel
theorem dX4_waiterFor_35 : decode cX4_waiterFor 35 = .ok (.iload_n 2, 1) := by decide +kernel
theorem dX4_waiterFor_36 : decode cX4_waiterFor 36 = .ok (.ireturn, 1) := by decide +kernel
theorem dX4_waiterFor_37 : decode cX4_waiterFor 37 = .ok (.iinc 2 1, 3) := by decide +kernel
theorem dX4_waiterFor_40 : decode cX4_waiterFor 40 = .ok (.goto (-38), 3) := by decide +kernel
theorem dX4_waiterFor_43 : decode cX4_waiterFor 43 = .ok (.iconst (-1), 1) := by decide +kernel
theorem dX4_waiterFor_44 : decode cX4_waiterFor 44 = .ok (.ireturn, 1) := by decide +kernel
theorem wX4_waiterFor_L37 {x : GX} {n0 sl0 : Nat} (X : Cx x cX4_waiterFor RX4 (some .int) n0 sl0 0 0) {out : Int32 × Mm} (hE : Ends x n0 sl0 (some (pI out.1)) out.2) (hn : xn x = 4) (fu : Nat) (k2 : Nat → Int32 → Int32 → Mm → Option (Int32 × Mm)) (hk2 : ∀ (b0 : Nat) (b1 : Int32) (b2 : Int32)  (M : Mm), k2 b0 b1 b2 M = some out → Gw x M 2 [(0, pR (some b0)), (1, pI b1), (2, pI b2)] []) (a0 : Nat) (a1 : Int32) (a2 : Int32)  (M : Mm) (h : fX4_waiterFor_L37 fu k2 a0 a1 a2 M = some out) : Gw x M 37 [(0, pR (some a0)), (1, pI a1), (2, pI a2)] [] := by
  unfold fX4_waiterFor_L37 at h
  refine g_iinc X (pc := 37) 2 [(2, pI (a2 + (1 : Int32))), (0, pR (some a0)), (1, pI a1)] rfl (iinc_e (by decide)) (lt_n hn (by decide)) rfl dX4_waiterFor_37 ?_
  refine g_goto X (pc := 40) (tgt := 2) dX4_waiterFor_40 (by decide) ?_
  refine g_sub [1, 2, 0] [(0, pR (some a0)), (1, pI a1), (2, pI (a2 + (1 : Int32)))] rfl ?_
  exact hk2 a0 a1 (a2 + (1 : Int32)) M h
theorem wX4_waiterFor_L2 {x : GX} {n0 sl0 : Nat} (X : Cx x cX4_waiterFor RX4 (some .int) n0 sl0 0 0) {out : Int32 × Mm} (hE : Ends x n0 sl0 (some (pI out.1)) out.2) (hn : xn x = 4) (fu : Nat)   : ∀ (n : Nat) (a0 : Nat) (a1 : Int32) (a2 : Int32)  (M : Mm), fX4_waiterFor_L2 fu  n a0 a1 a2 M = some out → Gw x M 2 [(0, pR (some a0)), (1, pI a1), (2, pI a2)] [] := by
  intro n
  induction n with
  | zero =>
    intro a0 a1 a2 M h
    have h : (none : Option (Int32 × Mm)) = some out := h
    cases h
  | succ n ih =>
    intro a0 a1 a2 M h
    rw [fX4_waiterFor_L2] at h
    refine g_iload_n X (pc := 2) 2 rfl rfl dX4_waiterFor_2 ?_
    refine g_aload_n X (pc := 3) 0 rfl rfl dX4_waiterFor_3 ?_
    obtain ⟨v1, ev1, h⟩ := bd h
    refine g_getI X (pc := 4) fk_4_4 rfl rfl ev1 tb_107 dX4_waiterFor_4 ?_
    refine g_icmp_ge X (pc := 7) (tgt := 43) dX4_waiterFor_7 (by decide) (fun hc => ?_) (fun hc => ?_)
    · have h := (if_pos hc).symm.trans h
      refine g_iconst X (pc := 43) (v := (-1)) dX4_waiterFor_43 (by decide) ?_
      obtain rfl := Option.some.inj h
      exact g_ireturn X hE dX4_waiterFor_44
    · have h := (if_neg hc).symm.trans h
      refine g_iload_n X (pc := 10) 2 rfl rfl dX4_waiterFor_10 ?_
      refine g_bipush X (pc := 11) (v := 8) dX4_waiterFor_11 (by decide) ?_
      refine g_icmp_ge X (pc := 13) (tgt := 43) dX4_waiterFor_13 (by decide) (fun hc => ?_) (fun hc => ?_)
      · have h := (if_pos hc).symm.trans h
        refine g_iconst X (pc := 43) (v := (-1)) dX4_waiterFor_43 (by decide) ?_
        obtain rfl := Option.some.inj h
        exact g_ireturn X hE dX4_waiterFor_44
      · have h := (if_neg hc).symm.trans h
        refine g_aload_n X (pc := 16) 0 rfl rfl dX4_waiterFor_16 ?_
        obtain ⟨v2, ev2, h⟩ := bd h
        refine g_getR X (pc := 17) fk_4_14 rfl rfl ev2 tb_118 dX4_waiterFor_17 ?_
        refine g_iload_n X (pc := 20) 2 rfl rfl dX4_waiterFor_20 ?_
        obtain ⟨v3, ev3, h⟩ := bd h
        refine g_aaload X (pc := 21) (k := 3) rfl rfl (by decide) ev3 dX4_waiterFor_21 ?_
        refine g_astore_n X (pc := 22) [(3, pR v3), (0, pR (some a0)), (1, pI a1), (2, pI a2)] rfl (lt_n hn (by decide)) rfl dX4_waiterFor_22 ?_
        refine g_aload_n X (pc := 23) 0 rfl rfl dX4_waiterFor_23 ?_
        refine g_ifnull X (pc := 24) (tgt := 37) dX4_waiterFor_24 (by decide) (fun hc => ?_) (fun hc => ?_)
        · have h := (if_pos hc).symm.trans h
          refine g_sub [1, 2, 3] [(0, pR (some a0)), (1, pI a1), (2, pI a2)] rfl ?_
          exact wX4_waiterFor_L37 X hE hn fu (fun b0 b1 b2 M => fX4_waiterFor_L2 fu  n b0 b1 b2 M) ih a0 a1 a2 M h
        · have h := (if_neg hc).symm.trans h
          refine g_aload_n X (pc := 27) 0 rfl rfl dX4_waiterFor_27 ?_
          obtain ⟨v4, ev4, h⟩ := bd h
          refine g_getI X (pc := 28) fk_6_3 rfl rfl ev4 tb_550 dX4_waiterFor_28 ?_
          refine g_iload_n X (pc := 31) 2 rfl rfl dX4_waiterFor_31 ?_
          refine g_icmp_ne X (pc := 32) (tgt := 37) dX4_waiterFor_32 (by decide) (fun hc => ?_) (fun hc => ?_)
          · have h := (if_neg hc).symm.trans h
            refine g_sub [1, 2, 3] [(0, pR (some a0)), (1, pI a1), (2, pI a2)] rfl ?_
            exact wX4_waiterFor_L37 X hE hn fu (fun b0 b1 b2 M => fX4_waiterFor_L2 fu  n b0 b1 b2 M) ih a0 a1 a2 M h
          · have h := (if_pos hc).symm.trans h
            refine g_iload_n X (pc := 35) 3 rfl rfl dX4_waiterFor_35 ?_
            obtain rfl := Option.some.inj h
            exact g_ireturn X hE dX4_waiterFor_36
theorem wX4_waiterFor {x : GX} {n0 sl0 : Nat} (X : Cx x cX4_waiterFor RX4 (some .int) n0 sl0 0 0) {out : Int32 × Mm} (hE : Ends x n0 sl0 (some (pI out.1)) out.2) (hn : xn x = 4) (fu : Nat)   (a0 : Nat) (a1 : Int32)  (M : Mm) (h : fX4_waiterFor fu  a0 a1 M = some out) : Gw x M 0 [(0, pR (some a0)), (1, pI a1)] [] := by
  unfold fX4_waiterFor at h
  refine g_iconst X (pc := 0) (v := 0) dX4_waiterFor_0 (by decide) ?_
  refine g_istore_n X (pc := 1) [(2, pI (0 : Int32)), (0, pR (some a0)), (1, pI a1)] rfl (lt_n hn (by decide)) rfl dX4_waiterFor_1 ?_
  refine g_sub [1, 2, 0] [(0, pR (some a0)), (1, pI a1), (2, pI (0 : Int32))] rfl ?_
  exact wX4_waiterFor_L2 X hE hn fu   fu a0 a1 (0 : Int32) M h
theorem hyX4_waiterFor : yX4_waiterFor.cls ≠ "java/lang/invoke/MethodHandle" ∧ yX4_waiterFor.cls ≠ "java/lang/invoke/VarHandle" ∧ (parseMethodDescriptor yX4_waiterFor.desc).map (fun d => d.parameters.length) = some 1 := ⟨by decide +kernel, by decide +kernel, by decide +kernel⟩
theorem ctX4_waiterFor (l : Launch) (E : Nat → Nat) (D : va_G) (dA : Nat → ClassId) (lo : Nat) (H0 : Heap) (fu : Nat) (a0 : Nat) (a1 : Int32) (M : Mm) (out : Int32 × Mm) (h : fX4_waiterFor fu a0 a1 M = some out) : Ct l E D dA lo H0 yX4_waiterFor cX4_waiterFor 4 (some .int) 0 0 [pR (some a0), pI a1] M (some (pI out.1)) out.2 := by
  refine ct_of (by decide +kernel) (Nat.le_of_ble_eq_true rfl) ?_
  intro x hl he hd ha ho hh hn hin X hE
  exact wX4_waiterFor X hE hn fu a0 a1 M h
/-! WebHost$Link.letWait(II)Z -/
def fX4_letWait_L107 (fu : Nat)  (a0 : Nat) (a2 : Int32) (a4 : Int32) (a5 : Option Nat)  (M : Mm) : Option (Int32 × Mm) :=
    (gR M 4 256 (some a0)).bind fun v1 =>
    (gR M 6 384 a5).bind fun v2 =>
    (cpB M v1 (0 : Int32) v2 (0 : Int32) (jmin a2 (1514 : Int32))).bind fun M3 =>
    (pF M3 6 385 a5 a2).bind fun M4 =>
    rN .boolean a4 M4
def fX4_letWait_L78 (fu : Nat)  (a0 : Nat) (a1 : Int32) (a2 : Int32) (a4 : Int32) (a5 : Option Nat)  (M : Mm) : Option (Int32 × Mm) :=
    if a4 = 0 then (
    fX4_letWait_L107 fu  a0 a2 a4 a5 M)
    else (
    (pF M 6 387 a5 a1).bind fun M1 =>
    (gR M1 4 261 (some a0)).bind fun v2 =>
    (gI M1 10 641 v2).bind fun v3 =>
    (pF M1 6 386 a5 v3).bind fun M4 =>
    (pF M4 6 388 a5 (1 : Int32)).bind fun M5 =>
    fX4_letWait_L107 fu  a0 a2 a4 a5 M5)
def fX4_letWait_L48 (fu : Nat)  (a0 : Nat) (a1 : Int32) (a2 : Int32) (a3 : Int32) (a4 : Int32)  (M : Mm) : Option (Int32 × Mm) :=
    (gR M 4 270 (some a0)).bind fun v1 =>
    (gB M 116 v1 a3).bind fun v2 =>
    if v2 = none then (
    b2 (mkO M 6) fun v3 M4 =>
    (fX6_init fu v3  M4).bind fun M5 =>
    (gR M5 4 270 (some a0)).bind fun v6 =>
    (pB M5 6 v6 a3 (some v3)).bind fun M7 =>
    fX4_letWait_L78 fu  a0 a1 a2 a4 (some v3) M7)
    else (
    fX4_letWait_L78 fu  a0 a1 a2 a4 v2 M)
def fX4_letWait_L15 (fu : Nat)  (a0 : Nat) (a1 : Int32) (a2 : Int32) (a3 : Int32) (s0 : Int32) (M : Mm) : Option (Int32 × Mm) :=
    if s0 = 0 then (
    fX4_letWait_L48 fu  a0 a1 a2 a3 s0 M)
    else (
    (gI M 4 260 (some a0)).bind fun v1 =>
    if v1 < (8 : Int32) then (
    (gI M 4 260 (some a0)).bind fun v2 =>
    (gI M 4 260 (some a0)).bind fun v3 =>
    (pF M 4 260 (some a0) (v3 + (1 : Int32))).bind fun M4 =>
    fX4_letWait_L48 fu  a0 a1 a2 v2 s0 M4)
    else (
    rN .boolean (0 : Int32) M))
def fX4_letWait (fu : Nat)  (a0 : Nat) (a1 : Int32) (a2 : Int32)  (M : Mm) : Option (Int32 × Mm) :=
    (rc M 4 (some a0)).bind fun q1 =>
    b2 (fX4_waiterFor fu q1 a1 M) fun v3 M2 =>
    if 0 ≤ v3 then (
    fX4_letWait_L15 fu  a0 a1 a2 v3 (0 : Int32) M2)
    else (
    fX4_letWait_L15 fu  a0 a1 a2 v3 (1 : Int32) M2)
theorem dX4_letWait_0 : decode cX4_letWait 0 = .ok (.aload_n 0, 1) := by decide +kernel
theorem dX4_letWait_1 : decode cX4_letWait 1 = .ok (.iload_n 1, 1) := by decide +kernel
theorem dX4_letWait_2 : decode cX4_letWait 2 = .ok (.invokevirtual 101, 3) := by decide +kernel
theorem dX4_letWait_5 : decode cX4_letWait 5 = .ok (.istore_n 3, 1) := by decide +kernel
theorem dX4_letWait_6 : decode cX4_letWait 6 = .ok (.iload_n 3, 1) := by decide +kernel
theorem dX4_letWait_7 : decode cX4_letWait 7 = .ok (.ifCond .ge 7, 3) := by decide +kernel
theorem dX4_letWait_10 : decode cX4_letWait 10 = .ok (.iconst 1, 1) := by decide +kernel
theorem dX4_letWait_11 : decode cX4_letWait 11 = .ok (.goto 4, 3) := by decide +kernel
theorem dX4_letWait_14 : decode cX4_letWait 14 = .ok (.iconst 0, 1) := by decide +kernel
theorem dX4_letWait_15 : decode cX4_letWait 15 = .ok (.istore 4, 2) := by decide +kernel
theorem dX4_letWait_17 : decode cX4_letWait 17 = .ok (.iload 4, 2) := by decide +kernel
theorem dX4_letWait_19 : decode cX4_letWait 19 = .ok (.ifCond .eq 29, 3) := by decide +kernel
theorem dX4_letWait_22 : decode cX4_letWait 22 = .ok (.aload_n 0, 1) := by decide +kernel
theorem dX4_letWait_23 : decode cX4_letWait 23 = .ok (.getfield 60, 3) := by decide +kernel
theorem dX4_letWait_26 : decode cX4_letWait 26 = .ok (.bipush 8, 2) := by decide +kernel
theorem dX4_letWait_28 : decode cX4_letWait 28 = .ok (.if_icmp .lt 5, 3) := by decide +kernel
theorem dX4_letWait_31 : decode cX4_letWait 31 = .ok (.iconst 0, 1) := by decide +kernel
theorem dX4_letWait_32 : decode cX4_letWait 32 = .ok (.ireturn, 1) := by decide +kernel
theorem dX4_letWait_33 : decode cX4_letWait 33 = .ok (.aload_n 0, 1) := by decide +kernel
theorem dX4_letWait_34 : decode cX4_letWait 34 = .ok (.getfield 60, 3) := by decide +kernel
theorem dX4_letWait_37 : decode cX4_letWait 37 = .ok (.istore_n 3, 1) := by decide +kernel
theorem dX4_letWait_38 : decode cX4_letWait 38 = .ok (.aload_n 0, 1) := by decide +kernel
theorem dX4_letWait_39 : decode cX4_letWait 39 = .ok (.dup, 1) := by decide +kernel
theorem dX4_letWait_40 : decode cX4_letWait 40 = .ok (.getfield 60, 3) := by decide +kernel
theorem dX4_letWait_43 : decode cX4_letWait 43 = .ok (.iconst 1, 1) := by decide +kernel
theorem dX4_letWait_44 : decode cX4_letWait 44 = .ok (.iadd, 1) := by decide +kernel
theorem dX4_letWait_45 : decode cX4_letWait 45 = .ok (.putfield 60, 3) := by decide +kernel
theorem dX4_letWait_48 : decode cX4_letWait 48 = .ok (.aload_n 0, 1) := by decide +kernel
theorem dX4_letWait_49 : decode cX4_letWait 49 = .ok (.getfield 34, 3) := by decide +kernel
theorem dX4_letWait_52 : decode cX4_letWait 52 = .ok (.iload_n 3, 1) := by decide +kernel
theorem dX4_letWait_53 : decode cX4_letWait 53 = .ok (.aaload, 1) := by decide +kernel
theorem dX4_letWait_54 : decode cX4_letWait 54 = .ok (.astore 5, 2) := by decide +kernel
theorem dX4_letWait_56 : decode cX4_letWait 56 = .ok (.aload 5, 2) := by decide +kernel
theorem dX4_letWait_58 : decode cX4_letWait 58 = .ok (.ifnonnull 20, 3) := by decide +kernel
theorem dX4_letWait_61 : decode cX4_letWait 61 = .ok (.new 32, 3) := by decide +kernel
theorem dX4_letWait_64 : decode cX4_letWait 64 = .ok (.dup, 1) := by decide +kernel
theorem dX4_letWait_65 : decode cX4_letWait 65 = .ok (.invokespecial 140, 3) := by decide +kernel
theorem dX4_letWait_68 : decode cX4_letWait 68 = .ok (.astore 5, 2) := by decide +kernel
theorem dX4_letWait_70 : decode cX4_letWait 70 = .ok (.aload_n 0, 1) := by decide +kernel
theorem dX4_letWait_71 : decode cX4_letWait 71 = .ok (.getfield 34, 3) := by decide +kernel
theorem dX4_letWait_74 : decode cX4_letWait 74 = .ok (.iload_n 3, 1) := by decide +kernel
theorem dX4_letWait_75 : decode cX4_letWait 75 = .ok (.aload 5, 2) := by decide +kernel
theorem dX4_letWait_77 : decode cX4_letWait 77 = .ok (.aastore, 1) := by decide +kernel
theorem dX4_letWait_78 : decode cX4_letWait 78 = .ok (.iload 4, 2) := by decide +kernel
theorem dX4_letWait_80 : decode cX4_letWait 80 = .ok (.ifCond .eq 27, 3) := by decide +kernel
theorem dX4_letWait_83 : decode cX4_letWait 83 = .ok (.aload 5, 2) := by decide +kernel
theorem dX4_letWait_85 : decode cX4_letWait 85 = .ok (.iload_n 1, 1) := by decide +kernel
theorem dX4_letWait_86 : decode cX4_letWait 86 = .ok (.putfield 141, 3) := by decide +kernel
theorem dX4_letWait_89 : decode cX4_letWait 89 = .ok (.aload 5, 2) := by decide +kernel
theorem dX4_letWait_91 : decode cX4_letWait 91 = .ok (.aload_n 0, 1) := by decide +kernel
theorem dX4_letWait_92 : decode cX4_letWait 92 = .ok (.getfield 9, 3) := by decide +kernel
theorem dX4_letWait_95 : decode cX4_letWait 95 = .ok (.getfield 67, 3) := by decide +kernel
theorem dX4_letWait_98 : decode cX4_letWait 98 = .ok (.putfield 144, 3) := by decide +kernel
theorem dX4_letWait_101 : decode cX4_letWait 101 = .ok (.aload 5, 2) := by decide +kernel
theorem dX4_letWait_103 : decode cX4_letWait 103 = .ok (.iconst 1, 1) := by decide +kernel
theorem dX4_letWait_104 : decode cX4_letWait 104 = .ok (.putfield 147, 3) := by decide +kernel
theorem dX4_letWait_107 : decode cX4_letWait 107 = .ok (.aload_n 0, 1) := by decide +kernel
theorem dX4_letWait_108 : decode cX4_letWait 108 = .ok (.getfield 15, 3) := by decide +kernel
theorem dX4_letWait_111 : decode cX4_letWait 111 = .ok (.iconst 0, 1) := by decide +kernel
theorem dX4_letWait_112 : decode cX4_letWait 112 = .ok (.aload 5, 2) := by decide +kernel
theorem dX4_letWait_114 : decode cX4_letWait 114 = .ok (.getfield 108, 3) := by decide +kernel
theorem dX4_letWait_117 : decode cX4_letWait 117 = .ok (.iconst 0, 1) := by decide +kernel
theorem dX4_letWait_118 : decode cX4_letWait 118 = .ok (.iload_n 2, 1) := by decide +kernel
theorem dX4_letWait_119 : decode cX4_letWait 119 = .ok (.sipush 1514, 3) := by decide +kernel
theorem dX4_letWait_122 : decode cX4_letWait 122 = .ok (.invokestatic 150, 3) := by decide +kernel
theorem dX4_letWait_125 : decode cX4_letWait 125 = .ok (.invokestatic 156, 3) := by decide +kernel
theorem dX4_letWait_128 : decode cX4_letWait 128 = .ok (.aload 5, 2) := by decide +kernel
theorem dX4_letWait_130 : decode cX4_letWait 130 = .ok (.iload_n 2, 1) := by decide +kernel
theorem dX4_letWait_131 : decode cX4_letWait 131 = .ok (.putfield 111, 3) := by decide +kernel
theorem dX4_letWait_134 : decode cX4_letWait 134 = .ok (.iload 4, 2) := by decide +kernel
theorem dX4_letWait_136 : decode cX4_letWait 136 = .ok (.ireturn, 1) := by decide +kernel
theorem wX4_letWait_L107 {x : GX} {n0 sl0 : Nat} (X : Cx x cX4_letWait RX4 (some .boolean) n0 sl0 2 40) {out : Int32 × Mm} (hE : Ends x n0 sl0 (some (pI out.1)) out.2) (hn : xn x = 6) (fu : Nat)   (a0 : Nat) (a2 : Int32) (a4 : Int32) (a5 : Option Nat)  (M : Mm) (h : fX4_letWait_L107 fu  a0 a2 a4 a5 M = some out) : Gw x M 107 [(0, pR (some a0)), (2, pI a2), (4, pI a4), (5, pR a5)] [] := by
  unfold fX4_letWait_L107 at h
  refine g_aload_n X (pc := 107) 0 rfl rfl dX4_letWait_107 ?_
  obtain ⟨v1, ev1, h⟩ := bd h
  refine g_getR X (pc := 108) fk_4_0 rfl rfl ev1 tb_97 dX4_letWait_108 ?_
  refine g_iconst X (pc := 111) (v := 0) dX4_letWait_111 (by decide) ?_
  refine g_aload X (pc := 112) 3 rfl dX4_letWait_112 ?_
  obtain ⟨v2, ev2, h⟩ := bd h
  refine g_getR X (pc := 114) fk_6_0 rfl rfl ev2 tb_542 dX4_letWait_114 ?_
  refine g_iconst X (pc := 117) (v := 0) dX4_letWait_117 (by decide) ?_
  refine g_iload_n X (pc := 118) 1 rfl rfl dX4_letWait_118 ?_
  refine g_sipush X (pc := 119) (v := 1514) dX4_letWait_119 (by decide) ?_
  refine g_mmin X (pc := 122) tb_477 tb_348 tb_13 tb_349 ⟨by decide, Nat.le_of_ble_eq_true rfl⟩ dX4_letWait_122 ?_
  obtain ⟨M3, eM3, h⟩ := bd h
  refine g_copyB X (pc := 125) eM3 tb_651 tb_363 tb_362 tb_15 ⟨by decide, Nat.le_of_ble_eq_true rfl⟩ dX4_letWait_125 ?_
  refine g_aload X (pc := 128) 3 rfl dX4_letWait_128 ?_
  refine g_iload_n X (pc := 130) 1 rfl rfl dX4_letWait_130 ?_
  obtain ⟨M4, eM4, h⟩ := bd h
  refine g_putI X (pc := 131) fk_6_1 rfl rfl rfl eM4 tb_545 (Or.inl rfl) dX4_letWait_131 ?_
  refine g_iload X (pc := 134) 2 rfl dX4_letWait_134 ?_
  obtain ⟨hz, rfl⟩ := rN_some h
  exact g_nreturn X rfl hz hE dX4_letWait_136
theorem wX4_letWait_L78 {x : GX} {n0 sl0 : Nat} (X : Cx x cX4_letWait RX4 (some .boolean) n0 sl0 2 40) {out : Int32 × Mm} (hE : Ends x n0 sl0 (some (pI out.1)) out.2) (hn : xn x = 6) (fu : Nat)   (a0 : Nat) (a1 : Int32) (a2 : Int32) (a4 : Int32) (a5 : Option Nat)  (M : Mm) (h : fX4_letWait_L78 fu  a0 a1 a2 a4 a5 M = some out) : Gw x M 78 [(0, pR (some a0)), (1, pI a1), (2, pI a2), (4, pI a4), (5, pR a5)] [] := by
  unfold fX4_letWait_L78 at h
  refine g_iload X (pc := 78) 3 rfl dX4_letWait_78 ?_
  refine g_if_eq X (pc := 80) (tgt := 107) dX4_letWait_80 (by decide) (fun hc => ?_) (fun hc => ?_)
  · have h := (if_pos hc).symm.trans h
    refine g_sub [0, 2, 3, 4] [(0, pR (some a0)), (2, pI a2), (4, pI a4), (5, pR a5)] rfl ?_
    exact wX4_letWait_L107 X hE hn fu   a0 a2 a4 a5 M h
  · have h := (if_neg hc).symm.trans h
    refine g_aload X (pc := 83) 4 rfl dX4_letWait_83 ?_
    refine g_iload_n X (pc := 85) 1 rfl rfl dX4_letWait_85 ?_
    obtain ⟨M1, eM1, h⟩ := bd h
    refine g_putI X (pc := 86) fk_6_3 rfl rfl rfl eM1 tb_550 (Or.inl rfl) dX4_letWait_86 ?_
    refine g_aload X (pc := 89) 4 rfl dX4_letWait_89 ?_
    refine g_aload_n X (pc := 91) 0 rfl rfl dX4_letWait_91 ?_
    obtain ⟨v2, ev2, h⟩ := bd h
    refine g_getR X (pc := 92) fk_4_5 rfl rfl ev2 tb_109 dX4_letWait_92 ?_
    obtain ⟨v3, ev3, h⟩ := bd h
    refine g_getI X (pc := 95) fk_10_1 rfl rfl ev3 tb_68 dX4_letWait_95 ?_
    obtain ⟨M4, eM4, h⟩ := bd h
    refine g_putI X (pc := 98) fk_6_2 rfl rfl rfl eM4 tb_549 (Or.inl rfl) dX4_letWait_98 ?_
    refine g_aload X (pc := 101) 4 rfl dX4_letWait_101 ?_
    refine g_iconst X (pc := 103) (v := 1) dX4_letWait_103 (by decide) ?_
    obtain ⟨M5, eM5, h⟩ := bd h
    refine g_putI X (pc := 104) fk_6_4 rfl rfl rfl eM5 tb_551 (Or.inl rfl) dX4_letWait_104 ?_
    refine g_sub [0, 2, 3, 4] [(0, pR (some a0)), (2, pI a2), (4, pI a4), (5, pR a5)] rfl ?_
    exact wX4_letWait_L107 X hE hn fu   a0 a2 a4 a5 M5 h
theorem wX4_letWait_L48 {x : GX} {n0 sl0 : Nat} (X : Cx x cX4_letWait RX4 (some .boolean) n0 sl0 2 40) {out : Int32 × Mm} (hE : Ends x n0 sl0 (some (pI out.1)) out.2) (hn : xn x = 6) (fu : Nat)   (a0 : Nat) (a1 : Int32) (a2 : Int32) (a3 : Int32) (a4 : Int32)  (M : Mm) (h : fX4_letWait_L48 fu  a0 a1 a2 a3 a4 M = some out) : Gw x M 48 [(0, pR (some a0)), (1, pI a1), (2, pI a2), (3, pI a3), (4, pI a4)] [] := by
  unfold fX4_letWait_L48 at h
  refine g_aload_n X (pc := 48) 0 rfl rfl dX4_letWait_48 ?_
  obtain ⟨v1, ev1, h⟩ := bd h
  refine g_getR X (pc := 49) fk_4_14 rfl rfl ev1 tb_118 dX4_letWait_49 ?_
  refine g_iload_n X (pc := 52) 3 rfl rfl dX4_letWait_52 ?_
  obtain ⟨v2, ev2, h⟩ := bd h
  refine g_aaload X (pc := 53) (k := 3) rfl rfl (by decide) ev2 dX4_letWait_53 ?_
  refine g_astore X (pc := 54) [(5, pR v2), (0, pR (some a0)), (1, pI a1), (2, pI a2), (3, pI a3), (4, pI a4)] (lt_n hn (by decide)) rfl dX4_letWait_54 ?_
  refine g_aload X (pc := 56) 0 rfl dX4_letWait_56 ?_
  refine g_ifnonnull X (pc := 58) (tgt := 78) dX4_letWait_58 (by decide) (fun hc => ?_) (fun hc => ?_)
  · have h := (if_neg hc).symm.trans h
    refine g_sub [1, 2, 3, 5, 0] [(0, pR (some a0)), (1, pI a1), (2, pI a2), (4, pI a4), (5, pR v2)] rfl ?_
    exact wX4_letWait_L78 X hE hn fu   a0 a1 a2 a4 v2 M h
  · have h := (if_pos hc).symm.trans h
    obtain ⟨v3, M4, eM4, h⟩ := b2d h
    refine g_new X (pc := 61) fk_6_0 dvX6 eM4 tb_96 tb_535 tb_16 dX4_letWait_61 ?_
    refine g_dup X (pc := 64) rfl dX4_letWait_64 ?_
    obtain ⟨M5, eM5, h⟩ := bd h
    refine g_callI X (pc := 65) (M' := M5) (as := []) (as' := []) (st := [pR (some v3)]) (ctX6_init _ _ _ _ _ _ fu v3  M4 _ eM5) tb_538 tb_650 tb_537 tb_16 rfl hyX6_init rfl rfl ⟨by decide, by decide⟩ (Nat.le_of_ble_eq_true rfl) dX4_letWait_65 ?_
    refine g_astore X (pc := 68) [(5, pR (some v3)), (0, pR (some a0)), (1, pI a1), (2, pI a2), (3, pI a3), (4, pI a4)] (lt_n hn (by decide)) rfl dX4_letWait_68 ?_
    refine g_aload_n X (pc := 70) 1 rfl rfl dX4_letWait_70 ?_
    obtain ⟨v6, ev6, h⟩ := bd h
    refine g_getR X (pc := 71) fk_4_14 rfl rfl ev6 tb_118 dX4_letWait_71 ?_
    refine g_iload_n X (pc := 74) 4 rfl rfl dX4_letWait_74 ?_
    refine g_aload X (pc := 75) 0 rfl dX4_letWait_75 ?_
    obtain ⟨M7, eM7, h⟩ := bd h
    refine g_aastore X (pc := 77) (c := 6) (k := 3) rfl (by decide) rfl eM7 dX4_letWait_77 ?_
    refine g_sub [1, 2, 3, 5, 0] [(0, pR (some a0)), (1, pI a1), (2, pI a2), (4, pI a4), (5, pR (some v3))] rfl ?_
    exact wX4_letWait_L78 X hE hn fu   a0 a1 a2 a4 (some v3) M7 h
theorem wX4_letWait_L15 {x : GX} {n0 sl0 : Nat} (X : Cx x cX4_letWait RX4 (some .boolean) n0 sl0 2 40) {out : Int32 × Mm} (hE : Ends x n0 sl0 (some (pI out.1)) out.2) (hn : xn x = 6) (fu : Nat)   (a0 : Nat) (a1 : Int32) (a2 : Int32) (a3 : Int32) (s0 : Int32) (M : Mm) (h : fX4_letWait_L15 fu  a0 a1 a2 a3 s0 M = some out) : Gw x M 15 [(0, pR (some a0)), (1, pI a1), (2, pI a2), (3, pI a3)] [pI s0] := by
  unfold fX4_letWait_L15 at h
  refine g_istore X (pc := 15) [(4, pI s0), (0, pR (some a0)), (1, pI a1), (2, pI a2), (3, pI a3)] (lt_n hn (by decide)) rfl dX4_letWait_15 ?_
  refine g_iload X (pc := 17) 0 rfl dX4_letWait_17 ?_
  refine g_if_eq X (pc := 19) (tgt := 48) dX4_letWait_19 (by decide) (fun hc => ?_) (fun hc => ?_)
  · have h := (if_pos hc).symm.trans h
    refine g_sub [1, 2, 3, 4, 0] [(0, pR (some a0)), (1, pI a1), (2, pI a2), (3, pI a3), (4, pI s0)] rfl ?_
    exact wX4_letWait_L48 X hE hn fu   a0 a1 a2 a3 s0 M h
  · have h := (if_neg hc).symm.trans h
    refine g_aload_n X (pc := 22) 1 rfl rfl dX4_letWait_22 ?_
    obtain ⟨v1, ev1, h⟩ := bd h
    refine g_getI X (pc := 23) fk_4_4 rfl rfl ev1 tb_107 dX4_letWait_23 ?_
    refine g_bipush X (pc := 26) (v := 8) dX4_letWait_26 (by decide) ?_
    refine g_icmp_lt X (pc := 28) (tgt := 33) dX4_letWait_28 (by decide) (fun hc => ?_) (fun hc => ?_)
    · have h := (if_pos hc).symm.trans h
      refine g_aload_n X (pc := 33) 1 rfl rfl dX4_letWait_33 ?_
      obtain ⟨v2, ev2, h⟩ := bd h
      refine g_getI X (pc := 34) fk_4_4 rfl rfl ev2 tb_107 dX4_letWait_34 ?_
      refine g_istore_n X (pc := 37) [(3, pI v2), (4, pI s0), (0, pR (some a0)), (1, pI a1), (2, pI a2)] rfl (lt_n hn (by decide)) rfl dX4_letWait_37 ?_
      refine g_aload_n X (pc := 38) 2 rfl rfl dX4_letWait_38 ?_
      refine g_dup X (pc := 39) rfl dX4_letWait_39 ?_
      obtain ⟨v3, ev3, h⟩ := bd h
      refine g_getI X (pc := 40) fk_4_4 rfl rfl ev3 tb_107 dX4_letWait_40 ?_
      refine g_iconst X (pc := 43) (v := 1) dX4_letWait_43 (by decide) ?_
      refine g_iadd X (pc := 44) dX4_letWait_44 ?_
      obtain ⟨M4, eM4, h⟩ := bd h
      refine g_putI X (pc := 45) fk_4_4 rfl rfl rfl eM4 tb_107 (Or.inl rfl) dX4_letWait_45 ?_
      refine g_sub [2, 3, 4, 0, 1] [(0, pR (some a0)), (1, pI a1), (2, pI a2), (3, pI v2), (4, pI s0)] rfl ?_
      exact wX4_letWait_L48 X hE hn fu   a0 a1 a2 v2 s0 M4 h
    · have h := (if_neg hc).symm.trans h
      refine g_iconst X (pc := 31) (v := 0) dX4_letWait_31 (by decide) ?_
      obtain ⟨hz, rfl⟩ := rN_some h
      exact g_nreturn X rfl hz hE dX4_letWait_32
theorem wX4_letWait {x : GX} {n0 sl0 : Nat} (X : Cx x cX4_letWait RX4 (some .boolean) n0 sl0 2 40) {out : Int32 × Mm} (hE : Ends x n0 sl0 (some (pI out.1)) out.2) (hn : xn x = 6) (fu : Nat)   (a0 : Nat) (a1 : Int32) (a2 : Int32)  (M : Mm) (h : fX4_letWait fu  a0 a1 a2 M = some out) : Gw x M 0 [(0, pR (some a0)), (1, pI a1), (2, pI a2)] [] := by
  unfold fX4_letWait at h
  refine g_aload_n X (pc := 0) 0 rfl rfl dX4_letWait_0 ?_
  refine g_iload_n X (pc := 1) 1 rfl rfl dX4_letWait_1 ?_
  obtain ⟨q1, eq1, h⟩ := bd h
  obtain ⟨v3, M2, eM2, h⟩ := b2d h
  refine g_callV X (pc := 2) (M' := M2) (ro := some (pI v3)) (c := 4) rfl (by decide) (as := [pI a1]) (as' := [pI a1]) (st := []) eq1 (ctX4_waiterFor _ _ _ _ _ _ fu q1 a1 M _ eM2) tb_649 tb_646 tb_648 ts_18 tb_4 ⟨rfl, hyX4_waiterFor⟩ rfl rfl ⟨by decide, by decide⟩ (Nat.le_of_ble_eq_true rfl) dX4_letWait_2 ?_
  refine g_istore_n X (pc := 5) [(3, pI v3), (0, pR (some a0)), (1, pI a1), (2, pI a2)] rfl (lt_n hn (by decide)) rfl dX4_letWait_5 ?_
  refine g_iload_n X (pc := 6) 0 rfl rfl dX4_letWait_6 ?_
  refine g_if_ge X (pc := 7) (tgt := 14) dX4_letWait_7 (by decide) (fun hc => ?_) (fun hc => ?_)
  · have h := (if_pos hc).symm.trans h
    refine g_iconst X (pc := 14) (v := 0) dX4_letWait_14 (by decide) ?_
    refine g_sub [1, 2, 3, 0] [(0, pR (some a0)), (1, pI a1), (2, pI a2), (3, pI v3)] rfl ?_
    exact wX4_letWait_L15 X hE hn fu   a0 a1 a2 v3 (0 : Int32) M2 h
  · have h := (if_neg hc).symm.trans h
    refine g_iconst X (pc := 10) (v := 1) dX4_letWait_10 (by decide) ?_
    refine g_goto X (pc := 11) (tgt := 15) dX4_letWait_11 (by decide) ?_
    refine g_sub [1, 2, 3, 0] [(0, pR (some a0)), (1, pI a1), (2, pI a2), (3, pI v3)] rfl ?_
    exact wX4_letWait_L15 X hE hn fu   a0 a1 a2 v3 (1 : Int32) M2 h
theorem hyX4_letWait : yX4_letWait.cls ≠ "java/lang/invoke/MethodHandle" ∧ yX4_letWait.cls ≠ "java/lang/invoke/VarHandle" ∧ (parseMethodDescriptor yX4_letWait.desc).map (fun d => d.parameters.length) = some 2 := ⟨by decide +kernel, by decide +kernel, by decide +kernel⟩
theorem ctX4_letWait (l : Launch) (E : Nat → Nat) (D : va_G) (dA : Nat → ClassId) (lo : Nat) (H0 : Heap) (fu : Nat) (a0 : Nat) (a1 : Int32) (a2 : Int32) (M : Mm) (out : Int32 × Mm) (h : fX4_letWait fu a0 a1 a2 M = some out) : Ct l E D dA lo H0 yX4_letWait cX4_letWait 6 (some .boolean) 2 40 [pR (some a0), pI a1, pI a2] M (some (pI out.1)) out.2 := by
  refine ct_of (by decide +kernel) (Nat.le_of_ble_eq_true rfl) ?_
  intro x hl he hd ha ho hh hn hin X hE
  exact wX4_letWait X hE hn fu a0 a1 a2 M h
/-! WebHost$Link.fillArp(IIII)V -/
def fX4_fillArp (fu : Nat)  (a0 : Nat) (a1 : Int32) (a2 : Int32) (a3 : Int32) (a4 : Int32)  (M : Mm) : Option (Mm) :=
    (gR M 4 256 (some a0)).bind fun v1 =>
    (fX11_putFour fu  v1 (14 : Int32) (67584 : Int32) M).bind fun M2 =>
    (gR M2 4 256 (some a0)).bind fun v3 =>
    (fX11_putTwo fu  v3 (18 : Int32) (1540 : Int32) M2).bind fun M4 =>
    (gR M4 4 256 (some a0)).bind fun v5 =>
    (fX11_putTwo fu  v5 (20 : Int32) a1 M4).bind fun M6 =>
    (gR M6 4 256 (some a0)).bind fun v7 =>
    (gI M6 4 258 (some a0)).bind fun v8 =>
    (fX11_putTwo fu  v7 (22 : Int32) v8 M6).bind fun M9 =>
    (gR M9 4 256 (some a0)).bind fun v10 =>
    (gI M9 4 259 (some a0)).bind fun v11 =>
    (fX11_putFour fu  v10 (24 : Int32) v11 M9).bind fun M12 =>
    (gR M12 4 256 (some a0)).bind fun v13 =>
    (gI M12 4 257 (some a0)).bind fun v14 =>
    (fX11_putFour fu  v13 (28 : Int32) v14 M12).bind fun M15 =>
    (gR M15 4 256 (some a0)).bind fun v16 =>
    (fX11_putTwo fu  v16 (32 : Int32) a2 M15).bind fun M17 =>
    (gR M17 4 256 (some a0)).bind fun v18 =>
    (fX11_putFour fu  v18 (34 : Int32) a3 M17).bind fun M19 =>
    (gR M19 4 256 (some a0)).bind fun v20 =>
    (fX11_putFour fu  v20 (38 : Int32) a4 M19).bind fun M21 =>
    some M21
theorem dX4_fillArp_0 : decode cX4_fillArp 0 = .ok (.aload_n 0, 1) := by decide +kernel
theorem dX4_fillArp_1 : decode cX4_fillArp 1 = .ok (.getfield 15, 3) := by decide +kernel
theorem dX4_fillArp_4 : decode cX4_fillArp 4 = .ok (.bipush 14, 2) := by decide +kernel
theorem dX4_fillArp_6 : decode cX4_fillArp 6 = .ok (.ldc 77, 2) := by decide +kernel
theorem dX4_fillArp_8 : decode cX4_fillArp 8 = .ok (.invokestatic 132, 3) := by decide +kernel
theorem dX4_fillArp_11 : decode cX4_fillArp 11 = .ok (.aload_n 0, 1) := by decide +kernel
theorem dX4_fillArp_12 : decode cX4_fillArp 12 = .ok (.getfield 15, 3) := by decide +kernel
theorem dX4_fillArp_15 : decode cX4_fillArp 15 = .ok (.bipush 18, 2) := by decide +kernel
theorem dX4_fillArp_17 : decode cX4_fillArp 17 = .ok (.sipush 1540, 3) := by decide +kernel
theorem dX4_fillArp_20 : decode cX4_fillArp 20 = .ok (.invokestatic 128, 3) := by decide +kernel
theorem dX4_fillArp_23 : decode cX4_fillArp 23 = .ok (.aload_n 0, 1) := by decide +kernel
theorem dX4_fillArp_24 : decode cX4_fillArp 24 = .ok (.getfield 15, 3) := by decide +kernel
theorem dX4_fillArp_27 : decode cX4_fillArp 27 = .ok (.bipush 20, 2) := by decide +kernel
theorem dX4_fillArp_29 : decode cX4_fillArp 29 = .ok (.iload_n 1, 1) := by decide +kernel
theorem dX4_fillArp_30 : decode cX4_fillArp 30 = .ok (.invokestatic 128, 3) := by decide +kernel
theorem dX4_fillArp_33 : decode cX4_fillArp 33 = .ok (.aload_n 0, 1) := by decide +kernel
theorem dX4_fillArp_34 : decode cX4_fillArp 34 = .ok (.getfield 15, 3) := by decide +kernel
theorem dX4_fillArp_37 : decode cX4_fillArp 37 = .ok (.bipush 22, 2) := by decide +kernel
theorem dX4_fillArp_39 : decode cX4_fillArp 39 = .ok (.aload_n 0, 1) := by decide +kernel
theorem dX4_fillArp_40 : decode cX4_fillArp 40 = .ok (.getfield 48, 3) := by decide +kernel
theorem dX4_fillArp_43 : decode cX4_fillArp 43 = .ok (.invokestatic 128, 3) := by decide +kernel
theorem dX4_fillArp_46 : decode cX4_fillArp 46 = .ok (.aload_n 0, 1) := by decide +kernel
theorem dX4_fillArp_47 : decode cX4_fillArp 47 = .ok (.getfield 15, 3) := by decide +kernel
theorem dX4_fillArp_50 : decode cX4_fillArp 50 = .ok (.bipush 24, 2) := by decide +kernel
theorem dX4_fillArp_52 : decode cX4_fillArp 52 = .ok (.aload_n 0, 1) := by decide +kernel
theorem dX4_fillArp_53 : decode cX4_fillArp 53 = .ok (.getfield 51, 3) := by decide +kernel
theorem dX4_fillArp_56 : decode cX4_fillArp 56 = .ok (.invokestatic 132, 3) := by decide +kernel
theorem dX4_fillArp_59 : decode cX4_fillArp 59 = .ok (.aload_n 0, 1) := by decide +kernel
theorem dX4_fillArp_60 : decode cX4_fillArp 60 = .ok (.getfield 15, 3) := by decide +kernel
theorem dX4_fillArp_63 : decode cX4_fillArp 63 = .ok (.bipush 28, 2) := by decide +kernel
theorem dX4_fillArp_65 : decode cX4_fillArp 65 = .ok (.aload_n 0, 1) := by decide +kernel
theorem dX4_fillArp_66 : decode cX4_fillArp 66 = .ok (.getfield 38, 3) := by decide +kernel
theorem dX4_fillArp_69 : decode cX4_fillArp 69 = .ok (.invokestatic 132, 3) := by decide +kernel
theorem dX4_fillArp_72 : decode cX4_fillArp 72 = .ok (.aload_n 0, 1) := by decide +kernel
theorem dX4_fillArp_73 : decode cX4_fillArp 73 = .ok (.getfield 15, 3) := by decide +kernel
theorem dX4_fillArp_76 : decode cX4_fillArp 76 = .ok (.bipush 32, 2) := by decide +kernel
theorem dX4_fillArp_78 : decode cX4_fillArp 78 = .ok (.iload_n 2, 1) := by decide +kernel
theorem dX4_fillArp_79 : decode cX4_fillArp 79 = .ok (.invokestatic 128, 3) := by decide +kernel
theorem dX4_fillArp_82 : decode cX4_fillArp 82 = .ok (.aload_n 0, 1) := by decide +kernel
theorem dX4_fillArp_83 : decode cX4_fillArp 83 = .ok (.getfield 15, 3) := by decide +kernel
theorem dX4_fillArp_86 : decode cX4_fillArp 86 = .ok (.bipush 34, 2) := by decide +kernel
theorem dX4_fillArp_88 : decode cX4_fillArp 88 = .ok (.iload_n 3, 1) := by decide +kernel
theorem dX4_fillArp_89 : decode cX4_fillArp 89 = .ok (.invokestatic 132, 3) := by decide +kernel
theorem dX4_fillArp_92 : decode cX4_fillArp 92 = .ok (.aload_n 0, 1) := by decide +kernel
theorem dX4_fillArp_93 : decode cX4_fillArp 93 = .ok (.getfield 15, 3) := by decide +kernel
theorem dX4_fillArp_96 : decode cX4_fillArp 96 = .ok (.bipush 38, 2) := by decide +kernel
theorem dX4_fillArp_98 : decode cX4_fillArp 98 = .ok (.iload 4, 2) := by decide +kernel
theorem dX4_fillArp_100 : decode cX4_fillArp 100 = .ok (.invokestatic 132, 3) := by decide +kernel
theorem dX4_fillArp_103 : decode cX4_fillArp 103 = .ok (.return_, 1) := by decide +kernel
theorem wX4_fillArp {x : GX} {n0 sl0 : Nat} (X : Cx x cX4_fillArp RX4 none n0 sl0 1 22) {out : Mm} (hE : Ends x n0 sl0 none out) (hn : xn x = 5) (fu : Nat)   (a0 : Nat) (a1 : Int32) (a2 : Int32) (a3 : Int32) (a4 : Int32)  (M : Mm) (h : fX4_fillArp fu  a0 a1 a2 a3 a4 M = some out) : Gw x M 0 [(0, pR (some a0)), (1, pI a1), (2, pI a2), (3, pI a3), (4, pI a4)] [] := by
  unfold fX4_fillArp at h
  refine g_aload_n X (pc := 0) 0 rfl rfl dX4_fillArp_0 ?_
  obtain ⟨v1, ev1, h⟩ := bd h
  refine g_getR X (pc := 1) fk_4_0 rfl rfl ev1 tb_97 dX4_fillArp_1 ?_
  refine g_bipush X (pc := 4) (v := 14) dX4_fillArp_4 (by decide) ?_
  refine g_ldc X (pc := 6) tb_521 dX4_fillArp_6 ?_
  obtain ⟨M2, eM2, h⟩ := bd h
  refine g_callSN X (pc := 8) (M' := M2) (ro := none) (as := [pR v1, pI (14 : Int32), pI (67584 : Int32)]) (as' := [pI (67584 : Int32), pI (14 : Int32), pR v1]) (st := []) (ctX11_putFour _ _ _ _ _ _ fu  v1 (14 : Int32) (67584 : Int32) M _ eM2) tb_366 (List.mem_of_getElem? (i := 3) rfl) tb_365 tb_1 hyX11_putFour rfl rfl ⟨by decide, by decide⟩ (Nat.le_of_ble_eq_true rfl) dX4_fillArp_8 ?_
  refine g_aload_n X (pc := 11) 0 rfl rfl dX4_fillArp_11 ?_
  obtain ⟨v3, ev3, h⟩ := bd h
  refine g_getR X (pc := 12) fk_4_0 rfl rfl ev3 tb_97 dX4_fillArp_12 ?_
  refine g_bipush X (pc := 15) (v := 18) dX4_fillArp_15 (by decide) ?_
  refine g_sipush X (pc := 17) (v := 1540) dX4_fillArp_17 (by decide) ?_
  obtain ⟨M4, eM4, h⟩ := bd h
  refine g_callSN X (pc := 20) (M' := M4) (ro := none) (as := [pR v3, pI (18 : Int32), pI (1540 : Int32)]) (as' := [pI (1540 : Int32), pI (18 : Int32), pR v3]) (st := []) (ctX11_putTwo _ _ _ _ _ _ fu  v3 (18 : Int32) (1540 : Int32) M2 _ eM4) tb_525 (List.mem_of_getElem? (i := 4) rfl) tb_524 tb_1 hyX11_putTwo rfl rfl ⟨by decide, by decide⟩ (Nat.le_of_ble_eq_true rfl) dX4_fillArp_20 ?_
  refine g_aload_n X (pc := 23) 0 rfl rfl dX4_fillArp_23 ?_
  obtain ⟨v5, ev5, h⟩ := bd h
  refine g_getR X (pc := 24) fk_4_0 rfl rfl ev5 tb_97 dX4_fillArp_24 ?_
  refine g_bipush X (pc := 27) (v := 20) dX4_fillArp_27 (by decide) ?_
  refine g_iload_n X (pc := 29) 1 rfl rfl dX4_fillArp_29 ?_
  obtain ⟨M6, eM6, h⟩ := bd h
  refine g_callSN X (pc := 30) (M' := M6) (ro := none) (as := [pR v5, pI (20 : Int32), pI a1]) (as' := [pI a1, pI (20 : Int32), pR v5]) (st := []) (ctX11_putTwo _ _ _ _ _ _ fu  v5 (20 : Int32) a1 M4 _ eM6) tb_525 (List.mem_of_getElem? (i := 4) rfl) tb_524 tb_1 hyX11_putTwo rfl rfl ⟨by decide, by decide⟩ (Nat.le_of_ble_eq_true rfl) dX4_fillArp_30 ?_
  refine g_aload_n X (pc := 33) 0 rfl rfl dX4_fillArp_33 ?_
  obtain ⟨v7, ev7, h⟩ := bd h
  refine g_getR X (pc := 34) fk_4_0 rfl rfl ev7 tb_97 dX4_fillArp_34 ?_
  refine g_bipush X (pc := 37) (v := 22) dX4_fillArp_37 (by decide) ?_
  refine g_aload_n X (pc := 39) 0 rfl rfl dX4_fillArp_39 ?_
  obtain ⟨v8, ev8, h⟩ := bd h
  refine g_getI X (pc := 40) fk_4_2 rfl rfl ev8 tb_103 dX4_fillArp_40 ?_
  obtain ⟨M9, eM9, h⟩ := bd h
  refine g_callSN X (pc := 43) (M' := M9) (ro := none) (as := [pR v7, pI (22 : Int32), pI v8]) (as' := [pI v8, pI (22 : Int32), pR v7]) (st := []) (ctX11_putTwo _ _ _ _ _ _ fu  v7 (22 : Int32) v8 M6 _ eM9) tb_525 (List.mem_of_getElem? (i := 4) rfl) tb_524 tb_1 hyX11_putTwo rfl rfl ⟨by decide, by decide⟩ (Nat.le_of_ble_eq_true rfl) dX4_fillArp_43 ?_
  refine g_aload_n X (pc := 46) 0 rfl rfl dX4_fillArp_46 ?_
  obtain ⟨v10, ev10, h⟩ := bd h
  refine g_getR X (pc := 47) fk_4_0 rfl rfl ev10 tb_97 dX4_fillArp_47 ?_
  refine g_bipush X (pc := 50) (v := 24) dX4_fillArp_50 (by decide) ?_
  refine g_aload_n X (pc := 52) 0 rfl rfl dX4_fillArp_52 ?_
  obtain ⟨v11, ev11, h⟩ := bd h
  refine g_getI X (pc := 53) fk_4_3 rfl rfl ev11 tb_105 dX4_fillArp_53 ?_
  obtain ⟨M12, eM12, h⟩ := bd h
  refine g_callSN X (pc := 56) (M' := M12) (ro := none) (as := [pR v10, pI (24 : Int32), pI v11]) (as' := [pI v11, pI (24 : Int32), pR v10]) (st := []) (ctX11_putFour _ _ _ _ _ _ fu  v10 (24 : Int32) v11 M9 _ eM12) tb_366 (List.mem_of_getElem? (i := 3) rfl) tb_365 tb_1 hyX11_putFour rfl rfl ⟨by decide, by decide⟩ (Nat.le_of_ble_eq_true rfl) dX4_fillArp_56 ?_
  refine g_aload_n X (pc := 59) 0 rfl rfl dX4_fillArp_59 ?_
  obtain ⟨v13, ev13, h⟩ := bd h
  refine g_getR X (pc := 60) fk_4_0 rfl rfl ev13 tb_97 dX4_fillArp_60 ?_
  refine g_bipush X (pc := 63) (v := 28) dX4_fillArp_63 (by decide) ?_
  refine g_aload_n X (pc := 65) 0 rfl rfl dX4_fillArp_65 ?_
  obtain ⟨v14, ev14, h⟩ := bd h
  refine g_getI X (pc := 66) fk_4_1 rfl rfl ev14 tb_100 dX4_fillArp_66 ?_
  obtain ⟨M15, eM15, h⟩ := bd h
  refine g_callSN X (pc := 69) (M' := M15) (ro := none) (as := [pR v13, pI (28 : Int32), pI v14]) (as' := [pI v14, pI (28 : Int32), pR v13]) (st := []) (ctX11_putFour _ _ _ _ _ _ fu  v13 (28 : Int32) v14 M12 _ eM15) tb_366 (List.mem_of_getElem? (i := 3) rfl) tb_365 tb_1 hyX11_putFour rfl rfl ⟨by decide, by decide⟩ (Nat.le_of_ble_eq_true rfl) dX4_fillArp_69 ?_
  refine g_aload_n X (pc := 72) 0 rfl rfl dX4_fillArp_72 ?_
  obtain ⟨v16, ev16, h⟩ := bd h
  refine g_getR X (pc := 73) fk_4_0 rfl rfl ev16 tb_97 dX4_fillArp_73 ?_
  refine g_bipush X (pc := 76) (v := 32) dX4_fillArp_76 (by decide) ?_
  refine g_iload_n X (pc := 78) 2 rfl rfl dX4_fillArp_78 ?_
  obtain ⟨M17, eM17, h⟩ := bd h
  refine g_callSN X (pc := 79) (M' := M17) (ro := none) (as := [pR v16, pI (32 : Int32), pI a2]) (as' := [pI a2, pI (32 : Int32), pR v16]) (st := []) (ctX11_putTwo _ _ _ _ _ _ fu  v16 (32 : Int32) a2 M15 _ eM17) tb_525 (List.mem_of_getElem? (i := 4) rfl) tb_524 tb_1 hyX11_putTwo rfl rfl ⟨by decide, by decide⟩ (Nat.le_of_ble_eq_true rfl) dX4_fillArp_79 ?_
  refine g_aload_n X (pc := 82) 0 rfl rfl dX4_fillArp_82 ?_
  obtain ⟨v18, ev18, h⟩ := bd h
  refine g_getR X (pc := 83) fk_4_0 rfl rfl ev18 tb_97 dX4_fillArp_83 ?_
  refine g_bipush X (pc := 86) (v := 34) dX4_fillArp_86 (by decide) ?_
  refine g_iload_n X (pc := 88) 3 rfl rfl dX4_fillArp_88 ?_
  obtain ⟨M19, eM19, h⟩ := bd h
  refine g_callSN X (pc := 89) (M' := M19) (ro := none) (as := [pR v18, pI (34 : Int32), pI a3]) (as' := [pI a3, pI (34 : Int32), pR v18]) (st := []) (ctX11_putFour _ _ _ _ _ _ fu  v18 (34 : Int32) a3 M17 _ eM19) tb_366 (List.mem_of_getElem? (i := 3) rfl) tb_365 tb_1 hyX11_putFour rfl rfl ⟨by decide, by decide⟩ (Nat.le_of_ble_eq_true rfl) dX4_fillArp_89 ?_
  refine g_aload_n X (pc := 92) 0 rfl rfl dX4_fillArp_92 ?_
  obtain ⟨v20, ev20, h⟩ := bd h
  refine g_getR X (pc := 93) fk_4_0 rfl rfl ev20 tb_97 dX4_fillArp_93 ?_
  refine g_bipush X (pc := 96) (v := 38) dX4_fillArp_96 (by decide) ?_
  refine g_iload X (pc := 98) 4 rfl dX4_fillArp_98 ?_
  obtain ⟨M21, eM21, h⟩ := bd h
  refine g_callSN X (pc := 100) (M' := M21) (ro := none) (as := [pR v20, pI (38 : Int32), pI a4]) (as' := [pI a4, pI (38 : Int32), pR v20]) (st := []) (ctX11_putFour _ _ _ _ _ _ fu  v20 (38 : Int32) a4 M19 _ eM21) tb_366 (List.mem_of_getElem? (i := 3) rfl) tb_365 tb_1 hyX11_putFour rfl rfl ⟨by decide, by decide⟩ (Nat.le_of_ble_eq_true rfl) dX4_fillArp_100 ?_
  obtain rfl := Option.some.inj h
  exact g_return X hE dX4_fillArp_103
theorem hyX4_fillArp : yX4_fillArp.cls ≠ "java/lang/invoke/MethodHandle" ∧ yX4_fillArp.cls ≠ "java/lang/invoke/VarHandle" ∧ (parseMethodDescriptor yX4_fillArp.desc).map (fun d => d.parameters.length) = some 4 := ⟨by decide +kernel, by decide +kernel, by decide +kernel⟩
theorem ctX4_fillArp (l : Launch) (E : Nat → Nat) (D : va_G) (dA : Nat → ClassId) (lo : Nat) (H0 : Heap) (fu : Nat) (a0 : Nat) (a1 : Int32) (a2 : Int32) (a3 : Int32) (a4 : Int32) (M : Mm) (out : Mm) (h : fX4_fillArp fu a0 a1 a2 a3 a4 M = some out) : Ct l E D dA lo H0 yX4_fillArp cX4_fillArp 5 none 1 22 [pR (some a0), pI a1, pI a2, pI a3, pI a4] M none out := by
  refine ct_of (by decide +kernel) (Nat.le_of_ble_eq_true rfl) ?_
  intro x hl he hd ha ho hh hn hin X hE
  exact wX4_fillArp X hE hn fu a0 a1 a2 a3 a4 M h
/-! WebHost$Link.fillAsk(I)V -/
def fX4_fillAsk (fu : Nat)  (a0 : Nat) (a1 : Int32)  (M : Mm) : Option (Mm) :=
    (rc M 4 (some a0)).bind fun q1 =>
    (fX4_fillArp fu q1 (1 : Int32) (0 : Int32) (0 : Int32) a1 M).bind fun M2 =>
    (gR M2 4 256 (some a0)).bind fun v3 =>
    (rc M2 4 (some a0)).bind fun q4 =>
    (fX4_fillLink fu q4 v3 (65535 : Int32) (-1 : Int32) (2054 : Int32) M2).bind fun M5 =>
    some M5
theorem dX4_fillAsk_0 : decode cX4_fillAsk 0 = .ok (.aload_n 0, 1) := by decide +kernel
theorem dX4_fillAsk_1 : decode cX4_fillAsk 1 = .ok (.iconst 1, 1) := by decide +kernel
theorem dX4_fillAsk_2 : decode cX4_fillAsk 2 = .ok (.iconst 0, 1) := by decide +kernel
theorem dX4_fillAsk_3 : decode cX4_fillAsk 3 = .ok (.iconst 0, 1) := by decide +kernel
theorem dX4_fillAsk_4 : decode cX4_fillAsk 4 = .ok (.iload_n 1, 1) := by decide +kernel
theorem dX4_fillAsk_5 : decode cX4_fillAsk 5 = .ok (.invokevirtual 89, 3) := by decide +kernel
theorem dX4_fillAsk_8 : decode cX4_fillAsk 8 = .ok (.aload_n 0, 1) := by decide +kernel
theorem dX4_fillAsk_9 : decode cX4_fillAsk 9 = .ok (.aload_n 0, 1) := by decide +kernel
theorem dX4_fillAsk_10 : decode cX4_fillAsk 10 = .ok (.getfield 15, 3) := by decide +kernel
theorem dX4_fillAsk_13 : decode cX4_fillAsk 13 = .ok (.ldc 139, 2) := by decide +kernel
theorem dX4_fillAsk_15 : decode cX4_fillAsk 15 = .ok (.iconst (-1), 1) := by decide +kernel
theorem dX4_fillAsk_16 : decode cX4_fillAsk 16 = .ok (.sipush 2054, 3) := by decide +kernel
theorem dX4_fillAsk_19 : decode cX4_fillAsk 19 = .ok (.invokevirtual 93, 3) := by decide +kernel
theorem dX4_fillAsk_22 : decode cX4_fillAsk 22 = .ok (.return_, 1) := by decide +kernel
theorem wX4_fillAsk {x : GX} {n0 sl0 : Nat} (X : Cx x cX4_fillAsk RX4 none n0 sl0 2 46) {out : Mm} (hE : Ends x n0 sl0 none out) (hn : xn x = 2) (fu : Nat)   (a0 : Nat) (a1 : Int32)  (M : Mm) (h : fX4_fillAsk fu  a0 a1 M = some out) : Gw x M 0 [(0, pR (some a0)), (1, pI a1)] [] := by
  unfold fX4_fillAsk at h
  refine g_aload_n X (pc := 0) 0 rfl rfl dX4_fillAsk_0 ?_
  refine g_iconst X (pc := 1) (v := 1) dX4_fillAsk_1 (by decide) ?_
  refine g_iconst X (pc := 2) (v := 0) dX4_fillAsk_2 (by decide) ?_
  refine g_iconst X (pc := 3) (v := 0) dX4_fillAsk_3 (by decide) ?_
  refine g_iload_n X (pc := 4) 1 rfl rfl dX4_fillAsk_4 ?_
  obtain ⟨q1, eq1, h⟩ := bd h
  obtain ⟨M2, eM2, h⟩ := bd h
  refine g_callV X (pc := 5) (M' := M2) (ro := none) (c := 4) rfl (by decide) (as := [pI (1 : Int32), pI (0 : Int32), pI (0 : Int32), pI a1]) (as' := [pI a1, pI (0 : Int32), pI (0 : Int32), pI (1 : Int32)]) (st := []) eq1 (ctX4_fillArp _ _ _ _ _ _ fu q1 (1 : Int32) (0 : Int32) (0 : Int32) a1 M _ eM2) tb_520 tb_517 tb_519 ts_7 tb_4 ⟨rfl, hyX4_fillArp⟩ rfl rfl ⟨by decide, by decide⟩ (Nat.le_of_ble_eq_true rfl) dX4_fillAsk_5 ?_
  refine g_aload_n X (pc := 8) 0 rfl rfl dX4_fillAsk_8 ?_
  refine g_aload_n X (pc := 9) 0 rfl rfl dX4_fillAsk_9 ?_
  obtain ⟨v3, ev3, h⟩ := bd h
  refine g_getR X (pc := 10) fk_4_0 rfl rfl ev3 tb_97 dX4_fillAsk_10 ?_
  refine g_ldc X (pc := 13) tb_526 dX4_fillAsk_13 ?_
  refine g_iconst X (pc := 15) (v := (-1)) dX4_fillAsk_15 (by decide) ?_
  refine g_sipush X (pc := 16) (v := 2054) dX4_fillAsk_16 (by decide) ?_
  obtain ⟨q4, eq4, h⟩ := bd h
  obtain ⟨M5, eM5, h⟩ := bd h
  refine g_callV X (pc := 19) (M' := M5) (ro := none) (c := 4) rfl (by decide) (as := [pR v3, pI (65535 : Int32), pI (-1 : Int32), pI (2054 : Int32)]) (as' := [pI (2054 : Int32), pI (-1 : Int32), pI (65535 : Int32), pR v3]) (st := []) eq4 (ctX4_fillLink _ _ _ _ _ _ fu q4 v3 (65535 : Int32) (-1 : Int32) (2054 : Int32) M2 _ eM5) tb_530 tb_527 tb_529 ts_8 tb_4 ⟨rfl, hyX4_fillLink⟩ rfl rfl ⟨by decide, by decide⟩ (Nat.le_of_ble_eq_true rfl) dX4_fillAsk_19 ?_
  obtain rfl := Option.some.inj h
  exact g_return X hE dX4_fillAsk_22
theorem hyX4_fillAsk : yX4_fillAsk.cls ≠ "java/lang/invoke/MethodHandle" ∧ yX4_fillAsk.cls ≠ "java/lang/invoke/VarHandle" ∧ (parseMethodDescriptor yX4_fillAsk.desc).map (fun d => d.parameters.length) = some 1 := ⟨by decide +kernel, by decide +kernel, by decide +kernel⟩
theorem ctX4_fillAsk (l : Launch) (E : Nat → Nat) (D : va_G) (dA : Nat → ClassId) (lo : Nat) (H0 : Heap) (fu : Nat) (a0 : Nat) (a1 : Int32) (M : Mm) (out : Mm) (h : fX4_fillAsk fu a0 a1 M = some out) : Ct l E D dA lo H0 yX4_fillAsk cX4_fillAsk 2 none 2 46 [pR (some a0), pI a1] M none out := by
  refine ct_of (by decide +kernel) (Nat.le_of_ble_eq_true rfl) ?_
  intro x hl he hd ha ho hh hn hin X hE
  exact wX4_fillAsk X hE hn fu a0 a1 M h
/-! WebHost$Link.send(III)V -/
def fX4_send_L41 (fu : Nat)  (a0 : Nat) (a3 : Int32) (s0 : Int32) (M : Mm) : Option (Mm) :=
    (rc M 4 (some a0)).bind fun q1 =>
    b2 (fX4_counting fu q1 s0 M) fun v3 M2 =>
    if v3 < 0 then (
    (rc M2 4 (some a0)).bind fun q4 =>
    b2 (fX4_letWait fu q4 s0 ((34 : Int32) + a3) M2) fun v6 M5 =>
    if v6 = 0 then (
    some M5)
    else (
    (rc M5 4 (some a0)).bind fun q7 =>
    (fX4_fillAsk fu q7 s0 M5).bind fun M8 =>
    (gR M8 4 261 (some a0)).bind fun v9 =>
    (gR M8 4 256 (some a0)).bind fun v10 =>
    (rc M8 10 v9).bind fun q11 =>
    (fX10_put fu q11 v10 (42 : Int32) M8).bind fun M12 =>
    some M12))
    else (
    (gR M2 4 256 (some a0)).bind fun v13 =>
    (gR M2 4 267 (some a0)).bind fun v14 =>
    (gA M2 101 v14 v3).bind fun v15 =>
    (gR M2 4 268 (some a0)).bind fun v16 =>
    (gA M2 101 v16 v3).bind fun v17 =>
    (rc M2 4 (some a0)).bind fun q18 =>
    (fX4_fillLink fu q18 v13 v15 v17 (2048 : Int32) M2).bind fun M19 =>
    (gR M19 4 261 (some a0)).bind fun v20 =>
    (gR M19 4 256 (some a0)).bind fun v21 =>
    (rc M19 10 v20).bind fun q22 =>
    (fX10_put fu q22 v21 ((34 : Int32) + a3) M19).bind fun M23 =>
    some M23)
def fX4_send (fu : Nat)  (a0 : Nat) (a1 : Int32) (a2 : Int32) (a3 : Int32)  (M : Mm) : Option (Mm) :=
    if a3 < 0 then (
    some M)
    else (
    if a3 ≤ (1480 : Int32) then (
    (rc M 4 (some a0)).bind fun q1 =>
    (fX4_fillHeader fu q1 a1 a2 a3 M).bind fun M2 =>
    (gI M2 4 257 (some a0)).bind fun v3 =>
    (gI M2 4 262 (some a0)).bind fun v4 =>
    if ((a1 ^^^ v3) &&& v4) = 0 then (
    fX4_send_L41 fu  a0 a3 a1 M2)
    else (
    (gI M2 4 263 (some a0)).bind fun v5 =>
    fX4_send_L41 fu  a0 a3 v5 M2))
    else (
    some M))
theorem dX4_send_0 : decode cX4_send 0 = .ok (.iload_n 3, 1) := by decide +kernel
theorem dX4_send_1 : decode cX4_send 1 = .ok (.ifCond .lt 10, 3) := by decide +kernel
theorem dX4_send_4 : decode cX4_send 4 = .ok (.iload_n 3, 1) := by decide +kernel
theorem dX4_send_5 : decode cX4_send 5 = .ok (.sipush 1480, 3) := by decide +kernel
theorem dX4_send_8 : decode cX4_send 8 = .ok (.if_icmp .le 4, 3) := by decide +kernel
theorem dX4_send_11 : decode cX4_send 11 = .ok (.return_, 1) := by decide +kernel
theorem dX4_send_12 : decode cX4_send 12 = .ok (.aload_n 0, 1) := by decide +kernel
theorem dX4_send_13 : decode cX4_send 13 = .ok (.iload_n 1, 1) := by decide +kernel
theorem dX4_send_14 : decode cX4_send 14 = .ok (.iload_n 2, 1) := by decide +kernel
theorem dX4_send_15 : decode cX4_send 15 = .ok (.iload_n 3, 1) := by decide +kernel
theorem dX4_send_16 : decode cX4_send 16 = .ok (.invokevirtual 114, 3) := by decide +kernel
theorem dX4_send_19 : decode cX4_send 19 = .ok (.iload_n 1, 1) := by decide +kernel
theorem dX4_send_20 : decode cX4_send 20 = .ok (.aload_n 0, 1) := by decide +kernel
theorem dX4_send_21 : decode cX4_send 21 = .ok (.getfield 38, 3) := by decide +kernel
theorem dX4_send_24 : decode cX4_send 24 = .ok (.ixor, 1) := by decide +kernel
theorem dX4_send_25 : decode cX4_send 25 = .ok (.aload_n 0, 1) := by decide +kernel
theorem dX4_send_26 : decode cX4_send 26 = .ok (.getfield 42, 3) := by decide +kernel
theorem dX4_send_29 : decode cX4_send 29 = .ok (.iand, 1) := by decide +kernel
theorem dX4_send_30 : decode cX4_send 30 = .ok (.ifCond .ne 7, 3) := by decide +kernel
theorem dX4_send_33 : decode cX4_send 33 = .ok (.iload_n 1, 1) := by decide +kernel
theorem dX4_send_34 : decode cX4_send 34 = .ok (.goto 7, 3) := by decide +kernel
theorem dX4_send_37 : decode cX4_send 37 = .ok (.aload_n 0, 1) := by decide +kernel
theorem dX4_send_38 : decode cX4_send 38 = .ok (.getfield 45, 3) := by decide +kernel
theorem dX4_send_41 : decode cX4_send 41 = .ok (.istore 4, 2) := by decide +kernel
theorem dX4_send_43 : decode cX4_send 43 = .ok (.aload_n 0, 1) := by decide +kernel
theorem dX4_send_44 : decode cX4_send 44 = .ok (.iload 4, 2) := by decide +kernel
theorem dX4_send_46 : decode cX4_send 46 = .ok (.invokevirtual 118, 3) := by decide +kernel
theorem dX4_send_49 : decode cX4_send 49 = .ok (.istore 5, 2) := by decide +kernel
theorem dX4_send_51 : decode cX4_send 51 = .ok (.iload 5, 2) := by decide +kernel
theorem dX4_send_53 : decode cX4_send 53 = .ok (.ifCond .lt 46, 3) := by decide +kernel
theorem dX4_send_56 : decode cX4_send 56 = .ok (.aload_n 0, 1) := by decide +kernel
theorem dX4_send_57 : decode cX4_send 57 = .ok (.aload_n 0, 1) := by decide +kernel
theorem dX4_send_58 : decode cX4_send 58 = .ok (.getfield 15, 3) := by decide +kernel
theorem dX4_send_61 : decode cX4_send 61 = .ok (.aload_n 0, 1) := by decide +kernel
theorem dX4_send_62 : decode cX4_send 62 = .ok (.getfield 23, 3) := by decide +kernel
theorem dX4_send_65 : decode cX4_send 65 = .ok (.iload 5, 2) := by decide +kernel
theorem dX4_send_67 : decode cX4_send 67 = .ok (.iaload, 1) := by decide +kernel
theorem dX4_send_68 : decode cX4_send 68 = .ok (.aload_n 0, 1) := by decide +kernel
theorem dX4_send_69 : decode cX4_send 69 = .ok (.getfield 26, 3) := by decide +kernel
theorem dX4_send_72 : decode cX4_send 72 = .ok (.iload 5, 2) := by decide +kernel
theorem dX4_send_74 : decode cX4_send 74 = .ok (.iaload, 1) := by decide +kernel
theorem dX4_send_75 : decode cX4_send 75 = .ok (.sipush 2048, 3) := by decide +kernel
theorem dX4_send_78 : decode cX4_send 78 = .ok (.invokevirtual 93, 3) := by decide +kernel
theorem dX4_send_81 : decode cX4_send 81 = .ok (.aload_n 0, 1) := by decide +kernel
theorem dX4_send_82 : decode cX4_send 82 = .ok (.getfield 9, 3) := by decide +kernel
theorem dX4_send_85 : decode cX4_send 85 = .ok (.aload_n 0, 1) := by decide +kernel
theorem dX4_send_86 : decode cX4_send 86 = .ok (.getfield 15, 3) := by decide +kernel
theorem dX4_send_89 : decode cX4_send 89 = .ok (.bipush 34, 2) := by decide +kernel
theorem dX4_send_91 : decode cX4_send 91 = .ok (.iload_n 3, 1) := by decide +kernel
theorem dX4_send_92 : decode cX4_send 92 = .ok (.iadd, 1) := by decide +kernel
theorem dX4_send_93 : decode cX4_send 93 = .ok (.invokevirtual 97, 3) := by decide +kernel
theorem dX4_send_96 : decode cX4_send 96 = .ok (.goto 35, 3) := by decide +kernel
theorem dX4_send_99 : decode cX4_send 99 = .ok (.aload_n 0, 1) := by decide +kernel
theorem dX4_send_100 : decode cX4_send 100 = .ok (.iload 4, 2) := by decide +kernel
theorem dX4_send_102 : decode cX4_send 102 = .ok (.bipush 34, 2) := by decide +kernel
theorem dX4_send_104 : decode cX4_send 104 = .ok (.iload_n 3, 1) := by decide +kernel
theorem dX4_send_105 : decode cX4_send 105 = .ok (.iadd, 1) := by decide +kernel
theorem dX4_send_106 : decode cX4_send 106 = .ok (.invokevirtual 121, 3) := by decide +kernel
theorem dX4_send_109 : decode cX4_send 109 = .ok (.ifCond .eq 22, 3) := by decide +kernel
theorem dX4_send_112 : decode cX4_send 112 = .ok (.aload_n 0, 1) := by decide +kernel
theorem dX4_send_113 : decode cX4_send 113 = .ok (.iload 4, 2) := by decide +kernel
theorem dX4_send_115 : decode cX4_send 115 = .ok (.invokevirtual 125, 3) := by decide +kernel
theorem dX4_send_118 : decode cX4_send 118 = .ok (.aload_n 0, 1) := by decide +kernel
theorem dX4_send_119 : decode cX4_send 119 = .ok (.getfield 9, 3) := by decide +kernel
theorem dX4_send_122 : decode cX4_send 122 = .ok (.aload_n 0, 1) := by decide +kernel
theorem dX4_send_123 : decode cX4_send 123 = .ok (.getfield 15, 3) := by decide +kernel
theorem dX4_send_126 : decode cX4_send 126 = .ok (.bipush 42, 2) := by decide +kernel
theorem dX4_send_128 : decode cX4_send 128 = .ok (.invokevirtual 97, 3) := by decide +kernel
theorem dX4_send_131 : decode cX4_send 131 = .ok (.return_, 1) := by decide +kernel
theorem wX4_send_L41 {x : GX} {n0 sl0 : Nat} (X : Cx x cX4_send RX4 none n0 sl0 3 67) {out : Mm} (hE : Ends x n0 sl0 none out) (hn : xn x = 6) (fu : Nat)   (a0 : Nat) (a3 : Int32) (s0 : Int32) (M : Mm) (h : fX4_send_L41 fu  a0 a3 s0 M = some out) : Gw x M 41 [(0, pR (some a0)), (3, pI a3)] [pI s0] := by
  unfold fX4_send_L41 at h
  refine g_istore X (pc := 41) [(4, pI s0), (0, pR (some a0)), (3, pI a3)] (lt_n hn (by decide)) rfl dX4_send_41 ?_
  refine g_aload_n X (pc := 43) 1 rfl rfl dX4_send_43 ?_
  refine g_iload X (pc := 44) 0 rfl dX4_send_44 ?_
  obtain ⟨q1, eq1, h⟩ := bd h
  obtain ⟨v3, M2, eM2, h⟩ := b2d h
  refine g_callV X (pc := 46) (M' := M2) (ro := some (pI v3)) (c := 4) rfl (by decide) (as := [pI s0]) (as' := [pI s0]) (st := []) eq1 (ctX4_counting _ _ _ _ _ _ fu q1 s0 M _ eM2) tb_636 tb_633 tb_634 tb_635 tb_4 ⟨rfl, hyX4_counting⟩ rfl rfl ⟨by decide, by decide⟩ (Nat.le_of_ble_eq_true rfl) dX4_send_46 ?_
  refine g_istore X (pc := 49) [(5, pI v3), (4, pI s0), (0, pR (some a0)), (3, pI a3)] (lt_n hn (by decide)) rfl dX4_send_49 ?_
  refine g_iload X (pc := 51) 0 rfl dX4_send_51 ?_
  refine g_if_lt X (pc := 53) (tgt := 99) dX4_send_53 (by decide) (fun hc => ?_) (fun hc => ?_)
  · have h := (if_pos hc).symm.trans h
    refine g_aload_n X (pc := 99) 2 rfl rfl dX4_send_99 ?_
    refine g_iload X (pc := 100) 1 rfl dX4_send_100 ?_
    refine g_bipush X (pc := 102) (v := 34) dX4_send_102 (by decide) ?_
    refine g_iload_n X (pc := 104) 3 rfl rfl dX4_send_104 ?_
    refine g_iadd X (pc := 105) dX4_send_105 ?_
    obtain ⟨q4, eq4, h⟩ := bd h
    obtain ⟨v6, M5, eM5, h⟩ := b2d h
    refine g_callV X (pc := 106) (M' := M5) (ro := some (pI v6)) (c := 4) rfl (by decide) (as := [pI s0, pI ((34 : Int32) + a3)]) (as' := [pI ((34 : Int32) + a3), pI s0]) (st := []) eq4 (ctX4_letWait _ _ _ _ _ _ fu q4 s0 ((34 : Int32) + a3) M2 _ eM5) tb_645 tb_642 tb_644 ts_17 tb_4 ⟨rfl, hyX4_letWait⟩ rfl rfl ⟨by decide, by decide⟩ (Nat.le_of_ble_eq_true rfl) dX4_send_106 ?_
    refine g_if_eq X (pc := 109) (tgt := 131) dX4_send_109 (by decide) (fun hc => ?_) (fun hc => ?_)
    · have h := (if_pos hc).symm.trans h
      obtain rfl := Option.some.inj h
      exact g_return X hE dX4_send_131
    · have h := (if_neg hc).symm.trans h
      refine g_aload_n X (pc := 112) 2 rfl rfl dX4_send_112 ?_
      refine g_iload X (pc := 113) 1 rfl dX4_send_113 ?_
      obtain ⟨q7, eq7, h⟩ := bd h
      obtain ⟨M8, eM8, h⟩ := bd h
      refine g_callV X (pc := 115) (M' := M8) (ro := none) (c := 4) rfl (by decide) (as := [pI s0]) (as' := [pI s0]) (st := []) eq7 (ctX4_fillAsk _ _ _ _ _ _ fu q7 s0 M5 _ eM8) tb_516 tb_513 tb_515 ts_6 tb_4 ⟨rfl, hyX4_fillAsk⟩ rfl rfl ⟨by decide, by decide⟩ (Nat.le_of_ble_eq_true rfl) dX4_send_115 ?_
      refine g_aload_n X (pc := 118) 2 rfl rfl dX4_send_118 ?_
      obtain ⟨v9, ev9, h⟩ := bd h
      refine g_getR X (pc := 119) fk_4_5 rfl rfl ev9 tb_109 dX4_send_119 ?_
      refine g_aload_n X (pc := 122) 2 rfl rfl dX4_send_122 ?_
      obtain ⟨v10, ev10, h⟩ := bd h
      refine g_getR X (pc := 123) fk_4_0 rfl rfl ev10 tb_97 dX4_send_123 ?_
      refine g_bipush X (pc := 126) (v := 42) dX4_send_126 (by decide) ?_
      obtain ⟨q11, eq11, h⟩ := bd h
      obtain ⟨M12, eM12, h⟩ := bd h
      refine g_callV X (pc := 128) (M' := M12) (ro := none) (c := 10) rfl (by decide) (as := [pR v10, pI (42 : Int32)]) (as' := [pI (42 : Int32), pR v10]) (st := []) eq11 (ctX10_put _ _ _ _ _ _ fu q11 v10 (42 : Int32) M8 _ eM12) tb_534 tb_531 tb_532 tb_533 tb_3 ⟨rfl, hyX10_put⟩ rfl rfl ⟨by decide, by decide⟩ (Nat.le_of_ble_eq_true rfl) dX4_send_128 ?_
      obtain rfl := Option.some.inj h
      exact g_return X hE dX4_send_131
  · have h := (if_neg hc).symm.trans h
    refine g_aload_n X (pc := 56) 2 rfl rfl dX4_send_56 ?_
    refine g_aload_n X (pc := 57) 2 rfl rfl dX4_send_57 ?_
    obtain ⟨v13, ev13, h⟩ := bd h
    refine g_getR X (pc := 58) fk_4_0 rfl rfl ev13 tb_97 dX4_send_58 ?_
    refine g_aload_n X (pc := 61) 2 rfl rfl dX4_send_61 ?_
    obtain ⟨v14, ev14, h⟩ := bd h
    refine g_getR X (pc := 62) fk_4_11 rfl rfl ev14 tb_115 dX4_send_62 ?_
    refine g_iload X (pc := 65) 0 rfl dX4_send_65 ?_
    obtain ⟨v15, ev15, h⟩ := bd h
    refine g_iaload X (pc := 67) ev15 dX4_send_67 ?_
    refine g_aload_n X (pc := 68) 2 rfl rfl dX4_send_68 ?_
    obtain ⟨v16, ev16, h⟩ := bd h
    refine g_getR X (pc := 69) fk_4_12 rfl rfl ev16 tb_116 dX4_send_69 ?_
    refine g_iload X (pc := 72) 0 rfl dX4_send_72 ?_
    obtain ⟨v17, ev17, h⟩ := bd h
    refine g_iaload X (pc := 74) ev17 dX4_send_74 ?_
    refine g_sipush X (pc := 75) (v := 2048) dX4_send_75 (by decide) ?_
    obtain ⟨q18, eq18, h⟩ := bd h
    obtain ⟨M19, eM19, h⟩ := bd h
    refine g_callV X (pc := 78) (M' := M19) (ro := none) (c := 4) rfl (by decide) (as := [pR v13, pI v15, pI v17, pI (2048 : Int32)]) (as' := [pI (2048 : Int32), pI v17, pI v15, pR v13]) (st := []) eq18 (ctX4_fillLink _ _ _ _ _ _ fu q18 v13 v15 v17 (2048 : Int32) M2 _ eM19) tb_530 tb_527 tb_529 ts_8 tb_4 ⟨rfl, hyX4_fillLink⟩ rfl rfl ⟨by decide, by decide⟩ (Nat.le_of_ble_eq_true rfl) dX4_send_78 ?_
    refine g_aload_n X (pc := 81) 2 rfl rfl dX4_send_81 ?_
    obtain ⟨v20, ev20, h⟩ := bd h
    refine g_getR X (pc := 82) fk_4_5 rfl rfl ev20 tb_109 dX4_send_82 ?_
    refine g_aload_n X (pc := 85) 2 rfl rfl dX4_send_85 ?_
    obtain ⟨v21, ev21, h⟩ := bd h
    refine g_getR X (pc := 86) fk_4_0 rfl rfl ev21 tb_97 dX4_send_86 ?_
    refine g_bipush X (pc := 89) (v := 34) dX4_send_89 (by decide) ?_
    refine g_iload_n X (pc := 91) 3 rfl rfl dX4_send_91 ?_
    refine g_iadd X (pc := 92) dX4_send_92 ?_
    obtain ⟨q22, eq22, h⟩ := bd h
    obtain ⟨M23, eM23, h⟩ := bd h
    refine g_callV X (pc := 93) (M' := M23) (ro := none) (c := 10) rfl (by decide) (as := [pR v21, pI ((34 : Int32) + a3)]) (as' := [pI ((34 : Int32) + a3), pR v21]) (st := []) eq22 (ctX10_put _ _ _ _ _ _ fu q22 v21 ((34 : Int32) + a3) M19 _ eM23) tb_534 tb_531 tb_532 tb_533 tb_3 ⟨rfl, hyX10_put⟩ rfl rfl ⟨by decide, by decide⟩ (Nat.le_of_ble_eq_true rfl) dX4_send_93 ?_
    refine g_goto X (pc := 96) (tgt := 131) dX4_send_96 (by decide) ?_
    obtain rfl := Option.some.inj h
    exact g_return X hE dX4_send_131
theorem wX4_send {x : GX} {n0 sl0 : Nat} (X : Cx x cX4_send RX4 none n0 sl0 3 67) {out : Mm} (hE : Ends x n0 sl0 none out) (hn : xn x = 6) (fu : Nat)   (a0 : Nat) (a1 : Int32) (a2 : Int32) (a3 : Int32)  (M : Mm) (h : fX4_send fu  a0 a1 a2 a3 M = some out) : Gw x M 0 [(0, pR (some a0)), (1, pI a1), (2, pI a2), (3, pI a3)] [] := by
  unfold fX4_send at h
  refine g_iload_n X (pc := 0) 3 rfl rfl dX4_send_0 ?_
  refine g_if_lt X (pc := 1) (tgt := 11) dX4_send_1 (by decide) (fun hc => ?_) (fun hc => ?_)
  · have h := (if_pos hc).symm.trans h
    obtain rfl := Option.some.inj h
    exact g_return X hE dX4_send_11
  · have h := (if_neg hc).symm.trans h
    refine g_iload_n X (pc := 4) 3 rfl rfl dX4_send_4 ?_
    refine g_sipush X (pc := 5) (v := 1480) dX4_send_5 (by decide) ?_
    refine g_icmp_le X (pc := 8) (tgt := 12) dX4_send_8 (by decide) (fun hc => ?_) (fun hc => ?_)
    · have h := (if_pos hc).symm.trans h
      refine g_aload_n X (pc := 12) 0 rfl rfl dX4_send_12 ?_
      refine g_iload_n X (pc := 13) 1 rfl rfl dX4_send_13 ?_
      refine g_iload_n X (pc := 14) 2 rfl rfl dX4_send_14 ?_
      refine g_iload_n X (pc := 15) 3 rfl rfl dX4_send_15 ?_
      obtain ⟨q1, eq1, h⟩ := bd h
      obtain ⟨M2, eM2, h⟩ := bd h
      refine g_callV X (pc := 16) (M' := M2) (ro := none) (c := 4) rfl (by decide) (as := [pI a1, pI a2, pI a3]) (as' := [pI a3, pI a2, pI a1]) (st := []) eq1 (ctX4_fillHeader _ _ _ _ _ _ fu q1 a1 a2 a3 M _ eM2) tb_631 tb_628 tb_630 ts_15 tb_4 ⟨rfl, hyX4_fillHeader⟩ rfl rfl ⟨by decide, by decide⟩ (Nat.le_of_ble_eq_true rfl) dX4_send_16 ?_
      refine g_iload_n X (pc := 19) 1 rfl rfl dX4_send_19 ?_
      refine g_aload_n X (pc := 20) 0 rfl rfl dX4_send_20 ?_
      obtain ⟨v3, ev3, h⟩ := bd h
      refine g_getI X (pc := 21) fk_4_1 rfl rfl ev3 tb_100 dX4_send_21 ?_
      refine g_ixor X (pc := 24) dX4_send_24 ?_
      refine g_aload_n X (pc := 25) 0 rfl rfl dX4_send_25 ?_
      obtain ⟨v4, ev4, h⟩ := bd h
      refine g_getI X (pc := 26) fk_4_6 rfl rfl ev4 tb_110 dX4_send_26 ?_
      refine g_iand X (pc := 29) dX4_send_29 ?_
      refine g_if_ne X (pc := 30) (tgt := 37) dX4_send_30 (by decide) (fun hc => ?_) (fun hc => ?_)
      · have h := (if_neg hc).symm.trans h
        refine g_aload_n X (pc := 37) 0 rfl rfl dX4_send_37 ?_
        obtain ⟨v5, ev5, h⟩ := bd h
        refine g_getI X (pc := 38) fk_4_7 rfl rfl ev5 tb_111 dX4_send_38 ?_
        refine g_sub [0, 3] [(0, pR (some a0)), (3, pI a3)] rfl ?_
        exact wX4_send_L41 X hE hn fu   a0 a3 v5 M2 h
      · have h := (if_pos hc).symm.trans h
        refine g_iload_n X (pc := 33) 1 rfl rfl dX4_send_33 ?_
        refine g_goto X (pc := 34) (tgt := 41) dX4_send_34 (by decide) ?_
        refine g_sub [0, 3] [(0, pR (some a0)), (3, pI a3)] rfl ?_
        exact wX4_send_L41 X hE hn fu   a0 a3 a1 M2 h
    · have h := (if_neg hc).symm.trans h
      obtain rfl := Option.some.inj h
      exact g_return X hE dX4_send_11
theorem hyX4_send : yX4_send.cls ≠ "java/lang/invoke/MethodHandle" ∧ yX4_send.cls ≠ "java/lang/invoke/VarHandle" ∧ (parseMethodDescriptor yX4_send.desc).map (fun d => d.parameters.length) = some 3 := ⟨by decide +kernel, by decide +kernel, by decide +kernel⟩
theorem ctX4_send (l : Launch) (E : Nat → Nat) (D : va_G) (dA : Nat → ClassId) (lo : Nat) (H0 : Heap) (fu : Nat) (a0 : Nat) (a1 : Int32) (a2 : Int32) (a3 : Int32) (M : Mm) (out : Mm) (h : fX4_send fu a0 a1 a2 a3 M = some out) : Ct l E D dA lo H0 yX4_send cX4_send 6 none 3 67 [pR (some a0), pI a1, pI a2, pI a3] M none out := by
  refine ct_of (by decide +kernel) (Nat.le_of_ble_eq_true rfl) ?_
  intro x hl he hd ha ho hh hn hin X hE
  exact wX4_send X hE hn fu a0 a1 a2 a3 M h
/-! WebHost$Intake.echo()V -/
def fX3_echo (fu : Nat)  (a0 : Nat)  (M : Mm) : Option (Mm) :=
    (gI M 3 203 (some a0)).bind fun v1 =>
    if v1 < (8 : Int32) then (
    some M)
    else (
    (gI M 3 203 (some a0)).bind fun v2 =>
    if (1480 : Int32) < v2 then (
    some M)
    else (
    (gI M 3 202 (some a0)).bind fun v3 =>
    if v3 < 0 then (
    some M)
    else (
    (gI M 3 202 (some a0)).bind fun v4 =>
    (gI M 3 203 (some a0)).bind fun v5 =>
    (gR M 3 192 (some a0)).bind fun v6 =>
    (aL M 100 v6).bind fun v7 =>
    if (v4 + v5) ≤ v7 then (
    (gR M 3 192 (some a0)).bind fun v8 =>
    (gI M 3 202 (some a0)).bind fun v9 =>
    b2 (fX11_two fu  v8 v9 M) fun v11 M10 =>
    if v11 = (2048 : Int32) then (
    (gR M10 3 192 (some a0)).bind fun v12 =>
    (gI M10 3 202 (some a0)).bind fun v13 =>
    (gI M10 3 203 (some a0)).bind fun v14 =>
    b2 (fX11_added fu  v12 v13 v14 (0 : Int32) M10) fun v16 M15 =>
    if v16 = (65535 : Int32) then (
    (gR M15 3 192 (some a0)).bind fun v17 =>
    (gI M15 3 202 (some a0)).bind fun v18 =>
    (gR M15 3 206 (some a0)).bind fun v19 =>
    (gR M15 4 256 v19).bind fun v20 =>
    (gI M15 3 203 (some a0)).bind fun v21 =>
    (cpB M15 v17 v18 v20 (34 : Int32) v21).bind fun M22 =>
    (gR M22 3 206 (some a0)).bind fun v23 =>
    (gR M22 4 256 v23).bind fun v24 =>
    (fX11_putFour fu  v24 (34 : Int32) (0 : Int32) M22).bind fun M25 =>
    (gR M25 3 206 (some a0)).bind fun v26 =>
    (gR M25 4 256 v26).bind fun v27 =>
    (gR M25 3 206 (some a0)).bind fun v28 =>
    (gR M25 4 256 v28).bind fun v29 =>
    (gI M25 3 203 (some a0)).bind fun v30 =>
    b2 (fX11_added fu  v29 (34 : Int32) v30 (0 : Int32) M25) fun v32 M31 =>
    (fX11_putTwo fu  v27 (36 : Int32) (v32 ^^^ (-1 : Int32)) M31).bind fun M33 =>
    (gR M33 3 206 (some a0)).bind fun v34 =>
    (gI M33 3 193 (some a0)).bind fun v35 =>
    (gI M33 3 203 (some a0)).bind fun v36 =>
    (rc M33 4 v34).bind fun q37 =>
    (fX4_send fu q37 v35 (1 : Int32) v36 M33).bind fun M38 =>
    some M38)
    else (
    some M15))
    else (
    some M10))
    else (
    some M))))
theorem dX3_echo_0 : decode cX3_echo 0 = .ok (.aload_n 0, 1) := by decide +kernel
theorem dX3_echo_1 : decode cX3_echo 1 = .ok (.getfield 80, 3) := by decide +kernel
theorem dX3_echo_4 : decode cX3_echo 4 = .ok (.bipush 8, 2) := by decide +kernel
theorem dX3_echo_6 : decode cX3_echo 6 = .ok (.if_icmp .lt 37, 3) := by decide +kernel
theorem dX3_echo_9 : decode cX3_echo 9 = .ok (.aload_n 0, 1) := by decide +kernel
theorem dX3_echo_10 : decode cX3_echo 10 = .ok (.getfield 80, 3) := by decide +kernel
theorem dX3_echo_13 : decode cX3_echo 13 = .ok (.sipush 1480, 3) := by decide +kernel
theorem dX3_echo_16 : decode cX3_echo 16 = .ok (.if_icmp .gt 27, 3) := by decide +kernel
theorem dX3_echo_19 : decode cX3_echo 19 = .ok (.aload_n 0, 1) := by decide +kernel
theorem dX3_echo_20 : decode cX3_echo 20 = .ok (.getfield 77, 3) := by decide +kernel
theorem dX3_echo_23 : decode cX3_echo 23 = .ok (.ifCond .lt 20, 3) := by decide +kernel
theorem dX3_echo_26 : decode cX3_echo 26 = .ok (.aload_n 0, 1) := by decide +kernel
theorem dX3_echo_27 : decode cX3_echo 27 = .ok (.getfield 77, 3) := by decide +kernel
theorem dX3_echo_30 : decode cX3_echo 30 = .ok (.aload_n 0, 1) := by decide +kernel
theorem dX3_echo_31 : decode cX3_echo 31 = .ok (.getfield 80, 3) := by decide +kernel
theorem dX3_echo_34 : decode cX3_echo 34 = .ok (.iadd, 1) := by decide +kernel
theorem dX3_echo_35 : decode cX3_echo 35 = .ok (.aload_n 0, 1) := by decide +kernel
theorem dX3_echo_36 : decode cX3_echo 36 = .ok (.getfield 19, 3) := by decide +kernel
theorem dX3_echo_39 : decode cX3_echo 39 = .ok (.arraylength, 1) := by decide +kernel
theorem dX3_echo_40 : decode cX3_echo 40 = .ok (.if_icmp .le 4, 3) := by decide +kernel
theorem dX3_echo_43 : decode cX3_echo 43 = .ok (.return_, 1) := by decide +kernel
theorem dX3_echo_44 : decode cX3_echo 44 = .ok (.aload_n 0, 1) := by decide +kernel
theorem dX3_echo_45 : decode cX3_echo 45 = .ok (.getfield 19, 3) := by decide +kernel
theorem dX3_echo_48 : decode cX3_echo 48 = .ok (.aload_n 0, 1) := by decide +kernel
theorem dX3_echo_49 : decode cX3_echo 49 = .ok (.getfield 77, 3) := by decide +kernel
theorem dX3_echo_52 : decode cX3_echo 52 = .ok (.invokestatic 37, 3) := by decide +kernel
theorem dX3_echo_55 : decode cX3_echo 55 = .ok (.sipush 2048, 3) := by decide +kernel
theorem dX3_echo_58 : decode cX3_echo 58 = .ok (.if_icmp .ne 24, 3) := by decide +kernel
theorem dX3_echo_61 : decode cX3_echo 61 = .ok (.aload_n 0, 1) := by decide +kernel
theorem dX3_echo_62 : decode cX3_echo 62 = .ok (.getfield 19, 3) := by decide +kernel
theorem dX3_echo_65 : decode cX3_echo 65 = .ok (.aload_n 0, 1) := by decide +kernel
theorem dX3_echo_66 : decode cX3_echo 66 = .ok (.getfield 77, 3) := by decide +kernel
theorem dX3_echo_69 : decode cX3_echo 69 = .ok (.aload_n 0, 1) := by decide +kernel
theorem dX3_echo_70 : decode cX3_echo 70 = .ok (.getfield 80, 3) := by decide +kernel
theorem dX3_echo_73 : decode cX3_echo 73 = .ok (.iconst 0, 1) := by decide +kernel
theorem dX3_echo_74 : decode cX3_echo 74 = .ok (.invokestatic 63, 3) := by decide +kernel
theorem dX3_echo_77 : decode cX3_echo 77 = .ok (.ldc 59, 2) := by decide +kernel
theorem dX3_echo_79 : decode cX3_echo 79 = .ok (.if_icmp .eq 4, 3) := by decide +kernel
theorem dX3_echo_82 : decode cX3_echo 82 = .ok (.return_, 1) := by decide +kernel
theorem dX3_echo_83 : decode cX3_echo 83 = .ok (.aload_n 0, 1) := by decide +kernel
theorem dX3_echo_84 : decode cX3_echo 84 = .ok (.getfield 19, 3) := by decide +kernel
theorem dX3_echo_87 : decode cX3_echo 87 = .ok (.aload_n 0, 1) := by decide +kernel
theorem dX3_echo_88 : decode cX3_echo 88 = .ok (.getfield 77, 3) := by decide +kernel
theorem dX3_echo_91 : decode cX3_echo 91 = .ok (.aload_n 0, 1) := by decide +kernel
theorem dX3_echo_92 : decode cX3_echo 92 = .ok (.getfield 15, 3) := by decide +kernel
theorem dX3_echo_95 : decode cX3_echo 95 = .ok (.getfield 139, 3) := by decide +kernel
theorem dX3_echo_98 : decode cX3_echo 98 = .ok (.bipush 34, 2) := by decide +kernel
theorem dX3_echo_100 : decode cX3_echo 100 = .ok (.aload_n 0, 1) := by decide +kernel
theorem dX3_echo_101 : decode cX3_echo 101 = .ok (.getfield 80, 3) := by decide +kernel
theorem dX3_echo_104 : decode cX3_echo 104 = .ok (.invokestatic 142, 3) := by decide +kernel
theorem dX3_echo_107 : decode cX3_echo 107 = .ok (.aload_n 0, 1) := by decide +kernel
theorem dX3_echo_108 : decode cX3_echo 108 = .ok (.getfield 15, 3) := by decide +kernel
theorem dX3_echo_111 : decode cX3_echo 111 = .ok (.getfield 139, 3) := by decide +kernel
theorem dX3_echo_114 : decode cX3_echo 114 = .ok (.bipush 34, 2) := by decide +kernel
theorem dX3_echo_116 : decode cX3_echo 116 = .ok (.iconst 0, 1) := by decide +kernel
theorem dX3_echo_117 : decode cX3_echo 117 = .ok (.invokestatic 148, 3) := by decide +kernel
theorem dX3_echo_120 : decode cX3_echo 120 = .ok (.aload_n 0, 1) := by decide +kernel
theorem dX3_echo_121 : decode cX3_echo 121 = .ok (.getfield 15, 3) := by decide +kernel
theorem dX3_echo_124 : decode cX3_echo 124 = .ok (.getfield 139, 3) := by decide +kernel
theorem dX3_echo_127 : decode cX3_echo 127 = .ok (.bipush 36, 2) := by decide +kernel
theorem dX3_echo_129 : decode cX3_echo 129 = .ok (.aload_n 0, 1) := by decide +kernel
theorem dX3_echo_130 : decode cX3_echo 130 = .ok (.getfield 15, 3) := by decide +kernel
theorem dX3_echo_133 : decode cX3_echo 133 = .ok (.getfield 139, 3) := by decide +kernel
theorem dX3_echo_136 : decode cX3_echo 136 = .ok (.bipush 34, 2) := by decide +kernel
theorem dX3_echo_138 : decode cX3_echo 138 = .ok (.aload_n 0, 1) := by decide +kernel
theorem dX3_echo_139 : decode cX3_echo 139 = .ok (.getfield 80, 3) := by decide +kernel
theorem dX3_echo_142 : decode cX3_echo 142 = .ok (.iconst 0, 1) := by decide +kernel
theorem dX3_echo_143 : decode cX3_echo 143 = .ok (.invokestatic 63, 3) := by decide +kernel
theorem dX3_echo_146 : decode cX3_echo 146 = .ok (.iconst (-1), 1) := by decide +kernel
theorem dX3_echo_147 : decode cX3_echo 147 = .ok (.ixor, 1) := by decide +kernel
theorem dX3_echo_148 : decode cX3_echo 148 = .ok (.invokestatic 152, 3) := by decide +kernel
theorem dX3_echo_151 : decode cX3_echo 151 = .ok (.aload_n 0, 1) := by decide +kernel
theorem dX3_echo_152 : decode cX3_echo 152 = .ok (.getfield 15, 3) := by decide +kernel
theorem dX3_echo_155 : decode cX3_echo 155 = .ok (.aload_n 0, 1) := by decide +kernel
theorem dX3_echo_156 : decode cX3_echo 156 = .ok (.getfield 67, 3) := by decide +kernel
theorem dX3_echo_159 : decode cX3_echo 159 = .ok (.iconst 1, 1) := by decide +kernel
theorem dX3_echo_160 : decode cX3_echo 160 = .ok (.aload_n 0, 1) := by decide +kernel
theorem dX3_echo_161 : decode cX3_echo 161 = .ok (.getfield 80, 3) := by decide +kernel
theorem dX3_echo_164 : decode cX3_echo 164 = .ok (.invokevirtual 155, 3) := by decide +kernel
theorem dX3_echo_167 : decode cX3_echo 167 = .ok (.return_, 1) := by decide +kernel
theorem wX3_echo {x : GX} {n0 sl0 : Nat} (X : Cx x cX3_echo RX3 none n0 sl0 4 92) {out : Mm} (hE : Ends x n0 sl0 none out) (hn : xn x = 1) (fu : Nat)   (a0 : Nat)  (M : Mm) (h : fX3_echo fu  a0 M = some out) : Gw x M 0 [(0, pR (some a0))] [] := by
  unfold fX3_echo at h
  refine g_aload_n X (pc := 0) 0 rfl rfl dX3_echo_0 ?_
  obtain ⟨v1, ev1, h⟩ := bd h
  refine g_getI X (pc := 1) fk_3_11 rfl rfl ev1 tb_185 dX3_echo_1 ?_
  refine g_bipush X (pc := 4) (v := 8) dX3_echo_4 (by decide) ?_
  refine g_icmp_lt X (pc := 6) (tgt := 43) dX3_echo_6 (by decide) (fun hc => ?_) (fun hc => ?_)
  · have h := (if_pos hc).symm.trans h
    obtain rfl := Option.some.inj h
    exact g_return X hE dX3_echo_43
  · have h := (if_neg hc).symm.trans h
    refine g_aload_n X (pc := 9) 0 rfl rfl dX3_echo_9 ?_
    obtain ⟨v2, ev2, h⟩ := bd h
    refine g_getI X (pc := 10) fk_3_11 rfl rfl ev2 tb_185 dX3_echo_10 ?_
    refine g_sipush X (pc := 13) (v := 1480) dX3_echo_13 (by decide) ?_
    refine g_icmp_gt X (pc := 16) (tgt := 43) dX3_echo_16 (by decide) (fun hc => ?_) (fun hc => ?_)
    · have h := (if_pos hc).symm.trans h
      obtain rfl := Option.some.inj h
      exact g_return X hE dX3_echo_43
    · have h := (if_neg hc).symm.trans h
      refine g_aload_n X (pc := 19) 0 rfl rfl dX3_echo_19 ?_
      obtain ⟨v3, ev3, h⟩ := bd h
      refine g_getI X (pc := 20) fk_3_10 rfl rfl ev3 tb_184 dX3_echo_20 ?_
      refine g_if_lt X (pc := 23) (tgt := 43) dX3_echo_23 (by decide) (fun hc => ?_) (fun hc => ?_)
      · have h := (if_pos hc).symm.trans h
        obtain rfl := Option.some.inj h
        exact g_return X hE dX3_echo_43
      · have h := (if_neg hc).symm.trans h
        refine g_aload_n X (pc := 26) 0 rfl rfl dX3_echo_26 ?_
        obtain ⟨v4, ev4, h⟩ := bd h
        refine g_getI X (pc := 27) fk_3_10 rfl rfl ev4 tb_184 dX3_echo_27 ?_
        refine g_aload_n X (pc := 30) 0 rfl rfl dX3_echo_30 ?_
        obtain ⟨v5, ev5, h⟩ := bd h
        refine g_getI X (pc := 31) fk_3_11 rfl rfl ev5 tb_185 dX3_echo_31 ?_
        refine g_iadd X (pc := 34) dX3_echo_34 ?_
        refine g_aload_n X (pc := 35) 0 rfl rfl dX3_echo_35 ?_
        obtain ⟨v6, ev6, h⟩ := bd h
        refine g_getR X (pc := 36) fk_3_0 rfl rfl ev6 tb_158 dX3_echo_36 ?_
        obtain ⟨v7, ev7, h⟩ := bd h
        refine g_alen X (pc := 39) (k := 0) rfl (by decide) ev7 dX3_echo_39 ?_
        refine g_icmp_le X (pc := 40) (tgt := 44) dX3_echo_40 (by decide) (fun hc => ?_) (fun hc => ?_)
        · have h := (if_pos hc).symm.trans h
          refine g_aload_n X (pc := 44) 0 rfl rfl dX3_echo_44 ?_
          obtain ⟨v8, ev8, h⟩ := bd h
          refine g_getR X (pc := 45) fk_3_0 rfl rfl ev8 tb_158 dX3_echo_45 ?_
          refine g_aload_n X (pc := 48) 0 rfl rfl dX3_echo_48 ?_
          obtain ⟨v9, ev9, h⟩ := bd h
          refine g_getI X (pc := 49) fk_3_10 rfl rfl ev9 tb_184 dX3_echo_49 ?_
          obtain ⟨v11, M10, eM10, h⟩ := b2d h
          refine g_callSN X (pc := 52) (M' := M10) (ro := some (pI v11)) (as := [pR v8, pI v9]) (as' := [pI v9, pR v8]) (st := []) (ctX11_two _ _ _ _ _ _ fu  v8 v9 M _ eM10) tb_398 (List.mem_of_getElem? (i := 11) rfl) tb_397 tb_1 hyX11_two rfl rfl ⟨by decide, by decide⟩ (Nat.le_of_ble_eq_true rfl) dX3_echo_52 ?_
          refine g_sipush X (pc := 55) (v := 2048) dX3_echo_55 (by decide) ?_
          refine g_icmp_ne X (pc := 58) (tgt := 82) dX3_echo_58 (by decide) (fun hc => ?_) (fun hc => ?_)
          · have h := (if_neg hc).symm.trans h
            obtain rfl := Option.some.inj h
            exact g_return X hE dX3_echo_82
          · have h := (if_pos hc).symm.trans h
            refine g_aload_n X (pc := 61) 0 rfl rfl dX3_echo_61 ?_
            obtain ⟨v12, ev12, h⟩ := bd h
            refine g_getR X (pc := 62) fk_3_0 rfl rfl ev12 tb_158 dX3_echo_62 ?_
            refine g_aload_n X (pc := 65) 0 rfl rfl dX3_echo_65 ?_
            obtain ⟨v13, ev13, h⟩ := bd h
            refine g_getI X (pc := 66) fk_3_10 rfl rfl ev13 tb_184 dX3_echo_66 ?_
            refine g_aload_n X (pc := 69) 0 rfl rfl dX3_echo_69 ?_
            obtain ⟨v14, ev14, h⟩ := bd h
            refine g_getI X (pc := 70) fk_3_11 rfl rfl ev14 tb_185 dX3_echo_70 ?_
            refine g_iconst X (pc := 73) (v := 0) dX3_echo_73 (by decide) ?_
            obtain ⟨v16, M15, eM15, h⟩ := b2d h
            refine g_callSN X (pc := 74) (M' := M15) (ro := some (pI v16)) (as := [pR v12, pI v13, pI v14, pI (0 : Int32)]) (as' := [pI (0 : Int32), pI v14, pI v13, pR v12]) (st := []) (ctX11_added _ _ _ _ _ _ fu  v12 v13 v14 (0 : Int32) M10 _ eM15) tb_622 (List.mem_of_getElem? (i := 14) rfl) tb_621 tb_1 hyX11_added rfl rfl ⟨by decide, by decide⟩ (Nat.le_of_ble_eq_true rfl) dX3_echo_74 ?_
            refine g_ldc X (pc := 77) tb_718 dX3_echo_77 ?_
            refine g_icmp_eq X (pc := 79) (tgt := 83) dX3_echo_79 (by decide) (fun hc => ?_) (fun hc => ?_)
            · have h := (if_pos hc).symm.trans h
              refine g_aload_n X (pc := 83) 0 rfl rfl dX3_echo_83 ?_
              obtain ⟨v17, ev17, h⟩ := bd h
              refine g_getR X (pc := 84) fk_3_0 rfl rfl ev17 tb_158 dX3_echo_84 ?_
              refine g_aload_n X (pc := 87) 0 rfl rfl dX3_echo_87 ?_
              obtain ⟨v18, ev18, h⟩ := bd h
              refine g_getI X (pc := 88) fk_3_10 rfl rfl ev18 tb_184 dX3_echo_88 ?_
              refine g_aload_n X (pc := 91) 0 rfl rfl dX3_echo_91 ?_
              obtain ⟨v19, ev19, h⟩ := bd h
              refine g_getR X (pc := 92) fk_3_14 rfl rfl ev19 tb_188 dX3_echo_92 ?_
              obtain ⟨v20, ev20, h⟩ := bd h
              refine g_getR X (pc := 95) fk_4_0 rfl rfl ev20 tb_98 dX3_echo_95 ?_
              refine g_bipush X (pc := 98) (v := 34) dX3_echo_98 (by decide) ?_
              refine g_aload_n X (pc := 100) 0 rfl rfl dX3_echo_100 ?_
              obtain ⟨v21, ev21, h⟩ := bd h
              refine g_getI X (pc := 101) fk_3_11 rfl rfl ev21 tb_185 dX3_echo_101 ?_
              obtain ⟨M22, eM22, h⟩ := bd h
              refine g_copyB X (pc := 104) eM22 tb_811 tb_363 tb_362 tb_15 ⟨by decide, Nat.le_of_ble_eq_true rfl⟩ dX3_echo_104 ?_
              refine g_aload_n X (pc := 107) 0 rfl rfl dX3_echo_107 ?_
              obtain ⟨v23, ev23, h⟩ := bd h
              refine g_getR X (pc := 108) fk_3_14 rfl rfl ev23 tb_188 dX3_echo_108 ?_
              obtain ⟨v24, ev24, h⟩ := bd h
              refine g_getR X (pc := 111) fk_4_0 rfl rfl ev24 tb_98 dX3_echo_111 ?_
              refine g_bipush X (pc := 114) (v := 34) dX3_echo_114 (by decide) ?_
              refine g_iconst X (pc := 116) (v := 0) dX3_echo_116 (by decide) ?_
              obtain ⟨M25, eM25, h⟩ := bd h
              refine g_callSN X (pc := 117) (M' := M25) (ro := none) (as := [pR v24, pI (34 : Int32), pI (0 : Int32)]) (as' := [pI (0 : Int32), pI (34 : Int32), pR v24]) (st := []) (ctX11_putFour _ _ _ _ _ _ fu  v24 (34 : Int32) (0 : Int32) M22 _ eM25) tb_366 (List.mem_of_getElem? (i := 19) rfl) tb_365 tb_1 hyX11_putFour rfl rfl ⟨by decide, by decide⟩ (Nat.le_of_ble_eq_true rfl) dX3_echo_117 ?_
              refine g_aload_n X (pc := 120) 0 rfl rfl dX3_echo_120 ?_
              obtain ⟨v26, ev26, h⟩ := bd h
              refine g_getR X (pc := 121) fk_3_14 rfl rfl ev26 tb_188 dX3_echo_121 ?_
              obtain ⟨v27, ev27, h⟩ := bd h
              refine g_getR X (pc := 124) fk_4_0 rfl rfl ev27 tb_98 dX3_echo_124 ?_
              refine g_bipush X (pc := 127) (v := 36) dX3_echo_127 (by decide) ?_
              refine g_aload_n X (pc := 129) 0 rfl rfl dX3_echo_129 ?_
              obtain ⟨v28, ev28, h⟩ := bd h
              refine g_getR X (pc := 130) fk_3_14 rfl rfl ev28 tb_188 dX3_echo_130 ?_
              obtain ⟨v29, ev29, h⟩ := bd h
              refine g_getR X (pc := 133) fk_4_0 rfl rfl ev29 tb_98 dX3_echo_133 ?_
              refine g_bipush X (pc := 136) (v := 34) dX3_echo_136 (by decide) ?_
              refine g_aload_n X (pc := 138) 0 rfl rfl dX3_echo_138 ?_
              obtain ⟨v30, ev30, h⟩ := bd h
              refine g_getI X (pc := 139) fk_3_11 rfl rfl ev30 tb_185 dX3_echo_139 ?_
              refine g_iconst X (pc := 142) (v := 0) dX3_echo_142 (by decide) ?_
              obtain ⟨v32, M31, eM31, h⟩ := b2d h
              refine g_callSN X (pc := 143) (M' := M31) (ro := some (pI v32)) (as := [pR v29, pI (34 : Int32), pI v30, pI (0 : Int32)]) (as' := [pI (0 : Int32), pI v30, pI (34 : Int32), pR v29]) (st := [pI (36 : Int32), pR v27]) (ctX11_added _ _ _ _ _ _ fu  v29 (34 : Int32) v30 (0 : Int32) M25 _ eM31) tb_622 (List.mem_of_getElem? (i := 14) rfl) tb_621 tb_1 hyX11_added rfl rfl ⟨by decide, by decide⟩ (Nat.le_of_ble_eq_true rfl) dX3_echo_143 ?_
              refine g_iconst X (pc := 146) (v := (-1)) dX3_echo_146 (by decide) ?_
              refine g_ixor X (pc := 147) dX3_echo_147 ?_
              obtain ⟨M33, eM33, h⟩ := bd h
              refine g_callSN X (pc := 148) (M' := M33) (ro := none) (as := [pR v27, pI (36 : Int32), pI (v32 ^^^ (-1 : Int32))]) (as' := [pI (v32 ^^^ (-1 : Int32)), pI (36 : Int32), pR v27]) (st := []) (ctX11_putTwo _ _ _ _ _ _ fu  v27 (36 : Int32) (v32 ^^^ (-1 : Int32)) M31 _ eM33) tb_525 (List.mem_of_getElem? (i := 20) rfl) tb_524 tb_1 hyX11_putTwo rfl rfl ⟨by decide, by decide⟩ (Nat.le_of_ble_eq_true rfl) dX3_echo_148 ?_
              refine g_aload_n X (pc := 151) 0 rfl rfl dX3_echo_151 ?_
              obtain ⟨v34, ev34, h⟩ := bd h
              refine g_getR X (pc := 152) fk_3_14 rfl rfl ev34 tb_188 dX3_echo_152 ?_
              refine g_aload_n X (pc := 155) 0 rfl rfl dX3_echo_155 ?_
              obtain ⟨v35, ev35, h⟩ := bd h
              refine g_getI X (pc := 156) fk_3_1 rfl rfl ev35 tb_161 dX3_echo_156 ?_
              refine g_iconst X (pc := 159) (v := 1) dX3_echo_159 (by decide) ?_
              refine g_aload_n X (pc := 160) 0 rfl rfl dX3_echo_160 ?_
              obtain ⟨v36, ev36, h⟩ := bd h
              refine g_getI X (pc := 161) fk_3_11 rfl rfl ev36 tb_185 dX3_echo_161 ?_
              obtain ⟨q37, eq37, h⟩ := bd h
              obtain ⟨M38, eM38, h⟩ := bd h
              refine g_callV X (pc := 164) (M' := M38) (ro := none) (c := 4) rfl (by decide) (as := [pI v35, pI (1 : Int32), pI v36]) (as' := [pI v36, pI (1 : Int32), pI v35]) (st := []) eq37 (ctX4_send _ _ _ _ _ _ fu q37 v35 (1 : Int32) v36 M33 _ eM38) tb_627 tb_814 tb_625 tb_626 tb_4 ⟨rfl, hyX4_send⟩ rfl rfl ⟨by decide, by decide⟩ (Nat.le_of_ble_eq_true rfl) dX3_echo_164 ?_
              obtain rfl := Option.some.inj h
              exact g_return X hE dX3_echo_167
            · have h := (if_neg hc).symm.trans h
              obtain rfl := Option.some.inj h
              exact g_return X hE dX3_echo_82
        · have h := (if_neg hc).symm.trans h
          obtain rfl := Option.some.inj h
          exact g_return X hE dX3_echo_43
theorem hyX3_echo : yX3_echo.cls ≠ "java/lang/invoke/MethodHandle" ∧ yX3_echo.cls ≠ "java/lang/invoke/VarHandle" ∧ (parseMethodDescriptor yX3_echo.desc).map (fun d => d.parameters.length) = some 0 := ⟨by decide +kernel, by decide +kernel, by decide +kernel⟩
theorem ctX3_echo (l : Launch) (E : Nat → Nat) (D : va_G) (dA : Nat → ClassId) (lo : Nat) (H0 : Heap) (fu : Nat) (a0 : Nat) (M : Mm) (out : Mm) (h : fX3_echo fu a0 M = some out) : Ct l E D dA lo H0 yX3_echo cX3_echo 1 none 4 92 [pR (some a0)] M none out := by
  refine ct_of (by decide +kernel) (Nat.le_of_ble_eq_true rfl) ?_
  intro x hl he hd ha ho hh hn hin X hE
  exact wX3_echo X hE hn fu a0 M h
/-! WebHost.pseudoSum(III)I -/
def fX11_pseudoSum (fu : Nat)  (a0 : Int32) (a1 : Int32) (a2 : Int32)  (M : Mm) : Option (Int32 × Mm) :=
    some (((((((ushr a0 (16 : Int32)) + (a0 &&& (65535 : Int32))) + (ushr a1 (16 : Int32))) + (a1 &&& (65535 : Int32))) + (6 : Int32)) + a2), M)
theorem dX11_pseudoSum_0 : decode cX11_pseudoSum 0 = .ok (.iload_n 0, 1) := by decide +kernel
theorem dX11_pseudoSum_1 : decode cX11_pseudoSum 1 = .ok (.bipush 16, 2) := by decide +kernel
theorem dX11_pseudoSum_3 : decode cX11_pseudoSum 3 = .ok (.iushr, 1) := by decide +kernel
theorem dX11_pseudoSum_4 : decode cX11_pseudoSum 4 = .ok (.iload_n 0, 1) := by decide +kernel
theorem dX11_pseudoSum_5 : decode cX11_pseudoSum 5 = .ok (.ldc 84, 2) := by decide +kernel
theorem dX11_pseudoSum_7 : decode cX11_pseudoSum 7 = .ok (.iand, 1) := by decide +kernel
theorem dX11_pseudoSum_8 : decode cX11_pseudoSum 8 = .ok (.iadd, 1) := by decide +kernel
theorem dX11_pseudoSum_9 : decode cX11_pseudoSum 9 = .ok (.iload_n 1, 1) := by decide +kernel
theorem dX11_pseudoSum_10 : decode cX11_pseudoSum 10 = .ok (.bipush 16, 2) := by decide +kernel
theorem dX11_pseudoSum_12 : decode cX11_pseudoSum 12 = .ok (.iushr, 1) := by decide +kernel
theorem dX11_pseudoSum_13 : decode cX11_pseudoSum 13 = .ok (.iadd, 1) := by decide +kernel
theorem dX11_pseudoSum_14 : decode cX11_pseudoSum 14 = .ok (.iload_n 1, 1) := by decide +kernel
theorem dX11_pseudoSum_15 : decode cX11_pseudoSum 15 = .ok (.ldc 84, 2) := by decide +kernel
theorem dX11_pseudoSum_17 : decode cX11_pseudoSum 17 = .ok (.iand, 1) := by decide +kernel
theorem dX11_pseudoSum_18 : decode cX11_pseudoSum 18 = .ok (.iadd, 1) := by decide +kernel
theorem dX11_pseudoSum_19 : decode cX11_pseudoSum 19 = .ok (.bipush 6, 2) := by decide +kernel
theorem dX11_pseudoSum_21 : decode cX11_pseudoSum 21 = .ok (.iadd, 1) := by decide +kernel
theorem dX11_pseudoSum_22 : decode cX11_pseudoSum 22 = .ok (.iload_n 2, 1) := by decide +kernel
theorem dX11_pseudoSum_23 : decode cX11_pseudoSum 23 = .ok (.iadd, 1) := by decide +kernel
theorem dX11_pseudoSum_24 : decode cX11_pseudoSum 24 = .ok (.ireturn, 1) := by decide +kernel
theorem wX11_pseudoSum {x : GX} {n0 sl0 : Nat} (X : Cx x cX11_pseudoSum RX11 (some .int) n0 sl0 0 0) {out : Int32 × Mm} (hE : Ends x n0 sl0 (some (pI out.1)) out.2) (hn : xn x = 3) (fu : Nat)   (a0 : Int32) (a1 : Int32) (a2 : Int32)  (M : Mm) (h : fX11_pseudoSum fu  a0 a1 a2 M = some out) : Gw x M 0 [(0, pI a0), (1, pI a1), (2, pI a2)] [] := by
  unfold fX11_pseudoSum at h
  refine g_iload_n X (pc := 0) 0 rfl rfl dX11_pseudoSum_0 ?_
  refine g_bipush X (pc := 1) (v := 16) dX11_pseudoSum_1 (by decide) ?_
  refine g_iushr X (pc := 3) dX11_pseudoSum_3 ?_
  refine g_iload_n X (pc := 4) 0 rfl rfl dX11_pseudoSum_4 ?_
  refine g_ldc X (pc := 5) tb_375 dX11_pseudoSum_5 ?_
  refine g_iand X (pc := 7) dX11_pseudoSum_7 ?_
  refine g_iadd X (pc := 8) dX11_pseudoSum_8 ?_
  refine g_iload_n X (pc := 9) 1 rfl rfl dX11_pseudoSum_9 ?_
  refine g_bipush X (pc := 10) (v := 16) dX11_pseudoSum_10 (by decide) ?_
  refine g_iushr X (pc := 12) dX11_pseudoSum_12 ?_
  refine g_iadd X (pc := 13) dX11_pseudoSum_13 ?_
  refine g_iload_n X (pc := 14) 1 rfl rfl dX11_pseudoSum_14 ?_
  refine g_ldc X (pc := 15) tb_375 dX11_pseudoSum_15 ?_
  refine g_iand X (pc := 17) dX11_pseudoSum_17 ?_
  refine g_iadd X (pc := 18) dX11_pseudoSum_18 ?_
  refine g_bipush X (pc := 19) (v := 6) dX11_pseudoSum_19 (by decide) ?_
  refine g_iadd X (pc := 21) dX11_pseudoSum_21 ?_
  refine g_iload_n X (pc := 22) 2 rfl rfl dX11_pseudoSum_22 ?_
  refine g_iadd X (pc := 23) dX11_pseudoSum_23 ?_
  obtain rfl := Option.some.inj h
  exact g_ireturn X hE dX11_pseudoSum_24
theorem hyX11_pseudoSum : yX11_pseudoSum.cls ≠ "java/lang/invoke/MethodHandle" ∧ yX11_pseudoSum.cls ≠ "java/lang/invoke/VarHandle" ∧ (parseMethodDescriptor yX11_pseudoSum.desc).map (fun d => d.parameters.length) = some 3 := ⟨by decide +kernel, by decide +kernel, by decide +kernel⟩
theorem ctX11_pseudoSum (l : Launch) (E : Nat → Nat) (D : va_G) (dA : Nat → ClassId) (lo : Nat) (H0 : Heap) (fu : Nat) (a0 : Int32) (a1 : Int32) (a2 : Int32) (M : Mm) (out : Int32 × Mm) (h : fX11_pseudoSum fu a0 a1 a2 M = some out) : Ct l E D dA lo H0 yX11_pseudoSum cX11_pseudoSum 3 (some .int) 0 0 [pI a0, pI a1, pI a2] M (some (pI out.1)) out.2 := by
  refine ct_of (by decide +kernel) (Nat.le_of_ble_eq_true rfl) ?_
  intro x hl he hd ha ho hh hn hin X hE
  exact wX11_pseudoSum X hE hn fu a0 a1 a2 M h
