/-! ===== walks of methods, printed by a program of ours ===== -/
/-! WebHost$Requests.<init>(LWebHost$Store;LWebHost$Wire;)V -/
def fX7_init (fu : Nat)  (a0 : Nat) (a1 : Option Nat) (a2 : Option Nat)  (M : Mm) : Option (Mm) :=
    (pG M 7 448 (some a0) a1).bind fun M1 =>
    (pG M1 7 449 (some a0) a2).bind fun M2 =>
    b2 (mkA M2 100 (4096 : Int32)) fun v3 M4 =>
    (pG M4 7 450 (some a0) (some v3)).bind fun M5 =>
    b2 (mkA M5 100 (48 : Int32)) fun v6 M7 =>
    (pG M7 7 451 (some a0) (some v6)).bind fun M8 =>
    some M8
theorem dX7_init_0 : decode cX7_init 0 = .ok (.aload_n 0, 1) := by decide +kernel
theorem dX7_init_1 : decode cX7_init 1 = .ok (.invokespecial 3, 3) := by decide +kernel
theorem dX7_init_4 : decode cX7_init 4 = .ok (.aload_n 0, 1) := by decide +kernel
theorem dX7_init_5 : decode cX7_init 5 = .ok (.aload_n 1, 1) := by decide +kernel
theorem dX7_init_6 : decode cX7_init 6 = .ok (.putfield 9, 3) := by decide +kernel
theorem dX7_init_9 : decode cX7_init 9 = .ok (.aload_n 0, 1) := by decide +kernel
theorem dX7_init_10 : decode cX7_init 10 = .ok (.aload_n 2, 1) := by decide +kernel
theorem dX7_init_11 : decode cX7_init 11 = .ok (.putfield 15, 3) := by decide +kernel
theorem dX7_init_14 : decode cX7_init 14 = .ok (.aload_n 0, 1) := by decide +kernel
theorem dX7_init_15 : decode cX7_init 15 = .ok (.sipush 4096, 3) := by decide +kernel
theorem dX7_init_18 : decode cX7_init 18 = .ok (.newarray .byte, 2) := by decide +kernel
theorem dX7_init_20 : decode cX7_init 20 = .ok (.putfield 21, 3) := by decide +kernel
theorem dX7_init_23 : decode cX7_init 23 = .ok (.aload_n 0, 1) := by decide +kernel
theorem dX7_init_24 : decode cX7_init 24 = .ok (.bipush 48, 2) := by decide +kernel
theorem dX7_init_26 : decode cX7_init 26 = .ok (.newarray .byte, 2) := by decide +kernel
theorem dX7_init_28 : decode cX7_init 28 = .ok (.putfield 25, 3) := by decide +kernel
theorem dX7_init_31 : decode cX7_init 31 = .ok (.return_, 1) := by decide +kernel
theorem wX7_init {x : GX} {n0 sl0 : Nat} (X : Cx x cX7_init RX7 none n0 sl0 1 12) {out : Mm} (hE : Ends x n0 sl0 none out) (hn : xn x = 3) (hin : (xt x).name = "<init>") (fu : Nat)   (a0 : Nat) (a1 : Option Nat) (a2 : Option Nat)  (M : Mm) (h : fX7_init fu  a0 a1 a2 M = some out) : Gw x M 0 [(0, pR (some a0)), (1, pR a1), (2, pR a2)] [] := by
  unfold fX7_init at h
  refine g_aload_n X (pc := 0) 0 rfl rfl dX7_init_0 ?_
  refine g_objInit X (pc := 1) (o := (some a0)) ⟨_, rfl⟩ tb_255 tb_32 tb_33 ⟨by decide, Nat.le_of_ble_eq_true rfl⟩ dX7_init_1 ?_
  refine g_aload_n X (pc := 4) 0 rfl rfl dX7_init_4 ?_
  refine g_aload_n X (pc := 5) 1 rfl rfl dX7_init_5 ?_
  obtain ⟨M1, eM1, h⟩ := bd h
  refine g_putG X (pc := 6) fk_7_0 rfl rfl rfl eM1 tb_256 (Or.inr ⟨rfl, hin, rfl⟩) dX7_init_6 ?_
  refine g_aload_n X (pc := 9) 0 rfl rfl dX7_init_9 ?_
  refine g_aload_n X (pc := 10) 2 rfl rfl dX7_init_10 ?_
  obtain ⟨M2, eM2, h⟩ := bd h
  refine g_putG X (pc := 11) fk_7_1 rfl rfl rfl eM2 tb_257 (Or.inr ⟨rfl, hin, rfl⟩) dX7_init_11 ?_
  refine g_aload_n X (pc := 14) 0 rfl rfl dX7_init_14 ?_
  refine g_sipush X (pc := 15) (v := 4096) dX7_init_15 (by decide) ?_
  obtain ⟨v3, M4, eM4, h⟩ := b2d h
  refine g_newarray X (pc := 18) (at9 := .byte) (k := 0) rfl (by decide) rfl (by decide) (fun _ _ q => q) tb_53 eM4 dX7_init_18 ?_
  obtain ⟨M5, eM5, h⟩ := bd h
  refine g_putG X (pc := 20) fk_7_2 rfl rfl rfl eM5 tb_258 (Or.inr ⟨rfl, hin, rfl⟩) dX7_init_20 ?_
  refine g_aload_n X (pc := 23) 0 rfl rfl dX7_init_23 ?_
  refine g_bipush X (pc := 24) (v := 48) dX7_init_24 (by decide) ?_
  obtain ⟨v6, M7, eM7, h⟩ := b2d h
  refine g_newarray X (pc := 26) (at9 := .byte) (k := 0) rfl (by decide) rfl (by decide) (fun _ _ q => q) tb_53 eM7 dX7_init_26 ?_
  obtain ⟨M8, eM8, h⟩ := bd h
  refine g_putG X (pc := 28) fk_7_3 rfl rfl rfl eM8 tb_259 (Or.inr ⟨rfl, hin, rfl⟩) dX7_init_28 ?_
  obtain rfl := Option.some.inj h
  exact g_return X hE dX7_init_31
theorem hyX7_init : yX7_init.cls ≠ "java/lang/invoke/MethodHandle" ∧ yX7_init.cls ≠ "java/lang/invoke/VarHandle" ∧ (parseMethodDescriptor yX7_init.desc).map (fun d => d.parameters.length) = some 2 := ⟨by decide +kernel, by decide +kernel, by decide +kernel⟩
theorem ctX7_init (l : Launch) (E : Nat → Nat) (D : va_G) (dA : Nat → ClassId) (lo : Nat) (H0 : Heap) (fu : Nat) (a0 : Nat) (a1 : Option Nat) (a2 : Option Nat) (M : Mm) (out : Mm) (h : fX7_init fu a0 a1 a2 M = some out) : Ct l E D dA lo H0 yX7_init cX7_init 3 none 1 12 [pR (some a0), pR a1, pR a2] M none out := by
  refine ct_of (by decide +kernel) (Nat.le_of_ble_eq_true rfl) ?_
  intro x hl he hd ha ho hh hn hin X hE
  exact wX7_init X hE hn hin fu a0 a1 a2 M h
/-! WebHost$Requests.emptyLines(LWebHost$Came;)I -/
def fX7_emptyLines_L7 (fu : Nat)  : Nat → Option Nat → Int32 → Int32 → Mm → Option (Int32 × Mm)
  | 0, _, _, _, _ => none
  | n + 1, a0, a1, a2, M =>
    if a1 ≤ a2 then (
    some (a2, M))
    else (
    (rc M 0 a0).bind fun q1 =>
    b2 (fX0_peek fu q1 a2 M) fun v3 M2 =>
    if v3 = (10 : Int32) then (
    fX7_emptyLines_L7 fu  n a0 a1 (a2 + (1 : Int32)) M2)
    else (
    (rc M2 0 a0).bind fun q4 =>
    b2 (fX0_peek fu q4 a2 M2) fun v6 M5 =>
    if v6 = (13 : Int32) then (
    if a1 ≤ (a2 + (1 : Int32)) then (
    some (a2, M5))
    else (
    (rc M5 0 a0).bind fun q7 =>
    b2 (fX0_peek fu q7 (a2 + (1 : Int32)) M5) fun v9 M8 =>
    if v9 = (10 : Int32) then (
    fX7_emptyLines_L7 fu  n a0 a1 (a2 + (2 : Int32)) M8)
    else (
    some (a2, M8))))
    else (
    some (a2, M5))))
def fX7_emptyLines (fu : Nat)  (a0 : Option Nat)  (M : Mm) : Option (Int32 × Mm) :=
    (rc M 0 a0).bind fun q1 =>
    b2 (fX0_held fu q1  M) fun v3 M2 =>
    fX7_emptyLines_L7 fu  fu a0 v3 (0 : Int32) M2
theorem dX7_emptyLines_0 : decode cX7_emptyLines 0 = .ok (.aload_n 0, 1) := by decide +kernel
theorem dX7_emptyLines_1 : decode cX7_emptyLines 1 = .ok (.invokevirtual 71, 3) := by decide +kernel
theorem dX7_emptyLines_4 : decode cX7_emptyLines 4 = .ok (.istore_n 1, 1) := by decide +kernel
theorem dX7_emptyLines_5 : decode cX7_emptyLines 5 = .ok (.iconst 0, 1) := by decide +kernel
theorem dX7_emptyLines_6 : decode cX7_emptyLines 6 = .ok (.istore_n 2, 1) := by decide +kernel
theorem dX7_emptyLines_7 : decode cX7_emptyLines 7 = .ok (.iload_n 2, 1) := by decide +kernel
theorem dX7_emptyLines_8 : decode cX7_emptyLines 8 = .ok (.iload_n 1, 1) := by decide +kernel
theorem dX7_emptyLines_9 : decode cX7_emptyLines 9 = .ok (.if_icmp .ge 54, 3) := by decide +kernel
theorem dX7_emptyLines_12 : decode cX7_emptyLines 12 = .ok (.aload_n 0, 1) := by decide +kernel
theorem dX7_emptyLines_13 : decode cX7_emptyLines 13 = .ok (.iload_n 2, 1) := by decide +kernel
theorem dX7_emptyLines_14 : decode cX7_emptyLines 14 = .ok (.invokevirtual 85, 3) := by decide +kernel
theorem dX7_emptyLines_17 : decode cX7_emptyLines 17 = .ok (.bipush 10, 2) := by decide +kernel
theorem dX7_emptyLines_19 : decode cX7_emptyLines 19 = .ok (.if_icmp .ne 9, 3) := by decide +kernel
theorem dX7_emptyLines_22 : decode cX7_emptyLines 22 = .ok (.iinc 2 1, 3) := by decide +kernel
theorem dX7_emptyLines_25 : decode cX7_emptyLines 25 = .ok (.goto (-18), 3) := by decide +kernel
theorem dX7_emptyLines_28 : decode cX7_emptyLines 28 = .ok (.aload_n 0, 1) := by decide +kernel
theorem dX7_emptyLines_29 : decode cX7_emptyLines 29 = .ok (.iload_n 2, 1) := by decide +kernel
theorem dX7_emptyLines_30 : decode cX7_emptyLines 30 = .ok (.invokevirtual 85, 3) := by decide +kernel
theorem dX7_emptyLines_33 : decode cX7_emptyLines 33 = .ok (.bipush 13, 2) := by decide +kernel
theorem dX7_emptyLines_35 : decode cX7_emptyLines 35 = .ok (.if_icmp .ne 28, 3) := by decide +kernel
theorem dX7_emptyLines_38 : decode cX7_emptyLines 38 = .ok (.iload_n 2, 1) := by decide +kernel
theorem dX7_emptyLines_39 : decode cX7_emptyLines 39 = .ok (.iconst 1, 1) := by decide +kernel
theorem dX7_emptyLines_40 : decode cX7_emptyLines 40 = .ok (.iadd, 1) := by decide +kernel
theorem dX7_emptyLines_41 : decode cX7_emptyLines 41 = .ok (.iload_n 1, 1) := by decide +kernel
theorem dX7_emptyLines_42 : decode cX7_emptyLines 42 = .ok (.if_icmp .ge 21, 3) := by decide +kernel
theorem dX7_emptyLines_45 : decode cX7_emptyLines 45 = .ok (.aload_n 0, 1) := by decide +kernel
theorem dX7_emptyLines_46 : decode cX7_emptyLines 46 = .ok (.iload_n 2, 1) := by decide +kernel
theorem dX7_emptyLines_47 : decode cX7_emptyLines 47 = .ok (.iconst 1, 1) := by decide +kernel
theorem dX7_emptyLines_48 : decode cX7_emptyLines 48 = .ok (.iadd, 1) := by decide +kernel
theorem dX7_emptyLines_49 : decode cX7_emptyLines 49 = .ok (.invokevirtual 85, 3) := by decide +kernel
theorem dX7_emptyLines_52 : decode cX7_emptyLines 52 = .ok (.bipush 10, 2) := by decide +kernel
theorem dX7_emptyLines_54 : decode cX7_emptyLines 54 = .ok (.if_icmp .ne 9, 3) := by decide +kernel
theorem dX7_emptyLines_57 : decode cX7_emptyLines 57 = .ok (.iinc 2 2, 3) := by decide +kernel
theorem dX7_emptyLines_60 : decode cX7_emptyLines 60 = .ok (.goto (-53), 3) := by decide +kernel
theorem dX7_emptyLines_63 : decode cX7_emptyLines 63 = .ok (.iload_n 2, 1) := by decide +kernel
theorem dX7_emptyLines_64 : decode cX7_emptyLines 64 = .ok (.ireturn, 1) := by decide +kernel
theorem wX7_emptyLines_L7 {x : GX} {n0 sl0 : Nat} (X : Cx x cX7_emptyLines RX7 (some .int) n0 sl0 1 21) {out : Int32 × Mm} (hE : Ends x n0 sl0 (some (pI out.1)) out.2) (hn : xn x = 3) (fu : Nat)   : ∀ (n : Nat) (a0 : Option Nat) (a1 : Int32) (a2 : Int32)  (M : Mm), fX7_emptyLines_L7 fu  n a0 a1 a2 M = some out → Gw x M 7 [(0, pR a0), (1, pI a1), (2, pI a2)] [] := by
  intro n
  induction n with
  | zero =>
    intro a0 a1 a2 M h
    have h : (none : Option (Int32 × Mm)) = some out := h
    cases h
  | succ n ih =>
    intro a0 a1 a2 M h
    rw [fX7_emptyLines_L7] at h
    refine g_iload_n X (pc := 7) 2 rfl rfl dX7_emptyLines_7 ?_
    refine g_iload_n X (pc := 8) 1 rfl rfl dX7_emptyLines_8 ?_
    refine g_icmp_ge X (pc := 9) (tgt := 63) dX7_emptyLines_9 (by decide) (fun hc => ?_) (fun hc => ?_)
    · have h := (if_pos hc).symm.trans h
      refine g_iload_n X (pc := 63) 2 rfl rfl dX7_emptyLines_63 ?_
      obtain rfl := Option.some.inj h
      exact g_ireturn X hE dX7_emptyLines_64
    · have h := (if_neg hc).symm.trans h
      refine g_aload_n X (pc := 12) 0 rfl rfl dX7_emptyLines_12 ?_
      refine g_iload_n X (pc := 13) 2 rfl rfl dX7_emptyLines_13 ?_
      obtain ⟨q1, eq1, h⟩ := bd h
      obtain ⟨v3, M2, eM2, h⟩ := b2d h
      refine g_callV X (pc := 14) (M' := M2) (ro := some (pI v3)) (c := 0) rfl (by decide) (as := [pI a2]) (as' := [pI a2]) (st := []) eq1 (ctX0_peek _ _ _ _ _ _ fu q1 a2 M _ eM2) tb_1182 tb_1179 tb_1180 tb_1181 tb_19 ⟨rfl, hyX0_peek⟩ rfl rfl ⟨by decide, by decide⟩ (Nat.le_of_ble_eq_true rfl) dX7_emptyLines_14 ?_
      refine g_bipush X (pc := 17) (v := 10) dX7_emptyLines_17 (by decide) ?_
      refine g_icmp_ne X (pc := 19) (tgt := 28) dX7_emptyLines_19 (by decide) (fun hc => ?_) (fun hc => ?_)
      · have h := (if_neg hc).symm.trans h
        refine g_aload_n X (pc := 28) 0 rfl rfl dX7_emptyLines_28 ?_
        refine g_iload_n X (pc := 29) 2 rfl rfl dX7_emptyLines_29 ?_
        obtain ⟨q4, eq4, h⟩ := bd h
        obtain ⟨v6, M5, eM5, h⟩ := b2d h
        refine g_callV X (pc := 30) (M' := M5) (ro := some (pI v6)) (c := 0) rfl (by decide) (as := [pI a2]) (as' := [pI a2]) (st := []) eq4 (ctX0_peek _ _ _ _ _ _ fu q4 a2 M2 _ eM5) tb_1182 tb_1179 tb_1180 tb_1181 tb_19 ⟨rfl, hyX0_peek⟩ rfl rfl ⟨by decide, by decide⟩ (Nat.le_of_ble_eq_true rfl) dX7_emptyLines_30 ?_
        refine g_bipush X (pc := 33) (v := 13) dX7_emptyLines_33 (by decide) ?_
        refine g_icmp_ne X (pc := 35) (tgt := 63) dX7_emptyLines_35 (by decide) (fun hc => ?_) (fun hc => ?_)
        · have h := (if_neg hc).symm.trans h
          refine g_iload_n X (pc := 63) 2 rfl rfl dX7_emptyLines_63 ?_
          obtain rfl := Option.some.inj h
          exact g_ireturn X hE dX7_emptyLines_64
        · have h := (if_pos hc).symm.trans h
          refine g_iload_n X (pc := 38) 2 rfl rfl dX7_emptyLines_38 ?_
          refine g_iconst X (pc := 39) (v := 1) dX7_emptyLines_39 (by decide) ?_
          refine g_iadd X (pc := 40) dX7_emptyLines_40 ?_
          refine g_iload_n X (pc := 41) 1 rfl rfl dX7_emptyLines_41 ?_
          refine g_icmp_ge X (pc := 42) (tgt := 63) dX7_emptyLines_42 (by decide) (fun hc => ?_) (fun hc => ?_)
          · have h := (if_pos hc).symm.trans h
            refine g_iload_n X (pc := 63) 2 rfl rfl dX7_emptyLines_63 ?_
            obtain rfl := Option.some.inj h
            exact g_ireturn X hE dX7_emptyLines_64
          · have h := (if_neg hc).symm.trans h
            refine g_aload_n X (pc := 45) 0 rfl rfl dX7_emptyLines_45 ?_
            refine g_iload_n X (pc := 46) 2 rfl rfl dX7_emptyLines_46 ?_
            refine g_iconst X (pc := 47) (v := 1) dX7_emptyLines_47 (by decide) ?_
            refine g_iadd X (pc := 48) dX7_emptyLines_48 ?_
            obtain ⟨q7, eq7, h⟩ := bd h
            obtain ⟨v9, M8, eM8, h⟩ := b2d h
            refine g_callV X (pc := 49) (M' := M8) (ro := some (pI v9)) (c := 0) rfl (by decide) (as := [pI (a2 + (1 : Int32))]) (as' := [pI (a2 + (1 : Int32))]) (st := []) eq7 (ctX0_peek _ _ _ _ _ _ fu q7 (a2 + (1 : Int32)) M5 _ eM8) tb_1182 tb_1179 tb_1180 tb_1181 tb_19 ⟨rfl, hyX0_peek⟩ rfl rfl ⟨by decide, by decide⟩ (Nat.le_of_ble_eq_true rfl) dX7_emptyLines_49 ?_
            refine g_bipush X (pc := 52) (v := 10) dX7_emptyLines_52 (by decide) ?_
            refine g_icmp_ne X (pc := 54) (tgt := 63) dX7_emptyLines_54 (by decide) (fun hc => ?_) (fun hc => ?_)
            · have h := (if_neg hc).symm.trans h
              refine g_iload_n X (pc := 63) 2 rfl rfl dX7_emptyLines_63 ?_
              obtain rfl := Option.some.inj h
              exact g_ireturn X hE dX7_emptyLines_64
            · have h := (if_pos hc).symm.trans h
              refine g_iinc X (pc := 57) 2 [(2, pI (a2 + (2 : Int32))), (0, pR a0), (1, pI a1)] rfl (iinc_e (by decide)) (lt_n hn (by decide)) rfl dX7_emptyLines_57 ?_
              refine g_goto X (pc := 60) (tgt := 7) dX7_emptyLines_60 (by decide) ?_
              refine g_sub [1, 2, 0] [(0, pR a0), (1, pI a1), (2, pI (a2 + (2 : Int32)))] rfl ?_
              exact ih a0 a1 (a2 + (2 : Int32)) M8 h
      · have h := (if_pos hc).symm.trans h
        refine g_iinc X (pc := 22) 2 [(2, pI (a2 + (1 : Int32))), (0, pR a0), (1, pI a1)] rfl (iinc_e (by decide)) (lt_n hn (by decide)) rfl dX7_emptyLines_22 ?_
        refine g_goto X (pc := 25) (tgt := 7) dX7_emptyLines_25 (by decide) ?_
        refine g_sub [1, 2, 0] [(0, pR a0), (1, pI a1), (2, pI (a2 + (1 : Int32)))] rfl ?_
        exact ih a0 a1 (a2 + (1 : Int32)) M2 h
theorem wX7_emptyLines {x : GX} {n0 sl0 : Nat} (X : Cx x cX7_emptyLines RX7 (some .int) n0 sl0 1 21) {out : Int32 × Mm} (hE : Ends x n0 sl0 (some (pI out.1)) out.2) (hn : xn x = 3) (fu : Nat)   (a0 : Option Nat)  (M : Mm) (h : fX7_emptyLines fu  a0 M = some out) : Gw x M 0 [(0, pR a0)] [] := by
  unfold fX7_emptyLines at h
  refine g_aload_n X (pc := 0) 0 rfl rfl dX7_emptyLines_0 ?_
  obtain ⟨q1, eq1, h⟩ := bd h
  obtain ⟨v3, M2, eM2, h⟩ := b2d h
  refine g_callV X (pc := 1) (M' := M2) (ro := some (pI v3)) (c := 0) rfl (by decide) (as := []) (as' := []) (st := []) eq1 (ctX0_held _ _ _ _ _ _ fu q1  M _ eM2) tb_605 tb_1178 tb_603 tb_604 tb_19 ⟨rfl, hyX0_held⟩ rfl rfl ⟨by decide, by decide⟩ (Nat.le_of_ble_eq_true rfl) dX7_emptyLines_1 ?_
  refine g_istore_n X (pc := 4) [(1, pI v3), (0, pR a0)] rfl (lt_n hn (by decide)) rfl dX7_emptyLines_4 ?_
  refine g_iconst X (pc := 5) (v := 0) dX7_emptyLines_5 (by decide) ?_
  refine g_istore_n X (pc := 6) [(2, pI (0 : Int32)), (1, pI v3), (0, pR a0)] rfl (lt_n hn (by decide)) rfl dX7_emptyLines_6 ?_
  refine g_sub [2, 1, 0] [(0, pR a0), (1, pI v3), (2, pI (0 : Int32))] rfl ?_
  exact wX7_emptyLines_L7 X hE hn fu   fu a0 v3 (0 : Int32) M2 h
theorem hyX7_emptyLines : yX7_emptyLines.cls ≠ "java/lang/invoke/MethodHandle" ∧ yX7_emptyLines.cls ≠ "java/lang/invoke/VarHandle" ∧ (parseMethodDescriptor yX7_emptyLines.desc).map (fun d => d.parameters.length) = some 1 := ⟨by decide +kernel, by decide +kernel, by decide +kernel⟩
theorem ctX7_emptyLines (l : Launch) (E : Nat → Nat) (D : va_G) (dA : Nat → ClassId) (lo : Nat) (H0 : Heap) (fu : Nat) (a0 : Option Nat) (M : Mm) (out : Int32 × Mm) (h : fX7_emptyLines fu a0 M = some out) : Ct l E D dA lo H0 yX7_emptyLines cX7_emptyLines 3 (some .int) 1 21 [pR a0] M (some (pI out.1)) out.2 := by
  refine ct_of (by decide +kernel) (Nat.le_of_ble_eq_true rfl) ?_
  intro x hl he hd ha ho hh hn hin X hE
  exact wX7_emptyLines X hE hn fu a0 M h
/-! WebHost$Requests.lineEnd(II)I -/
def fX7_lineEnd (fu : Nat)  (a0 : Nat) (a1 : Int32) (a2 : Int32)  (M : Mm) : Option (Int32 × Mm) :=
    if a2 ≤ a1 then (
    some (a2, M))
    else (
    (gR M 7 450 (some a0)).bind fun v1 =>
    b2 (fX11_one fu  v1 (a2 - (1 : Int32)) M) fun v3 M2 =>
    if v3 = (13 : Int32) then (
    some ((a2 - (1 : Int32)), M2))
    else (
    some (a2, M2)))
theorem dX7_lineEnd_0 : decode cX7_lineEnd 0 = .ok (.iload_n 2, 1) := by decide +kernel
theorem dX7_lineEnd_1 : decode cX7_lineEnd 1 = .ok (.iload_n 1, 1) := by decide +kernel
theorem dX7_lineEnd_2 : decode cX7_lineEnd 2 = .ok (.if_icmp .le 24, 3) := by decide +kernel
theorem dX7_lineEnd_5 : decode cX7_lineEnd 5 = .ok (.aload_n 0, 1) := by decide +kernel
theorem dX7_lineEnd_6 : decode cX7_lineEnd 6 = .ok (.getfield 21, 3) := by decide +kernel
theorem dX7_lineEnd_9 : decode cX7_lineEnd 9 = .ok (.iload_n 2, 1) := by decide +kernel
theorem dX7_lineEnd_10 : decode cX7_lineEnd 10 = .ok (.iconst 1, 1) := by decide +kernel
theorem dX7_lineEnd_11 : decode cX7_lineEnd 11 = .ok (.isub, 1) := by decide +kernel
theorem dX7_lineEnd_12 : decode cX7_lineEnd 12 = .ok (.invokestatic 97, 3) := by decide +kernel
theorem dX7_lineEnd_15 : decode cX7_lineEnd 15 = .ok (.bipush 13, 2) := by decide +kernel
theorem dX7_lineEnd_17 : decode cX7_lineEnd 17 = .ok (.if_icmp .ne 9, 3) := by decide +kernel
theorem dX7_lineEnd_20 : decode cX7_lineEnd 20 = .ok (.iload_n 2, 1) := by decide +kernel
theorem dX7_lineEnd_21 : decode cX7_lineEnd 21 = .ok (.iconst 1, 1) := by decide +kernel
theorem dX7_lineEnd_22 : decode cX7_lineEnd 22 = .ok (.isub, 1) := by decide +kernel
theorem dX7_lineEnd_23 : decode cX7_lineEnd 23 = .ok (.goto 4, 3) := by decide +kernel
theorem dX7_lineEnd_26 : decode cX7_lineEnd 26 = .ok (.iload_n 2, 1) := by decide +kernel
theorem dX7_lineEnd_27 : decode cX7_lineEnd 27 = .ok (.ireturn, 1) := by decide +kernel
theorem wX7_lineEnd {x : GX} {n0 sl0 : Nat} (X : Cx x cX7_lineEnd RX7 (some .int) n0 sl0 1 21) {out : Int32 × Mm} (hE : Ends x n0 sl0 (some (pI out.1)) out.2) (hn : xn x = 3) (fu : Nat)   (a0 : Nat) (a1 : Int32) (a2 : Int32)  (M : Mm) (h : fX7_lineEnd fu  a0 a1 a2 M = some out) : Gw x M 0 [(0, pR (some a0)), (1, pI a1), (2, pI a2)] [] := by
  unfold fX7_lineEnd at h
  refine g_iload_n X (pc := 0) 2 rfl rfl dX7_lineEnd_0 ?_
  refine g_iload_n X (pc := 1) 1 rfl rfl dX7_lineEnd_1 ?_
  refine g_icmp_le X (pc := 2) (tgt := 26) dX7_lineEnd_2 (by decide) (fun hc => ?_) (fun hc => ?_)
  · have h := (if_pos hc).symm.trans h
    refine g_iload_n X (pc := 26) 2 rfl rfl dX7_lineEnd_26 ?_
    obtain rfl := Option.some.inj h
    exact g_ireturn X hE dX7_lineEnd_27
  · have h := (if_neg hc).symm.trans h
    refine g_aload_n X (pc := 5) 0 rfl rfl dX7_lineEnd_5 ?_
    obtain ⟨v1, ev1, h⟩ := bd h
    refine g_getR X (pc := 6) fk_7_2 rfl rfl ev1 tb_258 dX7_lineEnd_6 ?_
    refine g_iload_n X (pc := 9) 2 rfl rfl dX7_lineEnd_9 ?_
    refine g_iconst X (pc := 10) (v := 1) dX7_lineEnd_10 (by decide) ?_
    refine g_isub X (pc := 11) dX7_lineEnd_11 ?_
    obtain ⟨v3, M2, eM2, h⟩ := b2d h
    refine g_callSN X (pc := 12) (M' := M2) (ro := some (pI v3)) (as := [pR v1, pI (a2 - (1 : Int32))]) (as' := [pI (a2 - (1 : Int32)), pR v1]) (st := []) (ctX11_one _ _ _ _ _ _ fu  v1 (a2 - (1 : Int32)) M _ eM2) tb_415 (List.mem_of_getElem? (i := 24) rfl) tb_414 tb_1 hyX11_one rfl rfl ⟨by decide, by decide⟩ (Nat.le_of_ble_eq_true rfl) dX7_lineEnd_12 ?_
    refine g_bipush X (pc := 15) (v := 13) dX7_lineEnd_15 (by decide) ?_
    refine g_icmp_ne X (pc := 17) (tgt := 26) dX7_lineEnd_17 (by decide) (fun hc => ?_) (fun hc => ?_)
    · have h := (if_neg hc).symm.trans h
      refine g_iload_n X (pc := 26) 2 rfl rfl dX7_lineEnd_26 ?_
      obtain rfl := Option.some.inj h
      exact g_ireturn X hE dX7_lineEnd_27
    · have h := (if_pos hc).symm.trans h
      refine g_iload_n X (pc := 20) 2 rfl rfl dX7_lineEnd_20 ?_
      refine g_iconst X (pc := 21) (v := 1) dX7_lineEnd_21 (by decide) ?_
      refine g_isub X (pc := 22) dX7_lineEnd_22 ?_
      refine g_goto X (pc := 23) (tgt := 27) dX7_lineEnd_23 (by decide) ?_
      obtain rfl := Option.some.inj h
      exact g_ireturn X hE dX7_lineEnd_27
theorem hyX7_lineEnd : yX7_lineEnd.cls ≠ "java/lang/invoke/MethodHandle" ∧ yX7_lineEnd.cls ≠ "java/lang/invoke/VarHandle" ∧ (parseMethodDescriptor yX7_lineEnd.desc).map (fun d => d.parameters.length) = some 2 := ⟨by decide +kernel, by decide +kernel, by decide +kernel⟩
theorem ctX7_lineEnd (l : Launch) (E : Nat → Nat) (D : va_G) (dA : Nat → ClassId) (lo : Nat) (H0 : Heap) (fu : Nat) (a0 : Nat) (a1 : Int32) (a2 : Int32) (M : Mm) (out : Int32 × Mm) (h : fX7_lineEnd fu a0 a1 a2 M = some out) : Ct l E D dA lo H0 yX7_lineEnd cX7_lineEnd 3 (some .int) 1 21 [pR (some a0), pI a1, pI a2] M (some (pI out.1)) out.2 := by
  refine ct_of (by decide +kernel) (Nat.le_of_ble_eq_true rfl) ?_
  intro x hl he hd ha ho hh hn hin X hE
  exact wX7_lineEnd X hE hn fu a0 a1 a2 M h
/-! WebHost$Requests.copyHead(LWebHost$Came;)I -/
def fX7_copyHead_L71 (fu : Nat) (k18 : Nat → Option Nat → Int32 → Int32 → Int32 → Mm → Option (Int32 × Mm)) (a0 : Nat) (a1 : Option Nat) (a2 : Int32) (a3 : Int32) (a4 : Int32)  (M : Mm) : Option (Int32 × Mm) :=
    k18 a0 a1 a2 a3 (a4 + (1 : Int32)) M
def fX7_copyHead_L18 (fu : Nat)  : Nat → Nat → Option Nat → Int32 → Int32 → Int32 → Mm → Option (Int32 × Mm)
  | 0, _, _, _, _, _, _ => none
  | n + 1, a0, a1, a2, a3, a4, M =>
    if a2 ≤ a4 then (
    some ((0 : Int32), M))
    else (
    (gR M 7 450 (some a0)).bind fun v1 =>
    (rc M 0 a1).bind fun q2 =>
    b2 (fX0_peek fu q2 a4 M) fun v4 M3 =>
    (pA M3 100 v1 a4 (Int8.toInt32 (Int32.toInt8 (Int8.toInt32 (Int32.toInt8 v4))))).bind fun M5 =>
    (gR M5 7 450 (some a0)).bind fun v6 =>
    (gA M5 100 v6 a4).bind fun v7 =>
    if v7 = (10 : Int32) then (
    (rc M5 7 (some a0)).bind fun q8 =>
    b2 (fX7_lineEnd fu q8 a3 a4 M5) fun v10 M9 =>
    if v10 = a3 then (
    some ((a4 + (1 : Int32)), M9))
    else (
    fX7_copyHead_L71 fu (fun b0 b1 b2 b3 b4 M => fX7_copyHead_L18 fu  n b0 b1 b2 b3 b4 M) a0 a1 a2 (a4 + (1 : Int32)) a4 M9))
    else (
    fX7_copyHead_L71 fu (fun b0 b1 b2 b3 b4 M => fX7_copyHead_L18 fu  n b0 b1 b2 b3 b4 M) a0 a1 a2 a3 a4 M5))
def fX7_copyHead (fu : Nat)  (a0 : Nat) (a1 : Option Nat)  (M : Mm) : Option (Int32 × Mm) :=
    (rc M 0 a1).bind fun q1 =>
    b2 (fX0_held fu q1  M) fun v3 M2 =>
    (gR M2 7 450 (some a0)).bind fun v4 =>
    (aL M2 100 v4).bind fun v5 =>
    fX7_copyHead_L18 fu  fu a0 a1 (jmin v3 v5) (0 : Int32) (0 : Int32) M2
theorem dX7_copyHead_0 : decode cX7_copyHead 0 = .ok (.aload_n 1, 1) := by decide +kernel
theorem dX7_copyHead_1 : decode cX7_copyHead 1 = .ok (.invokevirtual 71, 3) := by decide +kernel
theorem dX7_copyHead_4 : decode cX7_copyHead 4 = .ok (.aload_n 0, 1) := by decide +kernel
theorem dX7_copyHead_5 : decode cX7_copyHead 5 = .ok (.getfield 21, 3) := by decide +kernel
theorem dX7_copyHead_8 : decode cX7_copyHead 8 = .ok (.arraylength, 1) := by decide +kernel
theorem dX7_copyHead_9 : decode cX7_copyHead 9 = .ok (.invokestatic 88, 3) := by decide +kernel
theorem dX7_copyHead_12 : decode cX7_copyHead 12 = .ok (.istore_n 2, 1) := by decide +kernel
theorem dX7_copyHead_13 : decode cX7_copyHead 13 = .ok (.iconst 0, 1) := by decide +kernel
theorem dX7_copyHead_14 : decode cX7_copyHead 14 = .ok (.istore_n 3, 1) := by decide +kernel
theorem dX7_copyHead_15 : decode cX7_copyHead 15 = .ok (.iconst 0, 1) := by decide +kernel
theorem dX7_copyHead_16 : decode cX7_copyHead 16 = .ok (.istore 4, 2) := by decide +kernel
theorem dX7_copyHead_18 : decode cX7_copyHead 18 = .ok (.iload 4, 2) := by decide +kernel
theorem dX7_copyHead_20 : decode cX7_copyHead 20 = .ok (.iload_n 2, 1) := by decide +kernel
theorem dX7_copyHead_21 : decode cX7_copyHead 21 = .ok (.if_icmp .ge 56, 3) := by decide +kernel
theorem dX7_copyHead_24 : decode cX7_copyHead 24 = .ok (.aload_n 0, 1) := by decide +kernel
theorem dX7_copyHead_25 : decode cX7_copyHead 25 = .ok (.getfield 21, 3) := by decide +kernel
theorem dX7_copyHead_28 : decode cX7_copyHead 28 = .ok (.iload 4, 2) := by decide +kernel
theorem dX7_copyHead_30 : decode cX7_copyHead 30 = .ok (.aload_n 1, 1) := by decide +kernel
theorem dX7_copyHead_31 : decode cX7_copyHead 31 = .ok (.iload 4, 2) := by decide +kernel
theorem dX7_copyHead_33 : decode cX7_copyHead 33 = .ok (.invokevirtual 85, 3) := by decide +kernel
theorem dX7_copyHead_36 : decode cX7_copyHead 36 = .ok (.i2b, 1) := by decide +kernel
theorem dX7_copyHead_37 : decode cX7_copyHead 37 = .ok (.bastore, 1) := by decide +kernel
theorem dX7_copyHead_38 : decode cX7_copyHead 38 = .ok (.aload_n 0, 1) := by decide +kernel
theorem dX7_copyHead_39 : decode cX7_copyHead 39 = .ok (.getfield 21, 3) := by decide +kernel
theorem dX7_copyHead_42 : decode cX7_copyHead 42 = .ok (.iload 4, 2) := by decide +kernel
theorem dX7_copyHead_44 : decode cX7_copyHead 44 = .ok (.baload, 1) := by decide +kernel
theorem dX7_copyHead_45 : decode cX7_copyHead 45 = .ok (.bipush 10, 2) := by decide +kernel
theorem dX7_copyHead_47 : decode cX7_copyHead 47 = .ok (.if_icmp .ne 24, 3) := by decide +kernel
theorem dX7_copyHead_50 : decode cX7_copyHead 50 = .ok (.aload_n 0, 1) := by decide +kernel
theorem dX7_copyHead_51 : decode cX7_copyHead 51 = .ok (.iload_n 3, 1) := by decide +kernel
theorem dX7_copyHead_52 : decode cX7_copyHead 52 = .ok (.iload 4, 2) := by decide +kernel
theorem dX7_copyHead_54 : decode cX7_copyHead 54 = .ok (.invokevirtual 94, 3) := by decide +kernel
theorem dX7_copyHead_57 : decode cX7_copyHead 57 = .ok (.iload_n 3, 1) := by decide +kernel
theorem dX7_copyHead_58 : decode cX7_copyHead 58 = .ok (.if_icmp .ne 8, 3) := by decide +kernel
theorem dX7_copyHead_61 : decode cX7_copyHead 61 = .ok (.iload 4, 2) := by decide +kernel
theorem dX7_copyHead_63 : decode cX7_copyHead 63 = .ok (.iconst 1, 1) := by decide +kernel
theorem dX7_copyHead_64 : decode cX7_copyHead 64 = .ok (.iadd, 1) := by decide +kernel
theorem dX7_copyHead_65 : decode cX7_copyHead 65 = .ok (.ireturn, 1) := by decide +kernel
theorem dX7_copyHead_66 : decode cX7_copyHead 66 = .ok (.iload 4, 2) := by decide +kernel
theorem dX7_copyHead_68 : decode cX7_copyHead 68 = .ok (.iconst 1, 1) := by decide +kernel
theorem dX7_copyHead_69 : decode cX7_copyHead 69 = .ok (.iadd, 1) := by decide +kernel
theorem dX7_copyHead_70 : decode cX7_copyHead 70 = .ok (.istore_n 3, 1) := by decide +kernel
theorem dX7_copyHead_71 : decode cX7_copyHead 71 = .ok (.iinc 4 1, 3) := by decide +kernel
theorem dX7_copyHead_74 : decode cX7_copyHead 74 = .ok (.goto (-56), 3) := by decide +kernel
theorem dX7_copyHead_77 : decode cX7_copyHead 77 = .ok (.iconst 0, 1) := by decide +kernel
theorem dX7_copyHead_78 : decode cX7_copyHead 78 = .ok (.ireturn, 1) := by decide +kernel
theorem wX7_copyHead_L71 {x : GX} {n0 sl0 : Nat} (X : Cx x cX7_copyHead RX7 (some .int) n0 sl0 2 43) {out : Int32 × Mm} (hE : Ends x n0 sl0 (some (pI out.1)) out.2) (hn : xn x = 5) (fu : Nat) (k18 : Nat → Option Nat → Int32 → Int32 → Int32 → Mm → Option (Int32 × Mm)) (hk18 : ∀ (b0 : Nat) (b1 : Option Nat) (b2 : Int32) (b3 : Int32) (b4 : Int32)  (M : Mm), k18 b0 b1 b2 b3 b4 M = some out → Gw x M 18 [(0, pR (some b0)), (1, pR b1), (2, pI b2), (3, pI b3), (4, pI b4)] []) (a0 : Nat) (a1 : Option Nat) (a2 : Int32) (a3 : Int32) (a4 : Int32)  (M : Mm) (h : fX7_copyHead_L71 fu k18 a0 a1 a2 a3 a4 M = some out) : Gw x M 71 [(0, pR (some a0)), (1, pR a1), (2, pI a2), (3, pI a3), (4, pI a4)] [] := by
  unfold fX7_copyHead_L71 at h
  refine g_iinc X (pc := 71) 4 [(4, pI (a4 + (1 : Int32))), (0, pR (some a0)), (1, pR a1), (2, pI a2), (3, pI a3)] rfl (iinc_e (by decide)) (lt_n hn (by decide)) rfl dX7_copyHead_71 ?_
  refine g_goto X (pc := 74) (tgt := 18) dX7_copyHead_74 (by decide) ?_
  refine g_sub [1, 2, 3, 4, 0] [(0, pR (some a0)), (1, pR a1), (2, pI a2), (3, pI a3), (4, pI (a4 + (1 : Int32)))] rfl ?_
  exact hk18 a0 a1 a2 a3 (a4 + (1 : Int32)) M h
theorem wX7_copyHead_L18 {x : GX} {n0 sl0 : Nat} (X : Cx x cX7_copyHead RX7 (some .int) n0 sl0 2 43) {out : Int32 × Mm} (hE : Ends x n0 sl0 (some (pI out.1)) out.2) (hn : xn x = 5) (fu : Nat)   : ∀ (n : Nat) (a0 : Nat) (a1 : Option Nat) (a2 : Int32) (a3 : Int32) (a4 : Int32)  (M : Mm), fX7_copyHead_L18 fu  n a0 a1 a2 a3 a4 M = some out → Gw x M 18 [(0, pR (some a0)), (1, pR a1), (2, pI a2), (3, pI a3), (4, pI a4)] [] := by
  intro n
  induction n with
  | zero =>
    intro a0 a1 a2 a3 a4 M h
    have h : (none : Option (Int32 × Mm)) = some out := h
    cases h
  | succ n ih =>
    intro a0 a1 a2 a3 a4 M h
    rw [fX7_copyHead_L18] at h
    refine g_iload X (pc := 18) 4 rfl dX7_copyHead_18 ?_
    refine g_iload_n X (pc := 20) 2 rfl rfl dX7_copyHead_20 ?_
    refine g_icmp_ge X (pc := 21) (tgt := 77) dX7_copyHead_21 (by decide) (fun hc => ?_) (fun hc => ?_)
    · have h := (if_pos hc).symm.trans h
      refine g_iconst X (pc := 77) (v := 0) dX7_copyHead_77 (by decide) ?_
      obtain rfl := Option.some.inj h
      exact g_ireturn X hE dX7_copyHead_78
    · have h := (if_neg hc).symm.trans h
      refine g_aload_n X (pc := 24) 0 rfl rfl dX7_copyHead_24 ?_
      obtain ⟨v1, ev1, h⟩ := bd h
      refine g_getR X (pc := 25) fk_7_2 rfl rfl ev1 tb_258 dX7_copyHead_25 ?_
      refine g_iload X (pc := 28) 4 rfl dX7_copyHead_28 ?_
      refine g_aload_n X (pc := 30) 1 rfl rfl dX7_copyHead_30 ?_
      refine g_iload X (pc := 31) 4 rfl dX7_copyHead_31 ?_
      obtain ⟨q2, eq2, h⟩ := bd h
      obtain ⟨v4, M3, eM3, h⟩ := b2d h
      refine g_callV X (pc := 33) (M' := M3) (ro := some (pI v4)) (c := 0) rfl (by decide) (as := [pI a4]) (as' := [pI a4]) (st := [pI a4, pR v1]) eq2 (ctX0_peek _ _ _ _ _ _ fu q2 a4 M _ eM3) tb_1182 tb_1179 tb_1180 tb_1181 tb_19 ⟨rfl, hyX0_peek⟩ rfl rfl ⟨by decide, by decide⟩ (Nat.le_of_ble_eq_true rfl) dX7_copyHead_33 ?_
      refine g_i2b X (pc := 36) dX7_copyHead_36 ?_
      obtain ⟨M5, eM5, h⟩ := bd h
      refine g_bastore X (pc := 37) eM5 dX7_copyHead_37 ?_
      refine g_aload_n X (pc := 38) 0 rfl rfl dX7_copyHead_38 ?_
      obtain ⟨v6, ev6, h⟩ := bd h
      refine g_getR X (pc := 39) fk_7_2 rfl rfl ev6 tb_258 dX7_copyHead_39 ?_
      refine g_iload X (pc := 42) 4 rfl dX7_copyHead_42 ?_
      obtain ⟨v7, ev7, h⟩ := bd h
      refine g_baload X (pc := 44) ev7 dX7_copyHead_44 ?_
      refine g_bipush X (pc := 45) (v := 10) dX7_copyHead_45 (by decide) ?_
      refine g_icmp_ne X (pc := 47) (tgt := 71) dX7_copyHead_47 (by decide) (fun hc => ?_) (fun hc => ?_)
      · have h := (if_neg hc).symm.trans h
        exact wX7_copyHead_L71 X hE hn fu (fun b0 b1 b2 b3 b4 M => fX7_copyHead_L18 fu  n b0 b1 b2 b3 b4 M) ih a0 a1 a2 a3 a4 M5 h
      · have h := (if_pos hc).symm.trans h
        refine g_aload_n X (pc := 50) 0 rfl rfl dX7_copyHead_50 ?_
        refine g_iload_n X (pc := 51) 3 rfl rfl dX7_copyHead_51 ?_
        refine g_iload X (pc := 52) 4 rfl dX7_copyHead_52 ?_
        obtain ⟨q8, eq8, h⟩ := bd h
        obtain ⟨v10, M9, eM9, h⟩ := b2d h
        refine g_callV X (pc := 54) (M' := M9) (ro := some (pI v10)) (c := 7) rfl (by decide) (as := [pI a3, pI a4]) (as' := [pI a4, pI a3]) (st := []) eq8 (ctX7_lineEnd _ _ _ _ _ _ fu q8 a3 a4 M5 _ eM9) tb_1192 tb_1189 tb_1191 ts_41 tb_7 ⟨rfl, hyX7_lineEnd⟩ rfl rfl ⟨by decide, by decide⟩ (Nat.le_of_ble_eq_true rfl) dX7_copyHead_54 ?_
        refine g_iload_n X (pc := 57) 3 rfl rfl dX7_copyHead_57 ?_
        refine g_icmp_ne X (pc := 58) (tgt := 66) dX7_copyHead_58 (by decide) (fun hc => ?_) (fun hc => ?_)
        · have h := (if_neg hc).symm.trans h
          refine g_iload X (pc := 66) 4 rfl dX7_copyHead_66 ?_
          refine g_iconst X (pc := 68) (v := 1) dX7_copyHead_68 (by decide) ?_
          refine g_iadd X (pc := 69) dX7_copyHead_69 ?_
          refine g_istore_n X (pc := 70) [(3, pI (a4 + (1 : Int32))), (0, pR (some a0)), (1, pR a1), (2, pI a2), (4, pI a4)] rfl (lt_n hn (by decide)) rfl dX7_copyHead_70 ?_
          refine g_sub [1, 2, 3, 0, 4] [(0, pR (some a0)), (1, pR a1), (2, pI a2), (3, pI (a4 + (1 : Int32))), (4, pI a4)] rfl ?_
          exact wX7_copyHead_L71 X hE hn fu (fun b0 b1 b2 b3 b4 M => fX7_copyHead_L18 fu  n b0 b1 b2 b3 b4 M) ih a0 a1 a2 (a4 + (1 : Int32)) a4 M9 h
        · have h := (if_pos hc).symm.trans h
          refine g_iload X (pc := 61) 4 rfl dX7_copyHead_61 ?_
          refine g_iconst X (pc := 63) (v := 1) dX7_copyHead_63 (by decide) ?_
          refine g_iadd X (pc := 64) dX7_copyHead_64 ?_
          obtain rfl := Option.some.inj h
          exact g_ireturn X hE dX7_copyHead_65
theorem wX7_copyHead {x : GX} {n0 sl0 : Nat} (X : Cx x cX7_copyHead RX7 (some .int) n0 sl0 2 43) {out : Int32 × Mm} (hE : Ends x n0 sl0 (some (pI out.1)) out.2) (hn : xn x = 5) (fu : Nat)   (a0 : Nat) (a1 : Option Nat)  (M : Mm) (h : fX7_copyHead fu  a0 a1 M = some out) : Gw x M 0 [(0, pR (some a0)), (1, pR a1)] [] := by
  unfold fX7_copyHead at h
  refine g_aload_n X (pc := 0) 1 rfl rfl dX7_copyHead_0 ?_
  obtain ⟨q1, eq1, h⟩ := bd h
  obtain ⟨v3, M2, eM2, h⟩ := b2d h
  refine g_callV X (pc := 1) (M' := M2) (ro := some (pI v3)) (c := 0) rfl (by decide) (as := []) (as' := []) (st := []) eq1 (ctX0_held _ _ _ _ _ _ fu q1  M _ eM2) tb_605 tb_1178 tb_603 tb_604 tb_19 ⟨rfl, hyX0_held⟩ rfl rfl ⟨by decide, by decide⟩ (Nat.le_of_ble_eq_true rfl) dX7_copyHead_1 ?_
  refine g_aload_n X (pc := 4) 0 rfl rfl dX7_copyHead_4 ?_
  obtain ⟨v4, ev4, h⟩ := bd h
  refine g_getR X (pc := 5) fk_7_2 rfl rfl ev4 tb_258 dX7_copyHead_5 ?_
  obtain ⟨v5, ev5, h⟩ := bd h
  refine g_alen X (pc := 8) (k := 0) rfl (by decide) ev5 dX7_copyHead_8 ?_
  refine g_mmin X (pc := 9) tb_1188 tb_348 tb_13 tb_349 ⟨by decide, Nat.le_of_ble_eq_true rfl⟩ dX7_copyHead_9 ?_
  refine g_istore_n X (pc := 12) [(2, pI (jmin v3 v5)), (0, pR (some a0)), (1, pR a1)] rfl (lt_n hn (by decide)) rfl dX7_copyHead_12 ?_
  refine g_iconst X (pc := 13) (v := 0) dX7_copyHead_13 (by decide) ?_
  refine g_istore_n X (pc := 14) [(3, pI (0 : Int32)), (2, pI (jmin v3 v5)), (0, pR (some a0)), (1, pR a1)] rfl (lt_n hn (by decide)) rfl dX7_copyHead_14 ?_
  refine g_iconst X (pc := 15) (v := 0) dX7_copyHead_15 (by decide) ?_
  refine g_istore X (pc := 16) [(4, pI (0 : Int32)), (3, pI (0 : Int32)), (2, pI (jmin v3 v5)), (0, pR (some a0)), (1, pR a1)] (lt_n hn (by decide)) rfl dX7_copyHead_16 ?_
  refine g_sub [3, 4, 2, 1, 0] [(0, pR (some a0)), (1, pR a1), (2, pI (jmin v3 v5)), (3, pI (0 : Int32)), (4, pI (0 : Int32))] rfl ?_
  exact wX7_copyHead_L18 X hE hn fu   fu a0 a1 (jmin v3 v5) (0 : Int32) (0 : Int32) M2 h
theorem hyX7_copyHead : yX7_copyHead.cls ≠ "java/lang/invoke/MethodHandle" ∧ yX7_copyHead.cls ≠ "java/lang/invoke/VarHandle" ∧ (parseMethodDescriptor yX7_copyHead.desc).map (fun d => d.parameters.length) = some 1 := ⟨by decide +kernel, by decide +kernel, by decide +kernel⟩
theorem ctX7_copyHead (l : Launch) (E : Nat → Nat) (D : va_G) (dA : Nat → ClassId) (lo : Nat) (H0 : Heap) (fu : Nat) (a0 : Nat) (a1 : Option Nat) (M : Mm) (out : Int32 × Mm) (h : fX7_copyHead fu a0 a1 M = some out) : Ct l E D dA lo H0 yX7_copyHead cX7_copyHead 5 (some .int) 2 43 [pR (some a0), pR a1] M (some (pI out.1)) out.2 := by
  refine ct_of (by decide +kernel) (Nat.le_of_ble_eq_true rfl) ?_
  intro x hl he hd ha ho hh hn hin X hE
  exact wX7_copyHead X hE hn fu a0 a1 M h
/-! WebHost$Requests.forget()V -/
def fX7_forget (fu : Nat)  (a0 : Nat)  (M : Mm) : Option (Mm) :=
    (pF M 7 453 (some a0) (0 : Int32)).bind fun M1 =>
    (pZ M1 7 454 (some a0) (0 : Int32)).bind fun M2 =>
    (pF M2 7 457 (some a0) (0 : Int32)).bind fun M3 =>
    (pF M3 7 458 (some a0) (0 : Int32)).bind fun M4 =>
    (pF M4 7 459 (some a0) (0 : Int32)).bind fun M5 =>
    (pF M5 7 460 (some a0) (0 : Int32)).bind fun M6 =>
    (pF M6 7 461 (some a0) (0 : Int32)).bind fun M7 =>
    (pZ M7 7 464 (some a0) (0 : Int32)).bind fun M8 =>
    (pZ M8 7 465 (some a0) (0 : Int32)).bind fun M9 =>
    (pF M9 7 466 (some a0) (-1 : Int32)).bind fun M10 =>
    some M10
theorem dX7_forget_0 : decode cX7_forget 0 = .ok (.aload_n 0, 1) := by decide +kernel
theorem dX7_forget_1 : decode cX7_forget 1 = .ok (.iconst 0, 1) := by decide +kernel
theorem dX7_forget_2 : decode cX7_forget 2 = .ok (.putfield 101, 3) := by decide +kernel
theorem dX7_forget_5 : decode cX7_forget 5 = .ok (.aload_n 0, 1) := by decide +kernel
theorem dX7_forget_6 : decode cX7_forget 6 = .ok (.iconst 0, 1) := by decide +kernel
theorem dX7_forget_7 : decode cX7_forget 7 = .ok (.putfield 104, 3) := by decide +kernel
theorem dX7_forget_10 : decode cX7_forget 10 = .ok (.aload_n 0, 1) := by decide +kernel
theorem dX7_forget_11 : decode cX7_forget 11 = .ok (.iconst 0, 1) := by decide +kernel
theorem dX7_forget_12 : decode cX7_forget 12 = .ok (.putfield 107, 3) := by decide +kernel
theorem dX7_forget_15 : decode cX7_forget 15 = .ok (.aload_n 0, 1) := by decide +kernel
theorem dX7_forget_16 : decode cX7_forget 16 = .ok (.iconst 0, 1) := by decide +kernel
theorem dX7_forget_17 : decode cX7_forget 17 = .ok (.putfield 110, 3) := by decide +kernel
theorem dX7_forget_20 : decode cX7_forget 20 = .ok (.aload_n 0, 1) := by decide +kernel
theorem dX7_forget_21 : decode cX7_forget 21 = .ok (.iconst 0, 1) := by decide +kernel
theorem dX7_forget_22 : decode cX7_forget 22 = .ok (.putfield 113, 3) := by decide +kernel
theorem dX7_forget_25 : decode cX7_forget 25 = .ok (.aload_n 0, 1) := by decide +kernel
theorem dX7_forget_26 : decode cX7_forget 26 = .ok (.iconst 0, 1) := by decide +kernel
theorem dX7_forget_27 : decode cX7_forget 27 = .ok (.putfield 64, 3) := by decide +kernel
theorem dX7_forget_30 : decode cX7_forget 30 = .ok (.aload_n 0, 1) := by decide +kernel
theorem dX7_forget_31 : decode cX7_forget 31 = .ok (.iconst 0, 1) := by decide +kernel
theorem dX7_forget_32 : decode cX7_forget 32 = .ok (.putfield 116, 3) := by decide +kernel
theorem dX7_forget_35 : decode cX7_forget 35 = .ok (.aload_n 0, 1) := by decide +kernel
theorem dX7_forget_36 : decode cX7_forget 36 = .ok (.iconst 0, 1) := by decide +kernel
theorem dX7_forget_37 : decode cX7_forget 37 = .ok (.putfield 119, 3) := by decide +kernel
theorem dX7_forget_40 : decode cX7_forget 40 = .ok (.aload_n 0, 1) := by decide +kernel
theorem dX7_forget_41 : decode cX7_forget 41 = .ok (.iconst 0, 1) := by decide +kernel
theorem dX7_forget_42 : decode cX7_forget 42 = .ok (.putfield 122, 3) := by decide +kernel
theorem dX7_forget_45 : decode cX7_forget 45 = .ok (.aload_n 0, 1) := by decide +kernel
theorem dX7_forget_46 : decode cX7_forget 46 = .ok (.iconst (-1), 1) := by decide +kernel
theorem dX7_forget_47 : decode cX7_forget 47 = .ok (.putfield 125, 3) := by decide +kernel
theorem dX7_forget_50 : decode cX7_forget 50 = .ok (.return_, 1) := by decide +kernel
theorem wX7_forget {x : GX} {n0 sl0 : Nat} (X : Cx x cX7_forget RX7 none n0 sl0 0 0) {out : Mm} (hE : Ends x n0 sl0 none out) (hn : xn x = 1) (fu : Nat)   (a0 : Nat)  (M : Mm) (h : fX7_forget fu  a0 M = some out) : Gw x M 0 [(0, pR (some a0))] [] := by
  unfold fX7_forget at h
  refine g_aload_n X (pc := 0) 0 rfl rfl dX7_forget_0 ?_
  refine g_iconst X (pc := 1) (v := 0) dX7_forget_1 (by decide) ?_
  obtain ⟨M1, eM1, h⟩ := bd h
  refine g_putI X (pc := 2) fk_7_5 rfl rfl rfl eM1 tb_261 (Or.inl rfl) dX7_forget_2 ?_
  refine g_aload_n X (pc := 5) 0 rfl rfl dX7_forget_5 ?_
  refine g_iconst X (pc := 6) (v := 0) dX7_forget_6 (by decide) ?_
  obtain ⟨M2, eM2, h⟩ := bd h
  refine g_putZ X (pc := 7) fk_7_6 rfl rfl rfl eM2 tb_262 (Or.inl rfl) dX7_forget_7 ?_
  refine g_aload_n X (pc := 10) 0 rfl rfl dX7_forget_10 ?_
  refine g_iconst X (pc := 11) (v := 0) dX7_forget_11 (by decide) ?_
  obtain ⟨M3, eM3, h⟩ := bd h
  refine g_putI X (pc := 12) fk_7_9 rfl rfl rfl eM3 tb_265 (Or.inl rfl) dX7_forget_12 ?_
  refine g_aload_n X (pc := 15) 0 rfl rfl dX7_forget_15 ?_
  refine g_iconst X (pc := 16) (v := 0) dX7_forget_16 (by decide) ?_
  obtain ⟨M4, eM4, h⟩ := bd h
  refine g_putI X (pc := 17) fk_7_10 rfl rfl rfl eM4 tb_266 (Or.inl rfl) dX7_forget_17 ?_
  refine g_aload_n X (pc := 20) 0 rfl rfl dX7_forget_20 ?_
  refine g_iconst X (pc := 21) (v := 0) dX7_forget_21 (by decide) ?_
  obtain ⟨M5, eM5, h⟩ := bd h
  refine g_putI X (pc := 22) fk_7_11 rfl rfl rfl eM5 tb_267 (Or.inl rfl) dX7_forget_22 ?_
  refine g_aload_n X (pc := 25) 0 rfl rfl dX7_forget_25 ?_
  refine g_iconst X (pc := 26) (v := 0) dX7_forget_26 (by decide) ?_
  obtain ⟨M6, eM6, h⟩ := bd h
  refine g_putI X (pc := 27) fk_7_12 rfl rfl rfl eM6 tb_268 (Or.inl rfl) dX7_forget_27 ?_
  refine g_aload_n X (pc := 30) 0 rfl rfl dX7_forget_30 ?_
  refine g_iconst X (pc := 31) (v := 0) dX7_forget_31 (by decide) ?_
  obtain ⟨M7, eM7, h⟩ := bd h
  refine g_putI X (pc := 32) fk_7_13 rfl rfl rfl eM7 tb_269 (Or.inl rfl) dX7_forget_32 ?_
  refine g_aload_n X (pc := 35) 0 rfl rfl dX7_forget_35 ?_
  refine g_iconst X (pc := 36) (v := 0) dX7_forget_36 (by decide) ?_
  obtain ⟨M8, eM8, h⟩ := bd h
  refine g_putZ X (pc := 37) fk_7_16 rfl rfl rfl eM8 tb_272 (Or.inl rfl) dX7_forget_37 ?_
  refine g_aload_n X (pc := 40) 0 rfl rfl dX7_forget_40 ?_
  refine g_iconst X (pc := 41) (v := 0) dX7_forget_41 (by decide) ?_
  obtain ⟨M9, eM9, h⟩ := bd h
  refine g_putZ X (pc := 42) fk_7_17 rfl rfl rfl eM9 tb_273 (Or.inl rfl) dX7_forget_42 ?_
  refine g_aload_n X (pc := 45) 0 rfl rfl dX7_forget_45 ?_
  refine g_iconst X (pc := 46) (v := (-1)) dX7_forget_46 (by decide) ?_
  obtain ⟨M10, eM10, h⟩ := bd h
  refine g_putI X (pc := 47) fk_7_18 rfl rfl rfl eM10 tb_274 (Or.inl rfl) dX7_forget_47 ?_
  obtain rfl := Option.some.inj h
  exact g_return X hE dX7_forget_50
theorem hyX7_forget : yX7_forget.cls ≠ "java/lang/invoke/MethodHandle" ∧ yX7_forget.cls ≠ "java/lang/invoke/VarHandle" ∧ (parseMethodDescriptor yX7_forget.desc).map (fun d => d.parameters.length) = some 0 := ⟨by decide +kernel, by decide +kernel, by decide +kernel⟩
theorem ctX7_forget (l : Launch) (E : Nat → Nat) (D : va_G) (dA : Nat → ClassId) (lo : Nat) (H0 : Heap) (fu : Nat) (a0 : Nat) (M : Mm) (out : Mm) (h : fX7_forget fu a0 M = some out) : Ct l E D dA lo H0 yX7_forget cX7_forget 1 none 0 0 [pR (some a0)] M none out := by
  refine ct_of (by decide +kernel) (Nat.le_of_ble_eq_true rfl) ?_
  intro x hl he hd ha ho hh hn hin X hE
  exact wX7_forget X hE hn fu a0 M h
/-! java/lang/StringLatin1.canEncode(I)Z -/
def fJ1_canEncode_9a6ad (fu : Nat)  (a0 : Int32)  (M : Mm) : Option (Int32 × Mm) :=
    if a0 < 0 then (
    rN .boolean (0 : Int32) M)
    else (
    if (255 : Int32) < a0 then (
    rN .boolean (0 : Int32) M)
    else (
    rN .boolean (1 : Int32) M))
theorem dJ1_canEncode_9a6ad_0 : decode cJ1_canEncode_9a6ad 0 = .ok (.iload_n 0, 1) := by decide +kernel
theorem dJ1_canEncode_9a6ad_1 : decode cJ1_canEncode_9a6ad 1 = .ok (.ifCond .lt 14, 3) := by decide +kernel
theorem dJ1_canEncode_9a6ad_4 : decode cJ1_canEncode_9a6ad 4 = .ok (.iload_n 0, 1) := by decide +kernel
theorem dJ1_canEncode_9a6ad_5 : decode cJ1_canEncode_9a6ad 5 = .ok (.sipush 255, 3) := by decide +kernel
theorem dJ1_canEncode_9a6ad_8 : decode cJ1_canEncode_9a6ad 8 = .ok (.if_icmp .gt 7, 3) := by decide +kernel
theorem dJ1_canEncode_9a6ad_11 : decode cJ1_canEncode_9a6ad 11 = .ok (.iconst 1, 1) := by decide +kernel
theorem dJ1_canEncode_9a6ad_12 : decode cJ1_canEncode_9a6ad 12 = .ok (.goto 4, 3) := by decide +kernel
theorem dJ1_canEncode_9a6ad_15 : decode cJ1_canEncode_9a6ad 15 = .ok (.iconst 0, 1) := by decide +kernel
theorem dJ1_canEncode_9a6ad_16 : decode cJ1_canEncode_9a6ad 16 = .ok (.ireturn, 1) := by decide +kernel
theorem wJ1_canEncode_9a6ad {x : GX} {n0 sl0 : Nat} (X : Cx x cJ1_canEncode_9a6ad RJ1 (some .boolean) n0 sl0 0 0) {out : Int32 × Mm} (hE : Ends x n0 sl0 (some (pI out.1)) out.2) (hn : xn x = 1) (fu : Nat)   (a0 : Int32)  (M : Mm) (h : fJ1_canEncode_9a6ad fu  a0 M = some out) : Gw x M 0 [(0, pI a0)] [] := by
  unfold fJ1_canEncode_9a6ad at h
  refine g_iload_n X (pc := 0) 0 rfl rfl dJ1_canEncode_9a6ad_0 ?_
  refine g_if_lt X (pc := 1) (tgt := 15) dJ1_canEncode_9a6ad_1 (by decide) (fun hc => ?_) (fun hc => ?_)
  · have h := (if_pos hc).symm.trans h
    refine g_iconst X (pc := 15) (v := 0) dJ1_canEncode_9a6ad_15 (by decide) ?_
    obtain ⟨hz, rfl⟩ := rN_some h
    exact g_nreturn X rfl hz hE dJ1_canEncode_9a6ad_16
  · have h := (if_neg hc).symm.trans h
    refine g_iload_n X (pc := 4) 0 rfl rfl dJ1_canEncode_9a6ad_4 ?_
    refine g_sipush X (pc := 5) (v := 255) dJ1_canEncode_9a6ad_5 (by decide) ?_
    refine g_icmp_gt X (pc := 8) (tgt := 15) dJ1_canEncode_9a6ad_8 (by decide) (fun hc => ?_) (fun hc => ?_)
    · have h := (if_pos hc).symm.trans h
      refine g_iconst X (pc := 15) (v := 0) dJ1_canEncode_9a6ad_15 (by decide) ?_
      obtain ⟨hz, rfl⟩ := rN_some h
      exact g_nreturn X rfl hz hE dJ1_canEncode_9a6ad_16
    · have h := (if_neg hc).symm.trans h
      refine g_iconst X (pc := 11) (v := 1) dJ1_canEncode_9a6ad_11 (by decide) ?_
      refine g_goto X (pc := 12) (tgt := 16) dJ1_canEncode_9a6ad_12 (by decide) ?_
      obtain ⟨hz, rfl⟩ := rN_some h
      exact g_nreturn X rfl hz hE dJ1_canEncode_9a6ad_16
theorem hyJ1_canEncode_9a6ad : yJ1_canEncode_9a6ad.cls ≠ "java/lang/invoke/MethodHandle" ∧ yJ1_canEncode_9a6ad.cls ≠ "java/lang/invoke/VarHandle" ∧ (parseMethodDescriptor yJ1_canEncode_9a6ad.desc).map (fun d => d.parameters.length) = some 1 := ⟨by decide +kernel, by decide +kernel, by decide +kernel⟩
theorem ctJ1_canEncode_9a6ad (l : Launch) (E : Nat → Nat) (D : va_G) (dA : Nat → ClassId) (lo : Nat) (H0 : Heap) (fu : Nat) (a0 : Int32) (M : Mm) (out : Int32 × Mm) (h : fJ1_canEncode_9a6ad fu a0 M = some out) : Ct l E D dA lo H0 yJ1_canEncode_9a6ad cJ1_canEncode_9a6ad 1 (some .boolean) 0 0 [pI a0] M (some (pI out.1)) out.2 := by
  refine ct_of (by decide +kernel) (Nat.le_of_ble_eq_true rfl) ?_
  intro x hl he hd ha ho hh hn hin X hE
  exact wJ1_canEncode_9a6ad X hE hn fu a0 M h
/-! java/lang/StringLatin1.indexOfChar([BIII)I -/
def fJ1_indexOfChar_4cfef_L7 (fu : Nat)  : Nat → Option Nat → Int32 → Int32 → Int32 → Mm → Option (Int32 × Mm)
  | 0, _, _, _, _, _ => none
  | n + 1, a0, a3, a4, a5, M =>
    if a3 ≤ a5 then (
    some ((-1 : Int32), M))
    else (
    (gA M 100 a0 a5).bind fun v1 =>
    if v1 = a4 then (
    some (a5, M))
    else (
    fJ1_indexOfChar_4cfef_L7 fu  n a0 a3 a4 (a5 + (1 : Int32)) M))
def fJ1_indexOfChar_4cfef (fu : Nat)  (a0 : Option Nat) (a1 : Int32) (a2 : Int32) (a3 : Int32)  (M : Mm) : Option (Int32 × Mm) :=
    fJ1_indexOfChar_4cfef_L7 fu  fu a0 a3 (Int8.toInt32 (Int32.toInt8 a1)) a2 M
theorem dJ1_indexOfChar_4cfef_0 : decode cJ1_indexOfChar_4cfef 0 = .ok (.iload_n 1, 1) := by decide +kernel
theorem dJ1_indexOfChar_4cfef_1 : decode cJ1_indexOfChar_4cfef 1 = .ok (.i2b, 1) := by decide +kernel
theorem dJ1_indexOfChar_4cfef_2 : decode cJ1_indexOfChar_4cfef 2 = .ok (.istore 4, 2) := by decide +kernel
theorem dJ1_indexOfChar_4cfef_4 : decode cJ1_indexOfChar_4cfef 4 = .ok (.iload_n 2, 1) := by decide +kernel
theorem dJ1_indexOfChar_4cfef_5 : decode cJ1_indexOfChar_4cfef 5 = .ok (.istore 5, 2) := by decide +kernel
theorem dJ1_indexOfChar_4cfef_7 : decode cJ1_indexOfChar_4cfef 7 = .ok (.iload 5, 2) := by decide +kernel
theorem dJ1_indexOfChar_4cfef_9 : decode cJ1_indexOfChar_4cfef 9 = .ok (.iload_n 3, 1) := by decide +kernel
theorem dJ1_indexOfChar_4cfef_10 : decode cJ1_indexOfChar_4cfef 10 = .ok (.if_icmp .ge 21, 3) := by decide +kernel
theorem dJ1_indexOfChar_4cfef_13 : decode cJ1_indexOfChar_4cfef 13 = .ok (.aload_n 0, 1) := by decide +kernel
theorem dJ1_indexOfChar_4cfef_14 : decode cJ1_indexOfChar_4cfef 14 = .ok (.iload 5, 2) := by decide +kernel
theorem dJ1_indexOfChar_4cfef_16 : decode cJ1_indexOfChar_4cfef 16 = .ok (.baload, 1) := by decide +kernel
theorem dJ1_indexOfChar_4cfef_17 : decode cJ1_indexOfChar_4cfef 17 = .ok (.iload 4, 2) := by decide +kernel
theorem dJ1_indexOfChar_4cfef_19 : decode cJ1_indexOfChar_4cfef 19 = .ok (.if_icmp .ne 6, 3) := by decide +kernel
theorem dJ1_indexOfChar_4cfef_22 : decode cJ1_indexOfChar_4cfef 22 = .ok (.iload 5, 2) := by decide +kernel
theorem dJ1_indexOfChar_4cfef_24 : decode cJ1_indexOfChar_4cfef 24 = .ok (.ireturn, 1) := by decide +kernel
theorem dJ1_indexOfChar_4cfef_25 : decode cJ1_indexOfChar_4cfef 25 = .ok (.iinc 5 1, 3) := by decide +kernel
theorem dJ1_indexOfChar_4cfef_28 : decode cJ1_indexOfChar_4cfef 28 = .ok (.goto (-21), 3) := by decide +kernel
theorem dJ1_indexOfChar_4cfef_31 : decode cJ1_indexOfChar_4cfef 31 = .ok (.iconst (-1), 1) := by decide +kernel
theorem dJ1_indexOfChar_4cfef_32 : decode cJ1_indexOfChar_4cfef 32 = .ok (.ireturn, 1) := by decide +kernel
theorem wJ1_indexOfChar_4cfef_L7 {x : GX} {n0 sl0 : Nat} (X : Cx x cJ1_indexOfChar_4cfef RJ1 (some .int) n0 sl0 0 0) {out : Int32 × Mm} (hE : Ends x n0 sl0 (some (pI out.1)) out.2) (hn : xn x = 6) (fu : Nat)   : ∀ (n : Nat) (a0 : Option Nat) (a3 : Int32) (a4 : Int32) (a5 : Int32)  (M : Mm), fJ1_indexOfChar_4cfef_L7 fu  n a0 a3 a4 a5 M = some out → Gw x M 7 [(0, pR a0), (3, pI a3), (4, pI a4), (5, pI a5)] [] := by
  intro n
  induction n with
  | zero =>
    intro a0 a3 a4 a5 M h
    have h : (none : Option (Int32 × Mm)) = some out := h
    cases h
  | succ n ih =>
    intro a0 a3 a4 a5 M h
    rw [fJ1_indexOfChar_4cfef_L7] at h
    refine g_iload X (pc := 7) 3 rfl dJ1_indexOfChar_4cfef_7 ?_
    refine g_iload_n X (pc := 9) 1 rfl rfl dJ1_indexOfChar_4cfef_9 ?_
    refine g_icmp_ge X (pc := 10) (tgt := 31) dJ1_indexOfChar_4cfef_10 (by decide) (fun hc => ?_) (fun hc => ?_)
    · have h := (if_pos hc).symm.trans h
      refine g_iconst X (pc := 31) (v := (-1)) dJ1_indexOfChar_4cfef_31 (by decide) ?_
      obtain rfl := Option.some.inj h
      exact g_ireturn X hE dJ1_indexOfChar_4cfef_32
    · have h := (if_neg hc).symm.trans h
      refine g_aload_n X (pc := 13) 0 rfl rfl dJ1_indexOfChar_4cfef_13 ?_
      refine g_iload X (pc := 14) 3 rfl dJ1_indexOfChar_4cfef_14 ?_
      obtain ⟨v1, ev1, h⟩ := bd h
      refine g_baload X (pc := 16) ev1 dJ1_indexOfChar_4cfef_16 ?_
      refine g_iload X (pc := 17) 2 rfl dJ1_indexOfChar_4cfef_17 ?_
      refine g_icmp_ne X (pc := 19) (tgt := 25) dJ1_indexOfChar_4cfef_19 (by decide) (fun hc => ?_) (fun hc => ?_)
      · have h := (if_neg hc).symm.trans h
        refine g_iinc X (pc := 25) 3 [(5, pI (a5 + (1 : Int32))), (0, pR a0), (3, pI a3), (4, pI a4)] rfl (iinc_e (by decide)) (lt_n hn (by decide)) rfl dJ1_indexOfChar_4cfef_25 ?_
        refine g_goto X (pc := 28) (tgt := 7) dJ1_indexOfChar_4cfef_28 (by decide) ?_
        refine g_sub [1, 2, 3, 0] [(0, pR a0), (3, pI a3), (4, pI a4), (5, pI (a5 + (1 : Int32)))] rfl ?_
        exact ih a0 a3 a4 (a5 + (1 : Int32)) M h
      · have h := (if_pos hc).symm.trans h
        refine g_iload X (pc := 22) 3 rfl dJ1_indexOfChar_4cfef_22 ?_
        obtain rfl := Option.some.inj h
        exact g_ireturn X hE dJ1_indexOfChar_4cfef_24
theorem wJ1_indexOfChar_4cfef {x : GX} {n0 sl0 : Nat} (X : Cx x cJ1_indexOfChar_4cfef RJ1 (some .int) n0 sl0 0 0) {out : Int32 × Mm} (hE : Ends x n0 sl0 (some (pI out.1)) out.2) (hn : xn x = 6) (fu : Nat)   (a0 : Option Nat) (a1 : Int32) (a2 : Int32) (a3 : Int32)  (M : Mm) (h : fJ1_indexOfChar_4cfef fu  a0 a1 a2 a3 M = some out) : Gw x M 0 [(0, pR a0), (1, pI a1), (2, pI a2), (3, pI a3)] [] := by
  unfold fJ1_indexOfChar_4cfef at h
  refine g_iload_n X (pc := 0) 1 rfl rfl dJ1_indexOfChar_4cfef_0 ?_
  refine g_i2b X (pc := 1) dJ1_indexOfChar_4cfef_1 ?_
  refine g_istore X (pc := 2) [(4, pI (Int8.toInt32 (Int32.toInt8 a1))), (0, pR a0), (1, pI a1), (2, pI a2), (3, pI a3)] (lt_n hn (by decide)) rfl dJ1_indexOfChar_4cfef_2 ?_
  refine g_iload_n X (pc := 4) 3 rfl rfl dJ1_indexOfChar_4cfef_4 ?_
  refine g_istore X (pc := 5) [(5, pI a2), (4, pI (Int8.toInt32 (Int32.toInt8 a1))), (0, pR a0), (1, pI a1), (2, pI a2), (3, pI a3)] (lt_n hn (by decide)) rfl dJ1_indexOfChar_4cfef_5 ?_
  refine g_sub [2, 5, 1, 0] [(0, pR a0), (3, pI a3), (4, pI (Int8.toInt32 (Int32.toInt8 a1))), (5, pI a2)] rfl ?_
  exact wJ1_indexOfChar_4cfef_L7 X hE hn fu   fu a0 a3 (Int8.toInt32 (Int32.toInt8 a1)) a2 M h
theorem hyJ1_indexOfChar_4cfef : yJ1_indexOfChar_4cfef.cls ≠ "java/lang/invoke/MethodHandle" ∧ yJ1_indexOfChar_4cfef.cls ≠ "java/lang/invoke/VarHandle" ∧ (parseMethodDescriptor yJ1_indexOfChar_4cfef.desc).map (fun d => d.parameters.length) = some 4 := ⟨by decide +kernel, by decide +kernel, by decide +kernel⟩
theorem ctJ1_indexOfChar_4cfef (l : Launch) (E : Nat → Nat) (D : va_G) (dA : Nat → ClassId) (lo : Nat) (H0 : Heap) (fu : Nat) (a0 : Option Nat) (a1 : Int32) (a2 : Int32) (a3 : Int32) (M : Mm) (out : Int32 × Mm) (h : fJ1_indexOfChar_4cfef fu a0 a1 a2 a3 M = some out) : Ct l E D dA lo H0 yJ1_indexOfChar_4cfef cJ1_indexOfChar_4cfef 6 (some .int) 0 0 [pR a0, pI a1, pI a2, pI a3] M (some (pI out.1)) out.2 := by
  refine ct_of (by decide +kernel) (Nat.le_of_ble_eq_true rfl) ?_
  intro x hl he hd ha ho hh hn hin X hE
  exact wJ1_indexOfChar_4cfef X hE hn fu a0 a1 a2 a3 M h
/-! java/lang/StringLatin1.indexOf([BIII)I -/
def fJ1_indexOf_4cfef (fu : Nat)  (a0 : Option Nat) (a1 : Int32) (a2 : Int32) (a3 : Int32)  (M : Mm) : Option (Int32 × Mm) :=
    b2 (fJ1_canEncode_9a6ad fu  a1 M) fun v2 M1 =>
    if v2 = 0 then (
    some ((-1 : Int32), M1))
    else (
    (aL M1 100 a0).bind fun v3 =>
    if (jmax a2 (0 : Int32)) < (jmin a3 v3) then (
    b2 (fJ1_indexOfChar_4cfef fu  a0 a1 (jmax a2 (0 : Int32)) (jmin a3 v3) M1) fun v5 M4 =>
    some (v5, M4))
    else (
    some ((-1 : Int32), M1)))
theorem dJ1_indexOf_4cfef_0 : decode cJ1_indexOf_4cfef 0 = .ok (.iload_n 1, 1) := by decide +kernel
theorem dJ1_indexOf_4cfef_1 : decode cJ1_indexOf_4cfef 1 = .ok (.invokestatic 88, 3) := by decide +kernel
theorem dJ1_indexOf_4cfef_4 : decode cJ1_indexOf_4cfef 4 = .ok (.ifCond .ne 5, 3) := by decide +kernel
theorem dJ1_indexOf_4cfef_7 : decode cJ1_indexOf_4cfef 7 = .ok (.iconst (-1), 1) := by decide +kernel
theorem dJ1_indexOf_4cfef_8 : decode cJ1_indexOf_4cfef 8 = .ok (.ireturn, 1) := by decide +kernel
theorem dJ1_indexOf_4cfef_9 : decode cJ1_indexOf_4cfef 9 = .ok (.iload_n 2, 1) := by decide +kernel
theorem dJ1_indexOf_4cfef_10 : decode cJ1_indexOf_4cfef 10 = .ok (.iconst 0, 1) := by decide +kernel
theorem dJ1_indexOf_4cfef_11 : decode cJ1_indexOf_4cfef 11 = .ok (.invokestatic 92, 3) := by decide +kernel
theorem dJ1_indexOf_4cfef_14 : decode cJ1_indexOf_4cfef 14 = .ok (.istore_n 2, 1) := by decide +kernel
theorem dJ1_indexOf_4cfef_15 : decode cJ1_indexOf_4cfef 15 = .ok (.iload_n 3, 1) := by decide +kernel
theorem dJ1_indexOf_4cfef_16 : decode cJ1_indexOf_4cfef 16 = .ok (.aload_n 0, 1) := by decide +kernel
theorem dJ1_indexOf_4cfef_17 : decode cJ1_indexOf_4cfef 17 = .ok (.arraylength, 1) := by decide +kernel
theorem dJ1_indexOf_4cfef_18 : decode cJ1_indexOf_4cfef 18 = .ok (.invokestatic 38, 3) := by decide +kernel
theorem dJ1_indexOf_4cfef_21 : decode cJ1_indexOf_4cfef 21 = .ok (.istore_n 3, 1) := by decide +kernel
theorem dJ1_indexOf_4cfef_22 : decode cJ1_indexOf_4cfef 22 = .ok (.iload_n 2, 1) := by decide +kernel
theorem dJ1_indexOf_4cfef_23 : decode cJ1_indexOf_4cfef 23 = .ok (.iload_n 3, 1) := by decide +kernel
theorem dJ1_indexOf_4cfef_24 : decode cJ1_indexOf_4cfef 24 = .ok (.if_icmp .lt 5, 3) := by decide +kernel
theorem dJ1_indexOf_4cfef_27 : decode cJ1_indexOf_4cfef 27 = .ok (.iconst (-1), 1) := by decide +kernel
theorem dJ1_indexOf_4cfef_28 : decode cJ1_indexOf_4cfef 28 = .ok (.ireturn, 1) := by decide +kernel
theorem dJ1_indexOf_4cfef_29 : decode cJ1_indexOf_4cfef 29 = .ok (.aload_n 0, 1) := by decide +kernel
theorem dJ1_indexOf_4cfef_30 : decode cJ1_indexOf_4cfef 30 = .ok (.iload_n 1, 1) := by decide +kernel
theorem dJ1_indexOf_4cfef_31 : decode cJ1_indexOf_4cfef 31 = .ok (.iload_n 2, 1) := by decide +kernel
theorem dJ1_indexOf_4cfef_32 : decode cJ1_indexOf_4cfef 32 = .ok (.iload_n 3, 1) := by decide +kernel
theorem dJ1_indexOf_4cfef_33 : decode cJ1_indexOf_4cfef 33 = .ok (.invokestatic 95, 3) := by decide +kernel
theorem dJ1_indexOf_4cfef_36 : decode cJ1_indexOf_4cfef 36 = .ok (.ireturn, 1) := by decide +kernel
theorem wJ1_indexOf_4cfef {x : GX} {n0 sl0 : Nat} (X : Cx x cJ1_indexOf_4cfef RJ1 (some .int) n0 sl0 1 25) {out : Int32 × Mm} (hE : Ends x n0 sl0 (some (pI out.1)) out.2) (hn : xn x = 4) (fu : Nat)   (a0 : Option Nat) (a1 : Int32) (a2 : Int32) (a3 : Int32)  (M : Mm) (h : fJ1_indexOf_4cfef fu  a0 a1 a2 a3 M = some out) : Gw x M 0 [(0, pR a0), (1, pI a1), (2, pI a2), (3, pI a3)] [] := by
  unfold fJ1_indexOf_4cfef at h
  refine g_iload_n X (pc := 0) 1 rfl rfl dJ1_indexOf_4cfef_0 ?_
  obtain ⟨v2, M1, eM1, h⟩ := b2d h
  refine g_callS X (pc := 1) (M' := M1) (ro := some (pI v2)) (as := [pI a1]) (as' := [pI a1]) (st := []) (ctJ1_canEncode_9a6ad _ _ _ _ _ _ fu  a1 M _ eM1) tb_1284 tb_1282 tb_1283 tb_22 hyJ1_canEncode_9a6ad rfl rfl ⟨by decide, by decide⟩ (Nat.le_of_ble_eq_true rfl) dJ1_indexOf_4cfef_1 ?_
  refine g_if_ne X (pc := 4) (tgt := 9) dJ1_indexOf_4cfef_4 (by decide) (fun hc => ?_) (fun hc => ?_)
  · have h := (if_neg hc).symm.trans h
    refine g_iload_n X (pc := 9) 2 rfl rfl dJ1_indexOf_4cfef_9 ?_
    refine g_iconst X (pc := 10) (v := 0) dJ1_indexOf_4cfef_10 (by decide) ?_
    refine g_mmax X (pc := 11) tb_1285 tb_405 tb_13 tb_406 ⟨by decide, Nat.le_of_ble_eq_true rfl⟩ dJ1_indexOf_4cfef_11 ?_
    refine g_istore_n X (pc := 14) [(2, pI (jmax a2 (0 : Int32))), (0, pR a0), (1, pI a1), (3, pI a3)] rfl (lt_n hn (by decide)) rfl dJ1_indexOf_4cfef_14 ?_
    refine g_iload_n X (pc := 15) 3 rfl rfl dJ1_indexOf_4cfef_15 ?_
    refine g_aload_n X (pc := 16) 1 rfl rfl dJ1_indexOf_4cfef_16 ?_
    obtain ⟨v3, ev3, h⟩ := bd h
    refine g_alen X (pc := 17) (k := 0) rfl (by decide) ev3 dJ1_indexOf_4cfef_17 ?_
    refine g_mmin X (pc := 18) tb_1286 tb_348 tb_13 tb_349 ⟨by decide, Nat.le_of_ble_eq_true rfl⟩ dJ1_indexOf_4cfef_18 ?_
    refine g_istore_n X (pc := 21) [(3, pI (jmin a3 v3)), (2, pI (jmax a2 (0 : Int32))), (0, pR a0), (1, pI a1)] rfl (lt_n hn (by decide)) rfl dJ1_indexOf_4cfef_21 ?_
    refine g_iload_n X (pc := 22) 1 rfl rfl dJ1_indexOf_4cfef_22 ?_
    refine g_iload_n X (pc := 23) 0 rfl rfl dJ1_indexOf_4cfef_23 ?_
    refine g_icmp_lt X (pc := 24) (tgt := 29) dJ1_indexOf_4cfef_24 (by decide) (fun hc => ?_) (fun hc => ?_)
    · have h := (if_pos hc).symm.trans h
      refine g_aload_n X (pc := 29) 2 rfl rfl dJ1_indexOf_4cfef_29 ?_
      refine g_iload_n X (pc := 30) 3 rfl rfl dJ1_indexOf_4cfef_30 ?_
      refine g_iload_n X (pc := 31) 1 rfl rfl dJ1_indexOf_4cfef_31 ?_
      refine g_iload_n X (pc := 32) 0 rfl rfl dJ1_indexOf_4cfef_32 ?_
      obtain ⟨v5, M4, eM4, h⟩ := b2d h
      refine g_callS X (pc := 33) (M' := M4) (ro := some (pI v5)) (as := [pR a0, pI a1, pI (jmax a2 (0 : Int32)), pI (jmin a3 v3)]) (as' := [pI (jmin a3 v3), pI (jmax a2 (0 : Int32)), pI a1, pR a0]) (st := []) (ctJ1_indexOfChar_4cfef _ _ _ _ _ _ fu  a0 a1 (jmax a2 (0 : Int32)) (jmin a3 v3) M1 _ eM4) tb_1289 tb_1287 tb_1288 tb_22 hyJ1_indexOfChar_4cfef rfl rfl ⟨by decide, by decide⟩ (Nat.le_of_ble_eq_true rfl) dJ1_indexOf_4cfef_33 ?_
      obtain rfl := Option.some.inj h
      exact g_ireturn X hE dJ1_indexOf_4cfef_36
    · have h := (if_neg hc).symm.trans h
      refine g_iconst X (pc := 27) (v := (-1)) dJ1_indexOf_4cfef_27 (by decide) ?_
      obtain rfl := Option.some.inj h
      exact g_ireturn X hE dJ1_indexOf_4cfef_28
  · have h := (if_pos hc).symm.trans h
    refine g_iconst X (pc := 7) (v := (-1)) dJ1_indexOf_4cfef_7 (by decide) ?_
    obtain rfl := Option.some.inj h
    exact g_ireturn X hE dJ1_indexOf_4cfef_8
theorem hyJ1_indexOf_4cfef : yJ1_indexOf_4cfef.cls ≠ "java/lang/invoke/MethodHandle" ∧ yJ1_indexOf_4cfef.cls ≠ "java/lang/invoke/VarHandle" ∧ (parseMethodDescriptor yJ1_indexOf_4cfef.desc).map (fun d => d.parameters.length) = some 4 := ⟨by decide +kernel, by decide +kernel, by decide +kernel⟩
theorem ctJ1_indexOf_4cfef (l : Launch) (E : Nat → Nat) (D : va_G) (dA : Nat → ClassId) (lo : Nat) (H0 : Heap) (fu : Nat) (a0 : Option Nat) (a1 : Int32) (a2 : Int32) (a3 : Int32) (M : Mm) (out : Int32 × Mm) (h : fJ1_indexOf_4cfef fu a0 a1 a2 a3 M = some out) : Ct l E D dA lo H0 yJ1_indexOf_4cfef cJ1_indexOf_4cfef 4 (some .int) 1 25 [pR a0, pI a1, pI a2, pI a3] M (some (pI out.1)) out.2 := by
  refine ct_of (by decide +kernel) (Nat.le_of_ble_eq_true rfl) ?_
  intro x hl he hd ha ho hh hn hin X hE
  exact wJ1_indexOf_4cfef X hE hn fu a0 a1 a2 a3 M h
/-! java/lang/Character.isValidCodePoint(I)Z -/
def fJ11_isValidCodePoint_9a6ad (fu : Nat)  (a0 : Int32)  (M : Mm) : Option (Int32 × Mm) :=
    if (17 : Int32) ≤ (ushr a0 (16 : Int32)) then (
    rN .boolean (0 : Int32) M)
    else (
    rN .boolean (1 : Int32) M)
theorem dJ11_isValidCodePoint_9a6ad_0 : decode cJ11_isValidCodePoint_9a6ad 0 = .ok (.iload_n 0, 1) := by decide +kernel
theorem dJ11_isValidCodePoint_9a6ad_1 : decode cJ11_isValidCodePoint_9a6ad 1 = .ok (.bipush 16, 2) := by decide +kernel
theorem dJ11_isValidCodePoint_9a6ad_3 : decode cJ11_isValidCodePoint_9a6ad 3 = .ok (.iushr, 1) := by decide +kernel
theorem dJ11_isValidCodePoint_9a6ad_4 : decode cJ11_isValidCodePoint_9a6ad 4 = .ok (.istore_n 1, 1) := by decide +kernel
theorem dJ11_isValidCodePoint_9a6ad_5 : decode cJ11_isValidCodePoint_9a6ad 5 = .ok (.iload_n 1, 1) := by decide +kernel
theorem dJ11_isValidCodePoint_9a6ad_6 : decode cJ11_isValidCodePoint_9a6ad 6 = .ok (.bipush 17, 2) := by decide +kernel
theorem dJ11_isValidCodePoint_9a6ad_8 : decode cJ11_isValidCodePoint_9a6ad 8 = .ok (.if_icmp .ge 7, 3) := by decide +kernel
theorem dJ11_isValidCodePoint_9a6ad_11 : decode cJ11_isValidCodePoint_9a6ad 11 = .ok (.iconst 1, 1) := by decide +kernel
theorem dJ11_isValidCodePoint_9a6ad_12 : decode cJ11_isValidCodePoint_9a6ad 12 = .ok (.goto 4, 3) := by decide +kernel
theorem dJ11_isValidCodePoint_9a6ad_15 : decode cJ11_isValidCodePoint_9a6ad 15 = .ok (.iconst 0, 1) := by decide +kernel
theorem dJ11_isValidCodePoint_9a6ad_16 : decode cJ11_isValidCodePoint_9a6ad 16 = .ok (.ireturn, 1) := by decide +kernel
theorem wJ11_isValidCodePoint_9a6ad {x : GX} {n0 sl0 : Nat} (X : Cx x cJ11_isValidCodePoint_9a6ad RJ11 (some .boolean) n0 sl0 0 0) {out : Int32 × Mm} (hE : Ends x n0 sl0 (some (pI out.1)) out.2) (hn : xn x = 2) (fu : Nat)   (a0 : Int32)  (M : Mm) (h : fJ11_isValidCodePoint_9a6ad fu  a0 M = some out) : Gw x M 0 [(0, pI a0)] [] := by
  unfold fJ11_isValidCodePoint_9a6ad at h
  refine g_iload_n X (pc := 0) 0 rfl rfl dJ11_isValidCodePoint_9a6ad_0 ?_
  refine g_bipush X (pc := 1) (v := 16) dJ11_isValidCodePoint_9a6ad_1 (by decide) ?_
  refine g_iushr X (pc := 3) dJ11_isValidCodePoint_9a6ad_3 ?_
  refine g_istore_n X (pc := 4) [(1, pI (ushr a0 (16 : Int32))), (0, pI a0)] rfl (lt_n hn (by decide)) rfl dJ11_isValidCodePoint_9a6ad_4 ?_
  refine g_iload_n X (pc := 5) 0 rfl rfl dJ11_isValidCodePoint_9a6ad_5 ?_
  refine g_bipush X (pc := 6) (v := 17) dJ11_isValidCodePoint_9a6ad_6 (by decide) ?_
  refine g_icmp_ge X (pc := 8) (tgt := 15) dJ11_isValidCodePoint_9a6ad_8 (by decide) (fun hc => ?_) (fun hc => ?_)
  · have h := (if_pos hc).symm.trans h
    refine g_iconst X (pc := 15) (v := 0) dJ11_isValidCodePoint_9a6ad_15 (by decide) ?_
    obtain ⟨hz, rfl⟩ := rN_some h
    exact g_nreturn X rfl hz hE dJ11_isValidCodePoint_9a6ad_16
  · have h := (if_neg hc).symm.trans h
    refine g_iconst X (pc := 11) (v := 1) dJ11_isValidCodePoint_9a6ad_11 (by decide) ?_
    refine g_goto X (pc := 12) (tgt := 16) dJ11_isValidCodePoint_9a6ad_12 (by decide) ?_
    obtain ⟨hz, rfl⟩ := rN_some h
    exact g_nreturn X rfl hz hE dJ11_isValidCodePoint_9a6ad_16
theorem hyJ11_isValidCodePoint_9a6ad : yJ11_isValidCodePoint_9a6ad.cls ≠ "java/lang/invoke/MethodHandle" ∧ yJ11_isValidCodePoint_9a6ad.cls ≠ "java/lang/invoke/VarHandle" ∧ (parseMethodDescriptor yJ11_isValidCodePoint_9a6ad.desc).map (fun d => d.parameters.length) = some 1 := ⟨by decide +kernel, by decide +kernel, by decide +kernel⟩
theorem ctJ11_isValidCodePoint_9a6ad (l : Launch) (E : Nat → Nat) (D : va_G) (dA : Nat → ClassId) (lo : Nat) (H0 : Heap) (fu : Nat) (a0 : Int32) (M : Mm) (out : Int32 × Mm) (h : fJ11_isValidCodePoint_9a6ad fu a0 M = some out) : Ct l E D dA lo H0 yJ11_isValidCodePoint_9a6ad cJ11_isValidCodePoint_9a6ad 2 (some .boolean) 0 0 [pI a0] M (some (pI out.1)) out.2 := by
  refine ct_of (by decide +kernel) (Nat.le_of_ble_eq_true rfl) ?_
  intro x hl he hd ha ho hh hn hin X hE
  exact wJ11_isValidCodePoint_9a6ad X hE hn fu a0 M h
/-! java/lang/Character.highSurrogate(I)C -/
def fJ11_highSurrogate_5068e (fu : Nat)  (a0 : Int32)  (M : Mm) : Option (Int32 × Mm) :=
    rN .char (i2c ((ushr a0 (10 : Int32)) + (55232 : Int32))) M
theorem dJ11_highSurrogate_5068e_0 : decode cJ11_highSurrogate_5068e 0 = .ok (.iload_n 0, 1) := by decide +kernel
theorem dJ11_highSurrogate_5068e_1 : decode cJ11_highSurrogate_5068e 1 = .ok (.bipush 10, 2) := by decide +kernel
theorem dJ11_highSurrogate_5068e_3 : decode cJ11_highSurrogate_5068e 3 = .ok (.iushr, 1) := by decide +kernel
theorem dJ11_highSurrogate_5068e_4 : decode cJ11_highSurrogate_5068e 4 = .ok (.ldc 110, 2) := by decide +kernel
theorem dJ11_highSurrogate_5068e_6 : decode cJ11_highSurrogate_5068e 6 = .ok (.iadd, 1) := by decide +kernel
theorem dJ11_highSurrogate_5068e_7 : decode cJ11_highSurrogate_5068e 7 = .ok (.i2c, 1) := by decide +kernel
theorem dJ11_highSurrogate_5068e_8 : decode cJ11_highSurrogate_5068e 8 = .ok (.ireturn, 1) := by decide +kernel
theorem wJ11_highSurrogate_5068e {x : GX} {n0 sl0 : Nat} (X : Cx x cJ11_highSurrogate_5068e RJ11 (some .char) n0 sl0 0 0) {out : Int32 × Mm} (hE : Ends x n0 sl0 (some (pI out.1)) out.2) (hn : xn x = 1) (fu : Nat)   (a0 : Int32)  (M : Mm) (h : fJ11_highSurrogate_5068e fu  a0 M = some out) : Gw x M 0 [(0, pI a0)] [] := by
  unfold fJ11_highSurrogate_5068e at h
  refine g_iload_n X (pc := 0) 0 rfl rfl dJ11_highSurrogate_5068e_0 ?_
  refine g_bipush X (pc := 1) (v := 10) dJ11_highSurrogate_5068e_1 (by decide) ?_
  refine g_iushr X (pc := 3) dJ11_highSurrogate_5068e_3 ?_
  refine g_ldc X (pc := 4) tb_1320 dJ11_highSurrogate_5068e_4 ?_
  refine g_iadd X (pc := 6) dJ11_highSurrogate_5068e_6 ?_
  refine g_i2c X (pc := 7) dJ11_highSurrogate_5068e_7 ?_
  obtain ⟨hz, rfl⟩ := rN_some h
  exact g_nreturn X rfl hz hE dJ11_highSurrogate_5068e_8
theorem hyJ11_highSurrogate_5068e : yJ11_highSurrogate_5068e.cls ≠ "java/lang/invoke/MethodHandle" ∧ yJ11_highSurrogate_5068e.cls ≠ "java/lang/invoke/VarHandle" ∧ (parseMethodDescriptor yJ11_highSurrogate_5068e.desc).map (fun d => d.parameters.length) = some 1 := ⟨by decide +kernel, by decide +kernel, by decide +kernel⟩
theorem ctJ11_highSurrogate_5068e (l : Launch) (E : Nat → Nat) (D : va_G) (dA : Nat → ClassId) (lo : Nat) (H0 : Heap) (fu : Nat) (a0 : Int32) (M : Mm) (out : Int32 × Mm) (h : fJ11_highSurrogate_5068e fu a0 M = some out) : Ct l E D dA lo H0 yJ11_highSurrogate_5068e cJ11_highSurrogate_5068e 1 (some .char) 0 0 [pI a0] M (some (pI out.1)) out.2 := by
  refine ct_of (by decide +kernel) (Nat.le_of_ble_eq_true rfl) ?_
  intro x hl he hd ha ho hh hn hin X hE
  exact wJ11_highSurrogate_5068e X hE hn fu a0 M h
/-! java/lang/Character.lowSurrogate(I)C -/
def fJ11_lowSurrogate_5068e (fu : Nat)  (a0 : Int32)  (M : Mm) : Option (Int32 × Mm) :=
    rN .char (i2c ((a0 &&& (1023 : Int32)) + (56320 : Int32))) M
theorem dJ11_lowSurrogate_5068e_0 : decode cJ11_lowSurrogate_5068e 0 = .ok (.iload_n 0, 1) := by decide +kernel
theorem dJ11_lowSurrogate_5068e_1 : decode cJ11_lowSurrogate_5068e 1 = .ok (.sipush 1023, 3) := by decide +kernel
theorem dJ11_lowSurrogate_5068e_4 : decode cJ11_lowSurrogate_5068e 4 = .ok (.iand, 1) := by decide +kernel
theorem dJ11_lowSurrogate_5068e_5 : decode cJ11_lowSurrogate_5068e 5 = .ok (.ldc 76, 2) := by decide +kernel
theorem dJ11_lowSurrogate_5068e_7 : decode cJ11_lowSurrogate_5068e 7 = .ok (.iadd, 1) := by decide +kernel
theorem dJ11_lowSurrogate_5068e_8 : decode cJ11_lowSurrogate_5068e 8 = .ok (.i2c, 1) := by decide +kernel
theorem dJ11_lowSurrogate_5068e_9 : decode cJ11_lowSurrogate_5068e 9 = .ok (.ireturn, 1) := by decide +kernel
theorem wJ11_lowSurrogate_5068e {x : GX} {n0 sl0 : Nat} (X : Cx x cJ11_lowSurrogate_5068e RJ11 (some .char) n0 sl0 0 0) {out : Int32 × Mm} (hE : Ends x n0 sl0 (some (pI out.1)) out.2) (hn : xn x = 1) (fu : Nat)   (a0 : Int32)  (M : Mm) (h : fJ11_lowSurrogate_5068e fu  a0 M = some out) : Gw x M 0 [(0, pI a0)] [] := by
  unfold fJ11_lowSurrogate_5068e at h
  refine g_iload_n X (pc := 0) 0 rfl rfl dJ11_lowSurrogate_5068e_0 ?_
  refine g_sipush X (pc := 1) (v := 1023) dJ11_lowSurrogate_5068e_1 (by decide) ?_
  refine g_iand X (pc := 4) dJ11_lowSurrogate_5068e_4 ?_
  refine g_ldc X (pc := 5) tb_1324 dJ11_lowSurrogate_5068e_5 ?_
  refine g_iadd X (pc := 7) dJ11_lowSurrogate_5068e_7 ?_
  refine g_i2c X (pc := 8) dJ11_lowSurrogate_5068e_8 ?_
  obtain ⟨hz, rfl⟩ := rN_some h
  exact g_nreturn X rfl hz hE dJ11_lowSurrogate_5068e_9
theorem hyJ11_lowSurrogate_5068e : yJ11_lowSurrogate_5068e.cls ≠ "java/lang/invoke/MethodHandle" ∧ yJ11_lowSurrogate_5068e.cls ≠ "java/lang/invoke/VarHandle" ∧ (parseMethodDescriptor yJ11_lowSurrogate_5068e.desc).map (fun d => d.parameters.length) = some 1 := ⟨by decide +kernel, by decide +kernel, by decide +kernel⟩
theorem ctJ11_lowSurrogate_5068e (l : Launch) (E : Nat → Nat) (D : va_G) (dA : Nat → ClassId) (lo : Nat) (H0 : Heap) (fu : Nat) (a0 : Int32) (M : Mm) (out : Int32 × Mm) (h : fJ11_lowSurrogate_5068e fu a0 M = some out) : Ct l E D dA lo H0 yJ11_lowSurrogate_5068e cJ11_lowSurrogate_5068e 1 (some .char) 0 0 [pI a0] M (some (pI out.1)) out.2 := by
  refine ct_of (by decide +kernel) (Nat.le_of_ble_eq_true rfl) ?_
  intro x hl he hd ha ho hh hn hin X hE
  exact wJ11_lowSurrogate_5068e X hE hn fu a0 M h
/-! WebHost$Requests.isBlank(I)Z -/
def fX7_isBlank (fu : Nat)  (a0 : Int32)  (M : Mm) : Option (Int32 × Mm) :=
    if a0 = (32 : Int32) then (
    rN .boolean (1 : Int32) M)
    else (
    if a0 = (9 : Int32) then (
    rN .boolean (1 : Int32) M)
    else (
    rN .boolean (0 : Int32) M))
theorem dX7_isBlank_0 : decode cX7_isBlank 0 = .ok (.iload_n 0, 1) := by decide +kernel
theorem dX7_isBlank_1 : decode cX7_isBlank 1 = .ok (.bipush 32, 2) := by decide +kernel
theorem dX7_isBlank_3 : decode cX7_isBlank 3 = .ok (.if_icmp .eq 9, 3) := by decide +kernel
theorem dX7_isBlank_6 : decode cX7_isBlank 6 = .ok (.iload_n 0, 1) := by decide +kernel
theorem dX7_isBlank_7 : decode cX7_isBlank 7 = .ok (.bipush 9, 2) := by decide +kernel
theorem dX7_isBlank_9 : decode cX7_isBlank 9 = .ok (.if_icmp .ne 7, 3) := by decide +kernel
theorem dX7_isBlank_12 : decode cX7_isBlank 12 = .ok (.iconst 1, 1) := by decide +kernel
theorem dX7_isBlank_13 : decode cX7_isBlank 13 = .ok (.goto 4, 3) := by decide +kernel
theorem dX7_isBlank_16 : decode cX7_isBlank 16 = .ok (.iconst 0, 1) := by decide +kernel
theorem dX7_isBlank_17 : decode cX7_isBlank 17 = .ok (.ireturn, 1) := by decide +kernel
theorem wX7_isBlank {x : GX} {n0 sl0 : Nat} (X : Cx x cX7_isBlank RX7 (some .boolean) n0 sl0 0 0) {out : Int32 × Mm} (hE : Ends x n0 sl0 (some (pI out.1)) out.2) (hn : xn x = 1) (fu : Nat)   (a0 : Int32)  (M : Mm) (h : fX7_isBlank fu  a0 M = some out) : Gw x M 0 [(0, pI a0)] [] := by
  unfold fX7_isBlank at h
  refine g_iload_n X (pc := 0) 0 rfl rfl dX7_isBlank_0 ?_
  refine g_bipush X (pc := 1) (v := 32) dX7_isBlank_1 (by decide) ?_
  refine g_icmp_eq X (pc := 3) (tgt := 12) dX7_isBlank_3 (by decide) (fun hc => ?_) (fun hc => ?_)
  · have h := (if_pos hc).symm.trans h
    refine g_iconst X (pc := 12) (v := 1) dX7_isBlank_12 (by decide) ?_
    refine g_goto X (pc := 13) (tgt := 17) dX7_isBlank_13 (by decide) ?_
    obtain ⟨hz, rfl⟩ := rN_some h
    exact g_nreturn X rfl hz hE dX7_isBlank_17
  · have h := (if_neg hc).symm.trans h
    refine g_iload_n X (pc := 6) 0 rfl rfl dX7_isBlank_6 ?_
    refine g_bipush X (pc := 7) (v := 9) dX7_isBlank_7 (by decide) ?_
    refine g_icmp_ne X (pc := 9) (tgt := 16) dX7_isBlank_9 (by decide) (fun hc => ?_) (fun hc => ?_)
    · have h := (if_neg hc).symm.trans h
      refine g_iconst X (pc := 16) (v := 0) dX7_isBlank_16 (by decide) ?_
      obtain ⟨hz, rfl⟩ := rN_some h
      exact g_nreturn X rfl hz hE dX7_isBlank_17
    · have h := (if_pos hc).symm.trans h
      refine g_iconst X (pc := 12) (v := 1) dX7_isBlank_12 (by decide) ?_
      refine g_goto X (pc := 13) (tgt := 17) dX7_isBlank_13 (by decide) ?_
      obtain ⟨hz, rfl⟩ := rN_some h
      exact g_nreturn X rfl hz hE dX7_isBlank_17
theorem hyX7_isBlank : yX7_isBlank.cls ≠ "java/lang/invoke/MethodHandle" ∧ yX7_isBlank.cls ≠ "java/lang/invoke/VarHandle" ∧ (parseMethodDescriptor yX7_isBlank.desc).map (fun d => d.parameters.length) = some 1 := ⟨by decide +kernel, by decide +kernel, by decide +kernel⟩
theorem ctX7_isBlank (l : Launch) (E : Nat → Nat) (D : va_G) (dA : Nat → ClassId) (lo : Nat) (H0 : Heap) (fu : Nat) (a0 : Int32) (M : Mm) (out : Int32 × Mm) (h : fX7_isBlank fu a0 M = some out) : Ct l E D dA lo H0 yX7_isBlank cX7_isBlank 1 (some .boolean) 0 0 [pI a0] M (some (pI out.1)) out.2 := by
  refine ct_of (by decide +kernel) (Nat.le_of_ble_eq_true rfl) ?_
  intro x hl he hd ha ho hh hn hin X hE
  exact wX7_isBlank X hE hn fu a0 M h
/-! WebHost$Requests.decimal(II)I -/
def fX7_decimal_L20 (fu : Nat)  : Nat → Nat → Int32 → Int32 → Int32 → Mm → Option (Int32 × Mm)
  | 0, _, _, _, _, _ => none
  | n + 1, a0, a2, a3, a4, M =>
    if a2 ≤ a4 then (
    some (a3, M))
    else (
    (gR M 7 450 (some a0)).bind fun v1 =>
    b2 (fX11_one fu  v1 a4 M) fun v3 M2 =>
    if (v3 - (48 : Int32)) < 0 then (
    some ((-1 : Int32), M2))
    else (
    if (v3 - (48 : Int32)) ≤ (9 : Int32) then (
    (some ((a3 * (10 : Int32)) + (v3 - (48 : Int32)))).bind fun v4 =>
    fX7_decimal_L20 fu  n a0 a2 v4 (a4 + (1 : Int32)) M2)
    else (
    some ((-1 : Int32), M2))))
def fX7_decimal (fu : Nat)  (a0 : Nat) (a1 : Int32) (a2 : Int32)  (M : Mm) : Option (Int32 × Mm) :=
    if a2 ≤ a1 then (
    some ((-1 : Int32), M))
    else (
    if (a2 - a1) ≤ (9 : Int32) then (
    fX7_decimal_L20 fu  fu a0 a2 (0 : Int32) a1 M)
    else (
    some ((-1 : Int32), M)))
theorem dX7_decimal_0 : decode cX7_decimal 0 = .ok (.iload_n 2, 1) := by decide +kernel
theorem dX7_decimal_1 : decode cX7_decimal 1 = .ok (.iload_n 1, 1) := by decide +kernel
theorem dX7_decimal_2 : decode cX7_decimal 2 = .ok (.if_icmp .le 11, 3) := by decide +kernel
theorem dX7_decimal_5 : decode cX7_decimal 5 = .ok (.iload_n 2, 1) := by decide +kernel
theorem dX7_decimal_6 : decode cX7_decimal 6 = .ok (.iload_n 1, 1) := by decide +kernel
theorem dX7_decimal_7 : decode cX7_decimal 7 = .ok (.isub, 1) := by decide +kernel
theorem dX7_decimal_8 : decode cX7_decimal 8 = .ok (.bipush 9, 2) := by decide +kernel
theorem dX7_decimal_10 : decode cX7_decimal 10 = .ok (.if_icmp .le 5, 3) := by decide +kernel
theorem dX7_decimal_13 : decode cX7_decimal 13 = .ok (.iconst (-1), 1) := by decide +kernel
theorem dX7_decimal_14 : decode cX7_decimal 14 = .ok (.ireturn, 1) := by decide +kernel
theorem dX7_decimal_15 : decode cX7_decimal 15 = .ok (.iconst 0, 1) := by decide +kernel
theorem dX7_decimal_16 : decode cX7_decimal 16 = .ok (.istore_n 3, 1) := by decide +kernel
theorem dX7_decimal_17 : decode cX7_decimal 17 = .ok (.iload_n 1, 1) := by decide +kernel
theorem dX7_decimal_18 : decode cX7_decimal 18 = .ok (.istore 4, 2) := by decide +kernel
theorem dX7_decimal_20 : decode cX7_decimal 20 = .ok (.iload 4, 2) := by decide +kernel
theorem dX7_decimal_22 : decode cX7_decimal 22 = .ok (.iload_n 2, 1) := by decide +kernel
theorem dX7_decimal_23 : decode cX7_decimal 23 = .ok (.if_icmp .ge 45, 3) := by decide +kernel
theorem dX7_decimal_26 : decode cX7_decimal 26 = .ok (.aload_n 0, 1) := by decide +kernel
theorem dX7_decimal_27 : decode cX7_decimal 27 = .ok (.getfield 21, 3) := by decide +kernel
theorem dX7_decimal_30 : decode cX7_decimal 30 = .ok (.iload 4, 2) := by decide +kernel
theorem dX7_decimal_32 : decode cX7_decimal 32 = .ok (.invokestatic 97, 3) := by decide +kernel
theorem dX7_decimal_35 : decode cX7_decimal 35 = .ok (.bipush 48, 2) := by decide +kernel
theorem dX7_decimal_37 : decode cX7_decimal 37 = .ok (.isub, 1) := by decide +kernel
theorem dX7_decimal_38 : decode cX7_decimal 38 = .ok (.istore 5, 2) := by decide +kernel
theorem dX7_decimal_40 : decode cX7_decimal 40 = .ok (.iload 5, 2) := by decide +kernel
theorem dX7_decimal_42 : decode cX7_decimal 42 = .ok (.ifCond .lt 10, 3) := by decide +kernel
theorem dX7_decimal_45 : decode cX7_decimal 45 = .ok (.iload 5, 2) := by decide +kernel
theorem dX7_decimal_47 : decode cX7_decimal 47 = .ok (.bipush 9, 2) := by decide +kernel
theorem dX7_decimal_49 : decode cX7_decimal 49 = .ok (.if_icmp .le 5, 3) := by decide +kernel
theorem dX7_decimal_52 : decode cX7_decimal 52 = .ok (.iconst (-1), 1) := by decide +kernel
theorem dX7_decimal_53 : decode cX7_decimal 53 = .ok (.ireturn, 1) := by decide +kernel
theorem dX7_decimal_54 : decode cX7_decimal 54 = .ok (.iload_n 3, 1) := by decide +kernel
theorem dX7_decimal_55 : decode cX7_decimal 55 = .ok (.bipush 10, 2) := by decide +kernel
theorem dX7_decimal_57 : decode cX7_decimal 57 = .ok (.imul, 1) := by decide +kernel
theorem dX7_decimal_58 : decode cX7_decimal 58 = .ok (.iload 5, 2) := by decide +kernel
theorem dX7_decimal_60 : decode cX7_decimal 60 = .ok (.iadd, 1) := by decide +kernel
theorem dX7_decimal_61 : decode cX7_decimal 61 = .ok (.istore_n 3, 1) := by decide +kernel
theorem dX7_decimal_62 : decode cX7_decimal 62 = .ok (.iinc 4 1, 3) := by decide +kernel
theorem dX7_decimal_65 : decode cX7_decimal 65 = .ok (.goto (-45), 3) := by decide +kernel
theorem dX7_decimal_68 : decode cX7_decimal 68 = .ok (.iload_n 3, 1) := by decide +kernel
theorem dX7_decimal_69 : decode cX7_decimal 69 = .ok (.ireturn, 1) := by decide +kernel
theorem wX7_decimal_L20 {x : GX} {n0 sl0 : Nat} (X : Cx x cX7_decimal RX7 (some .int) n0 sl0 1 21) {out : Int32 × Mm} (hE : Ends x n0 sl0 (some (pI out.1)) out.2) (hn : xn x = 6) (fu : Nat)   : ∀ (n : Nat) (a0 : Nat) (a2 : Int32) (a3 : Int32) (a4 : Int32)  (M : Mm), fX7_decimal_L20 fu  n a0 a2 a3 a4 M = some out → Gw x M 20 [(0, pR (some a0)), (2, pI a2), (3, pI a3), (4, pI a4)] [] := by
  intro n
  induction n with
  | zero =>
    intro a0 a2 a3 a4 M h
    have h : (none : Option (Int32 × Mm)) = some out := h
    cases h
  | succ n ih =>
    intro a0 a2 a3 a4 M h
    rw [fX7_decimal_L20] at h
    refine g_iload X (pc := 20) 3 rfl dX7_decimal_20 ?_
    refine g_iload_n X (pc := 22) 1 rfl rfl dX7_decimal_22 ?_
    refine g_icmp_ge X (pc := 23) (tgt := 68) dX7_decimal_23 (by decide) (fun hc => ?_) (fun hc => ?_)
    · have h := (if_pos hc).symm.trans h
      refine g_iload_n X (pc := 68) 2 rfl rfl dX7_decimal_68 ?_
      obtain rfl := Option.some.inj h
      exact g_ireturn X hE dX7_decimal_69
    · have h := (if_neg hc).symm.trans h
      refine g_aload_n X (pc := 26) 0 rfl rfl dX7_decimal_26 ?_
      obtain ⟨v1, ev1, h⟩ := bd h
      refine g_getR X (pc := 27) fk_7_2 rfl rfl ev1 tb_258 dX7_decimal_27 ?_
      refine g_iload X (pc := 30) 3 rfl dX7_decimal_30 ?_
      obtain ⟨v3, M2, eM2, h⟩ := b2d h
      refine g_callSN X (pc := 32) (M' := M2) (ro := some (pI v3)) (as := [pR v1, pI a4]) (as' := [pI a4, pR v1]) (st := []) (ctX11_one _ _ _ _ _ _ fu  v1 a4 M _ eM2) tb_415 (List.mem_of_getElem? (i := 24) rfl) tb_414 tb_1 hyX11_one rfl rfl ⟨by decide, by decide⟩ (Nat.le_of_ble_eq_true rfl) dX7_decimal_32 ?_
      refine g_bipush X (pc := 35) (v := 48) dX7_decimal_35 (by decide) ?_
      refine g_isub X (pc := 37) dX7_decimal_37 ?_
      refine g_istore X (pc := 38) [(5, pI (v3 - (48 : Int32))), (0, pR (some a0)), (2, pI a2), (3, pI a3), (4, pI a4)] (lt_n hn (by decide)) rfl dX7_decimal_38 ?_
      refine g_iload X (pc := 40) 0 rfl dX7_decimal_40 ?_
      refine g_if_lt X (pc := 42) (tgt := 52) dX7_decimal_42 (by decide) (fun hc => ?_) (fun hc => ?_)
      · have h := (if_pos hc).symm.trans h
        refine g_iconst X (pc := 52) (v := (-1)) dX7_decimal_52 (by decide) ?_
        obtain rfl := Option.some.inj h
        exact g_ireturn X hE dX7_decimal_53
      · have h := (if_neg hc).symm.trans h
        refine g_iload X (pc := 45) 0 rfl dX7_decimal_45 ?_
        refine g_bipush X (pc := 47) (v := 9) dX7_decimal_47 (by decide) ?_
        refine g_icmp_le X (pc := 49) (tgt := 54) dX7_decimal_49 (by decide) (fun hc => ?_) (fun hc => ?_)
        · have h := (if_pos hc).symm.trans h
          refine g_iload_n X (pc := 54) 3 rfl rfl dX7_decimal_54 ?_
          refine g_bipush X (pc := 55) (v := 10) dX7_decimal_55 (by decide) ?_
          refine g_imul X (pc := 57) dX7_decimal_57 ?_
          refine g_iload X (pc := 58) 0 rfl dX7_decimal_58 ?_
          refine g_iadd X (pc := 60) dX7_decimal_60 ?_
          obtain ⟨v4, ev4, h⟩ := bd h
          refine g_nmI ev4 ?_
          refine g_istore_n X (pc := 61) [(3, pI v4), (5, pI (v3 - (48 : Int32))), (0, pR (some a0)), (2, pI a2), (4, pI a4)] rfl (lt_n hn (by decide)) rfl dX7_decimal_61 ?_
          refine g_iinc X (pc := 62) 4 [(4, pI (a4 + (1 : Int32))), (3, pI v4), (5, pI (v3 - (48 : Int32))), (0, pR (some a0)), (2, pI a2)] rfl (iinc_e (by decide)) (lt_n hn (by decide)) rfl dX7_decimal_62 ?_
          refine g_goto X (pc := 65) (tgt := 20) dX7_decimal_65 (by decide) ?_
          refine g_sub [3, 4, 1, 0] [(0, pR (some a0)), (2, pI a2), (3, pI v4), (4, pI (a4 + (1 : Int32)))] rfl ?_
          exact ih a0 a2 v4 (a4 + (1 : Int32)) M2 h
        · have h := (if_neg hc).symm.trans h
          refine g_iconst X (pc := 52) (v := (-1)) dX7_decimal_52 (by decide) ?_
          obtain rfl := Option.some.inj h
          exact g_ireturn X hE dX7_decimal_53
theorem wX7_decimal {x : GX} {n0 sl0 : Nat} (X : Cx x cX7_decimal RX7 (some .int) n0 sl0 1 21) {out : Int32 × Mm} (hE : Ends x n0 sl0 (some (pI out.1)) out.2) (hn : xn x = 6) (fu : Nat)   (a0 : Nat) (a1 : Int32) (a2 : Int32)  (M : Mm) (h : fX7_decimal fu  a0 a1 a2 M = some out) : Gw x M 0 [(0, pR (some a0)), (1, pI a1), (2, pI a2)] [] := by
  unfold fX7_decimal at h
  refine g_iload_n X (pc := 0) 2 rfl rfl dX7_decimal_0 ?_
  refine g_iload_n X (pc := 1) 1 rfl rfl dX7_decimal_1 ?_
  refine g_icmp_le X (pc := 2) (tgt := 13) dX7_decimal_2 (by decide) (fun hc => ?_) (fun hc => ?_)
  · have h := (if_pos hc).symm.trans h
    refine g_iconst X (pc := 13) (v := (-1)) dX7_decimal_13 (by decide) ?_
    obtain rfl := Option.some.inj h
    exact g_ireturn X hE dX7_decimal_14
  · have h := (if_neg hc).symm.trans h
    refine g_iload_n X (pc := 5) 2 rfl rfl dX7_decimal_5 ?_
    refine g_iload_n X (pc := 6) 1 rfl rfl dX7_decimal_6 ?_
    refine g_isub X (pc := 7) dX7_decimal_7 ?_
    refine g_bipush X (pc := 8) (v := 9) dX7_decimal_8 (by decide) ?_
    refine g_icmp_le X (pc := 10) (tgt := 15) dX7_decimal_10 (by decide) (fun hc => ?_) (fun hc => ?_)
    · have h := (if_pos hc).symm.trans h
      refine g_iconst X (pc := 15) (v := 0) dX7_decimal_15 (by decide) ?_
      refine g_istore_n X (pc := 16) [(3, pI (0 : Int32)), (0, pR (some a0)), (1, pI a1), (2, pI a2)] rfl (lt_n hn (by decide)) rfl dX7_decimal_16 ?_
      refine g_iload_n X (pc := 17) 2 rfl rfl dX7_decimal_17 ?_
      refine g_istore X (pc := 18) [(4, pI a1), (3, pI (0 : Int32)), (0, pR (some a0)), (1, pI a1), (2, pI a2)] (lt_n hn (by decide)) rfl dX7_decimal_18 ?_
      refine g_sub [2, 4, 1, 0] [(0, pR (some a0)), (2, pI a2), (3, pI (0 : Int32)), (4, pI a1)] rfl ?_
      exact wX7_decimal_L20 X hE hn fu   fu a0 a2 (0 : Int32) a1 M h
    · have h := (if_neg hc).symm.trans h
      refine g_iconst X (pc := 13) (v := (-1)) dX7_decimal_13 (by decide) ?_
      obtain rfl := Option.some.inj h
      exact g_ireturn X hE dX7_decimal_14
theorem hyX7_decimal : yX7_decimal.cls ≠ "java/lang/invoke/MethodHandle" ∧ yX7_decimal.cls ≠ "java/lang/invoke/VarHandle" ∧ (parseMethodDescriptor yX7_decimal.desc).map (fun d => d.parameters.length) = some 2 := ⟨by decide +kernel, by decide +kernel, by decide +kernel⟩
theorem ctX7_decimal (l : Launch) (E : Nat → Nat) (D : va_G) (dA : Nat → ClassId) (lo : Nat) (H0 : Heap) (fu : Nat) (a0 : Nat) (a1 : Int32) (a2 : Int32) (M : Mm) (out : Int32 × Mm) (h : fX7_decimal fu a0 a1 a2 M = some out) : Ct l E D dA lo H0 yX7_decimal cX7_decimal 6 (some .int) 1 21 [pR (some a0), pI a1, pI a2] M (some (pI out.1)) out.2 := by
  refine ct_of (by decide +kernel) (Nat.le_of_ble_eq_true rfl) ?_
  intro x hl he hd ha ho hh hn hin X hE
  exact wX7_decimal X hE hn fu a0 a1 a2 M h
/-! WebHost$Requests.hexDigit(I)I -/
def fX7_hexDigit_L37 (fu : Nat)  (a0 : Int32)  (M : Mm) : Option (Int32 × Mm) :=
    if a0 < (65 : Int32) then (
    some ((-1 : Int32), M))
    else (
    if (70 : Int32) < a0 then (
    some ((-1 : Int32), M))
    else (
    some (((a0 - (65 : Int32)) + (10 : Int32)), M)))
def fX7_hexDigit_L17 (fu : Nat)  (a0 : Int32)  (M : Mm) : Option (Int32 × Mm) :=
    if a0 < (97 : Int32) then (
    fX7_hexDigit_L37 fu  a0 M)
    else (
    if (102 : Int32) < a0 then (
    fX7_hexDigit_L37 fu  a0 M)
    else (
    some (((a0 - (97 : Int32)) + (10 : Int32)), M)))
def fX7_hexDigit (fu : Nat)  (a0 : Int32)  (M : Mm) : Option (Int32 × Mm) :=
    if a0 < (48 : Int32) then (
    fX7_hexDigit_L17 fu  a0 M)
    else (
    if (57 : Int32) < a0 then (
    fX7_hexDigit_L17 fu  a0 M)
    else (
    some ((a0 - (48 : Int32)), M)))
theorem dX7_hexDigit_0 : decode cX7_hexDigit 0 = .ok (.iload_n 0, 1) := by decide +kernel
theorem dX7_hexDigit_1 : decode cX7_hexDigit 1 = .ok (.bipush 48, 2) := by decide +kernel
theorem dX7_hexDigit_3 : decode cX7_hexDigit 3 = .ok (.if_icmp .lt 14, 3) := by decide +kernel
theorem dX7_hexDigit_6 : decode cX7_hexDigit 6 = .ok (.iload_n 0, 1) := by decide +kernel
theorem dX7_hexDigit_7 : decode cX7_hexDigit 7 = .ok (.bipush 57, 2) := by decide +kernel
theorem dX7_hexDigit_9 : decode cX7_hexDigit 9 = .ok (.if_icmp .gt 8, 3) := by decide +kernel
theorem dX7_hexDigit_12 : decode cX7_hexDigit 12 = .ok (.iload_n 0, 1) := by decide +kernel
theorem dX7_hexDigit_13 : decode cX7_hexDigit 13 = .ok (.bipush 48, 2) := by decide +kernel
theorem dX7_hexDigit_15 : decode cX7_hexDigit 15 = .ok (.isub, 1) := by decide +kernel
theorem dX7_hexDigit_16 : decode cX7_hexDigit 16 = .ok (.ireturn, 1) := by decide +kernel
theorem dX7_hexDigit_17 : decode cX7_hexDigit 17 = .ok (.iload_n 0, 1) := by decide +kernel
theorem dX7_hexDigit_18 : decode cX7_hexDigit 18 = .ok (.bipush 97, 2) := by decide +kernel
theorem dX7_hexDigit_20 : decode cX7_hexDigit 20 = .ok (.if_icmp .lt 17, 3) := by decide +kernel
theorem dX7_hexDigit_23 : decode cX7_hexDigit 23 = .ok (.iload_n 0, 1) := by decide +kernel
theorem dX7_hexDigit_24 : decode cX7_hexDigit 24 = .ok (.bipush 102, 2) := by decide +kernel
theorem dX7_hexDigit_26 : decode cX7_hexDigit 26 = .ok (.if_icmp .gt 11, 3) := by decide +kernel
theorem dX7_hexDigit_29 : decode cX7_hexDigit 29 = .ok (.iload_n 0, 1) := by decide +kernel
theorem dX7_hexDigit_30 : decode cX7_hexDigit 30 = .ok (.bipush 97, 2) := by decide +kernel
theorem dX7_hexDigit_32 : decode cX7_hexDigit 32 = .ok (.isub, 1) := by decide +kernel
theorem dX7_hexDigit_33 : decode cX7_hexDigit 33 = .ok (.bipush 10, 2) := by decide +kernel
theorem dX7_hexDigit_35 : decode cX7_hexDigit 35 = .ok (.iadd, 1) := by decide +kernel
theorem dX7_hexDigit_36 : decode cX7_hexDigit 36 = .ok (.ireturn, 1) := by decide +kernel
theorem dX7_hexDigit_37 : decode cX7_hexDigit 37 = .ok (.iload_n 0, 1) := by decide +kernel
theorem dX7_hexDigit_38 : decode cX7_hexDigit 38 = .ok (.bipush 65, 2) := by decide +kernel
theorem dX7_hexDigit_40 : decode cX7_hexDigit 40 = .ok (.if_icmp .lt 19, 3) := by decide +kernel
theorem dX7_hexDigit_43 : decode cX7_hexDigit 43 = .ok (.iload_n 0, 1) := by decide +kernel
theorem dX7_hexDigit_44 : decode cX7_hexDigit 44 = .ok (.bipush 70, 2) := by decide +kernel
theorem dX7_hexDigit_46 : decode cX7_hexDigit 46 = .ok (.if_icmp .gt 13, 3) := by decide +kernel
theorem dX7_hexDigit_49 : decode cX7_hexDigit 49 = .ok (.iload_n 0, 1) := by decide +kernel
theorem dX7_hexDigit_50 : decode cX7_hexDigit 50 = .ok (.bipush 65, 2) := by decide +kernel
theorem dX7_hexDigit_52 : decode cX7_hexDigit 52 = .ok (.isub, 1) := by decide +kernel
theorem dX7_hexDigit_53 : decode cX7_hexDigit 53 = .ok (.bipush 10, 2) := by decide +kernel
theorem dX7_hexDigit_55 : decode cX7_hexDigit 55 = .ok (.iadd, 1) := by decide +kernel
theorem dX7_hexDigit_56 : decode cX7_hexDigit 56 = .ok (.goto 4, 3) := by decide +kernel
theorem dX7_hexDigit_59 : decode cX7_hexDigit 59 = .ok (.iconst (-1), 1) := by decide +kernel
theorem dX7_hexDigit_60 : decode cX7_hexDigit 60 = .ok (.ireturn, 1) := by decide +kernel
theorem wX7_hexDigit_L37 {x : GX} {n0 sl0 : Nat} (X : Cx x cX7_hexDigit RX7 (some .int) n0 sl0 0 0) {out : Int32 × Mm} (hE : Ends x n0 sl0 (some (pI out.1)) out.2) (hn : xn x = 1) (fu : Nat)   (a0 : Int32)  (M : Mm) (h : fX7_hexDigit_L37 fu  a0 M = some out) : Gw x M 37 [(0, pI a0)] [] := by
  unfold fX7_hexDigit_L37 at h
  refine g_iload_n X (pc := 37) 0 rfl rfl dX7_hexDigit_37 ?_
  refine g_bipush X (pc := 38) (v := 65) dX7_hexDigit_38 (by decide) ?_
  refine g_icmp_lt X (pc := 40) (tgt := 59) dX7_hexDigit_40 (by decide) (fun hc => ?_) (fun hc => ?_)
  · have h := (if_pos hc).symm.trans h
    refine g_iconst X (pc := 59) (v := (-1)) dX7_hexDigit_59 (by decide) ?_
    obtain rfl := Option.some.inj h
    exact g_ireturn X hE dX7_hexDigit_60
  · have h := (if_neg hc).symm.trans h
    refine g_iload_n X (pc := 43) 0 rfl rfl dX7_hexDigit_43 ?_
    refine g_bipush X (pc := 44) (v := 70) dX7_hexDigit_44 (by decide) ?_
    refine g_icmp_gt X (pc := 46) (tgt := 59) dX7_hexDigit_46 (by decide) (fun hc => ?_) (fun hc => ?_)
    · have h := (if_pos hc).symm.trans h
      refine g_iconst X (pc := 59) (v := (-1)) dX7_hexDigit_59 (by decide) ?_
      obtain rfl := Option.some.inj h
      exact g_ireturn X hE dX7_hexDigit_60
    · have h := (if_neg hc).symm.trans h
      refine g_iload_n X (pc := 49) 0 rfl rfl dX7_hexDigit_49 ?_
      refine g_bipush X (pc := 50) (v := 65) dX7_hexDigit_50 (by decide) ?_
      refine g_isub X (pc := 52) dX7_hexDigit_52 ?_
      refine g_bipush X (pc := 53) (v := 10) dX7_hexDigit_53 (by decide) ?_
      refine g_iadd X (pc := 55) dX7_hexDigit_55 ?_
      refine g_goto X (pc := 56) (tgt := 60) dX7_hexDigit_56 (by decide) ?_
      obtain rfl := Option.some.inj h
      exact g_ireturn X hE dX7_hexDigit_60
theorem wX7_hexDigit_L17 {x : GX} {n0 sl0 : Nat} (X : Cx x cX7_hexDigit RX7 (some .int) n0 sl0 0 0) {out : Int32 × Mm} (hE : Ends x n0 sl0 (some (pI out.1)) out.2) (hn : xn x = 1) (fu : Nat)   (a0 : Int32)  (M : Mm) (h : fX7_hexDigit_L17 fu  a0 M = some out) : Gw x M 17 [(0, pI a0)] [] := by
  unfold fX7_hexDigit_L17 at h
  refine g_iload_n X (pc := 17) 0 rfl rfl dX7_hexDigit_17 ?_
  refine g_bipush X (pc := 18) (v := 97) dX7_hexDigit_18 (by decide) ?_
  refine g_icmp_lt X (pc := 20) (tgt := 37) dX7_hexDigit_20 (by decide) (fun hc => ?_) (fun hc => ?_)
  · have h := (if_pos hc).symm.trans h
    exact wX7_hexDigit_L37 X hE hn fu   a0 M h
  · have h := (if_neg hc).symm.trans h
    refine g_iload_n X (pc := 23) 0 rfl rfl dX7_hexDigit_23 ?_
    refine g_bipush X (pc := 24) (v := 102) dX7_hexDigit_24 (by decide) ?_
    refine g_icmp_gt X (pc := 26) (tgt := 37) dX7_hexDigit_26 (by decide) (fun hc => ?_) (fun hc => ?_)
    · have h := (if_pos hc).symm.trans h
      exact wX7_hexDigit_L37 X hE hn fu   a0 M h
    · have h := (if_neg hc).symm.trans h
      refine g_iload_n X (pc := 29) 0 rfl rfl dX7_hexDigit_29 ?_
      refine g_bipush X (pc := 30) (v := 97) dX7_hexDigit_30 (by decide) ?_
      refine g_isub X (pc := 32) dX7_hexDigit_32 ?_
      refine g_bipush X (pc := 33) (v := 10) dX7_hexDigit_33 (by decide) ?_
      refine g_iadd X (pc := 35) dX7_hexDigit_35 ?_
      obtain rfl := Option.some.inj h
      exact g_ireturn X hE dX7_hexDigit_36
theorem wX7_hexDigit {x : GX} {n0 sl0 : Nat} (X : Cx x cX7_hexDigit RX7 (some .int) n0 sl0 0 0) {out : Int32 × Mm} (hE : Ends x n0 sl0 (some (pI out.1)) out.2) (hn : xn x = 1) (fu : Nat)   (a0 : Int32)  (M : Mm) (h : fX7_hexDigit fu  a0 M = some out) : Gw x M 0 [(0, pI a0)] [] := by
  unfold fX7_hexDigit at h
  refine g_iload_n X (pc := 0) 0 rfl rfl dX7_hexDigit_0 ?_
  refine g_bipush X (pc := 1) (v := 48) dX7_hexDigit_1 (by decide) ?_
  refine g_icmp_lt X (pc := 3) (tgt := 17) dX7_hexDigit_3 (by decide) (fun hc => ?_) (fun hc => ?_)
  · have h := (if_pos hc).symm.trans h
    exact wX7_hexDigit_L17 X hE hn fu   a0 M h
  · have h := (if_neg hc).symm.trans h
    refine g_iload_n X (pc := 6) 0 rfl rfl dX7_hexDigit_6 ?_
    refine g_bipush X (pc := 7) (v := 57) dX7_hexDigit_7 (by decide) ?_
    refine g_icmp_gt X (pc := 9) (tgt := 17) dX7_hexDigit_9 (by decide) (fun hc => ?_) (fun hc => ?_)
    · have h := (if_pos hc).symm.trans h
      exact wX7_hexDigit_L17 X hE hn fu   a0 M h
    · have h := (if_neg hc).symm.trans h
      refine g_iload_n X (pc := 12) 0 rfl rfl dX7_hexDigit_12 ?_
      refine g_bipush X (pc := 13) (v := 48) dX7_hexDigit_13 (by decide) ?_
      refine g_isub X (pc := 15) dX7_hexDigit_15 ?_
      obtain rfl := Option.some.inj h
      exact g_ireturn X hE dX7_hexDigit_16
theorem hyX7_hexDigit : yX7_hexDigit.cls ≠ "java/lang/invoke/MethodHandle" ∧ yX7_hexDigit.cls ≠ "java/lang/invoke/VarHandle" ∧ (parseMethodDescriptor yX7_hexDigit.desc).map (fun d => d.parameters.length) = some 1 := ⟨by decide +kernel, by decide +kernel, by decide +kernel⟩
theorem ctX7_hexDigit (l : Launch) (E : Nat → Nat) (D : va_G) (dA : Nat → ClassId) (lo : Nat) (H0 : Heap) (fu : Nat) (a0 : Int32) (M : Mm) (out : Int32 × Mm) (h : fX7_hexDigit fu a0 M = some out) : Ct l E D dA lo H0 yX7_hexDigit cX7_hexDigit 1 (some .int) 0 0 [pI a0] M (some (pI out.1)) out.2 := by
  refine ct_of (by decide +kernel) (Nat.le_of_ble_eq_true rfl) ?_
  intro x hl he hd ha ho hh hn hin X hE
  exact wX7_hexDigit X hE hn fu a0 M h
/-! WebHost$Requests.addToPath(I)V -/
def fX7_addToPath (fu : Nat)  (a0 : Nat) (a1 : Int32)  (M : Mm) : Option (Mm) :=
    (gI M 7 452 (some a0)).bind fun v1 =>
    (gR M 7 451 (some a0)).bind fun v2 =>
    (aL M 100 v2).bind fun v3 =>
    if v3 ≤ v1 then (
    some M)
    else (
    (gR M 7 451 (some a0)).bind fun v4 =>
    (gI M 7 452 (some a0)).bind fun v5 =>
    (pA M 100 v4 v5 (Int8.toInt32 (Int32.toInt8 (Int8.toInt32 (Int32.toInt8 a1))))).bind fun M6 =>
    (gI M6 7 452 (some a0)).bind fun v7 =>
    (pF M6 7 452 (some a0) (v7 + (1 : Int32))).bind fun M8 =>
    some M8)
theorem dX7_addToPath_0 : decode cX7_addToPath 0 = .ok (.aload_n 0, 1) := by decide +kernel
theorem dX7_addToPath_1 : decode cX7_addToPath 1 = .ok (.getfield 214, 3) := by decide +kernel
theorem dX7_addToPath_4 : decode cX7_addToPath 4 = .ok (.aload_n 0, 1) := by decide +kernel
theorem dX7_addToPath_5 : decode cX7_addToPath 5 = .ok (.getfield 25, 3) := by decide +kernel
theorem dX7_addToPath_8 : decode cX7_addToPath 8 = .ok (.arraylength, 1) := by decide +kernel
theorem dX7_addToPath_9 : decode cX7_addToPath 9 = .ok (.if_icmp .ge 24, 3) := by decide +kernel
theorem dX7_addToPath_12 : decode cX7_addToPath 12 = .ok (.aload_n 0, 1) := by decide +kernel
theorem dX7_addToPath_13 : decode cX7_addToPath 13 = .ok (.getfield 25, 3) := by decide +kernel
theorem dX7_addToPath_16 : decode cX7_addToPath 16 = .ok (.aload_n 0, 1) := by decide +kernel
theorem dX7_addToPath_17 : decode cX7_addToPath 17 = .ok (.getfield 214, 3) := by decide +kernel
theorem dX7_addToPath_20 : decode cX7_addToPath 20 = .ok (.iload_n 1, 1) := by decide +kernel
theorem dX7_addToPath_21 : decode cX7_addToPath 21 = .ok (.i2b, 1) := by decide +kernel
theorem dX7_addToPath_22 : decode cX7_addToPath 22 = .ok (.bastore, 1) := by decide +kernel
theorem dX7_addToPath_23 : decode cX7_addToPath 23 = .ok (.aload_n 0, 1) := by decide +kernel
theorem dX7_addToPath_24 : decode cX7_addToPath 24 = .ok (.dup, 1) := by decide +kernel
theorem dX7_addToPath_25 : decode cX7_addToPath 25 = .ok (.getfield 214, 3) := by decide +kernel
theorem dX7_addToPath_28 : decode cX7_addToPath 28 = .ok (.iconst 1, 1) := by decide +kernel
theorem dX7_addToPath_29 : decode cX7_addToPath 29 = .ok (.iadd, 1) := by decide +kernel
theorem dX7_addToPath_30 : decode cX7_addToPath 30 = .ok (.putfield 214, 3) := by decide +kernel
theorem dX7_addToPath_33 : decode cX7_addToPath 33 = .ok (.return_, 1) := by decide +kernel
theorem wX7_addToPath {x : GX} {n0 sl0 : Nat} (X : Cx x cX7_addToPath RX7 none n0 sl0 0 0) {out : Mm} (hE : Ends x n0 sl0 none out) (hn : xn x = 2) (fu : Nat)   (a0 : Nat) (a1 : Int32)  (M : Mm) (h : fX7_addToPath fu  a0 a1 M = some out) : Gw x M 0 [(0, pR (some a0)), (1, pI a1)] [] := by
  unfold fX7_addToPath at h
  refine g_aload_n X (pc := 0) 0 rfl rfl dX7_addToPath_0 ?_
  obtain ⟨v1, ev1, h⟩ := bd h
  refine g_getI X (pc := 1) fk_7_4 rfl rfl ev1 tb_260 dX7_addToPath_1 ?_
  refine g_aload_n X (pc := 4) 0 rfl rfl dX7_addToPath_4 ?_
  obtain ⟨v2, ev2, h⟩ := bd h
  refine g_getR X (pc := 5) fk_7_3 rfl rfl ev2 tb_259 dX7_addToPath_5 ?_
  obtain ⟨v3, ev3, h⟩ := bd h
  refine g_alen X (pc := 8) (k := 0) rfl (by decide) ev3 dX7_addToPath_8 ?_
  refine g_icmp_ge X (pc := 9) (tgt := 33) dX7_addToPath_9 (by decide) (fun hc => ?_) (fun hc => ?_)
  · have h := (if_pos hc).symm.trans h
    obtain rfl := Option.some.inj h
    exact g_return X hE dX7_addToPath_33
  · have h := (if_neg hc).symm.trans h
    refine g_aload_n X (pc := 12) 0 rfl rfl dX7_addToPath_12 ?_
    obtain ⟨v4, ev4, h⟩ := bd h
    refine g_getR X (pc := 13) fk_7_3 rfl rfl ev4 tb_259 dX7_addToPath_13 ?_
    refine g_aload_n X (pc := 16) 0 rfl rfl dX7_addToPath_16 ?_
    obtain ⟨v5, ev5, h⟩ := bd h
    refine g_getI X (pc := 17) fk_7_4 rfl rfl ev5 tb_260 dX7_addToPath_17 ?_
    refine g_iload_n X (pc := 20) 1 rfl rfl dX7_addToPath_20 ?_
    refine g_i2b X (pc := 21) dX7_addToPath_21 ?_
    obtain ⟨M6, eM6, h⟩ := bd h
    refine g_bastore X (pc := 22) eM6 dX7_addToPath_22 ?_
    refine g_aload_n X (pc := 23) 0 rfl rfl dX7_addToPath_23 ?_
    refine g_dup X (pc := 24) rfl dX7_addToPath_24 ?_
    obtain ⟨v7, ev7, h⟩ := bd h
    refine g_getI X (pc := 25) fk_7_4 rfl rfl ev7 tb_260 dX7_addToPath_25 ?_
    refine g_iconst X (pc := 28) (v := 1) dX7_addToPath_28 (by decide) ?_
    refine g_iadd X (pc := 29) dX7_addToPath_29 ?_
    obtain ⟨M8, eM8, h⟩ := bd h
    refine g_putI X (pc := 30) fk_7_4 rfl rfl rfl eM8 tb_260 (Or.inl rfl) dX7_addToPath_30 ?_
    obtain rfl := Option.some.inj h
    exact g_return X hE dX7_addToPath_33
theorem hyX7_addToPath : yX7_addToPath.cls ≠ "java/lang/invoke/MethodHandle" ∧ yX7_addToPath.cls ≠ "java/lang/invoke/VarHandle" ∧ (parseMethodDescriptor yX7_addToPath.desc).map (fun d => d.parameters.length) = some 1 := ⟨by decide +kernel, by decide +kernel, by decide +kernel⟩
theorem ctX7_addToPath (l : Launch) (E : Nat → Nat) (D : va_G) (dA : Nat → ClassId) (lo : Nat) (H0 : Heap) (fu : Nat) (a0 : Nat) (a1 : Int32) (M : Mm) (out : Mm) (h : fX7_addToPath fu a0 a1 M = some out) : Ct l E D dA lo H0 yX7_addToPath cX7_addToPath 2 none 0 0 [pR (some a0), pI a1] M none out := by
  refine ct_of (by decide +kernel) (Nat.le_of_ble_eq_true rfl) ?_
  intro x hl he hd ha ho hh hn hin X hE
  exact wX7_addToPath X hE hn fu a0 a1 M h
/-! WebHost$Store.find([BI)I -/
def fX8_find_L59 (fu : Nat) (k2 : Nat → Option Nat → Int32 → Int32 → Mm → Option (Int32 × Mm)) (a0 : Nat) (a1 : Option Nat) (a2 : Int32) (a3 : Int32) (a4 : Int32)  (M : Mm) : Option (Int32 × Mm) :=
    if a4 = (48 : Int32) then (
    some (a3, M))
    else (
    k2 a0 a1 a2 (a3 + (1 : Int32)) M)
def fX8_find_L50 (fu : Nat) (k2 : Nat → Option Nat → Int32 → Int32 → Mm → Option (Int32 × Mm)) (k13 : Nat → Option Nat → Int32 → Int32 → Int32 → Mm → Option (Int32 × Mm)) (a0 : Nat) (a1 : Option Nat) (a2 : Int32) (a3 : Int32) (a4 : Int32) (s0 : Int32) (s1 : Int32) (M : Mm) : Option (Int32 × Mm) :=
    if s0 = s1 then (
    k13 a0 a1 a2 a3 (a4 + (1 : Int32)) M)
    else (
    fX8_find_L59 fu k2 a0 a1 a2 a3 a4 M)
def fX8_find_L13 (fu : Nat) (k2 : Nat → Option Nat → Int32 → Int32 → Mm → Option (Int32 × Mm)) : Nat → Nat → Option Nat → Int32 → Int32 → Int32 → Mm → Option (Int32 × Mm)
  | 0, _, _, _, _, _, _ => none
  | n + 1, a0, a1, a2, a3, a4, M =>
    if (48 : Int32) ≤ a4 then (
    fX8_find_L59 fu k2 a0 a1 a2 a3 a4 M)
    else (
    (gR M 8 514 (some a0)).bind fun v1 =>
    b2 (fX11_one fu  v1 ((a3 * (64 : Int32)) + a4) M) fun v3 M2 =>
    if a2 ≤ a4 then (
    fX8_find_L50 fu k2 (fun b0 b1 b2 b3 b4 M => fX8_find_L13 fu k2 n b0 b1 b2 b3 b4 M) a0 a1 a2 a3 a4 v3 (0 : Int32) M2)
    else (
    b2 (fX11_one fu  a1 a4 M2) fun v5 M4 =>
    fX8_find_L50 fu k2 (fun b0 b1 b2 b3 b4 M => fX8_find_L13 fu k2 n b0 b1 b2 b3 b4 M) a0 a1 a2 a3 a4 v3 v5 M4))
def fX8_find_L2 (fu : Nat)  : Nat → Nat → Option Nat → Int32 → Int32 → Mm → Option (Int32 × Mm)
  | 0, _, _, _, _, _ => none
  | n + 1, a0, a1, a2, a3, M =>
    (gI M 8 513 (some a0)).bind fun v1 =>
    if v1 ≤ a3 then (
    some ((-1 : Int32), M))
    else (
    fX8_find_L13 fu (fun b0 b1 b2 b3 M => fX8_find_L2 fu  n b0 b1 b2 b3 M) fu a0 a1 a2 a3 (0 : Int32) M)
def fX8_find (fu : Nat)  (a0 : Nat) (a1 : Option Nat) (a2 : Int32)  (M : Mm) : Option (Int32 × Mm) :=
    fX8_find_L2 fu  fu a0 a1 a2 (0 : Int32) M
theorem dX8_find_0 : decode cX8_find 0 = .ok (.iconst 0, 1) := by decide +kernel
theorem dX8_find_1 : decode cX8_find 1 = .ok (.istore_n 3, 1) := by decide +kernel
theorem dX8_find_2 : decode cX8_find 2 = .ok (.iload_n 3, 1) := by decide +kernel
theorem dX8_find_3 : decode cX8_find 3 = .ok (.aload_n 0, 1) := by decide +kernel
theorem dX8_find_4 : decode cX8_find 4 = .ok (.getfield 57, 3) := by decide +kernel
theorem dX8_find_7 : decode cX8_find 7 = .ok (.if_icmp .ge 67, 3) := by decide +kernel
theorem dX8_find_10 : decode cX8_find 10 = .ok (.iconst 0, 1) := by decide +kernel
theorem dX8_find_11 : decode cX8_find 11 = .ok (.istore 4, 2) := by decide +kernel
theorem dX8_find_13 : decode cX8_find 13 = .ok (.iload 4, 2) := by decide +kernel
theorem dX8_find_15 : decode cX8_find 15 = .ok (.bipush 48, 2) := by decide +kernel
theorem dX8_find_17 : decode cX8_find 17 = .ok (.if_icmp .ge 42, 3) := by decide +kernel
theorem dX8_find_20 : decode cX8_find 20 = .ok (.aload_n 0, 1) := by decide +kernel
theorem dX8_find_21 : decode cX8_find 21 = .ok (.getfield 13, 3) := by decide +kernel
theorem dX8_find_24 : decode cX8_find 24 = .ok (.iload_n 3, 1) := by decide +kernel
theorem dX8_find_25 : decode cX8_find 25 = .ok (.bipush 64, 2) := by decide +kernel
theorem dX8_find_27 : decode cX8_find 27 = .ok (.imul, 1) := by decide +kernel
theorem dX8_find_28 : decode cX8_find 28 = .ok (.iload 4, 2) := by decide +kernel
theorem dX8_find_30 : decode cX8_find 30 = .ok (.iadd, 1) := by decide +kernel
theorem dX8_find_31 : decode cX8_find 31 = .ok (.invokestatic 46, 3) := by decide +kernel
theorem dX8_find_34 : decode cX8_find 34 = .ok (.iload 4, 2) := by decide +kernel
theorem dX8_find_36 : decode cX8_find 36 = .ok (.iload_n 2, 1) := by decide +kernel
theorem dX8_find_37 : decode cX8_find 37 = .ok (.if_icmp .ge 12, 3) := by decide +kernel
theorem dX8_find_40 : decode cX8_find 40 = .ok (.aload_n 1, 1) := by decide +kernel
theorem dX8_find_41 : decode cX8_find 41 = .ok (.iload 4, 2) := by decide +kernel
theorem dX8_find_43 : decode cX8_find 43 = .ok (.invokestatic 46, 3) := by decide +kernel
theorem dX8_find_46 : decode cX8_find 46 = .ok (.goto 4, 3) := by decide +kernel
theorem dX8_find_49 : decode cX8_find 49 = .ok (.iconst 0, 1) := by decide +kernel
theorem dX8_find_50 : decode cX8_find 50 = .ok (.if_icmp .ne 9, 3) := by decide +kernel
theorem dX8_find_53 : decode cX8_find 53 = .ok (.iinc 4 1, 3) := by decide +kernel
theorem dX8_find_56 : decode cX8_find 56 = .ok (.goto (-43), 3) := by decide +kernel
theorem dX8_find_59 : decode cX8_find 59 = .ok (.iload 4, 2) := by decide +kernel
theorem dX8_find_61 : decode cX8_find 61 = .ok (.bipush 48, 2) := by decide +kernel
theorem dX8_find_63 : decode cX8_find 63 = .ok (.if_icmp .ne 5, 3) := by decide +kernel
theorem dX8_find_66 : decode cX8_find 66 = .ok (.iload_n 3, 1) := by decide +kernel
theorem dX8_find_67 : decode cX8_find 67 = .ok (.ireturn, 1) := by decide +kernel
theorem dX8_find_68 : decode cX8_find 68 = .ok (.iinc 3 1, 3) := by decide +kernel
theorem dX8_find_71 : decode cX8_find 71 = .ok (.goto (-69), 3) := by decide +kernel
theorem dX8_find_74 : decode cX8_find 74 = .ok (.iconst (-1), 1) := by decide +kernel
theorem dX8_find_75 : decode cX8_find 75 = .ok (.ireturn, 1) := by decide +kernel
theorem wX8_find_L59 {x : GX} {n0 sl0 : Nat} (X : Cx x cX8_find RX8 (some .int) n0 sl0 1 21) {out : Int32 × Mm} (hE : Ends x n0 sl0 (some (pI out.1)) out.2) (hn : xn x = 5) (fu : Nat) (k2 : Nat → Option Nat → Int32 → Int32 → Mm → Option (Int32 × Mm)) (hk2 : ∀ (b0 : Nat) (b1 : Option Nat) (b2 : Int32) (b3 : Int32)  (M : Mm), k2 b0 b1 b2 b3 M = some out → Gw x M 2 [(0, pR (some b0)), (1, pR b1), (2, pI b2), (3, pI b3)] []) (a0 : Nat) (a1 : Option Nat) (a2 : Int32) (a3 : Int32) (a4 : Int32)  (M : Mm) (h : fX8_find_L59 fu k2 a0 a1 a2 a3 a4 M = some out) : Gw x M 59 [(0, pR (some a0)), (1, pR a1), (2, pI a2), (3, pI a3), (4, pI a4)] [] := by
  unfold fX8_find_L59 at h
  refine g_iload X (pc := 59) 4 rfl dX8_find_59 ?_
  refine g_bipush X (pc := 61) (v := 48) dX8_find_61 (by decide) ?_
  refine g_icmp_ne X (pc := 63) (tgt := 68) dX8_find_63 (by decide) (fun hc => ?_) (fun hc => ?_)
  · have h := (if_neg hc).symm.trans h
    refine g_iinc X (pc := 68) 3 [(3, pI (a3 + (1 : Int32))), (0, pR (some a0)), (1, pR a1), (2, pI a2), (4, pI a4)] rfl (iinc_e (by decide)) (lt_n hn (by decide)) rfl dX8_find_68 ?_
    refine g_goto X (pc := 71) (tgt := 2) dX8_find_71 (by decide) ?_
    refine g_sub [1, 2, 3, 0] [(0, pR (some a0)), (1, pR a1), (2, pI a2), (3, pI (a3 + (1 : Int32)))] rfl ?_
    exact hk2 a0 a1 a2 (a3 + (1 : Int32)) M h
  · have h := (if_pos hc).symm.trans h
    refine g_iload_n X (pc := 66) 3 rfl rfl dX8_find_66 ?_
    obtain rfl := Option.some.inj h
    exact g_ireturn X hE dX8_find_67
theorem wX8_find_L50 {x : GX} {n0 sl0 : Nat} (X : Cx x cX8_find RX8 (some .int) n0 sl0 1 21) {out : Int32 × Mm} (hE : Ends x n0 sl0 (some (pI out.1)) out.2) (hn : xn x = 5) (fu : Nat) (k2 : Nat → Option Nat → Int32 → Int32 → Mm → Option (Int32 × Mm)) (k13 : Nat → Option Nat → Int32 → Int32 → Int32 → Mm → Option (Int32 × Mm)) (hk2 : ∀ (b0 : Nat) (b1 : Option Nat) (b2 : Int32) (b3 : Int32)  (M : Mm), k2 b0 b1 b2 b3 M = some out → Gw x M 2 [(0, pR (some b0)), (1, pR b1), (2, pI b2), (3, pI b3)] []) (hk13 : ∀ (b0 : Nat) (b1 : Option Nat) (b2 : Int32) (b3 : Int32) (b4 : Int32)  (M : Mm), k13 b0 b1 b2 b3 b4 M = some out → Gw x M 13 [(0, pR (some b0)), (1, pR b1), (2, pI b2), (3, pI b3), (4, pI b4)] []) (a0 : Nat) (a1 : Option Nat) (a2 : Int32) (a3 : Int32) (a4 : Int32) (s0 : Int32) (s1 : Int32) (M : Mm) (h : fX8_find_L50 fu k2 k13 a0 a1 a2 a3 a4 s0 s1 M = some out) : Gw x M 50 [(0, pR (some a0)), (1, pR a1), (2, pI a2), (3, pI a3), (4, pI a4)] [pI s1, pI s0] := by
  unfold fX8_find_L50 at h
  refine g_icmp_ne X (pc := 50) (tgt := 59) dX8_find_50 (by decide) (fun hc => ?_) (fun hc => ?_)
  · have h := (if_neg hc).symm.trans h
    exact wX8_find_L59 X hE hn fu k2 hk2 a0 a1 a2 a3 a4 M h
  · have h := (if_pos hc).symm.trans h
    refine g_iinc X (pc := 53) 4 [(4, pI (a4 + (1 : Int32))), (0, pR (some a0)), (1, pR a1), (2, pI a2), (3, pI a3)] rfl (iinc_e (by decide)) (lt_n hn (by decide)) rfl dX8_find_53 ?_
    refine g_goto X (pc := 56) (tgt := 13) dX8_find_56 (by decide) ?_
    refine g_sub [1, 2, 3, 4, 0] [(0, pR (some a0)), (1, pR a1), (2, pI a2), (3, pI a3), (4, pI (a4 + (1 : Int32)))] rfl ?_
    exact hk13 a0 a1 a2 a3 (a4 + (1 : Int32)) M h
theorem wX8_find_L13 {x : GX} {n0 sl0 : Nat} (X : Cx x cX8_find RX8 (some .int) n0 sl0 1 21) {out : Int32 × Mm} (hE : Ends x n0 sl0 (some (pI out.1)) out.2) (hn : xn x = 5) (fu : Nat) (k2 : Nat → Option Nat → Int32 → Int32 → Mm → Option (Int32 × Mm)) (hk2 : ∀ (b0 : Nat) (b1 : Option Nat) (b2 : Int32) (b3 : Int32)  (M : Mm), k2 b0 b1 b2 b3 M = some out → Gw x M 2 [(0, pR (some b0)), (1, pR b1), (2, pI b2), (3, pI b3)] []) : ∀ (n : Nat) (a0 : Nat) (a1 : Option Nat) (a2 : Int32) (a3 : Int32) (a4 : Int32)  (M : Mm), fX8_find_L13 fu k2 n a0 a1 a2 a3 a4 M = some out → Gw x M 13 [(0, pR (some a0)), (1, pR a1), (2, pI a2), (3, pI a3), (4, pI a4)] [] := by
  intro n
  induction n with
  | zero =>
    intro a0 a1 a2 a3 a4 M h
    have h : (none : Option (Int32 × Mm)) = some out := h
    cases h
  | succ n ih =>
    intro a0 a1 a2 a3 a4 M h
    rw [fX8_find_L13] at h
    refine g_iload X (pc := 13) 4 rfl dX8_find_13 ?_
    refine g_bipush X (pc := 15) (v := 48) dX8_find_15 (by decide) ?_
    refine g_icmp_ge X (pc := 17) (tgt := 59) dX8_find_17 (by decide) (fun hc => ?_) (fun hc => ?_)
    · have h := (if_pos hc).symm.trans h
      exact wX8_find_L59 X hE hn fu k2 hk2 a0 a1 a2 a3 a4 M h
    · have h := (if_neg hc).symm.trans h
      refine g_aload_n X (pc := 20) 0 rfl rfl dX8_find_20 ?_
      obtain ⟨v1, ev1, h⟩ := bd h
      refine g_getR X (pc := 21) fk_8_2 rfl rfl ev1 tb_45 dX8_find_21 ?_
      refine g_iload_n X (pc := 24) 3 rfl rfl dX8_find_24 ?_
      refine g_bipush X (pc := 25) (v := 64) dX8_find_25 (by decide) ?_
      refine g_imul X (pc := 27) dX8_find_27 ?_
      refine g_iload X (pc := 28) 4 rfl dX8_find_28 ?_
      refine g_iadd X (pc := 30) dX8_find_30 ?_
      obtain ⟨v3, M2, eM2, h⟩ := b2d h
      refine g_callSN X (pc := 31) (M' := M2) (ro := some (pI v3)) (as := [pR v1, pI ((a3 * (64 : Int32)) + a4)]) (as' := [pI ((a3 * (64 : Int32)) + a4), pR v1]) (st := []) (ctX11_one _ _ _ _ _ _ fu  v1 ((a3 * (64 : Int32)) + a4) M _ eM2) tb_415 (List.mem_of_getElem? (i := 2) rfl) tb_414 tb_1 hyX11_one rfl rfl ⟨by decide, by decide⟩ (Nat.le_of_ble_eq_true rfl) dX8_find_31 ?_
      refine g_iload X (pc := 34) 4 rfl dX8_find_34 ?_
      refine g_iload_n X (pc := 36) 2 rfl rfl dX8_find_36 ?_
      refine g_icmp_ge X (pc := 37) (tgt := 49) dX8_find_37 (by decide) (fun hc => ?_) (fun hc => ?_)
      · have h := (if_pos hc).symm.trans h
        refine g_iconst X (pc := 49) (v := 0) dX8_find_49 (by decide) ?_
        exact wX8_find_L50 X hE hn fu k2 (fun b0 b1 b2 b3 b4 M => fX8_find_L13 fu k2 n b0 b1 b2 b3 b4 M) hk2 ih a0 a1 a2 a3 a4 v3 (0 : Int32) M2 h
      · have h := (if_neg hc).symm.trans h
        refine g_aload_n X (pc := 40) 1 rfl rfl dX8_find_40 ?_
        refine g_iload X (pc := 41) 4 rfl dX8_find_41 ?_
        obtain ⟨v5, M4, eM4, h⟩ := b2d h
        refine g_callSN X (pc := 43) (M' := M4) (ro := some (pI v5)) (as := [pR a1, pI a4]) (as' := [pI a4, pR a1]) (st := [pI v3]) (ctX11_one _ _ _ _ _ _ fu  a1 a4 M2 _ eM4) tb_415 (List.mem_of_getElem? (i := 2) rfl) tb_414 tb_1 hyX11_one rfl rfl ⟨by decide, by decide⟩ (Nat.le_of_ble_eq_true rfl) dX8_find_43 ?_
        refine g_goto X (pc := 46) (tgt := 50) dX8_find_46 (by decide) ?_
        exact wX8_find_L50 X hE hn fu k2 (fun b0 b1 b2 b3 b4 M => fX8_find_L13 fu k2 n b0 b1 b2 b3 b4 M) hk2 ih a0 a1 a2 a3 a4 v3 v5 M4 h
theorem wX8_find_L2 {x : GX} {n0 sl0 : Nat} (X : Cx x cX8_find RX8 (some .int) n0 sl0 1 21) {out : Int32 × Mm} (hE : Ends x n0 sl0 (some (pI out.1)) out.2) (hn : xn x = 5) (fu : Nat)   : ∀ (n : Nat) (a0 : Nat) (a1 : Option Nat) (a2 : Int32) (a3 : Int32)  (M : Mm), fX8_find_L2 fu  n a0 a1 a2 a3 M = some out → Gw x M 2 [(0, pR (some a0)), (1, pR a1), (2, pI a2), (3, pI a3)] [] := by
  intro n
  induction n with
  | zero =>
    intro a0 a1 a2 a3 M h
    have h : (none : Option (Int32 × Mm)) = some out := h
    cases h
  | succ n ih =>
    intro a0 a1 a2 a3 M h
    rw [fX8_find_L2] at h
    refine g_iload_n X (pc := 2) 3 rfl rfl dX8_find_2 ?_
    refine g_aload_n X (pc := 3) 0 rfl rfl dX8_find_3 ?_
    obtain ⟨v1, ev1, h⟩ := bd h
    refine g_getI X (pc := 4) fk_8_1 rfl rfl ev1 tb_44 dX8_find_4 ?_
    refine g_icmp_ge X (pc := 7) (tgt := 74) dX8_find_7 (by decide) (fun hc => ?_) (fun hc => ?_)
    · have h := (if_pos hc).symm.trans h
      refine g_iconst X (pc := 74) (v := (-1)) dX8_find_74 (by decide) ?_
      obtain rfl := Option.some.inj h
      exact g_ireturn X hE dX8_find_75
    · have h := (if_neg hc).symm.trans h
      refine g_iconst X (pc := 10) (v := 0) dX8_find_10 (by decide) ?_
      refine g_istore X (pc := 11) [(4, pI (0 : Int32)), (0, pR (some a0)), (1, pR a1), (2, pI a2), (3, pI a3)] (lt_n hn (by decide)) rfl dX8_find_11 ?_
      refine g_sub [1, 2, 3, 4, 0] [(0, pR (some a0)), (1, pR a1), (2, pI a2), (3, pI a3), (4, pI (0 : Int32))] rfl ?_
      exact wX8_find_L13 X hE hn fu (fun b0 b1 b2 b3 M => fX8_find_L2 fu  n b0 b1 b2 b3 M) ih fu a0 a1 a2 a3 (0 : Int32) M h
theorem wX8_find {x : GX} {n0 sl0 : Nat} (X : Cx x cX8_find RX8 (some .int) n0 sl0 1 21) {out : Int32 × Mm} (hE : Ends x n0 sl0 (some (pI out.1)) out.2) (hn : xn x = 5) (fu : Nat)   (a0 : Nat) (a1 : Option Nat) (a2 : Int32)  (M : Mm) (h : fX8_find fu  a0 a1 a2 M = some out) : Gw x M 0 [(0, pR (some a0)), (1, pR a1), (2, pI a2)] [] := by
  unfold fX8_find at h
  refine g_iconst X (pc := 0) (v := 0) dX8_find_0 (by decide) ?_
  refine g_istore_n X (pc := 1) [(3, pI (0 : Int32)), (0, pR (some a0)), (1, pR a1), (2, pI a2)] rfl (lt_n hn (by decide)) rfl dX8_find_1 ?_
  refine g_sub [1, 2, 3, 0] [(0, pR (some a0)), (1, pR a1), (2, pI a2), (3, pI (0 : Int32))] rfl ?_
  exact wX8_find_L2 X hE hn fu   fu a0 a1 a2 (0 : Int32) M h
theorem hyX8_find : yX8_find.cls ≠ "java/lang/invoke/MethodHandle" ∧ yX8_find.cls ≠ "java/lang/invoke/VarHandle" ∧ (parseMethodDescriptor yX8_find.desc).map (fun d => d.parameters.length) = some 2 := ⟨by decide +kernel, by decide +kernel, by decide +kernel⟩
theorem ctX8_find (l : Launch) (E : Nat → Nat) (D : va_G) (dA : Nat → ClassId) (lo : Nat) (H0 : Heap) (fu : Nat) (a0 : Nat) (a1 : Option Nat) (a2 : Int32) (M : Mm) (out : Int32 × Mm) (h : fX8_find fu a0 a1 a2 M = some out) : Ct l E D dA lo H0 yX8_find cX8_find 5 (some .int) 1 21 [pR (some a0), pR a1, pI a2] M (some (pI out.1)) out.2 := by
  refine ct_of (by decide +kernel) (Nat.le_of_ble_eq_true rfl) ?_
  intro x hl he hd ha ho hh hn hin X hE
  exact wX8_find X hE hn fu a0 a1 a2 M h
/-! WebHost$Store.placeOf(I)I -/
def fX8_placeOf (fu : Nat)  (a0 : Nat) (a1 : Int32)  (M : Mm) : Option (Int32 × Mm) :=
    (gR M 8 514 (some a0)).bind fun v1 =>
    b2 (fX11_four fu  v1 ((a1 * (64 : Int32)) + (48 : Int32)) M) fun v3 M2 =>
    some (v3, M2)
theorem dX8_placeOf_0 : decode cX8_placeOf 0 = .ok (.aload_n 0, 1) := by decide +kernel
theorem dX8_placeOf_1 : decode cX8_placeOf 1 = .ok (.getfield 13, 3) := by decide +kernel
theorem dX8_placeOf_4 : decode cX8_placeOf 4 = .ok (.iload_n 1, 1) := by decide +kernel
theorem dX8_placeOf_5 : decode cX8_placeOf 5 = .ok (.bipush 64, 2) := by decide +kernel
theorem dX8_placeOf_7 : decode cX8_placeOf 7 = .ok (.imul, 1) := by decide +kernel
theorem dX8_placeOf_8 : decode cX8_placeOf 8 = .ok (.bipush 48, 2) := by decide +kernel
theorem dX8_placeOf_10 : decode cX8_placeOf 10 = .ok (.iadd, 1) := by decide +kernel
theorem dX8_placeOf_11 : decode cX8_placeOf 11 = .ok (.invokestatic 22, 3) := by decide +kernel
theorem dX8_placeOf_14 : decode cX8_placeOf 14 = .ok (.ireturn, 1) := by decide +kernel
theorem wX8_placeOf {x : GX} {n0 sl0 : Nat} (X : Cx x cX8_placeOf RX8 (some .int) n0 sl0 1 21) {out : Int32 × Mm} (hE : Ends x n0 sl0 (some (pI out.1)) out.2) (hn : xn x = 2) (fu : Nat)   (a0 : Nat) (a1 : Int32)  (M : Mm) (h : fX8_placeOf fu  a0 a1 M = some out) : Gw x M 0 [(0, pR (some a0)), (1, pI a1)] [] := by
  unfold fX8_placeOf at h
  refine g_aload_n X (pc := 0) 0 rfl rfl dX8_placeOf_0 ?_
  obtain ⟨v1, ev1, h⟩ := bd h
  refine g_getR X (pc := 1) fk_8_2 rfl rfl ev1 tb_45 dX8_placeOf_1 ?_
  refine g_iload_n X (pc := 4) 1 rfl rfl dX8_placeOf_4 ?_
  refine g_bipush X (pc := 5) (v := 64) dX8_placeOf_5 (by decide) ?_
  refine g_imul X (pc := 7) dX8_placeOf_7 ?_
  refine g_bipush X (pc := 8) (v := 48) dX8_placeOf_8 (by decide) ?_
  refine g_iadd X (pc := 10) dX8_placeOf_10 ?_
  obtain ⟨v3, M2, eM2, h⟩ := b2d h
  refine g_callSN X (pc := 11) (M' := M2) (ro := some (pI v3)) (as := [pR v1, pI ((a1 * (64 : Int32)) + (48 : Int32))]) (as' := [pI ((a1 * (64 : Int32)) + (48 : Int32)), pR v1]) (st := []) (ctX11_four _ _ _ _ _ _ fu  v1 ((a1 * (64 : Int32)) + (48 : Int32)) M _ eM2) tb_394 (List.mem_of_getElem? (i := 0) rfl) tb_393 tb_1 hyX11_four rfl rfl ⟨by decide, by decide⟩ (Nat.le_of_ble_eq_true rfl) dX8_placeOf_11 ?_
  obtain rfl := Option.some.inj h
  exact g_ireturn X hE dX8_placeOf_14
theorem hyX8_placeOf : yX8_placeOf.cls ≠ "java/lang/invoke/MethodHandle" ∧ yX8_placeOf.cls ≠ "java/lang/invoke/VarHandle" ∧ (parseMethodDescriptor yX8_placeOf.desc).map (fun d => d.parameters.length) = some 1 := ⟨by decide +kernel, by decide +kernel, by decide +kernel⟩
theorem ctX8_placeOf (l : Launch) (E : Nat → Nat) (D : va_G) (dA : Nat → ClassId) (lo : Nat) (H0 : Heap) (fu : Nat) (a0 : Nat) (a1 : Int32) (M : Mm) (out : Int32 × Mm) (h : fX8_placeOf fu a0 a1 M = some out) : Ct l E D dA lo H0 yX8_placeOf cX8_placeOf 2 (some .int) 1 21 [pR (some a0), pI a1] M (some (pI out.1)) out.2 := by
  refine ct_of (by decide +kernel) (Nat.le_of_ble_eq_true rfl) ?_
  intro x hl he hd ha ho hh hn hin X hE
  exact wX8_placeOf X hE hn fu a0 a1 M h
/-! WebHost$Store.sizeOf(I)I -/
def fX8_sizeOf (fu : Nat)  (a0 : Nat) (a1 : Int32)  (M : Mm) : Option (Int32 × Mm) :=
    (gR M 8 514 (some a0)).bind fun v1 =>
    b2 (fX11_four fu  v1 (((a1 * (64 : Int32)) + (48 : Int32)) + (4 : Int32)) M) fun v3 M2 =>
    some (v3, M2)
theorem dX8_sizeOf_0 : decode cX8_sizeOf 0 = .ok (.aload_n 0, 1) := by decide +kernel
theorem dX8_sizeOf_1 : decode cX8_sizeOf 1 = .ok (.getfield 13, 3) := by decide +kernel
theorem dX8_sizeOf_4 : decode cX8_sizeOf 4 = .ok (.iload_n 1, 1) := by decide +kernel
theorem dX8_sizeOf_5 : decode cX8_sizeOf 5 = .ok (.bipush 64, 2) := by decide +kernel
theorem dX8_sizeOf_7 : decode cX8_sizeOf 7 = .ok (.imul, 1) := by decide +kernel
theorem dX8_sizeOf_8 : decode cX8_sizeOf 8 = .ok (.bipush 48, 2) := by decide +kernel
theorem dX8_sizeOf_10 : decode cX8_sizeOf 10 = .ok (.iadd, 1) := by decide +kernel
theorem dX8_sizeOf_11 : decode cX8_sizeOf 11 = .ok (.iconst 4, 1) := by decide +kernel
theorem dX8_sizeOf_12 : decode cX8_sizeOf 12 = .ok (.iadd, 1) := by decide +kernel
theorem dX8_sizeOf_13 : decode cX8_sizeOf 13 = .ok (.invokestatic 22, 3) := by decide +kernel
theorem dX8_sizeOf_16 : decode cX8_sizeOf 16 = .ok (.ireturn, 1) := by decide +kernel
theorem wX8_sizeOf {x : GX} {n0 sl0 : Nat} (X : Cx x cX8_sizeOf RX8 (some .int) n0 sl0 1 21) {out : Int32 × Mm} (hE : Ends x n0 sl0 (some (pI out.1)) out.2) (hn : xn x = 2) (fu : Nat)   (a0 : Nat) (a1 : Int32)  (M : Mm) (h : fX8_sizeOf fu  a0 a1 M = some out) : Gw x M 0 [(0, pR (some a0)), (1, pI a1)] [] := by
  unfold fX8_sizeOf at h
  refine g_aload_n X (pc := 0) 0 rfl rfl dX8_sizeOf_0 ?_
  obtain ⟨v1, ev1, h⟩ := bd h
  refine g_getR X (pc := 1) fk_8_2 rfl rfl ev1 tb_45 dX8_sizeOf_1 ?_
  refine g_iload_n X (pc := 4) 1 rfl rfl dX8_sizeOf_4 ?_
  refine g_bipush X (pc := 5) (v := 64) dX8_sizeOf_5 (by decide) ?_
  refine g_imul X (pc := 7) dX8_sizeOf_7 ?_
  refine g_bipush X (pc := 8) (v := 48) dX8_sizeOf_8 (by decide) ?_
  refine g_iadd X (pc := 10) dX8_sizeOf_10 ?_
  refine g_iconst X (pc := 11) (v := 4) dX8_sizeOf_11 (by decide) ?_
  refine g_iadd X (pc := 12) dX8_sizeOf_12 ?_
  obtain ⟨v3, M2, eM2, h⟩ := b2d h
  refine g_callSN X (pc := 13) (M' := M2) (ro := some (pI v3)) (as := [pR v1, pI (((a1 * (64 : Int32)) + (48 : Int32)) + (4 : Int32))]) (as' := [pI (((a1 * (64 : Int32)) + (48 : Int32)) + (4 : Int32)), pR v1]) (st := []) (ctX11_four _ _ _ _ _ _ fu  v1 (((a1 * (64 : Int32)) + (48 : Int32)) + (4 : Int32)) M _ eM2) tb_394 (List.mem_of_getElem? (i := 0) rfl) tb_393 tb_1 hyX11_four rfl rfl ⟨by decide, by decide⟩ (Nat.le_of_ble_eq_true rfl) dX8_sizeOf_13 ?_
  obtain rfl := Option.some.inj h
  exact g_ireturn X hE dX8_sizeOf_16
theorem hyX8_sizeOf : yX8_sizeOf.cls ≠ "java/lang/invoke/MethodHandle" ∧ yX8_sizeOf.cls ≠ "java/lang/invoke/VarHandle" ∧ (parseMethodDescriptor yX8_sizeOf.desc).map (fun d => d.parameters.length) = some 1 := ⟨by decide +kernel, by decide +kernel, by decide +kernel⟩
theorem ctX8_sizeOf (l : Launch) (E : Nat → Nat) (D : va_G) (dA : Nat → ClassId) (lo : Nat) (H0 : Heap) (fu : Nat) (a0 : Nat) (a1 : Int32) (M : Mm) (out : Int32 × Mm) (h : fX8_sizeOf fu a0 a1 M = some out) : Ct l E D dA lo H0 yX8_sizeOf cX8_sizeOf 2 (some .int) 1 21 [pR (some a0), pI a1] M (some (pI out.1)) out.2 := by
  refine ct_of (by decide +kernel) (Nat.le_of_ble_eq_true rfl) ?_
  intro x hl he hd ha ho hh hn hin X hE
  exact wX8_sizeOf X hE hn fu a0 a1 M h
/-! WebHost$Store.markOf(I)I -/
def fX8_markOf (fu : Nat)  (a0 : Nat) (a1 : Int32)  (M : Mm) : Option (Int32 × Mm) :=
    (gR M 8 514 (some a0)).bind fun v1 =>
    b2 (fX11_four fu  v1 (((a1 * (64 : Int32)) + (48 : Int32)) + (8 : Int32)) M) fun v3 M2 =>
    some (v3, M2)
theorem dX8_markOf_0 : decode cX8_markOf 0 = .ok (.aload_n 0, 1) := by decide +kernel
theorem dX8_markOf_1 : decode cX8_markOf 1 = .ok (.getfield 13, 3) := by decide +kernel
theorem dX8_markOf_4 : decode cX8_markOf 4 = .ok (.iload_n 1, 1) := by decide +kernel
theorem dX8_markOf_5 : decode cX8_markOf 5 = .ok (.bipush 64, 2) := by decide +kernel
theorem dX8_markOf_7 : decode cX8_markOf 7 = .ok (.imul, 1) := by decide +kernel
theorem dX8_markOf_8 : decode cX8_markOf 8 = .ok (.bipush 48, 2) := by decide +kernel
theorem dX8_markOf_10 : decode cX8_markOf 10 = .ok (.iadd, 1) := by decide +kernel
theorem dX8_markOf_11 : decode cX8_markOf 11 = .ok (.bipush 8, 2) := by decide +kernel
theorem dX8_markOf_13 : decode cX8_markOf 13 = .ok (.iadd, 1) := by decide +kernel
theorem dX8_markOf_14 : decode cX8_markOf 14 = .ok (.invokestatic 22, 3) := by decide +kernel
theorem dX8_markOf_17 : decode cX8_markOf 17 = .ok (.ireturn, 1) := by decide +kernel
theorem wX8_markOf {x : GX} {n0 sl0 : Nat} (X : Cx x cX8_markOf RX8 (some .int) n0 sl0 1 21) {out : Int32 × Mm} (hE : Ends x n0 sl0 (some (pI out.1)) out.2) (hn : xn x = 2) (fu : Nat)   (a0 : Nat) (a1 : Int32)  (M : Mm) (h : fX8_markOf fu  a0 a1 M = some out) : Gw x M 0 [(0, pR (some a0)), (1, pI a1)] [] := by
  unfold fX8_markOf at h
  refine g_aload_n X (pc := 0) 0 rfl rfl dX8_markOf_0 ?_
  obtain ⟨v1, ev1, h⟩ := bd h
  refine g_getR X (pc := 1) fk_8_2 rfl rfl ev1 tb_45 dX8_markOf_1 ?_
  refine g_iload_n X (pc := 4) 1 rfl rfl dX8_markOf_4 ?_
  refine g_bipush X (pc := 5) (v := 64) dX8_markOf_5 (by decide) ?_
  refine g_imul X (pc := 7) dX8_markOf_7 ?_
  refine g_bipush X (pc := 8) (v := 48) dX8_markOf_8 (by decide) ?_
  refine g_iadd X (pc := 10) dX8_markOf_10 ?_
  refine g_bipush X (pc := 11) (v := 8) dX8_markOf_11 (by decide) ?_
  refine g_iadd X (pc := 13) dX8_markOf_13 ?_
  obtain ⟨v3, M2, eM2, h⟩ := b2d h
  refine g_callSN X (pc := 14) (M' := M2) (ro := some (pI v3)) (as := [pR v1, pI (((a1 * (64 : Int32)) + (48 : Int32)) + (8 : Int32))]) (as' := [pI (((a1 * (64 : Int32)) + (48 : Int32)) + (8 : Int32)), pR v1]) (st := []) (ctX11_four _ _ _ _ _ _ fu  v1 (((a1 * (64 : Int32)) + (48 : Int32)) + (8 : Int32)) M _ eM2) tb_394 (List.mem_of_getElem? (i := 0) rfl) tb_393 tb_1 hyX11_four rfl rfl ⟨by decide, by decide⟩ (Nat.le_of_ble_eq_true rfl) dX8_markOf_14 ?_
  obtain rfl := Option.some.inj h
  exact g_ireturn X hE dX8_markOf_17
theorem hyX8_markOf : yX8_markOf.cls ≠ "java/lang/invoke/MethodHandle" ∧ yX8_markOf.cls ≠ "java/lang/invoke/VarHandle" ∧ (parseMethodDescriptor yX8_markOf.desc).map (fun d => d.parameters.length) = some 1 := ⟨by decide +kernel, by decide +kernel, by decide +kernel⟩
theorem ctX8_markOf (l : Launch) (E : Nat → Nat) (D : va_G) (dA : Nat → ClassId) (lo : Nat) (H0 : Heap) (fu : Nat) (a0 : Nat) (a1 : Int32) (M : Mm) (out : Int32 × Mm) (h : fX8_markOf fu a0 a1 M = some out) : Ct l E D dA lo H0 yX8_markOf cX8_markOf 2 (some .int) 1 21 [pR (some a0), pI a1] M (some (pI out.1)) out.2 := by
  refine ct_of (by decide +kernel) (Nat.le_of_ble_eq_true rfl) ?_
  intro x hl he hd ha ho hh hn hin X hE
  exact wX8_markOf X hE hn fu a0 a1 M h
/-! WebHost$Requests.isPersistent()Z -/
def fX7_isPersistent (fu : Nat)  (a0 : Nat)  (M : Mm) : Option (Int32 × Mm) :=
    (gI M 7 464 (some a0)).bind fun v1 =>
    if v1 = 0 then (
    (gI M 7 465 (some a0)).bind fun v2 =>
    if v2 = 0 then (
    (gI M 7 454 (some a0)).bind fun v3 =>
    if v3 = 0 then (
    rN .boolean (1 : Int32) M)
    else (
    rN .boolean (0 : Int32) M))
    else (
    rN .boolean (1 : Int32) M))
    else (
    rN .boolean (0 : Int32) M)
theorem dX7_isPersistent_0 : decode cX7_isPersistent 0 = .ok (.aload_n 0, 1) := by decide +kernel
theorem dX7_isPersistent_1 : decode cX7_isPersistent 1 = .ok (.getfield 119, 3) := by decide +kernel
theorem dX7_isPersistent_4 : decode cX7_isPersistent 4 = .ok (.ifCond .ne 21, 3) := by decide +kernel
theorem dX7_isPersistent_7 : decode cX7_isPersistent 7 = .ok (.aload_n 0, 1) := by decide +kernel
theorem dX7_isPersistent_8 : decode cX7_isPersistent 8 = .ok (.getfield 122, 3) := by decide +kernel
theorem dX7_isPersistent_11 : decode cX7_isPersistent 11 = .ok (.ifCond .ne 10, 3) := by decide +kernel
theorem dX7_isPersistent_14 : decode cX7_isPersistent 14 = .ok (.aload_n 0, 1) := by decide +kernel
theorem dX7_isPersistent_15 : decode cX7_isPersistent 15 = .ok (.getfield 104, 3) := by decide +kernel
theorem dX7_isPersistent_18 : decode cX7_isPersistent 18 = .ok (.ifCond .ne 7, 3) := by decide +kernel
theorem dX7_isPersistent_21 : decode cX7_isPersistent 21 = .ok (.iconst 1, 1) := by decide +kernel
theorem dX7_isPersistent_22 : decode cX7_isPersistent 22 = .ok (.goto 4, 3) := by decide +kernel
theorem dX7_isPersistent_25 : decode cX7_isPersistent 25 = .ok (.iconst 0, 1) := by decide +kernel
theorem dX7_isPersistent_26 : decode cX7_isPersistent 26 = .ok (.ireturn, 1) := by decide +kernel
theorem wX7_isPersistent {x : GX} {n0 sl0 : Nat} (X : Cx x cX7_isPersistent RX7 (some .boolean) n0 sl0 0 0) {out : Int32 × Mm} (hE : Ends x n0 sl0 (some (pI out.1)) out.2) (hn : xn x = 1) (fu : Nat)   (a0 : Nat)  (M : Mm) (h : fX7_isPersistent fu  a0 M = some out) : Gw x M 0 [(0, pR (some a0))] [] := by
  unfold fX7_isPersistent at h
  refine g_aload_n X (pc := 0) 0 rfl rfl dX7_isPersistent_0 ?_
  obtain ⟨v1, ev1, h⟩ := bd h
  refine g_getI X (pc := 1) fk_7_16 rfl rfl ev1 tb_272 dX7_isPersistent_1 ?_
  refine g_if_ne X (pc := 4) (tgt := 25) dX7_isPersistent_4 (by decide) (fun hc => ?_) (fun hc => ?_)
  · have h := (if_neg hc).symm.trans h
    refine g_iconst X (pc := 25) (v := 0) dX7_isPersistent_25 (by decide) ?_
    obtain ⟨hz, rfl⟩ := rN_some h
    exact g_nreturn X rfl hz hE dX7_isPersistent_26
  · have h := (if_pos hc).symm.trans h
    refine g_aload_n X (pc := 7) 0 rfl rfl dX7_isPersistent_7 ?_
    obtain ⟨v2, ev2, h⟩ := bd h
    refine g_getI X (pc := 8) fk_7_17 rfl rfl ev2 tb_273 dX7_isPersistent_8 ?_
    refine g_if_ne X (pc := 11) (tgt := 21) dX7_isPersistent_11 (by decide) (fun hc => ?_) (fun hc => ?_)
    · have h := (if_neg hc).symm.trans h
      refine g_iconst X (pc := 21) (v := 1) dX7_isPersistent_21 (by decide) ?_
      refine g_goto X (pc := 22) (tgt := 26) dX7_isPersistent_22 (by decide) ?_
      obtain ⟨hz, rfl⟩ := rN_some h
      exact g_nreturn X rfl hz hE dX7_isPersistent_26
    · have h := (if_pos hc).symm.trans h
      refine g_aload_n X (pc := 14) 0 rfl rfl dX7_isPersistent_14 ?_
      obtain ⟨v3, ev3, h⟩ := bd h
      refine g_getI X (pc := 15) fk_7_6 rfl rfl ev3 tb_262 dX7_isPersistent_15 ?_
      refine g_if_ne X (pc := 18) (tgt := 25) dX7_isPersistent_18 (by decide) (fun hc => ?_) (fun hc => ?_)
      · have h := (if_neg hc).symm.trans h
        refine g_iconst X (pc := 25) (v := 0) dX7_isPersistent_25 (by decide) ?_
        obtain ⟨hz, rfl⟩ := rN_some h
        exact g_nreturn X rfl hz hE dX7_isPersistent_26
      · have h := (if_pos hc).symm.trans h
        refine g_iconst X (pc := 21) (v := 1) dX7_isPersistent_21 (by decide) ?_
        refine g_goto X (pc := 22) (tgt := 26) dX7_isPersistent_22 (by decide) ?_
        obtain ⟨hz, rfl⟩ := rN_some h
        exact g_nreturn X rfl hz hE dX7_isPersistent_26
theorem hyX7_isPersistent : yX7_isPersistent.cls ≠ "java/lang/invoke/MethodHandle" ∧ yX7_isPersistent.cls ≠ "java/lang/invoke/VarHandle" ∧ (parseMethodDescriptor yX7_isPersistent.desc).map (fun d => d.parameters.length) = some 0 := ⟨by decide +kernel, by decide +kernel, by decide +kernel⟩
theorem ctX7_isPersistent (l : Launch) (E : Nat → Nat) (D : va_G) (dA : Nat → ClassId) (lo : Nat) (H0 : Heap) (fu : Nat) (a0 : Nat) (M : Mm) (out : Int32 × Mm) (h : fX7_isPersistent fu a0 M = some out) : Ct l E D dA lo H0 yX7_isPersistent cX7_isPersistent 1 (some .boolean) 0 0 [pR (some a0)] M (some (pI out.1)) out.2 := by
  refine ct_of (by decide +kernel) (Nat.le_of_ble_eq_true rfl) ?_
  intro x hl he hd ha ho hh hn hin X hE
  exact wX7_isPersistent X hE hn fu a0 M h
/-! WebHost$Requests.isBodyLeftOut(I)Z -/
def fX7_isBodyLeftOut (fu : Nat)  (a0 : Int32)  (M : Mm) : Option (Int32 × Mm) :=
    if a0 = (400 : Int32) then (
    rN .boolean (0 : Int32) M)
    else (
    if a0 = (413 : Int32) then (
    rN .boolean (0 : Int32) M)
    else (
    if a0 = (431 : Int32) then (
    rN .boolean (0 : Int32) M)
    else (
    if a0 = (501 : Int32) then (
    rN .boolean (0 : Int32) M)
    else (
    rN .boolean (1 : Int32) M))))
theorem dX7_isBodyLeftOut_0 : decode cX7_isBodyLeftOut 0 = .ok (.iload_n 0, 1) := by decide +kernel
theorem dX7_isBodyLeftOut_1 : decode cX7_isBodyLeftOut 1 = .ok (.sipush 400, 3) := by decide +kernel
theorem dX7_isBodyLeftOut_4 : decode cX7_isBodyLeftOut 4 = .ok (.if_icmp .eq 28, 3) := by decide +kernel
theorem dX7_isBodyLeftOut_7 : decode cX7_isBodyLeftOut 7 = .ok (.iload_n 0, 1) := by decide +kernel
theorem dX7_isBodyLeftOut_8 : decode cX7_isBodyLeftOut 8 = .ok (.sipush 413, 3) := by decide +kernel
theorem dX7_isBodyLeftOut_11 : decode cX7_isBodyLeftOut 11 = .ok (.if_icmp .eq 21, 3) := by decide +kernel
theorem dX7_isBodyLeftOut_14 : decode cX7_isBodyLeftOut 14 = .ok (.iload_n 0, 1) := by decide +kernel
theorem dX7_isBodyLeftOut_15 : decode cX7_isBodyLeftOut 15 = .ok (.sipush 431, 3) := by decide +kernel
theorem dX7_isBodyLeftOut_18 : decode cX7_isBodyLeftOut 18 = .ok (.if_icmp .eq 14, 3) := by decide +kernel
theorem dX7_isBodyLeftOut_21 : decode cX7_isBodyLeftOut 21 = .ok (.iload_n 0, 1) := by decide +kernel
theorem dX7_isBodyLeftOut_22 : decode cX7_isBodyLeftOut 22 = .ok (.sipush 501, 3) := by decide +kernel
theorem dX7_isBodyLeftOut_25 : decode cX7_isBodyLeftOut 25 = .ok (.if_icmp .eq 7, 3) := by decide +kernel
theorem dX7_isBodyLeftOut_28 : decode cX7_isBodyLeftOut 28 = .ok (.iconst 1, 1) := by decide +kernel
theorem dX7_isBodyLeftOut_29 : decode cX7_isBodyLeftOut 29 = .ok (.goto 4, 3) := by decide +kernel
theorem dX7_isBodyLeftOut_32 : decode cX7_isBodyLeftOut 32 = .ok (.iconst 0, 1) := by decide +kernel
theorem dX7_isBodyLeftOut_33 : decode cX7_isBodyLeftOut 33 = .ok (.ireturn, 1) := by decide +kernel
theorem wX7_isBodyLeftOut {x : GX} {n0 sl0 : Nat} (X : Cx x cX7_isBodyLeftOut RX7 (some .boolean) n0 sl0 0 0) {out : Int32 × Mm} (hE : Ends x n0 sl0 (some (pI out.1)) out.2) (hn : xn x = 1) (fu : Nat)   (a0 : Int32)  (M : Mm) (h : fX7_isBodyLeftOut fu  a0 M = some out) : Gw x M 0 [(0, pI a0)] [] := by
  unfold fX7_isBodyLeftOut at h
  refine g_iload_n X (pc := 0) 0 rfl rfl dX7_isBodyLeftOut_0 ?_
  refine g_sipush X (pc := 1) (v := 400) dX7_isBodyLeftOut_1 (by decide) ?_
  refine g_icmp_eq X (pc := 4) (tgt := 32) dX7_isBodyLeftOut_4 (by decide) (fun hc => ?_) (fun hc => ?_)
  · have h := (if_pos hc).symm.trans h
    refine g_iconst X (pc := 32) (v := 0) dX7_isBodyLeftOut_32 (by decide) ?_
    obtain ⟨hz, rfl⟩ := rN_some h
    exact g_nreturn X rfl hz hE dX7_isBodyLeftOut_33
  · have h := (if_neg hc).symm.trans h
    refine g_iload_n X (pc := 7) 0 rfl rfl dX7_isBodyLeftOut_7 ?_
    refine g_sipush X (pc := 8) (v := 413) dX7_isBodyLeftOut_8 (by decide) ?_
    refine g_icmp_eq X (pc := 11) (tgt := 32) dX7_isBodyLeftOut_11 (by decide) (fun hc => ?_) (fun hc => ?_)
    · have h := (if_pos hc).symm.trans h
      refine g_iconst X (pc := 32) (v := 0) dX7_isBodyLeftOut_32 (by decide) ?_
      obtain ⟨hz, rfl⟩ := rN_some h
      exact g_nreturn X rfl hz hE dX7_isBodyLeftOut_33
    · have h := (if_neg hc).symm.trans h
      refine g_iload_n X (pc := 14) 0 rfl rfl dX7_isBodyLeftOut_14 ?_
      refine g_sipush X (pc := 15) (v := 431) dX7_isBodyLeftOut_15 (by decide) ?_
      refine g_icmp_eq X (pc := 18) (tgt := 32) dX7_isBodyLeftOut_18 (by decide) (fun hc => ?_) (fun hc => ?_)
      · have h := (if_pos hc).symm.trans h
        refine g_iconst X (pc := 32) (v := 0) dX7_isBodyLeftOut_32 (by decide) ?_
        obtain ⟨hz, rfl⟩ := rN_some h
        exact g_nreturn X rfl hz hE dX7_isBodyLeftOut_33
      · have h := (if_neg hc).symm.trans h
        refine g_iload_n X (pc := 21) 0 rfl rfl dX7_isBodyLeftOut_21 ?_
        refine g_sipush X (pc := 22) (v := 501) dX7_isBodyLeftOut_22 (by decide) ?_
        refine g_icmp_eq X (pc := 25) (tgt := 32) dX7_isBodyLeftOut_25 (by decide) (fun hc => ?_) (fun hc => ?_)
        · have h := (if_pos hc).symm.trans h
          refine g_iconst X (pc := 32) (v := 0) dX7_isBodyLeftOut_32 (by decide) ?_
          obtain ⟨hz, rfl⟩ := rN_some h
          exact g_nreturn X rfl hz hE dX7_isBodyLeftOut_33
        · have h := (if_neg hc).symm.trans h
          refine g_iconst X (pc := 28) (v := 1) dX7_isBodyLeftOut_28 (by decide) ?_
          refine g_goto X (pc := 29) (tgt := 33) dX7_isBodyLeftOut_29 (by decide) ?_
          obtain ⟨hz, rfl⟩ := rN_some h
          exact g_nreturn X rfl hz hE dX7_isBodyLeftOut_33
theorem hyX7_isBodyLeftOut : yX7_isBodyLeftOut.cls ≠ "java/lang/invoke/MethodHandle" ∧ yX7_isBodyLeftOut.cls ≠ "java/lang/invoke/VarHandle" ∧ (parseMethodDescriptor yX7_isBodyLeftOut.desc).map (fun d => d.parameters.length) = some 1 := ⟨by decide +kernel, by decide +kernel, by decide +kernel⟩
theorem ctX7_isBodyLeftOut (l : Launch) (E : Nat → Nat) (D : va_G) (dA : Nat → ClassId) (lo : Nat) (H0 : Heap) (fu : Nat) (a0 : Int32) (M : Mm) (out : Int32 × Mm) (h : fX7_isBodyLeftOut fu a0 M = some out) : Ct l E D dA lo H0 yX7_isBodyLeftOut cX7_isBodyLeftOut 1 (some .boolean) 0 0 [pI a0] M (some (pI out.1)) out.2 := by
  refine ct_of (by decide +kernel) (Nat.le_of_ble_eq_true rfl) ?_
  intro x hl he hd ha ho hh hn hin X hE
  exact wX7_isBodyLeftOut X hE hn fu a0 M h
/-! WebHost$Store.<init>()V -/
def fX8_init (fu : Nat)  (a0 : Nat)  (M : Mm) : Option (Mm) :=
    b2 (mkA M 100 (0 : Int32)) fun v1 M2 =>
    (pG M2 8 512 (some a0) (some v1)).bind fun M3 =>
    b2 (mkA M3 100 (0 : Int32)) fun v4 M5 =>
    (pG M5 8 514 (some a0) (some v4)).bind fun M6 =>
    some M6
theorem dX8_init_0 : decode cX8_init 0 = .ok (.aload_n 0, 1) := by decide +kernel
theorem dX8_init_1 : decode cX8_init 1 = .ok (.invokespecial 1, 3) := by decide +kernel
theorem dX8_init_4 : decode cX8_init 4 = .ok (.aload_n 0, 1) := by decide +kernel
theorem dX8_init_5 : decode cX8_init 5 = .ok (.iconst 0, 1) := by decide +kernel
theorem dX8_init_6 : decode cX8_init 6 = .ok (.newarray .byte, 2) := by decide +kernel
theorem dX8_init_8 : decode cX8_init 8 = .ok (.putfield 7, 3) := by decide +kernel
theorem dX8_init_11 : decode cX8_init 11 = .ok (.aload_n 0, 1) := by decide +kernel
theorem dX8_init_12 : decode cX8_init 12 = .ok (.iconst 0, 1) := by decide +kernel
theorem dX8_init_13 : decode cX8_init 13 = .ok (.newarray .byte, 2) := by decide +kernel
theorem dX8_init_15 : decode cX8_init 15 = .ok (.putfield 13, 3) := by decide +kernel
theorem dX8_init_18 : decode cX8_init 18 = .ok (.return_, 1) := by decide +kernel
theorem wX8_init {x : GX} {n0 sl0 : Nat} (X : Cx x cX8_init RX8 none n0 sl0 1 12) {out : Mm} (hE : Ends x n0 sl0 none out) (hn : xn x = 1) (hin : (xt x).name = "<init>") (fu : Nat)   (a0 : Nat)  (M : Mm) (h : fX8_init fu  a0 M = some out) : Gw x M 0 [(0, pR (some a0))] [] := by
  unfold fX8_init at h
  refine g_aload_n X (pc := 0) 0 rfl rfl dX8_init_0 ?_
  refine g_objInit X (pc := 1) (o := (some a0)) ⟨_, rfl⟩ tb_39 tb_32 tb_33 ⟨by decide, Nat.le_of_ble_eq_true rfl⟩ dX8_init_1 ?_
  refine g_aload_n X (pc := 4) 0 rfl rfl dX8_init_4 ?_
  refine g_iconst X (pc := 5) (v := 0) dX8_init_5 (by decide) ?_
  obtain ⟨v1, M2, eM2, h⟩ := b2d h
  refine g_newarray X (pc := 6) (at9 := .byte) (k := 0) rfl (by decide) rfl (by decide) (fun _ _ q => q) tb_53 eM2 dX8_init_6 ?_
  obtain ⟨M3, eM3, h⟩ := bd h
  refine g_putG X (pc := 8) fk_8_0 rfl rfl rfl eM3 tb_40 (Or.inl rfl) dX8_init_8 ?_
  refine g_aload_n X (pc := 11) 0 rfl rfl dX8_init_11 ?_
  refine g_iconst X (pc := 12) (v := 0) dX8_init_12 (by decide) ?_
  obtain ⟨v4, M5, eM5, h⟩ := b2d h
  refine g_newarray X (pc := 13) (at9 := .byte) (k := 0) rfl (by decide) rfl (by decide) (fun _ _ q => q) tb_53 eM5 dX8_init_13 ?_
  obtain ⟨M6, eM6, h⟩ := bd h
  refine g_putG X (pc := 15) fk_8_2 rfl rfl rfl eM6 tb_45 (Or.inl rfl) dX8_init_15 ?_
  obtain rfl := Option.some.inj h
  exact g_return X hE dX8_init_18
theorem hyX8_init : yX8_init.cls ≠ "java/lang/invoke/MethodHandle" ∧ yX8_init.cls ≠ "java/lang/invoke/VarHandle" ∧ (parseMethodDescriptor yX8_init.desc).map (fun d => d.parameters.length) = some 0 := ⟨by decide +kernel, by decide +kernel, by decide +kernel⟩
theorem ctX8_init (l : Launch) (E : Nat → Nat) (D : va_G) (dA : Nat → ClassId) (lo : Nat) (H0 : Heap) (fu : Nat) (a0 : Nat) (M : Mm) (out : Mm) (h : fX8_init fu a0 M = some out) : Ct l E D dA lo H0 yX8_init cX8_init 1 none 1 12 [pR (some a0)] M none out := by
  refine ct_of (by decide +kernel) (Nat.le_of_ble_eq_true rfl) ?_
  intro x hl he hd ha ho hh hn hin X hE
  exact wX8_init X hE hn hin fu a0 M h
