/-! ===== walks of methods, printed by a program of ours ===== -/
/-! WebHost$Came.<init>()V -/
def fX0_init (fu : Nat)  (a0 : Nat)  (M : Mm) : Option (Mm) :=
    b2 (mkA M 100 (4096 : Int32)) fun v1 M2 =>
    (pG M2 0 5 (some a0) (some v1)).bind fun M3 =>
    b2 (mkA M3 101 (128 : Int32)) fun v4 M5 =>
    (pG M5 0 6 (some a0) (some v4)).bind fun M6 =>
    some M6
theorem dX0_init_0 : decode cX0_init 0 = .ok (.aload_n 0, 1) := by decide +kernel
theorem dX0_init_1 : decode cX0_init 1 = .ok (.invokespecial 3, 3) := by decide +kernel
theorem dX0_init_4 : decode cX0_init 4 = .ok (.aload_n 0, 1) := by decide +kernel
theorem dX0_init_5 : decode cX0_init 5 = .ok (.sipush 4096, 3) := by decide +kernel
theorem dX0_init_8 : decode cX0_init 8 = .ok (.newarray .byte, 2) := by decide +kernel
theorem dX0_init_10 : decode cX0_init 10 = .ok (.putfield 11, 3) := by decide +kernel
theorem dX0_init_13 : decode cX0_init 13 = .ok (.aload_n 0, 1) := by decide +kernel
theorem dX0_init_14 : decode cX0_init 14 = .ok (.sipush 128, 3) := by decide +kernel
theorem dX0_init_17 : decode cX0_init 17 = .ok (.newarray .int, 2) := by decide +kernel
theorem dX0_init_19 : decode cX0_init 19 = .ok (.putfield 15, 3) := by decide +kernel
theorem dX0_init_22 : decode cX0_init 22 = .ok (.return_, 1) := by decide +kernel
theorem wX0_init {x : GX} {n0 sl0 : Nat} (X : Cx x cX0_init RX0 none n0 sl0 1 12) {out : Mm} (hE : Ends x n0 sl0 none out) (hn : xn x = 1) (hin : (xt x).name = "<init>") (fu : Nat)   (a0 : Nat)  (M : Mm) (h : fX0_init fu  a0 M = some out) : Gw x M 0 [(0, pR (some a0))] [] := by
  unfold fX0_init at h
  refine g_aload_n X (pc := 0) 0 rfl rfl dX0_init_0 ?_
  refine g_objInit X (pc := 1) (o := (some a0)) ⟨_, rfl⟩ tb_858 tb_32 tb_33 ⟨by decide, Nat.le_of_ble_eq_true rfl⟩ dX0_init_1 ?_
  refine g_aload_n X (pc := 4) 0 rfl rfl dX0_init_4 ?_
  refine g_sipush X (pc := 5) (v := 4096) dX0_init_5 (by decide) ?_
  obtain ⟨v1, M2, eM2, h⟩ := b2d h
  refine g_newarray X (pc := 8) (at9 := .byte) (k := 0) rfl (by decide) rfl (by decide) (fun _ _ q => q) tb_53 eM2 dX0_init_8 ?_
  obtain ⟨M3, eM3, h⟩ := bd h
  refine g_putG X (pc := 10) fk_0_5 rfl rfl rfl eM3 tb_869 (Or.inr ⟨rfl, hin, rfl⟩) dX0_init_10 ?_
  refine g_aload_n X (pc := 13) 0 rfl rfl dX0_init_13 ?_
  refine g_sipush X (pc := 14) (v := 128) dX0_init_14 (by decide) ?_
  obtain ⟨v4, M5, eM5, h⟩ := b2d h
  refine g_newarray X (pc := 17) (at9 := .int) (k := 1) rfl (by decide) rfl (by decide) (fun _ _ q => q) tb_89 eM5 dX0_init_17 ?_
  obtain ⟨M6, eM6, h⟩ := bd h
  refine g_putG X (pc := 19) fk_0_6 rfl rfl rfl eM6 tb_870 (Or.inr ⟨rfl, hin, rfl⟩) dX0_init_19 ?_
  obtain rfl := Option.some.inj h
  exact g_return X hE dX0_init_22
theorem hyX0_init : yX0_init.cls ≠ "java/lang/invoke/MethodHandle" ∧ yX0_init.cls ≠ "java/lang/invoke/VarHandle" ∧ (parseMethodDescriptor yX0_init.desc).map (fun d => d.parameters.length) = some 0 := ⟨by decide +kernel, by decide +kernel, by decide +kernel⟩
theorem ctX0_init (l : Launch) (E : Nat → Nat) (D : va_G) (dA : Nat → ClassId) (lo : Nat) (H0 : Heap) (fu : Nat) (a0 : Nat) (M : Mm) (out : Mm) (h : fX0_init fu a0 M = some out) : Ct l E D dA lo H0 yX0_init cX0_init 1 none 1 12 [pR (some a0)] M none out := by
  refine ct_of (by decide +kernel) (Nat.le_of_ble_eq_true rfl) ?_
  intro x hl he hd ha ho hh hn hin X hE
  exact wX0_init X hE hn hin fu a0 M h
/-! java/util/Arrays.fill([II)V -/
def fJ7_fill_53178_L5 (fu : Nat)  : Nat → Option Nat → Int32 → Int32 → Int32 → Mm → Option (Mm)
  | 0, _, _, _, _, _ => none
  | n + 1, a0, a1, a2, a3, M =>
    if a3 ≤ a2 then (
    some M)
    else (
    (pA M 101 a0 a2 a1).bind fun M1 =>
    fJ7_fill_53178_L5 fu  n a0 a1 (a2 + (1 : Int32)) a3 M1)
def fJ7_fill_53178 (fu : Nat)  (a0 : Option Nat) (a1 : Int32)  (M : Mm) : Option (Mm) :=
    (aL M 101 a0).bind fun v1 =>
    fJ7_fill_53178_L5 fu  fu a0 a1 (0 : Int32) v1 M
theorem dJ7_fill_53178_0 : decode cJ7_fill_53178 0 = .ok (.iconst 0, 1) := by decide +kernel
theorem dJ7_fill_53178_1 : decode cJ7_fill_53178 1 = .ok (.istore_n 2, 1) := by decide +kernel
theorem dJ7_fill_53178_2 : decode cJ7_fill_53178 2 = .ok (.aload_n 0, 1) := by decide +kernel
theorem dJ7_fill_53178_3 : decode cJ7_fill_53178 3 = .ok (.arraylength, 1) := by decide +kernel
theorem dJ7_fill_53178_4 : decode cJ7_fill_53178 4 = .ok (.istore_n 3, 1) := by decide +kernel
theorem dJ7_fill_53178_5 : decode cJ7_fill_53178 5 = .ok (.iload_n 2, 1) := by decide +kernel
theorem dJ7_fill_53178_6 : decode cJ7_fill_53178 6 = .ok (.iload_n 3, 1) := by decide +kernel
theorem dJ7_fill_53178_7 : decode cJ7_fill_53178 7 = .ok (.if_icmp .ge 13, 3) := by decide +kernel
theorem dJ7_fill_53178_10 : decode cJ7_fill_53178 10 = .ok (.aload_n 0, 1) := by decide +kernel
theorem dJ7_fill_53178_11 : decode cJ7_fill_53178 11 = .ok (.iload_n 2, 1) := by decide +kernel
theorem dJ7_fill_53178_12 : decode cJ7_fill_53178 12 = .ok (.iload_n 1, 1) := by decide +kernel
theorem dJ7_fill_53178_13 : decode cJ7_fill_53178 13 = .ok (.iastore, 1) := by decide +kernel
theorem dJ7_fill_53178_14 : decode cJ7_fill_53178 14 = .ok (.iinc 2 1, 3) := by decide +kernel
theorem dJ7_fill_53178_17 : decode cJ7_fill_53178 17 = .ok (.goto (-12), 3) := by decide +kernel
theorem dJ7_fill_53178_20 : decode cJ7_fill_53178 20 = .ok (.return_, 1) := by decide +kernel
theorem wJ7_fill_53178_L5 {x : GX} {n0 sl0 : Nat} (X : Cx x cJ7_fill_53178 RJ7 none n0 sl0 0 0) {out : Mm} (hE : Ends x n0 sl0 none out) (hn : xn x = 4) (fu : Nat)   : ∀ (n : Nat) (a0 : Option Nat) (a1 : Int32) (a2 : Int32) (a3 : Int32)  (M : Mm), fJ7_fill_53178_L5 fu  n a0 a1 a2 a3 M = some out → Gw x M 5 [(0, pR a0), (1, pI a1), (2, pI a2), (3, pI a3)] [] := by
  intro n
  induction n with
  | zero =>
    intro a0 a1 a2 a3 M h
    have h : (none : Option (Mm)) = some out := h
    cases h
  | succ n ih =>
    intro a0 a1 a2 a3 M h
    rw [fJ7_fill_53178_L5] at h
    refine g_iload_n X (pc := 5) 2 rfl rfl dJ7_fill_53178_5 ?_
    refine g_iload_n X (pc := 6) 3 rfl rfl dJ7_fill_53178_6 ?_
    refine g_icmp_ge X (pc := 7) (tgt := 20) dJ7_fill_53178_7 (by decide) (fun hc => ?_) (fun hc => ?_)
    · have h := (if_pos hc).symm.trans h
      obtain rfl := Option.some.inj h
      exact g_return X hE dJ7_fill_53178_20
    · have h := (if_neg hc).symm.trans h
      refine g_aload_n X (pc := 10) 0 rfl rfl dJ7_fill_53178_10 ?_
      refine g_iload_n X (pc := 11) 2 rfl rfl dJ7_fill_53178_11 ?_
      refine g_iload_n X (pc := 12) 1 rfl rfl dJ7_fill_53178_12 ?_
      obtain ⟨M1, eM1, h⟩ := bd h
      refine g_iastore X (pc := 13) eM1 dJ7_fill_53178_13 ?_
      refine g_iinc X (pc := 14) 2 [(2, pI (a2 + (1 : Int32))), (0, pR a0), (1, pI a1), (3, pI a3)] rfl (iinc_e (by decide)) (lt_n hn (by decide)) rfl dJ7_fill_53178_14 ?_
      refine g_goto X (pc := 17) (tgt := 5) dJ7_fill_53178_17 (by decide) ?_
      refine g_sub [1, 2, 0, 3] [(0, pR a0), (1, pI a1), (2, pI (a2 + (1 : Int32))), (3, pI a3)] rfl ?_
      exact ih a0 a1 (a2 + (1 : Int32)) a3 M1 h
theorem wJ7_fill_53178 {x : GX} {n0 sl0 : Nat} (X : Cx x cJ7_fill_53178 RJ7 none n0 sl0 0 0) {out : Mm} (hE : Ends x n0 sl0 none out) (hn : xn x = 4) (fu : Nat)   (a0 : Option Nat) (a1 : Int32)  (M : Mm) (h : fJ7_fill_53178 fu  a0 a1 M = some out) : Gw x M 0 [(0, pR a0), (1, pI a1)] [] := by
  unfold fJ7_fill_53178 at h
  refine g_iconst X (pc := 0) (v := 0) dJ7_fill_53178_0 (by decide) ?_
  refine g_istore_n X (pc := 1) [(2, pI (0 : Int32)), (0, pR a0), (1, pI a1)] rfl (lt_n hn (by decide)) rfl dJ7_fill_53178_1 ?_
  refine g_aload_n X (pc := 2) 1 rfl rfl dJ7_fill_53178_2 ?_
  obtain ⟨v1, ev1, h⟩ := bd h
  refine g_alen X (pc := 3) (k := 1) rfl (by decide) ev1 dJ7_fill_53178_3 ?_
  refine g_istore_n X (pc := 4) [(3, pI v1), (2, pI (0 : Int32)), (0, pR a0), (1, pI a1)] rfl (lt_n hn (by decide)) rfl dJ7_fill_53178_4 ?_
  refine g_sub [2, 3, 1, 0] [(0, pR a0), (1, pI a1), (2, pI (0 : Int32)), (3, pI v1)] rfl ?_
  exact wJ7_fill_53178_L5 X hE hn fu   fu a0 a1 (0 : Int32) v1 M h
theorem hyJ7_fill_53178 : yJ7_fill_53178.cls ≠ "java/lang/invoke/MethodHandle" ∧ yJ7_fill_53178.cls ≠ "java/lang/invoke/VarHandle" ∧ (parseMethodDescriptor yJ7_fill_53178.desc).map (fun d => d.parameters.length) = some 2 := ⟨by decide +kernel, by decide +kernel, by decide +kernel⟩
theorem ctJ7_fill_53178 (l : Launch) (E : Nat → Nat) (D : va_G) (dA : Nat → ClassId) (lo : Nat) (H0 : Heap) (fu : Nat) (a0 : Option Nat) (a1 : Int32) (M : Mm) (out : Mm) (h : fJ7_fill_53178 fu a0 a1 M = some out) : Ct l E D dA lo H0 yJ7_fill_53178 cJ7_fill_53178 4 none 0 0 [pR a0, pI a1] M none out := by
  refine ct_of (by decide +kernel) (Nat.le_of_ble_eq_true rfl) ?_
  intro x hl he hd ha ho hh hn hin X hE
  exact wJ7_fill_53178 X hE hn fu a0 a1 M h
/-! WebHost$Came.begin(I)V -/
def fX0_begin (fu : Nat)  (a0 : Nat) (a1 : Int32)  (M : Mm) : Option (Mm) :=
    (pF M 0 0 (some a0) a1).bind fun M1 =>
    (pF M1 0 1 (some a0) a1).bind fun M2 =>
    (pF M2 0 2 (some a0) (4096 : Int32)).bind fun M3 =>
    (pF M3 0 3 (some a0) (0 : Int32)).bind fun M4 =>
    (pZ M4 0 4 (some a0) (0 : Int32)).bind fun M5 =>
    (pZ M5 0 7 (some a0) (0 : Int32)).bind fun M6 =>
    (pZ M6 0 8 (some a0) (0 : Int32)).bind fun M7 =>
    (gR M7 0 6 (some a0)).bind fun v8 =>
    (fJ7_fill_53178 fu  v8 (0 : Int32) M7).bind fun M9 =>
    some M9
theorem dX0_begin_0 : decode cX0_begin 0 = .ok (.aload_n 0, 1) := by decide +kernel
theorem dX0_begin_1 : decode cX0_begin 1 = .ok (.iload_n 1, 1) := by decide +kernel
theorem dX0_begin_2 : decode cX0_begin 2 = .ok (.putfield 19, 3) := by decide +kernel
theorem dX0_begin_5 : decode cX0_begin 5 = .ok (.aload_n 0, 1) := by decide +kernel
theorem dX0_begin_6 : decode cX0_begin 6 = .ok (.iload_n 1, 1) := by decide +kernel
theorem dX0_begin_7 : decode cX0_begin 7 = .ok (.putfield 23, 3) := by decide +kernel
theorem dX0_begin_10 : decode cX0_begin 10 = .ok (.aload_n 0, 1) := by decide +kernel
theorem dX0_begin_11 : decode cX0_begin 11 = .ok (.sipush 4096, 3) := by decide +kernel
theorem dX0_begin_14 : decode cX0_begin 14 = .ok (.putfield 26, 3) := by decide +kernel
theorem dX0_begin_17 : decode cX0_begin 17 = .ok (.aload_n 0, 1) := by decide +kernel
theorem dX0_begin_18 : decode cX0_begin 18 = .ok (.iconst 0, 1) := by decide +kernel
theorem dX0_begin_19 : decode cX0_begin 19 = .ok (.putfield 29, 3) := by decide +kernel
theorem dX0_begin_22 : decode cX0_begin 22 = .ok (.aload_n 0, 1) := by decide +kernel
theorem dX0_begin_23 : decode cX0_begin 23 = .ok (.iconst 0, 1) := by decide +kernel
theorem dX0_begin_24 : decode cX0_begin 24 = .ok (.putfield 32, 3) := by decide +kernel
theorem dX0_begin_27 : decode cX0_begin 27 = .ok (.aload_n 0, 1) := by decide +kernel
theorem dX0_begin_28 : decode cX0_begin 28 = .ok (.iconst 0, 1) := by decide +kernel
theorem dX0_begin_29 : decode cX0_begin 29 = .ok (.putfield 36, 3) := by decide +kernel
theorem dX0_begin_32 : decode cX0_begin 32 = .ok (.aload_n 0, 1) := by decide +kernel
theorem dX0_begin_33 : decode cX0_begin 33 = .ok (.iconst 0, 1) := by decide +kernel
theorem dX0_begin_34 : decode cX0_begin 34 = .ok (.putfield 39, 3) := by decide +kernel
theorem dX0_begin_37 : decode cX0_begin 37 = .ok (.aload_n 0, 1) := by decide +kernel
theorem dX0_begin_38 : decode cX0_begin 38 = .ok (.getfield 15, 3) := by decide +kernel
theorem dX0_begin_41 : decode cX0_begin 41 = .ok (.iconst 0, 1) := by decide +kernel
theorem dX0_begin_42 : decode cX0_begin 42 = .ok (.invokestatic 42, 3) := by decide +kernel
theorem dX0_begin_45 : decode cX0_begin 45 = .ok (.return_, 1) := by decide +kernel
theorem wX0_begin {x : GX} {n0 sl0 : Nat} (X : Cx x cX0_begin RX0 none n0 sl0 1 23) {out : Mm} (hE : Ends x n0 sl0 none out) (hn : xn x = 2) (fu : Nat)   (a0 : Nat) (a1 : Int32)  (M : Mm) (h : fX0_begin fu  a0 a1 M = some out) : Gw x M 0 [(0, pR (some a0)), (1, pI a1)] [] := by
  unfold fX0_begin at h
  refine g_aload_n X (pc := 0) 0 rfl rfl dX0_begin_0 ?_
  refine g_iload_n X (pc := 1) 1 rfl rfl dX0_begin_1 ?_
  obtain ⟨M1, eM1, h⟩ := bd h
  refine g_putI X (pc := 2) fk_0_0 rfl rfl rfl eM1 tb_859 (Or.inl rfl) dX0_begin_2 ?_
  refine g_aload_n X (pc := 5) 0 rfl rfl dX0_begin_5 ?_
  refine g_iload_n X (pc := 6) 1 rfl rfl dX0_begin_6 ?_
  obtain ⟨M2, eM2, h⟩ := bd h
  refine g_putI X (pc := 7) fk_0_1 rfl rfl rfl eM2 tb_860 (Or.inl rfl) dX0_begin_7 ?_
  refine g_aload_n X (pc := 10) 0 rfl rfl dX0_begin_10 ?_
  refine g_sipush X (pc := 11) (v := 4096) dX0_begin_11 (by decide) ?_
  obtain ⟨M3, eM3, h⟩ := bd h
  refine g_putI X (pc := 14) fk_0_2 rfl rfl rfl eM3 tb_863 (Or.inl rfl) dX0_begin_14 ?_
  refine g_aload_n X (pc := 17) 0 rfl rfl dX0_begin_17 ?_
  refine g_iconst X (pc := 18) (v := 0) dX0_begin_18 (by decide) ?_
  obtain ⟨M4, eM4, h⟩ := bd h
  refine g_putI X (pc := 19) fk_0_3 rfl rfl rfl eM4 tb_865 (Or.inl rfl) dX0_begin_19 ?_
  refine g_aload_n X (pc := 22) 0 rfl rfl dX0_begin_22 ?_
  refine g_iconst X (pc := 23) (v := 0) dX0_begin_23 (by decide) ?_
  obtain ⟨M5, eM5, h⟩ := bd h
  refine g_putZ X (pc := 24) fk_0_4 rfl rfl rfl eM5 tb_867 (Or.inl rfl) dX0_begin_24 ?_
  refine g_aload_n X (pc := 27) 0 rfl rfl dX0_begin_27 ?_
  refine g_iconst X (pc := 28) (v := 0) dX0_begin_28 (by decide) ?_
  obtain ⟨M6, eM6, h⟩ := bd h
  refine g_putZ X (pc := 29) fk_0_7 rfl rfl rfl eM6 tb_871 (Or.inl rfl) dX0_begin_29 ?_
  refine g_aload_n X (pc := 32) 0 rfl rfl dX0_begin_32 ?_
  refine g_iconst X (pc := 33) (v := 0) dX0_begin_33 (by decide) ?_
  obtain ⟨M7, eM7, h⟩ := bd h
  refine g_putZ X (pc := 34) fk_0_8 rfl rfl rfl eM7 tb_872 (Or.inl rfl) dX0_begin_34 ?_
  refine g_aload_n X (pc := 37) 0 rfl rfl dX0_begin_37 ?_
  obtain ⟨v8, ev8, h⟩ := bd h
  refine g_getR X (pc := 38) fk_0_6 rfl rfl ev8 tb_870 dX0_begin_38 ?_
  refine g_iconst X (pc := 41) (v := 0) dX0_begin_41 (by decide) ?_
  obtain ⟨M9, eM9, h⟩ := bd h
  refine g_callS X (pc := 42) (M' := M9) (ro := none) (as := [pR v8, pI (0 : Int32)]) (as' := [pI (0 : Int32), pR v8]) (st := []) (ctJ7_fill_53178 _ _ _ _ _ _ fu  v8 (0 : Int32) M7 _ eM9) tb_436 tb_1055 tb_435 tb_14 hyJ7_fill_53178 rfl rfl ⟨by decide, by decide⟩ (Nat.le_of_ble_eq_true rfl) dX0_begin_42 ?_
  obtain rfl := Option.some.inj h
  exact g_return X hE dX0_begin_45
theorem hyX0_begin : yX0_begin.cls ≠ "java/lang/invoke/MethodHandle" ∧ yX0_begin.cls ≠ "java/lang/invoke/VarHandle" ∧ (parseMethodDescriptor yX0_begin.desc).map (fun d => d.parameters.length) = some 1 := ⟨by decide +kernel, by decide +kernel, by decide +kernel⟩
theorem ctX0_begin (l : Launch) (E : Nat → Nat) (D : va_G) (dA : Nat → ClassId) (lo : Nat) (H0 : Heap) (fu : Nat) (a0 : Nat) (a1 : Int32) (M : Mm) (out : Mm) (h : fX0_begin fu a0 a1 M = some out) : Ct l E D dA lo H0 yX0_begin cX0_begin 2 none 1 23 [pR (some a0), pI a1] M none out := by
  refine ct_of (by decide +kernel) (Nat.le_of_ble_eq_true rfl) ?_
  intro x hl he hd ha ho hh hn hin X hE
  exact wX0_begin X hE hn fu a0 a1 M h
/-! WebHost$Came.held()I -/
def fX0_held (fu : Nat)  (a0 : Nat)  (M : Mm) : Option (Int32 × Mm) :=
    (gI M 0 1 (some a0)).bind fun v1 =>
    (gI M 0 0 (some a0)).bind fun v2 =>
    (gI M 0 8 (some a0)).bind fun v3 =>
    if v3 = 0 then (
    some (((v1 - v2) - (0 : Int32)), M))
    else (
    some (((v1 - v2) - (1 : Int32)), M))
theorem dX0_held_0 : decode cX0_held 0 = .ok (.aload_n 0, 1) := by decide +kernel
theorem dX0_held_1 : decode cX0_held 1 = .ok (.getfield 23, 3) := by decide +kernel
theorem dX0_held_4 : decode cX0_held 4 = .ok (.aload_n 0, 1) := by decide +kernel
theorem dX0_held_5 : decode cX0_held 5 = .ok (.getfield 19, 3) := by decide +kernel
theorem dX0_held_8 : decode cX0_held 8 = .ok (.isub, 1) := by decide +kernel
theorem dX0_held_9 : decode cX0_held 9 = .ok (.aload_n 0, 1) := by decide +kernel
theorem dX0_held_10 : decode cX0_held 10 = .ok (.getfield 39, 3) := by decide +kernel
theorem dX0_held_13 : decode cX0_held 13 = .ok (.ifCond .eq 7, 3) := by decide +kernel
theorem dX0_held_16 : decode cX0_held 16 = .ok (.iconst 1, 1) := by decide +kernel
theorem dX0_held_17 : decode cX0_held 17 = .ok (.goto 4, 3) := by decide +kernel
theorem dX0_held_20 : decode cX0_held 20 = .ok (.iconst 0, 1) := by decide +kernel
theorem dX0_held_21 : decode cX0_held 21 = .ok (.isub, 1) := by decide +kernel
theorem dX0_held_22 : decode cX0_held 22 = .ok (.ireturn, 1) := by decide +kernel
theorem wX0_held {x : GX} {n0 sl0 : Nat} (X : Cx x cX0_held RX0 (some .int) n0 sl0 0 0) {out : Int32 × Mm} (hE : Ends x n0 sl0 (some (pI out.1)) out.2) (hn : xn x = 1) (fu : Nat)   (a0 : Nat)  (M : Mm) (h : fX0_held fu  a0 M = some out) : Gw x M 0 [(0, pR (some a0))] [] := by
  unfold fX0_held at h
  refine g_aload_n X (pc := 0) 0 rfl rfl dX0_held_0 ?_
  obtain ⟨v1, ev1, h⟩ := bd h
  refine g_getI X (pc := 1) fk_0_1 rfl rfl ev1 tb_860 dX0_held_1 ?_
  refine g_aload_n X (pc := 4) 0 rfl rfl dX0_held_4 ?_
  obtain ⟨v2, ev2, h⟩ := bd h
  refine g_getI X (pc := 5) fk_0_0 rfl rfl ev2 tb_859 dX0_held_5 ?_
  refine g_isub X (pc := 8) dX0_held_8 ?_
  refine g_aload_n X (pc := 9) 0 rfl rfl dX0_held_9 ?_
  obtain ⟨v3, ev3, h⟩ := bd h
  refine g_getI X (pc := 10) fk_0_8 rfl rfl ev3 tb_872 dX0_held_10 ?_
  refine g_if_eq X (pc := 13) (tgt := 20) dX0_held_13 (by decide) (fun hc => ?_) (fun hc => ?_)
  · have h := (if_pos hc).symm.trans h
    refine g_iconst X (pc := 20) (v := 0) dX0_held_20 (by decide) ?_
    refine g_isub X (pc := 21) dX0_held_21 ?_
    obtain rfl := Option.some.inj h
    exact g_ireturn X hE dX0_held_22
  · have h := (if_neg hc).symm.trans h
    refine g_iconst X (pc := 16) (v := 1) dX0_held_16 (by decide) ?_
    refine g_goto X (pc := 17) (tgt := 21) dX0_held_17 (by decide) ?_
    refine g_isub X (pc := 21) dX0_held_21 ?_
    obtain rfl := Option.some.inj h
    exact g_ireturn X hE dX0_held_22
theorem hyX0_held : yX0_held.cls ≠ "java/lang/invoke/MethodHandle" ∧ yX0_held.cls ≠ "java/lang/invoke/VarHandle" ∧ (parseMethodDescriptor yX0_held.desc).map (fun d => d.parameters.length) = some 0 := ⟨by decide +kernel, by decide +kernel, by decide +kernel⟩
theorem ctX0_held (l : Launch) (E : Nat → Nat) (D : va_G) (dA : Nat → ClassId) (lo : Nat) (H0 : Heap) (fu : Nat) (a0 : Nat) (M : Mm) (out : Int32 × Mm) (h : fX0_held fu a0 M = some out) : Ct l E D dA lo H0 yX0_held cX0_held 1 (some .int) 0 0 [pR (some a0)] M (some (pI out.1)) out.2 := by
  refine ct_of (by decide +kernel) (Nat.le_of_ble_eq_true rfl) ?_
  intro x hl he hd ha ho hh hn hin X hE
  exact wX0_held X hE hn fu a0 M h
/-! WebHost$Came.window()I -/
def fX0_window (fu : Nat)  (a0 : Nat)  (M : Mm) : Option (Int32 × Mm) :=
    (rc M 0 (some a0)).bind fun q1 =>
    b2 (fX0_held fu q1  M) fun v3 M2 =>
    some (((4096 : Int32) - v3), M2)
theorem dX0_window_0 : decode cX0_window 0 = .ok (.sipush 4096, 3) := by decide +kernel
theorem dX0_window_3 : decode cX0_window 3 = .ok (.aload_n 0, 1) := by decide +kernel
theorem dX0_window_4 : decode cX0_window 4 = .ok (.invokevirtual 48, 3) := by decide +kernel
theorem dX0_window_7 : decode cX0_window 7 = .ok (.isub, 1) := by decide +kernel
theorem dX0_window_8 : decode cX0_window 8 = .ok (.ireturn, 1) := by decide +kernel
theorem wX0_window {x : GX} {n0 sl0 : Nat} (X : Cx x cX0_window RX0 (some .int) n0 sl0 1 20) {out : Int32 × Mm} (hE : Ends x n0 sl0 (some (pI out.1)) out.2) (hn : xn x = 1) (fu : Nat)   (a0 : Nat)  (M : Mm) (h : fX0_window fu  a0 M = some out) : Gw x M 0 [(0, pR (some a0))] [] := by
  unfold fX0_window at h
  refine g_sipush X (pc := 0) (v := 4096) dX0_window_0 (by decide) ?_
  refine g_aload_n X (pc := 3) 0 rfl rfl dX0_window_3 ?_
  obtain ⟨q1, eq1, h⟩ := bd h
  obtain ⟨v3, M2, eM2, h⟩ := b2d h
  refine g_callV X (pc := 4) (M' := M2) (ro := some (pI v3)) (c := 0) rfl (by decide) (as := []) (as' := []) (st := [pI (4096 : Int32)]) eq1 (ctX0_held _ _ _ _ _ _ fu q1  M _ eM2) tb_605 tb_602 tb_603 tb_604 tb_19 ⟨rfl, hyX0_held⟩ rfl rfl ⟨by decide, by decide⟩ (Nat.le_of_ble_eq_true rfl) dX0_window_4 ?_
  refine g_isub X (pc := 7) dX0_window_7 ?_
  obtain rfl := Option.some.inj h
  exact g_ireturn X hE dX0_window_8
theorem hyX0_window : yX0_window.cls ≠ "java/lang/invoke/MethodHandle" ∧ yX0_window.cls ≠ "java/lang/invoke/VarHandle" ∧ (parseMethodDescriptor yX0_window.desc).map (fun d => d.parameters.length) = some 0 := ⟨by decide +kernel, by decide +kernel, by decide +kernel⟩
theorem ctX0_window (l : Launch) (E : Nat → Nat) (D : va_G) (dA : Nat → ClassId) (lo : Nat) (H0 : Heap) (fu : Nat) (a0 : Nat) (M : Mm) (out : Int32 × Mm) (h : fX0_window fu a0 M = some out) : Ct l E D dA lo H0 yX0_window cX0_window 1 (some .int) 1 20 [pR (some a0)] M (some (pI out.1)) out.2 := by
  refine ct_of (by decide +kernel) (Nat.le_of_ble_eq_true rfl) ?_
  intro x hl he hd ha ho hh hn hin X hE
  exact wX0_window X hE hn fu a0 M h
/-! WebHost$Came.isInWindow(I)Z -/
def fX0_isInWindow (fu : Nat)  (a0 : Nat) (a1 : Int32)  (M : Mm) : Option (Int32 × Mm) :=
    (gI M 0 1 (some a0)).bind fun v1 =>
    if (a1 - v1) < 0 then (
    rN .boolean (0 : Int32) M)
    else (
    (gI M 0 1 (some a0)).bind fun v2 =>
    (rc M 0 (some a0)).bind fun q3 =>
    b2 (fX0_window fu q3  M) fun v5 M4 =>
    if 0 ≤ (a1 - (v2 + v5)) then (
    rN .boolean (0 : Int32) M4)
    else (
    rN .boolean (1 : Int32) M4))
theorem dX0_isInWindow_0 : decode cX0_isInWindow 0 = .ok (.iload_n 1, 1) := by decide +kernel
theorem dX0_isInWindow_1 : decode cX0_isInWindow 1 = .ok (.aload_n 0, 1) := by decide +kernel
theorem dX0_isInWindow_2 : decode cX0_isInWindow 2 = .ok (.getfield 23, 3) := by decide +kernel
theorem dX0_isInWindow_5 : decode cX0_isInWindow 5 = .ok (.isub, 1) := by decide +kernel
theorem dX0_isInWindow_6 : decode cX0_isInWindow 6 = .ok (.ifCond .lt 21, 3) := by decide +kernel
theorem dX0_isInWindow_9 : decode cX0_isInWindow 9 = .ok (.iload_n 1, 1) := by decide +kernel
theorem dX0_isInWindow_10 : decode cX0_isInWindow 10 = .ok (.aload_n 0, 1) := by decide +kernel
theorem dX0_isInWindow_11 : decode cX0_isInWindow 11 = .ok (.getfield 23, 3) := by decide +kernel
theorem dX0_isInWindow_14 : decode cX0_isInWindow 14 = .ok (.aload_n 0, 1) := by decide +kernel
theorem dX0_isInWindow_15 : decode cX0_isInWindow 15 = .ok (.invokevirtual 52, 3) := by decide +kernel
theorem dX0_isInWindow_18 : decode cX0_isInWindow 18 = .ok (.iadd, 1) := by decide +kernel
theorem dX0_isInWindow_19 : decode cX0_isInWindow 19 = .ok (.isub, 1) := by decide +kernel
theorem dX0_isInWindow_20 : decode cX0_isInWindow 20 = .ok (.ifCond .ge 7, 3) := by decide +kernel
theorem dX0_isInWindow_23 : decode cX0_isInWindow 23 = .ok (.iconst 1, 1) := by decide +kernel
theorem dX0_isInWindow_24 : decode cX0_isInWindow 24 = .ok (.goto 4, 3) := by decide +kernel
theorem dX0_isInWindow_27 : decode cX0_isInWindow 27 = .ok (.iconst 0, 1) := by decide +kernel
theorem dX0_isInWindow_28 : decode cX0_isInWindow 28 = .ok (.ireturn, 1) := by decide +kernel
theorem wX0_isInWindow {x : GX} {n0 sl0 : Nat} (X : Cx x cX0_isInWindow RX0 (some .boolean) n0 sl0 2 40) {out : Int32 × Mm} (hE : Ends x n0 sl0 (some (pI out.1)) out.2) (hn : xn x = 2) (fu : Nat)   (a0 : Nat) (a1 : Int32)  (M : Mm) (h : fX0_isInWindow fu  a0 a1 M = some out) : Gw x M 0 [(0, pR (some a0)), (1, pI a1)] [] := by
  unfold fX0_isInWindow at h
  refine g_iload_n X (pc := 0) 1 rfl rfl dX0_isInWindow_0 ?_
  refine g_aload_n X (pc := 1) 0 rfl rfl dX0_isInWindow_1 ?_
  obtain ⟨v1, ev1, h⟩ := bd h
  refine g_getI X (pc := 2) fk_0_1 rfl rfl ev1 tb_860 dX0_isInWindow_2 ?_
  refine g_isub X (pc := 5) dX0_isInWindow_5 ?_
  refine g_if_lt X (pc := 6) (tgt := 27) dX0_isInWindow_6 (by decide) (fun hc => ?_) (fun hc => ?_)
  · have h := (if_pos hc).symm.trans h
    refine g_iconst X (pc := 27) (v := 0) dX0_isInWindow_27 (by decide) ?_
    obtain ⟨hz, rfl⟩ := rN_some h
    exact g_nreturn X rfl hz hE dX0_isInWindow_28
  · have h := (if_neg hc).symm.trans h
    refine g_iload_n X (pc := 9) 1 rfl rfl dX0_isInWindow_9 ?_
    refine g_aload_n X (pc := 10) 0 rfl rfl dX0_isInWindow_10 ?_
    obtain ⟨v2, ev2, h⟩ := bd h
    refine g_getI X (pc := 11) fk_0_1 rfl rfl ev2 tb_860 dX0_isInWindow_11 ?_
    refine g_aload_n X (pc := 14) 0 rfl rfl dX0_isInWindow_14 ?_
    obtain ⟨q3, eq3, h⟩ := bd h
    obtain ⟨v5, M4, eM4, h⟩ := b2d h
    refine g_callV X (pc := 15) (M' := M4) (ro := some (pI v5)) (c := 0) rfl (by decide) (as := []) (as' := []) (st := [pI v2, pI a1]) eq3 (ctX0_window _ _ _ _ _ _ fu q3  M _ eM4) tb_601 tb_1073 tb_599 tb_600 tb_19 ⟨rfl, hyX0_window⟩ rfl rfl ⟨by decide, by decide⟩ (Nat.le_of_ble_eq_true rfl) dX0_isInWindow_15 ?_
    refine g_iadd X (pc := 18) dX0_isInWindow_18 ?_
    refine g_isub X (pc := 19) dX0_isInWindow_19 ?_
    refine g_if_ge X (pc := 20) (tgt := 27) dX0_isInWindow_20 (by decide) (fun hc => ?_) (fun hc => ?_)
    · have h := (if_pos hc).symm.trans h
      refine g_iconst X (pc := 27) (v := 0) dX0_isInWindow_27 (by decide) ?_
      obtain ⟨hz, rfl⟩ := rN_some h
      exact g_nreturn X rfl hz hE dX0_isInWindow_28
    · have h := (if_neg hc).symm.trans h
      refine g_iconst X (pc := 23) (v := 1) dX0_isInWindow_23 (by decide) ?_
      refine g_goto X (pc := 24) (tgt := 28) dX0_isInWindow_24 (by decide) ?_
      obtain ⟨hz, rfl⟩ := rN_some h
      exact g_nreturn X rfl hz hE dX0_isInWindow_28
theorem hyX0_isInWindow : yX0_isInWindow.cls ≠ "java/lang/invoke/MethodHandle" ∧ yX0_isInWindow.cls ≠ "java/lang/invoke/VarHandle" ∧ (parseMethodDescriptor yX0_isInWindow.desc).map (fun d => d.parameters.length) = some 1 := ⟨by decide +kernel, by decide +kernel, by decide +kernel⟩
theorem ctX0_isInWindow (l : Launch) (E : Nat → Nat) (D : va_G) (dA : Nat → ClassId) (lo : Nat) (H0 : Heap) (fu : Nat) (a0 : Nat) (a1 : Int32) (M : Mm) (out : Int32 × Mm) (h : fX0_isInWindow fu a0 a1 M = some out) : Ct l E D dA lo H0 yX0_isInWindow cX0_isInWindow 2 (some .boolean) 2 40 [pR (some a0), pI a1] M (some (pI out.1)) out.2 := by
  refine ct_of (by decide +kernel) (Nat.le_of_ble_eq_true rfl) ?_
  intro x hl he hd ha ho hh hn hin X hE
  exact wX0_isInWindow X hE hn fu a0 a1 M h
/-! WebHost$Intake.has(I)Z -/
def fX3_has (fu : Nat)  (a0 : Nat) (a1 : Int32)  (M : Mm) : Option (Int32 × Mm) :=
    (gI M 3 198 (some a0)).bind fun v1 =>
    if (v1 &&& a1) = 0 then (
    rN .boolean (0 : Int32) M)
    else (
    rN .boolean (1 : Int32) M)
theorem dX3_has_0 : decode cX3_has 0 = .ok (.aload_n 0, 1) := by decide +kernel
theorem dX3_has_1 : decode cX3_has 1 = .ok (.getfield 175, 3) := by decide +kernel
theorem dX3_has_4 : decode cX3_has 4 = .ok (.iload_n 1, 1) := by decide +kernel
theorem dX3_has_5 : decode cX3_has 5 = .ok (.iand, 1) := by decide +kernel
theorem dX3_has_6 : decode cX3_has 6 = .ok (.ifCond .eq 7, 3) := by decide +kernel
theorem dX3_has_9 : decode cX3_has 9 = .ok (.iconst 1, 1) := by decide +kernel
theorem dX3_has_10 : decode cX3_has 10 = .ok (.goto 4, 3) := by decide +kernel
theorem dX3_has_13 : decode cX3_has 13 = .ok (.iconst 0, 1) := by decide +kernel
theorem dX3_has_14 : decode cX3_has 14 = .ok (.ireturn, 1) := by decide +kernel
theorem wX3_has {x : GX} {n0 sl0 : Nat} (X : Cx x cX3_has RX3 (some .boolean) n0 sl0 0 0) {out : Int32 × Mm} (hE : Ends x n0 sl0 (some (pI out.1)) out.2) (hn : xn x = 2) (fu : Nat)   (a0 : Nat) (a1 : Int32)  (M : Mm) (h : fX3_has fu  a0 a1 M = some out) : Gw x M 0 [(0, pR (some a0)), (1, pI a1)] [] := by
  unfold fX3_has at h
  refine g_aload_n X (pc := 0) 0 rfl rfl dX3_has_0 ?_
  obtain ⟨v1, ev1, h⟩ := bd h
  refine g_getI X (pc := 1) fk_3_6 rfl rfl ev1 tb_175 dX3_has_1 ?_
  refine g_iload_n X (pc := 4) 1 rfl rfl dX3_has_4 ?_
  refine g_iand X (pc := 5) dX3_has_5 ?_
  refine g_if_eq X (pc := 6) (tgt := 13) dX3_has_6 (by decide) (fun hc => ?_) (fun hc => ?_)
  · have h := (if_pos hc).symm.trans h
    refine g_iconst X (pc := 13) (v := 0) dX3_has_13 (by decide) ?_
    obtain ⟨hz, rfl⟩ := rN_some h
    exact g_nreturn X rfl hz hE dX3_has_14
  · have h := (if_neg hc).symm.trans h
    refine g_iconst X (pc := 9) (v := 1) dX3_has_9 (by decide) ?_
    refine g_goto X (pc := 10) (tgt := 14) dX3_has_10 (by decide) ?_
    obtain ⟨hz, rfl⟩ := rN_some h
    exact g_nreturn X rfl hz hE dX3_has_14
theorem hyX3_has : yX3_has.cls ≠ "java/lang/invoke/MethodHandle" ∧ yX3_has.cls ≠ "java/lang/invoke/VarHandle" ∧ (parseMethodDescriptor yX3_has.desc).map (fun d => d.parameters.length) = some 1 := ⟨by decide +kernel, by decide +kernel, by decide +kernel⟩
theorem ctX3_has (l : Launch) (E : Nat → Nat) (D : va_G) (dA : Nat → ClassId) (lo : Nat) (H0 : Heap) (fu : Nat) (a0 : Nat) (a1 : Int32) (M : Mm) (out : Int32 × Mm) (h : fX3_has fu a0 a1 M = some out) : Ct l E D dA lo H0 yX3_has cX3_has 2 (some .boolean) 0 0 [pR (some a0), pI a1] M (some (pI out.1)) out.2 := by
  refine ct_of (by decide +kernel) (Nat.le_of_ble_eq_true rfl) ?_
  intro x hl he hd ha ho hh hn hin X hE
  exact wX3_has X hE hn fu a0 a1 M h
/-! WebHost$Intake.span()I -/
def fX3_span_L17 (fu : Nat)  (a0 : Nat) (s0 : Int32) (s1 : Int32) (M : Mm) : Option (Int32 × Mm) :=
    (rc M 3 (some a0)).bind fun q1 =>
    b2 (fX3_has fu q1 (1 : Int32) M) fun v3 M2 =>
    if v3 = 0 then (
    some (((s0 + s1) + (0 : Int32)), M2))
    else (
    some (((s0 + s1) + (1 : Int32)), M2))
def fX3_span (fu : Nat)  (a0 : Nat)  (M : Mm) : Option (Int32 × Mm) :=
    (gI M 3 201 (some a0)).bind fun v1 =>
    (rc M 3 (some a0)).bind fun q2 =>
    b2 (fX3_has fu q2 (2 : Int32) M) fun v4 M3 =>
    if v4 = 0 then (
    fX3_span_L17 fu  a0 v1 (0 : Int32) M3)
    else (
    fX3_span_L17 fu  a0 v1 (1 : Int32) M3)
theorem dX3_span_0 : decode cX3_span 0 = .ok (.aload_n 0, 1) := by decide +kernel
theorem dX3_span_1 : decode cX3_span 1 = .ok (.getfield 184, 3) := by decide +kernel
theorem dX3_span_4 : decode cX3_span 4 = .ok (.aload_n 0, 1) := by decide +kernel
theorem dX3_span_5 : decode cX3_span 5 = .ok (.iconst 2, 1) := by decide +kernel
theorem dX3_span_6 : decode cX3_span 6 = .ok (.invokevirtual 187, 3) := by decide +kernel
theorem dX3_span_9 : decode cX3_span 9 = .ok (.ifCond .eq 7, 3) := by decide +kernel
theorem dX3_span_12 : decode cX3_span 12 = .ok (.iconst 1, 1) := by decide +kernel
theorem dX3_span_13 : decode cX3_span 13 = .ok (.goto 4, 3) := by decide +kernel
theorem dX3_span_16 : decode cX3_span 16 = .ok (.iconst 0, 1) := by decide +kernel
theorem dX3_span_17 : decode cX3_span 17 = .ok (.iadd, 1) := by decide +kernel
theorem dX3_span_18 : decode cX3_span 18 = .ok (.aload_n 0, 1) := by decide +kernel
theorem dX3_span_19 : decode cX3_span 19 = .ok (.iconst 1, 1) := by decide +kernel
theorem dX3_span_20 : decode cX3_span 20 = .ok (.invokevirtual 187, 3) := by decide +kernel
theorem dX3_span_23 : decode cX3_span 23 = .ok (.ifCond .eq 7, 3) := by decide +kernel
theorem dX3_span_26 : decode cX3_span 26 = .ok (.iconst 1, 1) := by decide +kernel
theorem dX3_span_27 : decode cX3_span 27 = .ok (.goto 4, 3) := by decide +kernel
theorem dX3_span_30 : decode cX3_span 30 = .ok (.iconst 0, 1) := by decide +kernel
theorem dX3_span_31 : decode cX3_span 31 = .ok (.iadd, 1) := by decide +kernel
theorem dX3_span_32 : decode cX3_span 32 = .ok (.ireturn, 1) := by decide +kernel
theorem wX3_span_L17 {x : GX} {n0 sl0 : Nat} (X : Cx x cX3_span RX3 (some .int) n0 sl0 1 21) {out : Int32 × Mm} (hE : Ends x n0 sl0 (some (pI out.1)) out.2) (hn : xn x = 1) (fu : Nat)   (a0 : Nat) (s0 : Int32) (s1 : Int32) (M : Mm) (h : fX3_span_L17 fu  a0 s0 s1 M = some out) : Gw x M 17 [(0, pR (some a0))] [pI s1, pI s0] := by
  unfold fX3_span_L17 at h
  refine g_iadd X (pc := 17) dX3_span_17 ?_
  refine g_aload_n X (pc := 18) 0 rfl rfl dX3_span_18 ?_
  refine g_iconst X (pc := 19) (v := 1) dX3_span_19 (by decide) ?_
  obtain ⟨q1, eq1, h⟩ := bd h
  obtain ⟨v3, M2, eM2, h⟩ := b2d h
  refine g_callV X (pc := 20) (M' := M2) (ro := some (pI v3)) (c := 3) rfl (by decide) (as := [pI (1 : Int32)]) (as' := [pI (1 : Int32)]) (st := [pI (s0 + s1)]) eq1 (ctX3_has _ _ _ _ _ _ fu q1 (1 : Int32) M _ eM2) tb_835 tb_844 tb_833 tb_834 tb_5 ⟨rfl, hyX3_has⟩ rfl rfl ⟨by decide, by decide⟩ (Nat.le_of_ble_eq_true rfl) dX3_span_20 ?_
  refine g_if_eq X (pc := 23) (tgt := 30) dX3_span_23 (by decide) (fun hc => ?_) (fun hc => ?_)
  · have h := (if_pos hc).symm.trans h
    refine g_iconst X (pc := 30) (v := 0) dX3_span_30 (by decide) ?_
    refine g_iadd X (pc := 31) dX3_span_31 ?_
    obtain rfl := Option.some.inj h
    exact g_ireturn X hE dX3_span_32
  · have h := (if_neg hc).symm.trans h
    refine g_iconst X (pc := 26) (v := 1) dX3_span_26 (by decide) ?_
    refine g_goto X (pc := 27) (tgt := 31) dX3_span_27 (by decide) ?_
    refine g_iadd X (pc := 31) dX3_span_31 ?_
    obtain rfl := Option.some.inj h
    exact g_ireturn X hE dX3_span_32
theorem wX3_span {x : GX} {n0 sl0 : Nat} (X : Cx x cX3_span RX3 (some .int) n0 sl0 1 21) {out : Int32 × Mm} (hE : Ends x n0 sl0 (some (pI out.1)) out.2) (hn : xn x = 1) (fu : Nat)   (a0 : Nat)  (M : Mm) (h : fX3_span fu  a0 M = some out) : Gw x M 0 [(0, pR (some a0))] [] := by
  unfold fX3_span at h
  refine g_aload_n X (pc := 0) 0 rfl rfl dX3_span_0 ?_
  obtain ⟨v1, ev1, h⟩ := bd h
  refine g_getI X (pc := 1) fk_3_9 rfl rfl ev1 tb_182 dX3_span_1 ?_
  refine g_aload_n X (pc := 4) 0 rfl rfl dX3_span_4 ?_
  refine g_iconst X (pc := 5) (v := 2) dX3_span_5 (by decide) ?_
  obtain ⟨q2, eq2, h⟩ := bd h
  obtain ⟨v4, M3, eM3, h⟩ := b2d h
  refine g_callV X (pc := 6) (M' := M3) (ro := some (pI v4)) (c := 3) rfl (by decide) (as := [pI (2 : Int32)]) (as' := [pI (2 : Int32)]) (st := [pI v1]) eq2 (ctX3_has _ _ _ _ _ _ fu q2 (2 : Int32) M _ eM3) tb_835 tb_844 tb_833 tb_834 tb_5 ⟨rfl, hyX3_has⟩ rfl rfl ⟨by decide, by decide⟩ (Nat.le_of_ble_eq_true rfl) dX3_span_6 ?_
  refine g_if_eq X (pc := 9) (tgt := 16) dX3_span_9 (by decide) (fun hc => ?_) (fun hc => ?_)
  · have h := (if_pos hc).symm.trans h
    refine g_iconst X (pc := 16) (v := 0) dX3_span_16 (by decide) ?_
    exact wX3_span_L17 X hE hn fu   a0 v1 (0 : Int32) M3 h
  · have h := (if_neg hc).symm.trans h
    refine g_iconst X (pc := 12) (v := 1) dX3_span_12 (by decide) ?_
    refine g_goto X (pc := 13) (tgt := 17) dX3_span_13 (by decide) ?_
    exact wX3_span_L17 X hE hn fu   a0 v1 (1 : Int32) M3 h
theorem hyX3_span : yX3_span.cls ≠ "java/lang/invoke/MethodHandle" ∧ yX3_span.cls ≠ "java/lang/invoke/VarHandle" ∧ (parseMethodDescriptor yX3_span.desc).map (fun d => d.parameters.length) = some 0 := ⟨by decide +kernel, by decide +kernel, by decide +kernel⟩
theorem ctX3_span (l : Launch) (E : Nat → Nat) (D : va_G) (dA : Nat → ClassId) (lo : Nat) (H0 : Heap) (fu : Nat) (a0 : Nat) (M : Mm) (out : Int32 × Mm) (h : fX3_span fu a0 M = some out) : Ct l E D dA lo H0 yX3_span cX3_span 1 (some .int) 1 21 [pR (some a0)] M (some (pI out.1)) out.2 := by
  refine ct_of (by decide +kernel) (Nat.le_of_ble_eq_true rfl) ?_
  intro x hl he hd ha ho hh hn hin X hE
  exact wX3_span X hE hn fu a0 M h
/-! WebHost$Came.accepts(LWebHost$Intake;)Z -/
def fX0_accepts (fu : Nat)  (a0 : Nat) (a1 : Option Nat)  (M : Mm) : Option (Int32 × Mm) :=
    (rc M 3 a1).bind fun q1 =>
    b2 (fX3_span fu q1  M) fun v3 M2 =>
    (rc M2 0 (some a0)).bind fun q4 =>
    b2 (fX0_window fu q4  M2) fun v6 M5 =>
    if v6 = 0 then (
    if v3 = 0 then (
    (gI M5 3 196 a1).bind fun v15 =>
    (gI M5 0 1 (some a0)).bind fun v16 =>
    if v15 = v16 then (
    rN .boolean (1 : Int32) M5)
    else (
    rN .boolean (0 : Int32) M5))
    else (
    rN .boolean (0 : Int32) M5))
    else (
    (gI M5 3 196 a1).bind fun v7 =>
    (rc M5 0 (some a0)).bind fun q8 =>
    b2 (fX0_isInWindow fu q8 v7 M5) fun v10 M9 =>
    if v10 = 0 then (
    if v3 ≤ 0 then (
    rN .boolean (0 : Int32) M9)
    else (
    (gI M9 3 196 a1).bind fun v11 =>
    (rc M9 0 (some a0)).bind fun q12 =>
    b2 (fX0_isInWindow fu q12 ((v11 + v3) - (1 : Int32)) M9) fun v14 M13 =>
    if v14 = 0 then (
    rN .boolean (0 : Int32) M13)
    else (
    rN .boolean (1 : Int32) M13)))
    else (
    rN .boolean (1 : Int32) M9))
theorem dX0_accepts_0 : decode cX0_accepts 0 = .ok (.aload_n 1, 1) := by decide +kernel
theorem dX0_accepts_1 : decode cX0_accepts 1 = .ok (.invokevirtual 55, 3) := by decide +kernel
theorem dX0_accepts_4 : decode cX0_accepts 4 = .ok (.istore_n 2, 1) := by decide +kernel
theorem dX0_accepts_5 : decode cX0_accepts 5 = .ok (.aload_n 0, 1) := by decide +kernel
theorem dX0_accepts_6 : decode cX0_accepts 6 = .ok (.invokevirtual 52, 3) := by decide +kernel
theorem dX0_accepts_9 : decode cX0_accepts 9 = .ok (.ifCond .ne 24, 3) := by decide +kernel
theorem dX0_accepts_12 : decode cX0_accepts 12 = .ok (.iload_n 2, 1) := by decide +kernel
theorem dX0_accepts_13 : decode cX0_accepts 13 = .ok (.ifCond .ne 18, 3) := by decide +kernel
theorem dX0_accepts_16 : decode cX0_accepts 16 = .ok (.aload_n 1, 1) := by decide +kernel
theorem dX0_accepts_17 : decode cX0_accepts 17 = .ok (.getfield 60, 3) := by decide +kernel
theorem dX0_accepts_20 : decode cX0_accepts 20 = .ok (.aload_n 0, 1) := by decide +kernel
theorem dX0_accepts_21 : decode cX0_accepts 21 = .ok (.getfield 23, 3) := by decide +kernel
theorem dX0_accepts_24 : decode cX0_accepts 24 = .ok (.if_icmp .ne 7, 3) := by decide +kernel
theorem dX0_accepts_27 : decode cX0_accepts 27 = .ok (.iconst 1, 1) := by decide +kernel
theorem dX0_accepts_28 : decode cX0_accepts 28 = .ok (.goto 4, 3) := by decide +kernel
theorem dX0_accepts_31 : decode cX0_accepts 31 = .ok (.iconst 0, 1) := by decide +kernel
theorem dX0_accepts_32 : decode cX0_accepts 32 = .ok (.ireturn, 1) := by decide +kernel
theorem dX0_accepts_33 : decode cX0_accepts 33 = .ok (.aload_n 0, 1) := by decide +kernel
theorem dX0_accepts_34 : decode cX0_accepts 34 = .ok (.aload_n 1, 1) := by decide +kernel
theorem dX0_accepts_35 : decode cX0_accepts 35 = .ok (.getfield 60, 3) := by decide +kernel
theorem dX0_accepts_38 : decode cX0_accepts 38 = .ok (.invokevirtual 63, 3) := by decide +kernel
theorem dX0_accepts_41 : decode cX0_accepts 41 = .ok (.ifCond .ne 22, 3) := by decide +kernel
theorem dX0_accepts_44 : decode cX0_accepts 44 = .ok (.iload_n 2, 1) := by decide +kernel
theorem dX0_accepts_45 : decode cX0_accepts 45 = .ok (.ifCond .le 22, 3) := by decide +kernel
theorem dX0_accepts_48 : decode cX0_accepts 48 = .ok (.aload_n 0, 1) := by decide +kernel
theorem dX0_accepts_49 : decode cX0_accepts 49 = .ok (.aload_n 1, 1) := by decide +kernel
theorem dX0_accepts_50 : decode cX0_accepts 50 = .ok (.getfield 60, 3) := by decide +kernel
theorem dX0_accepts_53 : decode cX0_accepts 53 = .ok (.iload_n 2, 1) := by decide +kernel
theorem dX0_accepts_54 : decode cX0_accepts 54 = .ok (.iadd, 1) := by decide +kernel
theorem dX0_accepts_55 : decode cX0_accepts 55 = .ok (.iconst 1, 1) := by decide +kernel
theorem dX0_accepts_56 : decode cX0_accepts 56 = .ok (.isub, 1) := by decide +kernel
theorem dX0_accepts_57 : decode cX0_accepts 57 = .ok (.invokevirtual 63, 3) := by decide +kernel
theorem dX0_accepts_60 : decode cX0_accepts 60 = .ok (.ifCond .eq 7, 3) := by decide +kernel
theorem dX0_accepts_63 : decode cX0_accepts 63 = .ok (.iconst 1, 1) := by decide +kernel
theorem dX0_accepts_64 : decode cX0_accepts 64 = .ok (.goto 4, 3) := by decide +kernel
theorem dX0_accepts_67 : decode cX0_accepts 67 = .ok (.iconst 0, 1) := by decide +kernel
theorem dX0_accepts_68 : decode cX0_accepts 68 = .ok (.ireturn, 1) := by decide +kernel
theorem wX0_accepts {x : GX} {n0 sl0 : Nat} (X : Cx x cX0_accepts RX0 (some .boolean) n0 sl0 3 61) {out : Int32 × Mm} (hE : Ends x n0 sl0 (some (pI out.1)) out.2) (hn : xn x = 3) (fu : Nat)   (a0 : Nat) (a1 : Option Nat)  (M : Mm) (h : fX0_accepts fu  a0 a1 M = some out) : Gw x M 0 [(0, pR (some a0)), (1, pR a1)] [] := by
  unfold fX0_accepts at h
  refine g_aload_n X (pc := 0) 1 rfl rfl dX0_accepts_0 ?_
  obtain ⟨q1, eq1, h⟩ := bd h
  obtain ⟨v3, M2, eM2, h⟩ := b2d h
  refine g_callV X (pc := 1) (M' := M2) (ro := some (pI v3)) (c := 3) rfl (by decide) (as := []) (as' := []) (st := []) eq1 (ctX3_span _ _ _ _ _ _ fu q1  M _ eM2) tb_843 tb_1072 tb_841 tb_842 tb_5 ⟨rfl, hyX3_span⟩ rfl rfl ⟨by decide, by decide⟩ (Nat.le_of_ble_eq_true rfl) dX0_accepts_1 ?_
  refine g_istore_n X (pc := 4) [(2, pI v3), (0, pR (some a0)), (1, pR a1)] rfl (lt_n hn (by decide)) rfl dX0_accepts_4 ?_
  refine g_aload_n X (pc := 5) 1 rfl rfl dX0_accepts_5 ?_
  obtain ⟨q4, eq4, h⟩ := bd h
  obtain ⟨v6, M5, eM5, h⟩ := b2d h
  refine g_callV X (pc := 6) (M' := M5) (ro := some (pI v6)) (c := 0) rfl (by decide) (as := []) (as' := []) (st := []) eq4 (ctX0_window _ _ _ _ _ _ fu q4  M2 _ eM5) tb_601 tb_1073 tb_599 tb_600 tb_19 ⟨rfl, hyX0_window⟩ rfl rfl ⟨by decide, by decide⟩ (Nat.le_of_ble_eq_true rfl) dX0_accepts_6 ?_
  refine g_if_ne X (pc := 9) (tgt := 33) dX0_accepts_9 (by decide) (fun hc => ?_) (fun hc => ?_)
  · have h := (if_neg hc).symm.trans h
    refine g_aload_n X (pc := 33) 1 rfl rfl dX0_accepts_33 ?_
    refine g_aload_n X (pc := 34) 2 rfl rfl dX0_accepts_34 ?_
    obtain ⟨v7, ev7, h⟩ := bd h
    refine g_getI X (pc := 35) fk_3_4 rfl rfl ev7 tb_169 dX0_accepts_35 ?_
    obtain ⟨q8, eq8, h⟩ := bd h
    obtain ⟨v10, M9, eM9, h⟩ := b2d h
    refine g_callV X (pc := 38) (M' := M9) (ro := some (pI v10)) (c := 0) rfl (by decide) (as := [pI v7]) (as' := [pI v7]) (st := []) eq8 (ctX0_isInWindow _ _ _ _ _ _ fu q8 v7 M5 _ eM9) tb_1077 tb_1074 tb_1075 tb_1076 tb_19 ⟨rfl, hyX0_isInWindow⟩ rfl rfl ⟨by decide, by decide⟩ (Nat.le_of_ble_eq_true rfl) dX0_accepts_38 ?_
    refine g_if_ne X (pc := 41) (tgt := 63) dX0_accepts_41 (by decide) (fun hc => ?_) (fun hc => ?_)
    · have h := (if_neg hc).symm.trans h
      refine g_iconst X (pc := 63) (v := 1) dX0_accepts_63 (by decide) ?_
      refine g_goto X (pc := 64) (tgt := 68) dX0_accepts_64 (by decide) ?_
      obtain ⟨hz, rfl⟩ := rN_some h
      exact g_nreturn X rfl hz hE dX0_accepts_68
    · have h := (if_pos hc).symm.trans h
      refine g_iload_n X (pc := 44) 0 rfl rfl dX0_accepts_44 ?_
      refine g_if_le X (pc := 45) (tgt := 67) dX0_accepts_45 (by decide) (fun hc => ?_) (fun hc => ?_)
      · have h := (if_pos hc).symm.trans h
        refine g_iconst X (pc := 67) (v := 0) dX0_accepts_67 (by decide) ?_
        obtain ⟨hz, rfl⟩ := rN_some h
        exact g_nreturn X rfl hz hE dX0_accepts_68
      · have h := (if_neg hc).symm.trans h
        refine g_aload_n X (pc := 48) 1 rfl rfl dX0_accepts_48 ?_
        refine g_aload_n X (pc := 49) 2 rfl rfl dX0_accepts_49 ?_
        obtain ⟨v11, ev11, h⟩ := bd h
        refine g_getI X (pc := 50) fk_3_4 rfl rfl ev11 tb_169 dX0_accepts_50 ?_
        refine g_iload_n X (pc := 53) 0 rfl rfl dX0_accepts_53 ?_
        refine g_iadd X (pc := 54) dX0_accepts_54 ?_
        refine g_iconst X (pc := 55) (v := 1) dX0_accepts_55 (by decide) ?_
        refine g_isub X (pc := 56) dX0_accepts_56 ?_
        obtain ⟨q12, eq12, h⟩ := bd h
        obtain ⟨v14, M13, eM13, h⟩ := b2d h
        refine g_callV X (pc := 57) (M' := M13) (ro := some (pI v14)) (c := 0) rfl (by decide) (as := [pI ((v11 + v3) - (1 : Int32))]) (as' := [pI ((v11 + v3) - (1 : Int32))]) (st := []) eq12 (ctX0_isInWindow _ _ _ _ _ _ fu q12 ((v11 + v3) - (1 : Int32)) M9 _ eM13) tb_1077 tb_1074 tb_1075 tb_1076 tb_19 ⟨rfl, hyX0_isInWindow⟩ rfl rfl ⟨by decide, by decide⟩ (Nat.le_of_ble_eq_true rfl) dX0_accepts_57 ?_
        refine g_if_eq X (pc := 60) (tgt := 67) dX0_accepts_60 (by decide) (fun hc => ?_) (fun hc => ?_)
        · have h := (if_pos hc).symm.trans h
          refine g_iconst X (pc := 67) (v := 0) dX0_accepts_67 (by decide) ?_
          obtain ⟨hz, rfl⟩ := rN_some h
          exact g_nreturn X rfl hz hE dX0_accepts_68
        · have h := (if_neg hc).symm.trans h
          refine g_iconst X (pc := 63) (v := 1) dX0_accepts_63 (by decide) ?_
          refine g_goto X (pc := 64) (tgt := 68) dX0_accepts_64 (by decide) ?_
          obtain ⟨hz, rfl⟩ := rN_some h
          exact g_nreturn X rfl hz hE dX0_accepts_68
  · have h := (if_pos hc).symm.trans h
    refine g_iload_n X (pc := 12) 0 rfl rfl dX0_accepts_12 ?_
    refine g_if_ne X (pc := 13) (tgt := 31) dX0_accepts_13 (by decide) (fun hc => ?_) (fun hc => ?_)
    · have h := (if_neg hc).symm.trans h
      refine g_iconst X (pc := 31) (v := 0) dX0_accepts_31 (by decide) ?_
      obtain ⟨hz, rfl⟩ := rN_some h
      exact g_nreturn X rfl hz hE dX0_accepts_32
    · have h := (if_pos hc).symm.trans h
      refine g_aload_n X (pc := 16) 2 rfl rfl dX0_accepts_16 ?_
      obtain ⟨v15, ev15, h⟩ := bd h
      refine g_getI X (pc := 17) fk_3_4 rfl rfl ev15 tb_169 dX0_accepts_17 ?_
      refine g_aload_n X (pc := 20) 1 rfl rfl dX0_accepts_20 ?_
      obtain ⟨v16, ev16, h⟩ := bd h
      refine g_getI X (pc := 21) fk_0_1 rfl rfl ev16 tb_860 dX0_accepts_21 ?_
      refine g_icmp_ne X (pc := 24) (tgt := 31) dX0_accepts_24 (by decide) (fun hc => ?_) (fun hc => ?_)
      · have h := (if_neg hc).symm.trans h
        refine g_iconst X (pc := 31) (v := 0) dX0_accepts_31 (by decide) ?_
        obtain ⟨hz, rfl⟩ := rN_some h
        exact g_nreturn X rfl hz hE dX0_accepts_32
      · have h := (if_pos hc).symm.trans h
        refine g_iconst X (pc := 27) (v := 1) dX0_accepts_27 (by decide) ?_
        refine g_goto X (pc := 28) (tgt := 32) dX0_accepts_28 (by decide) ?_
        obtain ⟨hz, rfl⟩ := rN_some h
        exact g_nreturn X rfl hz hE dX0_accepts_32
theorem hyX0_accepts : yX0_accepts.cls ≠ "java/lang/invoke/MethodHandle" ∧ yX0_accepts.cls ≠ "java/lang/invoke/VarHandle" ∧ (parseMethodDescriptor yX0_accepts.desc).map (fun d => d.parameters.length) = some 1 := ⟨by decide +kernel, by decide +kernel, by decide +kernel⟩
theorem ctX0_accepts (l : Launch) (E : Nat → Nat) (D : va_G) (dA : Nat → ClassId) (lo : Nat) (H0 : Heap) (fu : Nat) (a0 : Nat) (a1 : Option Nat) (M : Mm) (out : Int32 × Mm) (h : fX0_accepts fu a0 a1 M = some out) : Ct l E D dA lo H0 yX0_accepts cX0_accepts 3 (some .boolean) 3 61 [pR (some a0), pR a1] M (some (pI out.1)) out.2 := by
  refine ct_of (by decide +kernel) (Nat.le_of_ble_eq_true rfl) ?_
  intro x hl he hd ha ho hh hn hin X hE
  exact wX0_accepts X hE hn fu a0 a1 M h
/-! WebHost.one([BI)I -/
def fX11_one (fu : Nat)  (a0 : Option Nat) (a1 : Int32)  (M : Mm) : Option (Int32 × Mm) :=
    if a1 < 0 then (
    some ((0 : Int32), M))
    else (
    (aL M 100 a0).bind fun v1 =>
    if v1 ≤ a1 then (
    some ((0 : Int32), M))
    else (
    (gA M 100 a0 a1).bind fun v2 =>
    some ((v2 &&& (255 : Int32)), M)))
theorem dX11_one_0 : decode cX11_one 0 = .ok (.iload_n 1, 1) := by decide +kernel
theorem dX11_one_1 : decode cX11_one 1 = .ok (.ifCond .lt 19, 3) := by decide +kernel
theorem dX11_one_4 : decode cX11_one 4 = .ok (.iload_n 1, 1) := by decide +kernel
theorem dX11_one_5 : decode cX11_one 5 = .ok (.aload_n 0, 1) := by decide +kernel
theorem dX11_one_6 : decode cX11_one 6 = .ok (.arraylength, 1) := by decide +kernel
theorem dX11_one_7 : decode cX11_one 7 = .ok (.if_icmp .ge 13, 3) := by decide +kernel
theorem dX11_one_10 : decode cX11_one 10 = .ok (.aload_n 0, 1) := by decide +kernel
theorem dX11_one_11 : decode cX11_one 11 = .ok (.iload_n 1, 1) := by decide +kernel
theorem dX11_one_12 : decode cX11_one 12 = .ok (.baload, 1) := by decide +kernel
theorem dX11_one_13 : decode cX11_one 13 = .ok (.sipush 255, 3) := by decide +kernel
theorem dX11_one_16 : decode cX11_one 16 = .ok (.iand, 1) := by decide +kernel
theorem dX11_one_17 : decode cX11_one 17 = .ok (.goto 4, 3) := by decide +kernel
theorem dX11_one_20 : decode cX11_one 20 = .ok (.iconst 0, 1) := by decide +kernel
theorem dX11_one_21 : decode cX11_one 21 = .ok (.ireturn, 1) := by decide +kernel
theorem wX11_one {x : GX} {n0 sl0 : Nat} (X : Cx x cX11_one RX11 (some .int) n0 sl0 0 0) {out : Int32 × Mm} (hE : Ends x n0 sl0 (some (pI out.1)) out.2) (hn : xn x = 2) (fu : Nat)   (a0 : Option Nat) (a1 : Int32)  (M : Mm) (h : fX11_one fu  a0 a1 M = some out) : Gw x M 0 [(0, pR a0), (1, pI a1)] [] := by
  unfold fX11_one at h
  refine g_iload_n X (pc := 0) 1 rfl rfl dX11_one_0 ?_
  refine g_if_lt X (pc := 1) (tgt := 20) dX11_one_1 (by decide) (fun hc => ?_) (fun hc => ?_)
  · have h := (if_pos hc).symm.trans h
    refine g_iconst X (pc := 20) (v := 0) dX11_one_20 (by decide) ?_
    obtain rfl := Option.some.inj h
    exact g_ireturn X hE dX11_one_21
  · have h := (if_neg hc).symm.trans h
    refine g_iload_n X (pc := 4) 1 rfl rfl dX11_one_4 ?_
    refine g_aload_n X (pc := 5) 0 rfl rfl dX11_one_5 ?_
    obtain ⟨v1, ev1, h⟩ := bd h
    refine g_alen X (pc := 6) (k := 0) rfl (by decide) ev1 dX11_one_6 ?_
    refine g_icmp_ge X (pc := 7) (tgt := 20) dX11_one_7 (by decide) (fun hc => ?_) (fun hc => ?_)
    · have h := (if_pos hc).symm.trans h
      refine g_iconst X (pc := 20) (v := 0) dX11_one_20 (by decide) ?_
      obtain rfl := Option.some.inj h
      exact g_ireturn X hE dX11_one_21
    · have h := (if_neg hc).symm.trans h
      refine g_aload_n X (pc := 10) 0 rfl rfl dX11_one_10 ?_
      refine g_iload_n X (pc := 11) 1 rfl rfl dX11_one_11 ?_
      obtain ⟨v2, ev2, h⟩ := bd h
      refine g_baload X (pc := 12) ev2 dX11_one_12 ?_
      refine g_sipush X (pc := 13) (v := 255) dX11_one_13 (by decide) ?_
      refine g_iand X (pc := 16) dX11_one_16 ?_
      refine g_goto X (pc := 17) (tgt := 21) dX11_one_17 (by decide) ?_
      obtain rfl := Option.some.inj h
      exact g_ireturn X hE dX11_one_21
theorem hyX11_one : yX11_one.cls ≠ "java/lang/invoke/MethodHandle" ∧ yX11_one.cls ≠ "java/lang/invoke/VarHandle" ∧ (parseMethodDescriptor yX11_one.desc).map (fun d => d.parameters.length) = some 2 := ⟨by decide +kernel, by decide +kernel, by decide +kernel⟩
theorem ctX11_one (l : Launch) (E : Nat → Nat) (D : va_G) (dA : Nat → ClassId) (lo : Nat) (H0 : Heap) (fu : Nat) (a0 : Option Nat) (a1 : Int32) (M : Mm) (out : Int32 × Mm) (h : fX11_one fu a0 a1 M = some out) : Ct l E D dA lo H0 yX11_one cX11_one 2 (some .int) 0 0 [pR a0, pI a1] M (some (pI out.1)) out.2 := by
  refine ct_of (by decide +kernel) (Nat.le_of_ble_eq_true rfl) ?_
  intro x hl he hd ha ho hh hn hin X hE
  exact wX11_one X hE hn fu a0 a1 M h
/-! WebHost$Came.putAhead(LWebHost$Intake;)V -/
def fX0_putAhead_L110 (fu : Nat) (k7 : Nat → Option Nat → Int32 → Int32 → Mm → Option (Mm)) (a0 : Nat) (a1 : Option Nat) (a2 : Int32) (a3 : Int32)  (M : Mm) : Option (Mm) :=
    k7 a0 a1 a2 (a3 + (1 : Int32)) M
def fX0_putAhead_L7 (fu : Nat)  : Nat → Nat → Option Nat → Int32 → Int32 → Mm → Option (Mm)
  | 0, _, _, _, _, _ => none
  | n + 1, a0, a1, a2, a3, M =>
    (gI M 3 201 a1).bind fun v1 =>
    if v1 ≤ a3 then (
    some M)
    else (
    (gI M 3 196 a1).bind fun v2 =>
    (gI M 0 1 (some a0)).bind fun v3 =>
    (some ((1 : Int32) <<< ((((v2 + a3) &&& (4095 : Int32)) &&& (31 : Int32)) &&& 31))).bind fun v4 =>
    if ((v2 + a3) - v3) < 0 then (
    fX0_putAhead_L110 fu (fun b0 b1 b2 b3 M => fX0_putAhead_L7 fu  n b0 b1 b2 b3 M) a0 a1 a2 a3 M)
    else (
    if a2 ≤ ((v2 + a3) - v3) then (
    fX0_putAhead_L110 fu (fun b0 b1 b2 b3 M => fX0_putAhead_L7 fu  n b0 b1 b2 b3 M) a0 a1 a2 a3 M)
    else (
    (gR M 0 6 (some a0)).bind fun v5 =>
    (gA M 101 v5 (((v2 + a3) &&& (4095 : Int32)) >>> ((5 : Int32) &&& 31))).bind fun v6 =>
    if (v6 &&& v4) = 0 then (
    (gR M 0 6 (some a0)).bind fun v7 =>
    (gA M 101 v7 (((v2 + a3) &&& (4095 : Int32)) >>> ((5 : Int32) &&& 31))).bind fun v8 =>
    (pA M 101 v7 (((v2 + a3) &&& (4095 : Int32)) >>> ((5 : Int32) &&& 31)) (v8 ||| v4)).bind fun M9 =>
    (gR M9 0 5 (some a0)).bind fun v10 =>
    (gR M9 3 192 a1).bind fun v11 =>
    (gI M9 3 200 a1).bind fun v12 =>
    b2 (fX11_one fu  v11 (v12 + a3) M9) fun v14 M13 =>
    (pA M13 100 v10 ((v2 + a3) &&& (4095 : Int32)) (Int8.toInt32 (Int32.toInt8 (Int8.toInt32 (Int32.toInt8 v14))))).bind fun M15 =>
    fX0_putAhead_L110 fu (fun b0 b1 b2 b3 M => fX0_putAhead_L7 fu  n b0 b1 b2 b3 M) a0 a1 a2 a3 M15)
    else (
    fX0_putAhead_L110 fu (fun b0 b1 b2 b3 M => fX0_putAhead_L7 fu  n b0 b1 b2 b3 M) a0 a1 a2 a3 M))))
def fX0_putAhead (fu : Nat)  (a0 : Nat) (a1 : Option Nat)  (M : Mm) : Option (Mm) :=
    (rc M 0 (some a0)).bind fun q1 =>
    b2 (fX0_window fu q1  M) fun v3 M2 =>
    fX0_putAhead_L7 fu  fu a0 a1 v3 (0 : Int32) M2
theorem dX0_putAhead_0 : decode cX0_putAhead 0 = .ok (.aload_n 0, 1) := by decide +kernel
theorem dX0_putAhead_1 : decode cX0_putAhead 1 = .ok (.invokevirtual 52, 3) := by decide +kernel
theorem dX0_putAhead_4 : decode cX0_putAhead 4 = .ok (.istore_n 2, 1) := by decide +kernel
theorem dX0_putAhead_5 : decode cX0_putAhead 5 = .ok (.iconst 0, 1) := by decide +kernel
theorem dX0_putAhead_6 : decode cX0_putAhead 6 = .ok (.istore_n 3, 1) := by decide +kernel
theorem dX0_putAhead_7 : decode cX0_putAhead 7 = .ok (.iload_n 3, 1) := by decide +kernel
theorem dX0_putAhead_8 : decode cX0_putAhead 8 = .ok (.aload_n 1, 1) := by decide +kernel
theorem dX0_putAhead_9 : decode cX0_putAhead 9 = .ok (.getfield 67, 3) := by decide +kernel
theorem dX0_putAhead_12 : decode cX0_putAhead 12 = .ok (.if_icmp .ge 104, 3) := by decide +kernel
theorem dX0_putAhead_15 : decode cX0_putAhead 15 = .ok (.aload_n 1, 1) := by decide +kernel
theorem dX0_putAhead_16 : decode cX0_putAhead 16 = .ok (.getfield 60, 3) := by decide +kernel
theorem dX0_putAhead_19 : decode cX0_putAhead 19 = .ok (.iload_n 3, 1) := by decide +kernel
theorem dX0_putAhead_20 : decode cX0_putAhead 20 = .ok (.iadd, 1) := by decide +kernel
theorem dX0_putAhead_21 : decode cX0_putAhead 21 = .ok (.istore 4, 2) := by decide +kernel
theorem dX0_putAhead_23 : decode cX0_putAhead 23 = .ok (.iload 4, 2) := by decide +kernel
theorem dX0_putAhead_25 : decode cX0_putAhead 25 = .ok (.aload_n 0, 1) := by decide +kernel
theorem dX0_putAhead_26 : decode cX0_putAhead 26 = .ok (.getfield 23, 3) := by decide +kernel
theorem dX0_putAhead_29 : decode cX0_putAhead 29 = .ok (.isub, 1) := by decide +kernel
theorem dX0_putAhead_30 : decode cX0_putAhead 30 = .ok (.istore 5, 2) := by decide +kernel
theorem dX0_putAhead_32 : decode cX0_putAhead 32 = .ok (.iload 4, 2) := by decide +kernel
theorem dX0_putAhead_34 : decode cX0_putAhead 34 = .ok (.sipush 4095, 3) := by decide +kernel
theorem dX0_putAhead_37 : decode cX0_putAhead 37 = .ok (.iand, 1) := by decide +kernel
theorem dX0_putAhead_38 : decode cX0_putAhead 38 = .ok (.istore 6, 2) := by decide +kernel
theorem dX0_putAhead_40 : decode cX0_putAhead 40 = .ok (.iconst 1, 1) := by decide +kernel
theorem dX0_putAhead_41 : decode cX0_putAhead 41 = .ok (.iload 6, 2) := by decide +kernel
theorem dX0_putAhead_43 : decode cX0_putAhead 43 = .ok (.bipush 31, 2) := by decide +kernel
theorem dX0_putAhead_45 : decode cX0_putAhead 45 = .ok (.iand, 1) := by decide +kernel
theorem dX0_putAhead_46 : decode cX0_putAhead 46 = .ok (.ishl, 1) := by decide +kernel
theorem dX0_putAhead_47 : decode cX0_putAhead 47 = .ok (.istore 7, 2) := by decide +kernel
theorem dX0_putAhead_49 : decode cX0_putAhead 49 = .ok (.iload 5, 2) := by decide +kernel
theorem dX0_putAhead_51 : decode cX0_putAhead 51 = .ok (.ifCond .lt 59, 3) := by decide +kernel
theorem dX0_putAhead_54 : decode cX0_putAhead 54 = .ok (.iload 5, 2) := by decide +kernel
theorem dX0_putAhead_56 : decode cX0_putAhead 56 = .ok (.iload_n 2, 1) := by decide +kernel
theorem dX0_putAhead_57 : decode cX0_putAhead 57 = .ok (.if_icmp .ge 53, 3) := by decide +kernel
theorem dX0_putAhead_60 : decode cX0_putAhead 60 = .ok (.aload_n 0, 1) := by decide +kernel
theorem dX0_putAhead_61 : decode cX0_putAhead 61 = .ok (.getfield 15, 3) := by decide +kernel
theorem dX0_putAhead_64 : decode cX0_putAhead 64 = .ok (.iload 6, 2) := by decide +kernel
theorem dX0_putAhead_66 : decode cX0_putAhead 66 = .ok (.iconst 5, 1) := by decide +kernel
theorem dX0_putAhead_67 : decode cX0_putAhead 67 = .ok (.ishr, 1) := by decide +kernel
theorem dX0_putAhead_68 : decode cX0_putAhead 68 = .ok (.iaload, 1) := by decide +kernel
theorem dX0_putAhead_69 : decode cX0_putAhead 69 = .ok (.iload 7, 2) := by decide +kernel
theorem dX0_putAhead_71 : decode cX0_putAhead 71 = .ok (.iand, 1) := by decide +kernel
theorem dX0_putAhead_72 : decode cX0_putAhead 72 = .ok (.ifCond .ne 38, 3) := by decide +kernel
theorem dX0_putAhead_75 : decode cX0_putAhead 75 = .ok (.aload_n 0, 1) := by decide +kernel
theorem dX0_putAhead_76 : decode cX0_putAhead 76 = .ok (.getfield 15, 3) := by decide +kernel
theorem dX0_putAhead_79 : decode cX0_putAhead 79 = .ok (.iload 6, 2) := by decide +kernel
theorem dX0_putAhead_81 : decode cX0_putAhead 81 = .ok (.iconst 5, 1) := by decide +kernel
theorem dX0_putAhead_82 : decode cX0_putAhead 82 = .ok (.ishr, 1) := by decide +kernel
theorem dX0_putAhead_83 : decode cX0_putAhead 83 = .ok (.dup2, 1) := by decide +kernel
theorem dX0_putAhead_84 : decode cX0_putAhead 84 = .ok (.iaload, 1) := by decide +kernel
theorem dX0_putAhead_85 : decode cX0_putAhead 85 = .ok (.iload 7, 2) := by decide +kernel
theorem dX0_putAhead_87 : decode cX0_putAhead 87 = .ok (.ior, 1) := by decide +kernel
theorem dX0_putAhead_88 : decode cX0_putAhead 88 = .ok (.iastore, 1) := by decide +kernel
theorem dX0_putAhead_89 : decode cX0_putAhead 89 = .ok (.aload_n 0, 1) := by decide +kernel
theorem dX0_putAhead_90 : decode cX0_putAhead 90 = .ok (.getfield 11, 3) := by decide +kernel
theorem dX0_putAhead_93 : decode cX0_putAhead 93 = .ok (.iload 6, 2) := by decide +kernel
theorem dX0_putAhead_95 : decode cX0_putAhead 95 = .ok (.aload_n 1, 1) := by decide +kernel
theorem dX0_putAhead_96 : decode cX0_putAhead 96 = .ok (.getfield 83, 3) := by decide +kernel
theorem dX0_putAhead_99 : decode cX0_putAhead 99 = .ok (.aload_n 1, 1) := by decide +kernel
theorem dX0_putAhead_100 : decode cX0_putAhead 100 = .ok (.getfield 86, 3) := by decide +kernel
theorem dX0_putAhead_103 : decode cX0_putAhead 103 = .ok (.iload_n 3, 1) := by decide +kernel
theorem dX0_putAhead_104 : decode cX0_putAhead 104 = .ok (.iadd, 1) := by decide +kernel
theorem dX0_putAhead_105 : decode cX0_putAhead 105 = .ok (.invokestatic 89, 3) := by decide +kernel
theorem dX0_putAhead_108 : decode cX0_putAhead 108 = .ok (.i2b, 1) := by decide +kernel
theorem dX0_putAhead_109 : decode cX0_putAhead 109 = .ok (.bastore, 1) := by decide +kernel
theorem dX0_putAhead_110 : decode cX0_putAhead 110 = .ok (.iinc 3 1, 3) := by decide +kernel
theorem dX0_putAhead_113 : decode cX0_putAhead 113 = .ok (.goto (-106), 3) := by decide +kernel
theorem dX0_putAhead_116 : decode cX0_putAhead 116 = .ok (.return_, 1) := by decide +kernel
theorem wX0_putAhead_L110 {x : GX} {n0 sl0 : Nat} (X : Cx x cX0_putAhead RX0 none n0 sl0 2 40) {out : Mm} (hE : Ends x n0 sl0 none out) (hn : xn x = 8) (fu : Nat) (k7 : Nat → Option Nat → Int32 → Int32 → Mm → Option (Mm)) (hk7 : ∀ (b0 : Nat) (b1 : Option Nat) (b2 : Int32) (b3 : Int32)  (M : Mm), k7 b0 b1 b2 b3 M = some out → Gw x M 7 [(0, pR (some b0)), (1, pR b1), (2, pI b2), (3, pI b3)] []) (a0 : Nat) (a1 : Option Nat) (a2 : Int32) (a3 : Int32)  (M : Mm) (h : fX0_putAhead_L110 fu k7 a0 a1 a2 a3 M = some out) : Gw x M 110 [(0, pR (some a0)), (1, pR a1), (2, pI a2), (3, pI a3)] [] := by
  unfold fX0_putAhead_L110 at h
  refine g_iinc X (pc := 110) 3 [(3, pI (a3 + (1 : Int32))), (0, pR (some a0)), (1, pR a1), (2, pI a2)] rfl (iinc_e (by decide)) (lt_n hn (by decide)) rfl dX0_putAhead_110 ?_
  refine g_goto X (pc := 113) (tgt := 7) dX0_putAhead_113 (by decide) ?_
  refine g_sub [1, 2, 3, 0] [(0, pR (some a0)), (1, pR a1), (2, pI a2), (3, pI (a3 + (1 : Int32)))] rfl ?_
  exact hk7 a0 a1 a2 (a3 + (1 : Int32)) M h
theorem wX0_putAhead_L7 {x : GX} {n0 sl0 : Nat} (X : Cx x cX0_putAhead RX0 none n0 sl0 2 40) {out : Mm} (hE : Ends x n0 sl0 none out) (hn : xn x = 8) (fu : Nat)   : ∀ (n : Nat) (a0 : Nat) (a1 : Option Nat) (a2 : Int32) (a3 : Int32)  (M : Mm), fX0_putAhead_L7 fu  n a0 a1 a2 a3 M = some out → Gw x M 7 [(0, pR (some a0)), (1, pR a1), (2, pI a2), (3, pI a3)] [] := by
  intro n
  induction n with
  | zero =>
    intro a0 a1 a2 a3 M h
    have h : (none : Option (Mm)) = some out := h
    cases h
  | succ n ih =>
    intro a0 a1 a2 a3 M h
    rw [fX0_putAhead_L7] at h
    refine g_iload_n X (pc := 7) 3 rfl rfl dX0_putAhead_7 ?_
    refine g_aload_n X (pc := 8) 1 rfl rfl dX0_putAhead_8 ?_
    obtain ⟨v1, ev1, h⟩ := bd h
    refine g_getI X (pc := 9) fk_3_9 rfl rfl ev1 tb_181 dX0_putAhead_9 ?_
    refine g_icmp_ge X (pc := 12) (tgt := 116) dX0_putAhead_12 (by decide) (fun hc => ?_) (fun hc => ?_)
    · have h := (if_pos hc).symm.trans h
      obtain rfl := Option.some.inj h
      exact g_return X hE dX0_putAhead_116
    · have h := (if_neg hc).symm.trans h
      refine g_aload_n X (pc := 15) 1 rfl rfl dX0_putAhead_15 ?_
      obtain ⟨v2, ev2, h⟩ := bd h
      refine g_getI X (pc := 16) fk_3_4 rfl rfl ev2 tb_169 dX0_putAhead_16 ?_
      refine g_iload_n X (pc := 19) 3 rfl rfl dX0_putAhead_19 ?_
      refine g_iadd X (pc := 20) dX0_putAhead_20 ?_
      refine g_istore X (pc := 21) [(4, pI (v2 + a3)), (0, pR (some a0)), (1, pR a1), (2, pI a2), (3, pI a3)] (lt_n hn (by decide)) rfl dX0_putAhead_21 ?_
      refine g_iload X (pc := 23) 0 rfl dX0_putAhead_23 ?_
      refine g_aload_n X (pc := 25) 1 rfl rfl dX0_putAhead_25 ?_
      obtain ⟨v3, ev3, h⟩ := bd h
      refine g_getI X (pc := 26) fk_0_1 rfl rfl ev3 tb_860 dX0_putAhead_26 ?_
      refine g_isub X (pc := 29) dX0_putAhead_29 ?_
      refine g_istore X (pc := 30) [(5, pI ((v2 + a3) - v3)), (4, pI (v2 + a3)), (0, pR (some a0)), (1, pR a1), (2, pI a2), (3, pI a3)] (lt_n hn (by decide)) rfl dX0_putAhead_30 ?_
      refine g_iload X (pc := 32) 1 rfl dX0_putAhead_32 ?_
      refine g_sipush X (pc := 34) (v := 4095) dX0_putAhead_34 (by decide) ?_
      refine g_iand X (pc := 37) dX0_putAhead_37 ?_
      refine g_istore X (pc := 38) [(6, pI ((v2 + a3) &&& (4095 : Int32))), (5, pI ((v2 + a3) - v3)), (4, pI (v2 + a3)), (0, pR (some a0)), (1, pR a1), (2, pI a2), (3, pI a3)] (lt_n hn (by decide)) rfl dX0_putAhead_38 ?_
      refine g_iconst X (pc := 40) (v := 1) dX0_putAhead_40 (by decide) ?_
      refine g_iload X (pc := 41) 0 rfl dX0_putAhead_41 ?_
      refine g_bipush X (pc := 43) (v := 31) dX0_putAhead_43 (by decide) ?_
      refine g_iand X (pc := 45) dX0_putAhead_45 ?_
      refine g_ishl X (pc := 46) dX0_putAhead_46 ?_
      obtain ⟨v4, ev4, h⟩ := bd h
      refine g_nmI ev4 ?_
      refine g_istore X (pc := 47) [(7, pI v4), (6, pI ((v2 + a3) &&& (4095 : Int32))), (5, pI ((v2 + a3) - v3)), (4, pI (v2 + a3)), (0, pR (some a0)), (1, pR a1), (2, pI a2), (3, pI a3)] (lt_n hn (by decide)) rfl dX0_putAhead_47 ?_
      refine g_iload X (pc := 49) 2 rfl dX0_putAhead_49 ?_
      refine g_if_lt X (pc := 51) (tgt := 110) dX0_putAhead_51 (by decide) (fun hc => ?_) (fun hc => ?_)
      · have h := (if_pos hc).symm.trans h
        refine g_sub [4, 5, 6, 7] [(0, pR (some a0)), (1, pR a1), (2, pI a2), (3, pI a3)] rfl ?_
        exact wX0_putAhead_L110 X hE hn fu (fun b0 b1 b2 b3 M => fX0_putAhead_L7 fu  n b0 b1 b2 b3 M) ih a0 a1 a2 a3 M h
      · have h := (if_neg hc).symm.trans h
        refine g_iload X (pc := 54) 2 rfl dX0_putAhead_54 ?_
        refine g_iload_n X (pc := 56) 6 rfl rfl dX0_putAhead_56 ?_
        refine g_icmp_ge X (pc := 57) (tgt := 110) dX0_putAhead_57 (by decide) (fun hc => ?_) (fun hc => ?_)
        · have h := (if_pos hc).symm.trans h
          refine g_sub [4, 5, 6, 7] [(0, pR (some a0)), (1, pR a1), (2, pI a2), (3, pI a3)] rfl ?_
          exact wX0_putAhead_L110 X hE hn fu (fun b0 b1 b2 b3 M => fX0_putAhead_L7 fu  n b0 b1 b2 b3 M) ih a0 a1 a2 a3 M h
        · have h := (if_neg hc).symm.trans h
          refine g_aload_n X (pc := 60) 4 rfl rfl dX0_putAhead_60 ?_
          obtain ⟨v5, ev5, h⟩ := bd h
          refine g_getR X (pc := 61) fk_0_6 rfl rfl ev5 tb_870 dX0_putAhead_61 ?_
          refine g_iload X (pc := 64) 1 rfl dX0_putAhead_64 ?_
          refine g_iconst X (pc := 66) (v := 5) dX0_putAhead_66 (by decide) ?_
          refine g_ishr X (pc := 67) dX0_putAhead_67 ?_
          obtain ⟨v6, ev6, h⟩ := bd h
          refine g_iaload X (pc := 68) ev6 dX0_putAhead_68 ?_
          refine g_iload X (pc := 69) 0 rfl dX0_putAhead_69 ?_
          refine g_iand X (pc := 71) dX0_putAhead_71 ?_
          refine g_if_ne X (pc := 72) (tgt := 110) dX0_putAhead_72 (by decide) (fun hc => ?_) (fun hc => ?_)
          · have h := (if_neg hc).symm.trans h
            refine g_sub [4, 5, 6, 7] [(0, pR (some a0)), (1, pR a1), (2, pI a2), (3, pI a3)] rfl ?_
            exact wX0_putAhead_L110 X hE hn fu (fun b0 b1 b2 b3 M => fX0_putAhead_L7 fu  n b0 b1 b2 b3 M) ih a0 a1 a2 a3 M h
          · have h := (if_pos hc).symm.trans h
            refine g_aload_n X (pc := 75) 4 rfl rfl dX0_putAhead_75 ?_
            obtain ⟨v7, ev7, h⟩ := bd h
            refine g_getR X (pc := 76) fk_0_6 rfl rfl ev7 tb_870 dX0_putAhead_76 ?_
            refine g_iload X (pc := 79) 1 rfl dX0_putAhead_79 ?_
            refine g_iconst X (pc := 81) (v := 5) dX0_putAhead_81 (by decide) ?_
            refine g_ishr X (pc := 82) dX0_putAhead_82 ?_
            refine g_dup2 X (pc := 83) rfl rfl dX0_putAhead_83 ?_
            obtain ⟨v8, ev8, h⟩ := bd h
            refine g_iaload X (pc := 84) ev8 dX0_putAhead_84 ?_
            refine g_iload X (pc := 85) 0 rfl dX0_putAhead_85 ?_
            refine g_ior X (pc := 87) dX0_putAhead_87 ?_
            obtain ⟨M9, eM9, h⟩ := bd h
            refine g_iastore X (pc := 88) eM9 dX0_putAhead_88 ?_
            refine g_aload_n X (pc := 89) 4 rfl rfl dX0_putAhead_89 ?_
            obtain ⟨v10, ev10, h⟩ := bd h
            refine g_getR X (pc := 90) fk_0_5 rfl rfl ev10 tb_869 dX0_putAhead_90 ?_
            refine g_iload X (pc := 93) 1 rfl dX0_putAhead_93 ?_
            refine g_aload_n X (pc := 95) 5 rfl rfl dX0_putAhead_95 ?_
            obtain ⟨v11, ev11, h⟩ := bd h
            refine g_getR X (pc := 96) fk_3_0 rfl rfl ev11 tb_159 dX0_putAhead_96 ?_
            refine g_aload_n X (pc := 99) 5 rfl rfl dX0_putAhead_99 ?_
            obtain ⟨v12, ev12, h⟩ := bd h
            refine g_getI X (pc := 100) fk_3_8 rfl rfl ev12 tb_179 dX0_putAhead_100 ?_
            refine g_iload_n X (pc := 103) 7 rfl rfl dX0_putAhead_103 ?_
            refine g_iadd X (pc := 104) dX0_putAhead_104 ?_
            obtain ⟨v14, M13, eM13, h⟩ := b2d h
            refine g_callSN X (pc := 105) (M' := M13) (ro := some (pI v14)) (as := [pR v11, pI (v12 + a3)]) (as' := [pI (v12 + a3), pR v11]) (st := [pI ((v2 + a3) &&& (4095 : Int32)), pR v10]) (ctX11_one _ _ _ _ _ _ fu  v11 (v12 + a3) M9 _ eM13) tb_415 (List.mem_of_getElem? (i := 23) rfl) tb_414 tb_1 hyX11_one rfl rfl ⟨by decide, by decide⟩ (Nat.le_of_ble_eq_true rfl) dX0_putAhead_105 ?_
            refine g_i2b X (pc := 108) dX0_putAhead_108 ?_
            obtain ⟨M15, eM15, h⟩ := bd h
            refine g_bastore X (pc := 109) eM15 dX0_putAhead_109 ?_
            refine g_sub [4, 5, 6, 7] [(0, pR (some a0)), (1, pR a1), (2, pI a2), (3, pI a3)] rfl ?_
            exact wX0_putAhead_L110 X hE hn fu (fun b0 b1 b2 b3 M => fX0_putAhead_L7 fu  n b0 b1 b2 b3 M) ih a0 a1 a2 a3 M15 h
theorem wX0_putAhead {x : GX} {n0 sl0 : Nat} (X : Cx x cX0_putAhead RX0 none n0 sl0 2 40) {out : Mm} (hE : Ends x n0 sl0 none out) (hn : xn x = 8) (fu : Nat)   (a0 : Nat) (a1 : Option Nat)  (M : Mm) (h : fX0_putAhead fu  a0 a1 M = some out) : Gw x M 0 [(0, pR (some a0)), (1, pR a1)] [] := by
  unfold fX0_putAhead at h
  refine g_aload_n X (pc := 0) 0 rfl rfl dX0_putAhead_0 ?_
  obtain ⟨q1, eq1, h⟩ := bd h
  obtain ⟨v3, M2, eM2, h⟩ := b2d h
  refine g_callV X (pc := 1) (M' := M2) (ro := some (pI v3)) (c := 0) rfl (by decide) (as := []) (as' := []) (st := []) eq1 (ctX0_window _ _ _ _ _ _ fu q1  M _ eM2) tb_601 tb_1073 tb_599 tb_600 tb_19 ⟨rfl, hyX0_window⟩ rfl rfl ⟨by decide, by decide⟩ (Nat.le_of_ble_eq_true rfl) dX0_putAhead_1 ?_
  refine g_istore_n X (pc := 4) [(2, pI v3), (0, pR (some a0)), (1, pR a1)] rfl (lt_n hn (by decide)) rfl dX0_putAhead_4 ?_
  refine g_iconst X (pc := 5) (v := 0) dX0_putAhead_5 (by decide) ?_
  refine g_istore_n X (pc := 6) [(3, pI (0 : Int32)), (2, pI v3), (0, pR (some a0)), (1, pR a1)] rfl (lt_n hn (by decide)) rfl dX0_putAhead_6 ?_
  refine g_sub [2, 3, 1, 0] [(0, pR (some a0)), (1, pR a1), (2, pI v3), (3, pI (0 : Int32))] rfl ?_
  exact wX0_putAhead_L7 X hE hn fu   fu a0 a1 v3 (0 : Int32) M2 h
theorem hyX0_putAhead : yX0_putAhead.cls ≠ "java/lang/invoke/MethodHandle" ∧ yX0_putAhead.cls ≠ "java/lang/invoke/VarHandle" ∧ (parseMethodDescriptor yX0_putAhead.desc).map (fun d => d.parameters.length) = some 1 := ⟨by decide +kernel, by decide +kernel, by decide +kernel⟩
theorem ctX0_putAhead (l : Launch) (E : Nat → Nat) (D : va_G) (dA : Nat → ClassId) (lo : Nat) (H0 : Heap) (fu : Nat) (a0 : Nat) (a1 : Option Nat) (M : Mm) (out : Mm) (h : fX0_putAhead fu a0 a1 M = some out) : Ct l E D dA lo H0 yX0_putAhead cX0_putAhead 8 none 2 40 [pR (some a0), pR a1] M none out := by
  refine ct_of (by decide +kernel) (Nat.le_of_ble_eq_true rfl) ?_
  intro x hl he hd ha ho hh hn hin X hE
  exact wX0_putAhead X hE hn fu a0 a1 M h
/-! WebHost$Came.goOverWhatIsThere()V -/
def fX0_goOverWhatIsThere_L2 (fu : Nat)  : Nat → Nat → Int32 → Mm → Option (Mm)
  | 0, _, _, _ => none
  | n + 1, a0, a1, M =>
    if (4096 : Int32) ≤ a1 then (
    some M)
    else (
    (gI M 0 1 (some a0)).bind fun v1 =>
    (some ((1 : Int32) <<< (((v1 &&& (4095 : Int32)) &&& (31 : Int32)) &&& 31))).bind fun v2 =>
    (gR M 0 6 (some a0)).bind fun v3 =>
    (gA M 101 v3 ((v1 &&& (4095 : Int32)) >>> ((5 : Int32) &&& 31))).bind fun v4 =>
    if (v4 &&& v2) = 0 then (
    some M)
    else (
    (gR M 0 6 (some a0)).bind fun v5 =>
    (gA M 101 v5 ((v1 &&& (4095 : Int32)) >>> ((5 : Int32) &&& 31))).bind fun v6 =>
    (pA M 101 v5 ((v1 &&& (4095 : Int32)) >>> ((5 : Int32) &&& 31)) (v6 &&& (v2 ^^^ (-1 : Int32)))).bind fun M7 =>
    (gI M7 0 1 (some a0)).bind fun v8 =>
    (pF M7 0 1 (some a0) (v8 + (1 : Int32))).bind fun M9 =>
    fX0_goOverWhatIsThere_L2 fu  n a0 (a1 + (1 : Int32)) M9))
def fX0_goOverWhatIsThere (fu : Nat)  (a0 : Nat)  (M : Mm) : Option (Mm) :=
    fX0_goOverWhatIsThere_L2 fu  fu a0 (0 : Int32) M
theorem dX0_goOverWhatIsThere_0 : decode cX0_goOverWhatIsThere 0 = .ok (.iconst 0, 1) := by decide +kernel
theorem dX0_goOverWhatIsThere_1 : decode cX0_goOverWhatIsThere 1 = .ok (.istore_n 1, 1) := by decide +kernel
theorem dX0_goOverWhatIsThere_2 : decode cX0_goOverWhatIsThere 2 = .ok (.iload_n 1, 1) := by decide +kernel
theorem dX0_goOverWhatIsThere_3 : decode cX0_goOverWhatIsThere 3 = .ok (.sipush 4096, 3) := by decide +kernel
theorem dX0_goOverWhatIsThere_6 : decode cX0_goOverWhatIsThere 6 = .ok (.if_icmp .ge 65, 3) := by decide +kernel
theorem dX0_goOverWhatIsThere_9 : decode cX0_goOverWhatIsThere 9 = .ok (.aload_n 0, 1) := by decide +kernel
theorem dX0_goOverWhatIsThere_10 : decode cX0_goOverWhatIsThere 10 = .ok (.getfield 23, 3) := by decide +kernel
theorem dX0_goOverWhatIsThere_13 : decode cX0_goOverWhatIsThere 13 = .ok (.sipush 4095, 3) := by decide +kernel
theorem dX0_goOverWhatIsThere_16 : decode cX0_goOverWhatIsThere 16 = .ok (.iand, 1) := by decide +kernel
theorem dX0_goOverWhatIsThere_17 : decode cX0_goOverWhatIsThere 17 = .ok (.istore_n 2, 1) := by decide +kernel
theorem dX0_goOverWhatIsThere_18 : decode cX0_goOverWhatIsThere 18 = .ok (.iconst 1, 1) := by decide +kernel
theorem dX0_goOverWhatIsThere_19 : decode cX0_goOverWhatIsThere 19 = .ok (.iload_n 2, 1) := by decide +kernel
theorem dX0_goOverWhatIsThere_20 : decode cX0_goOverWhatIsThere 20 = .ok (.bipush 31, 2) := by decide +kernel
theorem dX0_goOverWhatIsThere_22 : decode cX0_goOverWhatIsThere 22 = .ok (.iand, 1) := by decide +kernel
theorem dX0_goOverWhatIsThere_23 : decode cX0_goOverWhatIsThere 23 = .ok (.ishl, 1) := by decide +kernel
theorem dX0_goOverWhatIsThere_24 : decode cX0_goOverWhatIsThere 24 = .ok (.istore_n 3, 1) := by decide +kernel
theorem dX0_goOverWhatIsThere_25 : decode cX0_goOverWhatIsThere 25 = .ok (.aload_n 0, 1) := by decide +kernel
theorem dX0_goOverWhatIsThere_26 : decode cX0_goOverWhatIsThere 26 = .ok (.getfield 15, 3) := by decide +kernel
theorem dX0_goOverWhatIsThere_29 : decode cX0_goOverWhatIsThere 29 = .ok (.iload_n 2, 1) := by decide +kernel
theorem dX0_goOverWhatIsThere_30 : decode cX0_goOverWhatIsThere 30 = .ok (.iconst 5, 1) := by decide +kernel
theorem dX0_goOverWhatIsThere_31 : decode cX0_goOverWhatIsThere 31 = .ok (.ishr, 1) := by decide +kernel
theorem dX0_goOverWhatIsThere_32 : decode cX0_goOverWhatIsThere 32 = .ok (.iaload, 1) := by decide +kernel
theorem dX0_goOverWhatIsThere_33 : decode cX0_goOverWhatIsThere 33 = .ok (.iload_n 3, 1) := by decide +kernel
theorem dX0_goOverWhatIsThere_34 : decode cX0_goOverWhatIsThere 34 = .ok (.iand, 1) := by decide +kernel
theorem dX0_goOverWhatIsThere_35 : decode cX0_goOverWhatIsThere 35 = .ok (.ifCond .ne 6, 3) := by decide +kernel
theorem dX0_goOverWhatIsThere_38 : decode cX0_goOverWhatIsThere 38 = .ok (.goto 33, 3) := by decide +kernel
theorem dX0_goOverWhatIsThere_41 : decode cX0_goOverWhatIsThere 41 = .ok (.aload_n 0, 1) := by decide +kernel
theorem dX0_goOverWhatIsThere_42 : decode cX0_goOverWhatIsThere 42 = .ok (.getfield 15, 3) := by decide +kernel
theorem dX0_goOverWhatIsThere_45 : decode cX0_goOverWhatIsThere 45 = .ok (.iload_n 2, 1) := by decide +kernel
theorem dX0_goOverWhatIsThere_46 : decode cX0_goOverWhatIsThere 46 = .ok (.iconst 5, 1) := by decide +kernel
theorem dX0_goOverWhatIsThere_47 : decode cX0_goOverWhatIsThere 47 = .ok (.ishr, 1) := by decide +kernel
theorem dX0_goOverWhatIsThere_48 : decode cX0_goOverWhatIsThere 48 = .ok (.dup2, 1) := by decide +kernel
theorem dX0_goOverWhatIsThere_49 : decode cX0_goOverWhatIsThere 49 = .ok (.iaload, 1) := by decide +kernel
theorem dX0_goOverWhatIsThere_50 : decode cX0_goOverWhatIsThere 50 = .ok (.iload_n 3, 1) := by decide +kernel
theorem dX0_goOverWhatIsThere_51 : decode cX0_goOverWhatIsThere 51 = .ok (.iconst (-1), 1) := by decide +kernel
theorem dX0_goOverWhatIsThere_52 : decode cX0_goOverWhatIsThere 52 = .ok (.ixor, 1) := by decide +kernel
theorem dX0_goOverWhatIsThere_53 : decode cX0_goOverWhatIsThere 53 = .ok (.iand, 1) := by decide +kernel
theorem dX0_goOverWhatIsThere_54 : decode cX0_goOverWhatIsThere 54 = .ok (.iastore, 1) := by decide +kernel
theorem dX0_goOverWhatIsThere_55 : decode cX0_goOverWhatIsThere 55 = .ok (.aload_n 0, 1) := by decide +kernel
theorem dX0_goOverWhatIsThere_56 : decode cX0_goOverWhatIsThere 56 = .ok (.dup, 1) := by decide +kernel
theorem dX0_goOverWhatIsThere_57 : decode cX0_goOverWhatIsThere 57 = .ok (.getfield 23, 3) := by decide +kernel
theorem dX0_goOverWhatIsThere_60 : decode cX0_goOverWhatIsThere 60 = .ok (.iconst 1, 1) := by decide +kernel
theorem dX0_goOverWhatIsThere_61 : decode cX0_goOverWhatIsThere 61 = .ok (.iadd, 1) := by decide +kernel
theorem dX0_goOverWhatIsThere_62 : decode cX0_goOverWhatIsThere 62 = .ok (.putfield 23, 3) := by decide +kernel
theorem dX0_goOverWhatIsThere_65 : decode cX0_goOverWhatIsThere 65 = .ok (.iinc 1 1, 3) := by decide +kernel
theorem dX0_goOverWhatIsThere_68 : decode cX0_goOverWhatIsThere 68 = .ok (.goto (-66), 3) := by decide +kernel
theorem dX0_goOverWhatIsThere_71 : decode cX0_goOverWhatIsThere 71 = .ok (.return_, 1) := by decide +kernel
theorem wX0_goOverWhatIsThere_L2 {x : GX} {n0 sl0 : Nat} (X : Cx x cX0_goOverWhatIsThere RX0 none n0 sl0 0 0) {out : Mm} (hE : Ends x n0 sl0 none out) (hn : xn x = 4) (fu : Nat)   : ∀ (n : Nat) (a0 : Nat) (a1 : Int32)  (M : Mm), fX0_goOverWhatIsThere_L2 fu  n a0 a1 M = some out → Gw x M 2 [(0, pR (some a0)), (1, pI a1)] [] := by
  intro n
  induction n with
  | zero =>
    intro a0 a1 M h
    have h : (none : Option (Mm)) = some out := h
    cases h
  | succ n ih =>
    intro a0 a1 M h
    rw [fX0_goOverWhatIsThere_L2] at h
    refine g_iload_n X (pc := 2) 1 rfl rfl dX0_goOverWhatIsThere_2 ?_
    refine g_sipush X (pc := 3) (v := 4096) dX0_goOverWhatIsThere_3 (by decide) ?_
    refine g_icmp_ge X (pc := 6) (tgt := 71) dX0_goOverWhatIsThere_6 (by decide) (fun hc => ?_) (fun hc => ?_)
    · have h := (if_pos hc).symm.trans h
      obtain rfl := Option.some.inj h
      exact g_return X hE dX0_goOverWhatIsThere_71
    · have h := (if_neg hc).symm.trans h
      refine g_aload_n X (pc := 9) 0 rfl rfl dX0_goOverWhatIsThere_9 ?_
      obtain ⟨v1, ev1, h⟩ := bd h
      refine g_getI X (pc := 10) fk_0_1 rfl rfl ev1 tb_860 dX0_goOverWhatIsThere_10 ?_
      refine g_sipush X (pc := 13) (v := 4095) dX0_goOverWhatIsThere_13 (by decide) ?_
      refine g_iand X (pc := 16) dX0_goOverWhatIsThere_16 ?_
      refine g_istore_n X (pc := 17) [(2, pI (v1 &&& (4095 : Int32))), (0, pR (some a0)), (1, pI a1)] rfl (lt_n hn (by decide)) rfl dX0_goOverWhatIsThere_17 ?_
      refine g_iconst X (pc := 18) (v := 1) dX0_goOverWhatIsThere_18 (by decide) ?_
      refine g_iload_n X (pc := 19) 0 rfl rfl dX0_goOverWhatIsThere_19 ?_
      refine g_bipush X (pc := 20) (v := 31) dX0_goOverWhatIsThere_20 (by decide) ?_
      refine g_iand X (pc := 22) dX0_goOverWhatIsThere_22 ?_
      refine g_ishl X (pc := 23) dX0_goOverWhatIsThere_23 ?_
      obtain ⟨v2, ev2, h⟩ := bd h
      refine g_nmI ev2 ?_
      refine g_istore_n X (pc := 24) [(3, pI v2), (2, pI (v1 &&& (4095 : Int32))), (0, pR (some a0)), (1, pI a1)] rfl (lt_n hn (by decide)) rfl dX0_goOverWhatIsThere_24 ?_
      refine g_aload_n X (pc := 25) 2 rfl rfl dX0_goOverWhatIsThere_25 ?_
      obtain ⟨v3, ev3, h⟩ := bd h
      refine g_getR X (pc := 26) fk_0_6 rfl rfl ev3 tb_870 dX0_goOverWhatIsThere_26 ?_
      refine g_iload_n X (pc := 29) 1 rfl rfl dX0_goOverWhatIsThere_29 ?_
      refine g_iconst X (pc := 30) (v := 5) dX0_goOverWhatIsThere_30 (by decide) ?_
      refine g_ishr X (pc := 31) dX0_goOverWhatIsThere_31 ?_
      obtain ⟨v4, ev4, h⟩ := bd h
      refine g_iaload X (pc := 32) ev4 dX0_goOverWhatIsThere_32 ?_
      refine g_iload_n X (pc := 33) 0 rfl rfl dX0_goOverWhatIsThere_33 ?_
      refine g_iand X (pc := 34) dX0_goOverWhatIsThere_34 ?_
      refine g_if_ne X (pc := 35) (tgt := 41) dX0_goOverWhatIsThere_35 (by decide) (fun hc => ?_) (fun hc => ?_)
      · have h := (if_neg hc).symm.trans h
        refine g_aload_n X (pc := 41) 2 rfl rfl dX0_goOverWhatIsThere_41 ?_
        obtain ⟨v5, ev5, h⟩ := bd h
        refine g_getR X (pc := 42) fk_0_6 rfl rfl ev5 tb_870 dX0_goOverWhatIsThere_42 ?_
        refine g_iload_n X (pc := 45) 1 rfl rfl dX0_goOverWhatIsThere_45 ?_
        refine g_iconst X (pc := 46) (v := 5) dX0_goOverWhatIsThere_46 (by decide) ?_
        refine g_ishr X (pc := 47) dX0_goOverWhatIsThere_47 ?_
        refine g_dup2 X (pc := 48) rfl rfl dX0_goOverWhatIsThere_48 ?_
        obtain ⟨v6, ev6, h⟩ := bd h
        refine g_iaload X (pc := 49) ev6 dX0_goOverWhatIsThere_49 ?_
        refine g_iload_n X (pc := 50) 0 rfl rfl dX0_goOverWhatIsThere_50 ?_
        refine g_iconst X (pc := 51) (v := (-1)) dX0_goOverWhatIsThere_51 (by decide) ?_
        refine g_ixor X (pc := 52) dX0_goOverWhatIsThere_52 ?_
        refine g_iand X (pc := 53) dX0_goOverWhatIsThere_53 ?_
        obtain ⟨M7, eM7, h⟩ := bd h
        refine g_iastore X (pc := 54) eM7 dX0_goOverWhatIsThere_54 ?_
        refine g_aload_n X (pc := 55) 2 rfl rfl dX0_goOverWhatIsThere_55 ?_
        refine g_dup X (pc := 56) rfl dX0_goOverWhatIsThere_56 ?_
        obtain ⟨v8, ev8, h⟩ := bd h
        refine g_getI X (pc := 57) fk_0_1 rfl rfl ev8 tb_860 dX0_goOverWhatIsThere_57 ?_
        refine g_iconst X (pc := 60) (v := 1) dX0_goOverWhatIsThere_60 (by decide) ?_
        refine g_iadd X (pc := 61) dX0_goOverWhatIsThere_61 ?_
        obtain ⟨M9, eM9, h⟩ := bd h
        refine g_putI X (pc := 62) fk_0_1 rfl rfl rfl eM9 tb_860 (Or.inl rfl) dX0_goOverWhatIsThere_62 ?_
        refine g_iinc X (pc := 65) 3 [(1, pI (a1 + (1 : Int32))), (3, pI v2), (2, pI (v1 &&& (4095 : Int32))), (0, pR (some a0))] rfl (iinc_e (by decide)) (lt_n hn (by decide)) rfl dX0_goOverWhatIsThere_65 ?_
        refine g_goto X (pc := 68) (tgt := 2) dX0_goOverWhatIsThere_68 (by decide) ?_
        refine g_sub [3, 0] [(0, pR (some a0)), (1, pI (a1 + (1 : Int32)))] rfl ?_
        exact ih a0 (a1 + (1 : Int32)) M9 h
      · have h := (if_pos hc).symm.trans h
        refine g_goto X (pc := 38) (tgt := 71) dX0_goOverWhatIsThere_38 (by decide) ?_
        obtain rfl := Option.some.inj h
        exact g_return X hE dX0_goOverWhatIsThere_71
theorem wX0_goOverWhatIsThere {x : GX} {n0 sl0 : Nat} (X : Cx x cX0_goOverWhatIsThere RX0 none n0 sl0 0 0) {out : Mm} (hE : Ends x n0 sl0 none out) (hn : xn x = 4) (fu : Nat)   (a0 : Nat)  (M : Mm) (h : fX0_goOverWhatIsThere fu  a0 M = some out) : Gw x M 0 [(0, pR (some a0))] [] := by
  unfold fX0_goOverWhatIsThere at h
  refine g_iconst X (pc := 0) (v := 0) dX0_goOverWhatIsThere_0 (by decide) ?_
  refine g_istore_n X (pc := 1) [(1, pI (0 : Int32)), (0, pR (some a0))] rfl (lt_n hn (by decide)) rfl dX0_goOverWhatIsThere_1 ?_
  refine g_sub [1, 0] [(0, pR (some a0)), (1, pI (0 : Int32))] rfl ?_
  exact wX0_goOverWhatIsThere_L2 X hE hn fu   fu a0 (0 : Int32) M h
theorem hyX0_goOverWhatIsThere : yX0_goOverWhatIsThere.cls ≠ "java/lang/invoke/MethodHandle" ∧ yX0_goOverWhatIsThere.cls ≠ "java/lang/invoke/VarHandle" ∧ (parseMethodDescriptor yX0_goOverWhatIsThere.desc).map (fun d => d.parameters.length) = some 0 := ⟨by decide +kernel, by decide +kernel, by decide +kernel⟩
theorem ctX0_goOverWhatIsThere (l : Launch) (E : Nat → Nat) (D : va_G) (dA : Nat → ClassId) (lo : Nat) (H0 : Heap) (fu : Nat) (a0 : Nat) (M : Mm) (out : Mm) (h : fX0_goOverWhatIsThere fu a0 M = some out) : Ct l E D dA lo H0 yX0_goOverWhatIsThere cX0_goOverWhatIsThere 4 none 0 0 [pR (some a0)] M none out := by
  refine ct_of (by decide +kernel) (Nat.le_of_ble_eq_true rfl) ?_
  intro x hl he hd ha ho hh hn hin X hE
  exact wX0_goOverWhatIsThere X hE hn fu a0 M h
/-! WebHost$Came.take(LWebHost$Intake;)Z -/
def fX0_take_L63 (fu : Nat)  (a0 : Nat) (a1 : Option Nat)  (M : Mm) : Option (Int32 × Mm) :=
    (rc M 0 (some a0)).bind fun q1 =>
    (fX0_putAhead fu q1 a1 M).bind fun M2 =>
    (rc M2 0 (some a0)).bind fun q3 =>
    (fX0_goOverWhatIsThere fu q3  M2).bind fun M4 =>
    (gI M4 0 7 (some a0)).bind fun v5 =>
    if v5 = 0 then (
    rN .boolean (0 : Int32) M4)
    else (
    (gI M4 0 8 (some a0)).bind fun v6 =>
    if v6 = 0 then (
    (gI M4 0 1 (some a0)).bind fun v7 =>
    (gI M4 0 9 (some a0)).bind fun v8 =>
    if v7 = v8 then (
    (gI M4 0 1 (some a0)).bind fun v9 =>
    (pF M4 0 1 (some a0) (v9 + (1 : Int32))).bind fun M10 =>
    (pZ M10 0 8 (some a0) (1 : Int32)).bind fun M11 =>
    rN .boolean (1 : Int32) M11)
    else (
    rN .boolean (0 : Int32) M4))
    else (
    rN .boolean (0 : Int32) M4))
def fX0_take_L58 (fu : Nat)  (a0 : Nat) (a1 : Option Nat)  (M : Mm) : Option (Int32 × Mm) :=
    (pZ M 0 4 (some a0) (1 : Int32)).bind fun M1 =>
    fX0_take_L63 fu  a0 a1 M1
def fX0_take_L43 (fu : Nat)  (a0 : Nat) (a1 : Option Nat)  (M : Mm) : Option (Int32 × Mm) :=
    (gI M 3 201 a1).bind fun v1 =>
    if 0 < v1 then (
    fX0_take_L58 fu  a0 a1 M)
    else (
    (rc M 3 a1).bind fun q2 =>
    b2 (fX3_has fu q2 (1 : Int32) M) fun v4 M3 =>
    if v4 = 0 then (
    fX0_take_L63 fu  a0 a1 M3)
    else (
    fX0_take_L58 fu  a0 a1 M3))
def fX0_take (fu : Nat)  (a0 : Nat) (a1 : Option Nat)  (M : Mm) : Option (Int32 × Mm) :=
    (gI M 3 196 a1).bind fun v1 =>
    (gI M 3 201 a1).bind fun v2 =>
    (rc M 3 a1).bind fun q3 =>
    b2 (fX3_has fu q3 (1 : Int32) M) fun v5 M4 =>
    if v5 = 0 then (
    fX0_take_L43 fu  a0 a1 M4)
    else (
    (gI M4 0 7 (some a0)).bind fun v6 =>
    if v6 = 0 then (
    (rc M4 0 (some a0)).bind fun q7 =>
    b2 (fX0_isInWindow fu q7 (v1 + v2) M4) fun v9 M8 =>
    if v9 = 0 then (
    fX0_take_L43 fu  a0 a1 M8)
    else (
    (pZ M8 0 7 (some a0) (1 : Int32)).bind fun M10 =>
    (pF M10 0 9 (some a0) (v1 + v2)).bind fun M11 =>
    fX0_take_L43 fu  a0 a1 M11))
    else (
    fX0_take_L43 fu  a0 a1 M4))
theorem dX0_take_0 : decode cX0_take 0 = .ok (.aload_n 1, 1) := by decide +kernel
theorem dX0_take_1 : decode cX0_take 1 = .ok (.getfield 60, 3) := by decide +kernel
theorem dX0_take_4 : decode cX0_take 4 = .ok (.aload_n 1, 1) := by decide +kernel
theorem dX0_take_5 : decode cX0_take 5 = .ok (.getfield 67, 3) := by decide +kernel
theorem dX0_take_8 : decode cX0_take 8 = .ok (.iadd, 1) := by decide +kernel
theorem dX0_take_9 : decode cX0_take 9 = .ok (.istore_n 2, 1) := by decide +kernel
theorem dX0_take_10 : decode cX0_take 10 = .ok (.aload_n 1, 1) := by decide +kernel
theorem dX0_take_11 : decode cX0_take 11 = .ok (.iconst 1, 1) := by decide +kernel
theorem dX0_take_12 : decode cX0_take 12 = .ok (.invokevirtual 70, 3) := by decide +kernel
theorem dX0_take_15 : decode cX0_take 15 = .ok (.ifCond .eq 28, 3) := by decide +kernel
theorem dX0_take_18 : decode cX0_take 18 = .ok (.aload_n 0, 1) := by decide +kernel
theorem dX0_take_19 : decode cX0_take 19 = .ok (.getfield 36, 3) := by decide +kernel
theorem dX0_take_22 : decode cX0_take 22 = .ok (.ifCond .ne 21, 3) := by decide +kernel
theorem dX0_take_25 : decode cX0_take 25 = .ok (.aload_n 0, 1) := by decide +kernel
theorem dX0_take_26 : decode cX0_take 26 = .ok (.iload_n 2, 1) := by decide +kernel
theorem dX0_take_27 : decode cX0_take 27 = .ok (.invokevirtual 63, 3) := by decide +kernel
theorem dX0_take_30 : decode cX0_take 30 = .ok (.ifCond .eq 13, 3) := by decide +kernel
theorem dX0_take_33 : decode cX0_take 33 = .ok (.aload_n 0, 1) := by decide +kernel
theorem dX0_take_34 : decode cX0_take 34 = .ok (.iconst 1, 1) := by decide +kernel
theorem dX0_take_35 : decode cX0_take 35 = .ok (.putfield 36, 3) := by decide +kernel
theorem dX0_take_38 : decode cX0_take 38 = .ok (.aload_n 0, 1) := by decide +kernel
theorem dX0_take_39 : decode cX0_take 39 = .ok (.iload_n 2, 1) := by decide +kernel
theorem dX0_take_40 : decode cX0_take 40 = .ok (.putfield 73, 3) := by decide +kernel
theorem dX0_take_43 : decode cX0_take 43 = .ok (.aload_n 1, 1) := by decide +kernel
theorem dX0_take_44 : decode cX0_take 44 = .ok (.getfield 67, 3) := by decide +kernel
theorem dX0_take_47 : decode cX0_take 47 = .ok (.ifCond .gt 11, 3) := by decide +kernel
theorem dX0_take_50 : decode cX0_take 50 = .ok (.aload_n 1, 1) := by decide +kernel
theorem dX0_take_51 : decode cX0_take 51 = .ok (.iconst 1, 1) := by decide +kernel
theorem dX0_take_52 : decode cX0_take 52 = .ok (.invokevirtual 70, 3) := by decide +kernel
theorem dX0_take_55 : decode cX0_take 55 = .ok (.ifCond .eq 8, 3) := by decide +kernel
theorem dX0_take_58 : decode cX0_take 58 = .ok (.aload_n 0, 1) := by decide +kernel
theorem dX0_take_59 : decode cX0_take 59 = .ok (.iconst 1, 1) := by decide +kernel
theorem dX0_take_60 : decode cX0_take 60 = .ok (.putfield 32, 3) := by decide +kernel
theorem dX0_take_63 : decode cX0_take 63 = .ok (.aload_n 0, 1) := by decide +kernel
theorem dX0_take_64 : decode cX0_take 64 = .ok (.aload_n 1, 1) := by decide +kernel
theorem dX0_take_65 : decode cX0_take 65 = .ok (.invokevirtual 76, 3) := by decide +kernel
theorem dX0_take_68 : decode cX0_take 68 = .ok (.aload_n 0, 1) := by decide +kernel
theorem dX0_take_69 : decode cX0_take 69 = .ok (.invokevirtual 80, 3) := by decide +kernel
theorem dX0_take_72 : decode cX0_take 72 = .ok (.aload_n 0, 1) := by decide +kernel
theorem dX0_take_73 : decode cX0_take 73 = .ok (.getfield 36, 3) := by decide +kernel
theorem dX0_take_76 : decode cX0_take 76 = .ok (.ifCond .eq 21, 3) := by decide +kernel
theorem dX0_take_79 : decode cX0_take 79 = .ok (.aload_n 0, 1) := by decide +kernel
theorem dX0_take_80 : decode cX0_take 80 = .ok (.getfield 39, 3) := by decide +kernel
theorem dX0_take_83 : decode cX0_take 83 = .ok (.ifCond .ne 14, 3) := by decide +kernel
theorem dX0_take_86 : decode cX0_take 86 = .ok (.aload_n 0, 1) := by decide +kernel
theorem dX0_take_87 : decode cX0_take 87 = .ok (.getfield 23, 3) := by decide +kernel
theorem dX0_take_90 : decode cX0_take 90 = .ok (.aload_n 0, 1) := by decide +kernel
theorem dX0_take_91 : decode cX0_take 91 = .ok (.getfield 73, 3) := by decide +kernel
theorem dX0_take_94 : decode cX0_take 94 = .ok (.if_icmp .eq 5, 3) := by decide +kernel
theorem dX0_take_97 : decode cX0_take 97 = .ok (.iconst 0, 1) := by decide +kernel
theorem dX0_take_98 : decode cX0_take 98 = .ok (.ireturn, 1) := by decide +kernel
theorem dX0_take_99 : decode cX0_take 99 = .ok (.aload_n 0, 1) := by decide +kernel
theorem dX0_take_100 : decode cX0_take 100 = .ok (.dup, 1) := by decide +kernel
theorem dX0_take_101 : decode cX0_take 101 = .ok (.getfield 23, 3) := by decide +kernel
theorem dX0_take_104 : decode cX0_take 104 = .ok (.iconst 1, 1) := by decide +kernel
theorem dX0_take_105 : decode cX0_take 105 = .ok (.iadd, 1) := by decide +kernel
theorem dX0_take_106 : decode cX0_take 106 = .ok (.putfield 23, 3) := by decide +kernel
theorem dX0_take_109 : decode cX0_take 109 = .ok (.aload_n 0, 1) := by decide +kernel
theorem dX0_take_110 : decode cX0_take 110 = .ok (.iconst 1, 1) := by decide +kernel
theorem dX0_take_111 : decode cX0_take 111 = .ok (.putfield 39, 3) := by decide +kernel
theorem dX0_take_114 : decode cX0_take 114 = .ok (.iconst 1, 1) := by decide +kernel
theorem dX0_take_115 : decode cX0_take 115 = .ok (.ireturn, 1) := by decide +kernel
theorem wX0_take_L63 {x : GX} {n0 sl0 : Nat} (X : Cx x cX0_take RX0 (some .boolean) n0 sl0 3 67) {out : Int32 × Mm} (hE : Ends x n0 sl0 (some (pI out.1)) out.2) (hn : xn x = 3) (fu : Nat)   (a0 : Nat) (a1 : Option Nat)  (M : Mm) (h : fX0_take_L63 fu  a0 a1 M = some out) : Gw x M 63 [(0, pR (some a0)), (1, pR a1)] [] := by
  unfold fX0_take_L63 at h
  refine g_aload_n X (pc := 63) 0 rfl rfl dX0_take_63 ?_
  refine g_aload_n X (pc := 64) 1 rfl rfl dX0_take_64 ?_
  obtain ⟨q1, eq1, h⟩ := bd h
  obtain ⟨M2, eM2, h⟩ := bd h
  refine g_callV X (pc := 65) (M' := M2) (ro := none) (c := 0) rfl (by decide) (as := [pR a1]) (as' := [pR a1]) (st := []) eq1 (ctX0_putAhead _ _ _ _ _ _ fu q1 a1 M _ eM2) tb_1148 tb_1145 tb_1147 ts_38 tb_19 ⟨rfl, hyX0_putAhead⟩ rfl rfl ⟨by decide, by decide⟩ (Nat.le_of_ble_eq_true rfl) dX0_take_65 ?_
  refine g_aload_n X (pc := 68) 0 rfl rfl dX0_take_68 ?_
  obtain ⟨q3, eq3, h⟩ := bd h
  obtain ⟨M4, eM4, h⟩ := bd h
  refine g_callV X (pc := 69) (M' := M4) (ro := none) (c := 0) rfl (by decide) (as := []) (as' := []) (st := []) eq3 (ctX0_goOverWhatIsThere _ _ _ _ _ _ fu q3  M2 _ eM4) tb_1153 tb_1150 tb_1152 ts_39 tb_19 ⟨rfl, hyX0_goOverWhatIsThere⟩ rfl rfl ⟨by decide, by decide⟩ (Nat.le_of_ble_eq_true rfl) dX0_take_69 ?_
  refine g_aload_n X (pc := 72) 0 rfl rfl dX0_take_72 ?_
  obtain ⟨v5, ev5, h⟩ := bd h
  refine g_getI X (pc := 73) fk_0_7 rfl rfl ev5 tb_871 dX0_take_73 ?_
  refine g_if_eq X (pc := 76) (tgt := 97) dX0_take_76 (by decide) (fun hc => ?_) (fun hc => ?_)
  · have h := (if_pos hc).symm.trans h
    refine g_iconst X (pc := 97) (v := 0) dX0_take_97 (by decide) ?_
    obtain ⟨hz, rfl⟩ := rN_some h
    exact g_nreturn X rfl hz hE dX0_take_98
  · have h := (if_neg hc).symm.trans h
    refine g_aload_n X (pc := 79) 0 rfl rfl dX0_take_79 ?_
    obtain ⟨v6, ev6, h⟩ := bd h
    refine g_getI X (pc := 80) fk_0_8 rfl rfl ev6 tb_872 dX0_take_80 ?_
    refine g_if_ne X (pc := 83) (tgt := 97) dX0_take_83 (by decide) (fun hc => ?_) (fun hc => ?_)
    · have h := (if_neg hc).symm.trans h
      refine g_iconst X (pc := 97) (v := 0) dX0_take_97 (by decide) ?_
      obtain ⟨hz, rfl⟩ := rN_some h
      exact g_nreturn X rfl hz hE dX0_take_98
    · have h := (if_pos hc).symm.trans h
      refine g_aload_n X (pc := 86) 0 rfl rfl dX0_take_86 ?_
      obtain ⟨v7, ev7, h⟩ := bd h
      refine g_getI X (pc := 87) fk_0_1 rfl rfl ev7 tb_860 dX0_take_87 ?_
      refine g_aload_n X (pc := 90) 0 rfl rfl dX0_take_90 ?_
      obtain ⟨v8, ev8, h⟩ := bd h
      refine g_getI X (pc := 91) fk_0_9 rfl rfl ev8 tb_873 dX0_take_91 ?_
      refine g_icmp_eq X (pc := 94) (tgt := 99) dX0_take_94 (by decide) (fun hc => ?_) (fun hc => ?_)
      · have h := (if_pos hc).symm.trans h
        refine g_aload_n X (pc := 99) 0 rfl rfl dX0_take_99 ?_
        refine g_dup X (pc := 100) rfl dX0_take_100 ?_
        obtain ⟨v9, ev9, h⟩ := bd h
        refine g_getI X (pc := 101) fk_0_1 rfl rfl ev9 tb_860 dX0_take_101 ?_
        refine g_iconst X (pc := 104) (v := 1) dX0_take_104 (by decide) ?_
        refine g_iadd X (pc := 105) dX0_take_105 ?_
        obtain ⟨M10, eM10, h⟩ := bd h
        refine g_putI X (pc := 106) fk_0_1 rfl rfl rfl eM10 tb_860 (Or.inl rfl) dX0_take_106 ?_
        refine g_aload_n X (pc := 109) 0 rfl rfl dX0_take_109 ?_
        refine g_iconst X (pc := 110) (v := 1) dX0_take_110 (by decide) ?_
        obtain ⟨M11, eM11, h⟩ := bd h
        refine g_putZ X (pc := 111) fk_0_8 rfl rfl rfl eM11 tb_872 (Or.inl rfl) dX0_take_111 ?_
        refine g_iconst X (pc := 114) (v := 1) dX0_take_114 (by decide) ?_
        obtain ⟨hz, rfl⟩ := rN_some h
        exact g_nreturn X rfl hz hE dX0_take_115
      · have h := (if_neg hc).symm.trans h
        refine g_iconst X (pc := 97) (v := 0) dX0_take_97 (by decide) ?_
        obtain ⟨hz, rfl⟩ := rN_some h
        exact g_nreturn X rfl hz hE dX0_take_98
theorem wX0_take_L58 {x : GX} {n0 sl0 : Nat} (X : Cx x cX0_take RX0 (some .boolean) n0 sl0 3 67) {out : Int32 × Mm} (hE : Ends x n0 sl0 (some (pI out.1)) out.2) (hn : xn x = 3) (fu : Nat)   (a0 : Nat) (a1 : Option Nat)  (M : Mm) (h : fX0_take_L58 fu  a0 a1 M = some out) : Gw x M 58 [(0, pR (some a0)), (1, pR a1)] [] := by
  unfold fX0_take_L58 at h
  refine g_aload_n X (pc := 58) 0 rfl rfl dX0_take_58 ?_
  refine g_iconst X (pc := 59) (v := 1) dX0_take_59 (by decide) ?_
  obtain ⟨M1, eM1, h⟩ := bd h
  refine g_putZ X (pc := 60) fk_0_4 rfl rfl rfl eM1 tb_867 (Or.inl rfl) dX0_take_60 ?_
  exact wX0_take_L63 X hE hn fu   a0 a1 M1 h
theorem wX0_take_L43 {x : GX} {n0 sl0 : Nat} (X : Cx x cX0_take RX0 (some .boolean) n0 sl0 3 67) {out : Int32 × Mm} (hE : Ends x n0 sl0 (some (pI out.1)) out.2) (hn : xn x = 3) (fu : Nat)   (a0 : Nat) (a1 : Option Nat)  (M : Mm) (h : fX0_take_L43 fu  a0 a1 M = some out) : Gw x M 43 [(0, pR (some a0)), (1, pR a1)] [] := by
  unfold fX0_take_L43 at h
  refine g_aload_n X (pc := 43) 1 rfl rfl dX0_take_43 ?_
  obtain ⟨v1, ev1, h⟩ := bd h
  refine g_getI X (pc := 44) fk_3_9 rfl rfl ev1 tb_181 dX0_take_44 ?_
  refine g_if_gt X (pc := 47) (tgt := 58) dX0_take_47 (by decide) (fun hc => ?_) (fun hc => ?_)
  · have h := (if_pos hc).symm.trans h
    exact wX0_take_L58 X hE hn fu   a0 a1 M h
  · have h := (if_neg hc).symm.trans h
    refine g_aload_n X (pc := 50) 1 rfl rfl dX0_take_50 ?_
    refine g_iconst X (pc := 51) (v := 1) dX0_take_51 (by decide) ?_
    obtain ⟨q2, eq2, h⟩ := bd h
    obtain ⟨v4, M3, eM3, h⟩ := b2d h
    refine g_callV X (pc := 52) (M' := M3) (ro := some (pI v4)) (c := 3) rfl (by decide) (as := [pI (1 : Int32)]) (as' := [pI (1 : Int32)]) (st := []) eq2 (ctX3_has _ _ _ _ _ _ fu q2 (1 : Int32) M _ eM3) tb_835 tb_1144 tb_833 tb_834 tb_5 ⟨rfl, hyX3_has⟩ rfl rfl ⟨by decide, by decide⟩ (Nat.le_of_ble_eq_true rfl) dX0_take_52 ?_
    refine g_if_eq X (pc := 55) (tgt := 63) dX0_take_55 (by decide) (fun hc => ?_) (fun hc => ?_)
    · have h := (if_pos hc).symm.trans h
      exact wX0_take_L63 X hE hn fu   a0 a1 M3 h
    · have h := (if_neg hc).symm.trans h
      exact wX0_take_L58 X hE hn fu   a0 a1 M3 h
theorem wX0_take {x : GX} {n0 sl0 : Nat} (X : Cx x cX0_take RX0 (some .boolean) n0 sl0 3 67) {out : Int32 × Mm} (hE : Ends x n0 sl0 (some (pI out.1)) out.2) (hn : xn x = 3) (fu : Nat)   (a0 : Nat) (a1 : Option Nat)  (M : Mm) (h : fX0_take fu  a0 a1 M = some out) : Gw x M 0 [(0, pR (some a0)), (1, pR a1)] [] := by
  unfold fX0_take at h
  refine g_aload_n X (pc := 0) 1 rfl rfl dX0_take_0 ?_
  obtain ⟨v1, ev1, h⟩ := bd h
  refine g_getI X (pc := 1) fk_3_4 rfl rfl ev1 tb_169 dX0_take_1 ?_
  refine g_aload_n X (pc := 4) 1 rfl rfl dX0_take_4 ?_
  obtain ⟨v2, ev2, h⟩ := bd h
  refine g_getI X (pc := 5) fk_3_9 rfl rfl ev2 tb_181 dX0_take_5 ?_
  refine g_iadd X (pc := 8) dX0_take_8 ?_
  refine g_istore_n X (pc := 9) [(2, pI (v1 + v2)), (0, pR (some a0)), (1, pR a1)] rfl (lt_n hn (by decide)) rfl dX0_take_9 ?_
  refine g_aload_n X (pc := 10) 2 rfl rfl dX0_take_10 ?_
  refine g_iconst X (pc := 11) (v := 1) dX0_take_11 (by decide) ?_
  obtain ⟨q3, eq3, h⟩ := bd h
  obtain ⟨v5, M4, eM4, h⟩ := b2d h
  refine g_callV X (pc := 12) (M' := M4) (ro := some (pI v5)) (c := 3) rfl (by decide) (as := [pI (1 : Int32)]) (as' := [pI (1 : Int32)]) (st := []) eq3 (ctX3_has _ _ _ _ _ _ fu q3 (1 : Int32) M _ eM4) tb_835 tb_1144 tb_833 tb_834 tb_5 ⟨rfl, hyX3_has⟩ rfl rfl ⟨by decide, by decide⟩ (Nat.le_of_ble_eq_true rfl) dX0_take_12 ?_
  refine g_if_eq X (pc := 15) (tgt := 43) dX0_take_15 (by decide) (fun hc => ?_) (fun hc => ?_)
  · have h := (if_pos hc).symm.trans h
    refine g_sub [1, 2] [(0, pR (some a0)), (1, pR a1)] rfl ?_
    exact wX0_take_L43 X hE hn fu   a0 a1 M4 h
  · have h := (if_neg hc).symm.trans h
    refine g_aload_n X (pc := 18) 1 rfl rfl dX0_take_18 ?_
    obtain ⟨v6, ev6, h⟩ := bd h
    refine g_getI X (pc := 19) fk_0_7 rfl rfl ev6 tb_871 dX0_take_19 ?_
    refine g_if_ne X (pc := 22) (tgt := 43) dX0_take_22 (by decide) (fun hc => ?_) (fun hc => ?_)
    · have h := (if_neg hc).symm.trans h
      refine g_sub [1, 2] [(0, pR (some a0)), (1, pR a1)] rfl ?_
      exact wX0_take_L43 X hE hn fu   a0 a1 M4 h
    · have h := (if_pos hc).symm.trans h
      refine g_aload_n X (pc := 25) 1 rfl rfl dX0_take_25 ?_
      refine g_iload_n X (pc := 26) 0 rfl rfl dX0_take_26 ?_
      obtain ⟨q7, eq7, h⟩ := bd h
      obtain ⟨v9, M8, eM8, h⟩ := b2d h
      refine g_callV X (pc := 27) (M' := M8) (ro := some (pI v9)) (c := 0) rfl (by decide) (as := [pI (v1 + v2)]) (as' := [pI (v1 + v2)]) (st := []) eq7 (ctX0_isInWindow _ _ _ _ _ _ fu q7 (v1 + v2) M4 _ eM8) tb_1077 tb_1074 tb_1075 tb_1076 tb_19 ⟨rfl, hyX0_isInWindow⟩ rfl rfl ⟨by decide, by decide⟩ (Nat.le_of_ble_eq_true rfl) dX0_take_27 ?_
      refine g_if_eq X (pc := 30) (tgt := 43) dX0_take_30 (by decide) (fun hc => ?_) (fun hc => ?_)
      · have h := (if_pos hc).symm.trans h
        refine g_sub [1, 2] [(0, pR (some a0)), (1, pR a1)] rfl ?_
        exact wX0_take_L43 X hE hn fu   a0 a1 M8 h
      · have h := (if_neg hc).symm.trans h
        refine g_aload_n X (pc := 33) 1 rfl rfl dX0_take_33 ?_
        refine g_iconst X (pc := 34) (v := 1) dX0_take_34 (by decide) ?_
        obtain ⟨M10, eM10, h⟩ := bd h
        refine g_putZ X (pc := 35) fk_0_7 rfl rfl rfl eM10 tb_871 (Or.inl rfl) dX0_take_35 ?_
        refine g_aload_n X (pc := 38) 1 rfl rfl dX0_take_38 ?_
        refine g_iload_n X (pc := 39) 0 rfl rfl dX0_take_39 ?_
        obtain ⟨M11, eM11, h⟩ := bd h
        refine g_putI X (pc := 40) fk_0_9 rfl rfl rfl eM11 tb_873 (Or.inl rfl) dX0_take_40 ?_
        refine g_sub [1, 2] [(0, pR (some a0)), (1, pR a1)] rfl ?_
        exact wX0_take_L43 X hE hn fu   a0 a1 M11 h
theorem hyX0_take : yX0_take.cls ≠ "java/lang/invoke/MethodHandle" ∧ yX0_take.cls ≠ "java/lang/invoke/VarHandle" ∧ (parseMethodDescriptor yX0_take.desc).map (fun d => d.parameters.length) = some 1 := ⟨by decide +kernel, by decide +kernel, by decide +kernel⟩
theorem ctX0_take (l : Launch) (E : Nat → Nat) (D : va_G) (dA : Nat → ClassId) (lo : Nat) (H0 : Heap) (fu : Nat) (a0 : Nat) (a1 : Option Nat) (M : Mm) (out : Int32 × Mm) (h : fX0_take fu a0 a1 M = some out) : Ct l E D dA lo H0 yX0_take cX0_take 3 (some .boolean) 3 67 [pR (some a0), pR a1] M (some (pI out.1)) out.2 := by
  refine ct_of (by decide +kernel) (Nat.le_of_ble_eq_true rfl) ?_
  intro x hl he hd ha ho hh hn hin X hE
  exact wX0_take X hE hn fu a0 a1 M h
/-! WebHost$Came.peek(I)I -/
def fX0_peek (fu : Nat)  (a0 : Nat) (a1 : Int32)  (M : Mm) : Option (Int32 × Mm) :=
    (gR M 0 5 (some a0)).bind fun v1 =>
    (gI M 0 0 (some a0)).bind fun v2 =>
    (gA M 100 v1 ((v2 + a1) &&& (4095 : Int32))).bind fun v3 =>
    some ((v3 &&& (255 : Int32)), M)
theorem dX0_peek_0 : decode cX0_peek 0 = .ok (.aload_n 0, 1) := by decide +kernel
theorem dX0_peek_1 : decode cX0_peek 1 = .ok (.getfield 11, 3) := by decide +kernel
theorem dX0_peek_4 : decode cX0_peek 4 = .ok (.aload_n 0, 1) := by decide +kernel
theorem dX0_peek_5 : decode cX0_peek 5 = .ok (.getfield 19, 3) := by decide +kernel
theorem dX0_peek_8 : decode cX0_peek 8 = .ok (.iload_n 1, 1) := by decide +kernel
theorem dX0_peek_9 : decode cX0_peek 9 = .ok (.iadd, 1) := by decide +kernel
theorem dX0_peek_10 : decode cX0_peek 10 = .ok (.sipush 4095, 3) := by decide +kernel
theorem dX0_peek_13 : decode cX0_peek 13 = .ok (.iand, 1) := by decide +kernel
theorem dX0_peek_14 : decode cX0_peek 14 = .ok (.baload, 1) := by decide +kernel
theorem dX0_peek_15 : decode cX0_peek 15 = .ok (.sipush 255, 3) := by decide +kernel
theorem dX0_peek_18 : decode cX0_peek 18 = .ok (.iand, 1) := by decide +kernel
theorem dX0_peek_19 : decode cX0_peek 19 = .ok (.ireturn, 1) := by decide +kernel
theorem wX0_peek {x : GX} {n0 sl0 : Nat} (X : Cx x cX0_peek RX0 (some .int) n0 sl0 0 0) {out : Int32 × Mm} (hE : Ends x n0 sl0 (some (pI out.1)) out.2) (hn : xn x = 2) (fu : Nat)   (a0 : Nat) (a1 : Int32)  (M : Mm) (h : fX0_peek fu  a0 a1 M = some out) : Gw x M 0 [(0, pR (some a0)), (1, pI a1)] [] := by
  unfold fX0_peek at h
  refine g_aload_n X (pc := 0) 0 rfl rfl dX0_peek_0 ?_
  obtain ⟨v1, ev1, h⟩ := bd h
  refine g_getR X (pc := 1) fk_0_5 rfl rfl ev1 tb_869 dX0_peek_1 ?_
  refine g_aload_n X (pc := 4) 0 rfl rfl dX0_peek_4 ?_
  obtain ⟨v2, ev2, h⟩ := bd h
  refine g_getI X (pc := 5) fk_0_0 rfl rfl ev2 tb_859 dX0_peek_5 ?_
  refine g_iload_n X (pc := 8) 1 rfl rfl dX0_peek_8 ?_
  refine g_iadd X (pc := 9) dX0_peek_9 ?_
  refine g_sipush X (pc := 10) (v := 4095) dX0_peek_10 (by decide) ?_
  refine g_iand X (pc := 13) dX0_peek_13 ?_
  obtain ⟨v3, ev3, h⟩ := bd h
  refine g_baload X (pc := 14) ev3 dX0_peek_14 ?_
  refine g_sipush X (pc := 15) (v := 255) dX0_peek_15 (by decide) ?_
  refine g_iand X (pc := 18) dX0_peek_18 ?_
  obtain rfl := Option.some.inj h
  exact g_ireturn X hE dX0_peek_19
theorem hyX0_peek : yX0_peek.cls ≠ "java/lang/invoke/MethodHandle" ∧ yX0_peek.cls ≠ "java/lang/invoke/VarHandle" ∧ (parseMethodDescriptor yX0_peek.desc).map (fun d => d.parameters.length) = some 1 := ⟨by decide +kernel, by decide +kernel, by decide +kernel⟩
theorem ctX0_peek (l : Launch) (E : Nat → Nat) (D : va_G) (dA : Nat → ClassId) (lo : Nat) (H0 : Heap) (fu : Nat) (a0 : Nat) (a1 : Int32) (M : Mm) (out : Int32 × Mm) (h : fX0_peek fu a0 a1 M = some out) : Ct l E D dA lo H0 yX0_peek cX0_peek 2 (some .int) 0 0 [pR (some a0), pI a1] M (some (pI out.1)) out.2 := by
  refine ct_of (by decide +kernel) (Nat.le_of_ble_eq_true rfl) ?_
  intro x hl he hd ha ho hh hn hin X hE
  exact wX0_peek X hE hn fu a0 a1 M h
/-! WebHost$Came.leave(I)V -/
def fX0_leave (fu : Nat)  (a0 : Nat) (a1 : Int32)  (M : Mm) : Option (Mm) :=
    (gI M 0 0 (some a0)).bind fun v1 =>
    (pF M 0 0 (some a0) (v1 + a1)).bind fun M2 =>
    (rc M2 0 (some a0)).bind fun q3 =>
    b2 (fX0_window fu q3  M2) fun v5 M4 =>
    (gI M4 0 2 (some a0)).bind fun v6 =>
    if (v5 - v6) < (2048 : Int32) then (
    some M4)
    else (
    (pZ M4 0 4 (some a0) (1 : Int32)).bind fun M7 =>
    some M7)
theorem dX0_leave_0 : decode cX0_leave 0 = .ok (.aload_n 0, 1) := by decide +kernel
theorem dX0_leave_1 : decode cX0_leave 1 = .ok (.dup, 1) := by decide +kernel
theorem dX0_leave_2 : decode cX0_leave 2 = .ok (.getfield 19, 3) := by decide +kernel
theorem dX0_leave_5 : decode cX0_leave 5 = .ok (.iload_n 1, 1) := by decide +kernel
theorem dX0_leave_6 : decode cX0_leave 6 = .ok (.iadd, 1) := by decide +kernel
theorem dX0_leave_7 : decode cX0_leave 7 = .ok (.putfield 19, 3) := by decide +kernel
theorem dX0_leave_10 : decode cX0_leave 10 = .ok (.aload_n 0, 1) := by decide +kernel
theorem dX0_leave_11 : decode cX0_leave 11 = .ok (.invokevirtual 52, 3) := by decide +kernel
theorem dX0_leave_14 : decode cX0_leave 14 = .ok (.aload_n 0, 1) := by decide +kernel
theorem dX0_leave_15 : decode cX0_leave 15 = .ok (.getfield 26, 3) := by decide +kernel
theorem dX0_leave_18 : decode cX0_leave 18 = .ok (.isub, 1) := by decide +kernel
theorem dX0_leave_19 : decode cX0_leave 19 = .ok (.sipush 2048, 3) := by decide +kernel
theorem dX0_leave_22 : decode cX0_leave 22 = .ok (.if_icmp .lt 8, 3) := by decide +kernel
theorem dX0_leave_25 : decode cX0_leave 25 = .ok (.aload_n 0, 1) := by decide +kernel
theorem dX0_leave_26 : decode cX0_leave 26 = .ok (.iconst 1, 1) := by decide +kernel
theorem dX0_leave_27 : decode cX0_leave 27 = .ok (.putfield 32, 3) := by decide +kernel
theorem dX0_leave_30 : decode cX0_leave 30 = .ok (.return_, 1) := by decide +kernel
theorem wX0_leave {x : GX} {n0 sl0 : Nat} (X : Cx x cX0_leave RX0 none n0 sl0 2 40) {out : Mm} (hE : Ends x n0 sl0 none out) (hn : xn x = 2) (fu : Nat)   (a0 : Nat) (a1 : Int32)  (M : Mm) (h : fX0_leave fu  a0 a1 M = some out) : Gw x M 0 [(0, pR (some a0)), (1, pI a1)] [] := by
  unfold fX0_leave at h
  refine g_aload_n X (pc := 0) 0 rfl rfl dX0_leave_0 ?_
  refine g_dup X (pc := 1) rfl dX0_leave_1 ?_
  obtain ⟨v1, ev1, h⟩ := bd h
  refine g_getI X (pc := 2) fk_0_0 rfl rfl ev1 tb_859 dX0_leave_2 ?_
  refine g_iload_n X (pc := 5) 1 rfl rfl dX0_leave_5 ?_
  refine g_iadd X (pc := 6) dX0_leave_6 ?_
  obtain ⟨M2, eM2, h⟩ := bd h
  refine g_putI X (pc := 7) fk_0_0 rfl rfl rfl eM2 tb_859 (Or.inl rfl) dX0_leave_7 ?_
  refine g_aload_n X (pc := 10) 0 rfl rfl dX0_leave_10 ?_
  obtain ⟨q3, eq3, h⟩ := bd h
  obtain ⟨v5, M4, eM4, h⟩ := b2d h
  refine g_callV X (pc := 11) (M' := M4) (ro := some (pI v5)) (c := 0) rfl (by decide) (as := []) (as' := []) (st := []) eq3 (ctX0_window _ _ _ _ _ _ fu q3  M2 _ eM4) tb_601 tb_1073 tb_599 tb_600 tb_19 ⟨rfl, hyX0_window⟩ rfl rfl ⟨by decide, by decide⟩ (Nat.le_of_ble_eq_true rfl) dX0_leave_11 ?_
  refine g_aload_n X (pc := 14) 0 rfl rfl dX0_leave_14 ?_
  obtain ⟨v6, ev6, h⟩ := bd h
  refine g_getI X (pc := 15) fk_0_2 rfl rfl ev6 tb_863 dX0_leave_15 ?_
  refine g_isub X (pc := 18) dX0_leave_18 ?_
  refine g_sipush X (pc := 19) (v := 2048) dX0_leave_19 (by decide) ?_
  refine g_icmp_lt X (pc := 22) (tgt := 30) dX0_leave_22 (by decide) (fun hc => ?_) (fun hc => ?_)
  · have h := (if_pos hc).symm.trans h
    obtain rfl := Option.some.inj h
    exact g_return X hE dX0_leave_30
  · have h := (if_neg hc).symm.trans h
    refine g_aload_n X (pc := 25) 0 rfl rfl dX0_leave_25 ?_
    refine g_iconst X (pc := 26) (v := 1) dX0_leave_26 (by decide) ?_
    obtain ⟨M7, eM7, h⟩ := bd h
    refine g_putZ X (pc := 27) fk_0_4 rfl rfl rfl eM7 tb_867 (Or.inl rfl) dX0_leave_27 ?_
    obtain rfl := Option.some.inj h
    exact g_return X hE dX0_leave_30
theorem hyX0_leave : yX0_leave.cls ≠ "java/lang/invoke/MethodHandle" ∧ yX0_leave.cls ≠ "java/lang/invoke/VarHandle" ∧ (parseMethodDescriptor yX0_leave.desc).map (fun d => d.parameters.length) = some 1 := ⟨by decide +kernel, by decide +kernel, by decide +kernel⟩
theorem ctX0_leave (l : Launch) (E : Nat → Nat) (D : va_G) (dA : Nat → ClassId) (lo : Nat) (H0 : Heap) (fu : Nat) (a0 : Nat) (a1 : Int32) (M : Mm) (out : Mm) (h : fX0_leave fu a0 a1 M = some out) : Ct l E D dA lo H0 yX0_leave cX0_leave 2 none 2 40 [pR (some a0), pI a1] M none out := by
  refine ct_of (by decide +kernel) (Nat.le_of_ble_eq_true rfl) ?_
  intro x hl he hd ha ho hh hn hin X hE
  exact wX0_leave X hE hn fu a0 a1 M h
/-! WebHost$Came.leaveBody()V -/
def fX0_leaveBody (fu : Nat)  (a0 : Nat)  (M : Mm) : Option (Mm) :=
    (gI M 0 3 (some a0)).bind fun v1 =>
    (rc M 0 (some a0)).bind fun q2 =>
    b2 (fX0_held fu q2  M) fun v4 M3 =>
    if (jmin v1 v4) ≤ 0 then (
    some M3)
    else (
    (gI M3 0 3 (some a0)).bind fun v5 =>
    (pF M3 0 3 (some a0) (v5 - (jmin v1 v4))).bind fun M6 =>
    (rc M6 0 (some a0)).bind fun q7 =>
    (fX0_leave fu q7 (jmin v1 v4) M6).bind fun M8 =>
    some M8)
theorem dX0_leaveBody_0 : decode cX0_leaveBody 0 = .ok (.aload_n 0, 1) := by decide +kernel
theorem dX0_leaveBody_1 : decode cX0_leaveBody 1 = .ok (.getfield 29, 3) := by decide +kernel
theorem dX0_leaveBody_4 : decode cX0_leaveBody 4 = .ok (.aload_n 0, 1) := by decide +kernel
theorem dX0_leaveBody_5 : decode cX0_leaveBody 5 = .ok (.invokevirtual 48, 3) := by decide +kernel
theorem dX0_leaveBody_8 : decode cX0_leaveBody 8 = .ok (.invokestatic 93, 3) := by decide +kernel
theorem dX0_leaveBody_11 : decode cX0_leaveBody 11 = .ok (.istore_n 1, 1) := by decide +kernel
theorem dX0_leaveBody_12 : decode cX0_leaveBody 12 = .ok (.iload_n 1, 1) := by decide +kernel
theorem dX0_leaveBody_13 : decode cX0_leaveBody 13 = .ok (.ifCond .le 18, 3) := by decide +kernel
theorem dX0_leaveBody_16 : decode cX0_leaveBody 16 = .ok (.aload_n 0, 1) := by decide +kernel
theorem dX0_leaveBody_17 : decode cX0_leaveBody 17 = .ok (.dup, 1) := by decide +kernel
theorem dX0_leaveBody_18 : decode cX0_leaveBody 18 = .ok (.getfield 29, 3) := by decide +kernel
theorem dX0_leaveBody_21 : decode cX0_leaveBody 21 = .ok (.iload_n 1, 1) := by decide +kernel
theorem dX0_leaveBody_22 : decode cX0_leaveBody 22 = .ok (.isub, 1) := by decide +kernel
theorem dX0_leaveBody_23 : decode cX0_leaveBody 23 = .ok (.putfield 29, 3) := by decide +kernel
theorem dX0_leaveBody_26 : decode cX0_leaveBody 26 = .ok (.aload_n 0, 1) := by decide +kernel
theorem dX0_leaveBody_27 : decode cX0_leaveBody 27 = .ok (.iload_n 1, 1) := by decide +kernel
theorem dX0_leaveBody_28 : decode cX0_leaveBody 28 = .ok (.invokevirtual 99, 3) := by decide +kernel
theorem dX0_leaveBody_31 : decode cX0_leaveBody 31 = .ok (.return_, 1) := by decide +kernel
theorem wX0_leaveBody {x : GX} {n0 sl0 : Nat} (X : Cx x cX0_leaveBody RX0 none n0 sl0 3 61) {out : Mm} (hE : Ends x n0 sl0 none out) (hn : xn x = 2) (fu : Nat)   (a0 : Nat)  (M : Mm) (h : fX0_leaveBody fu  a0 M = some out) : Gw x M 0 [(0, pR (some a0))] [] := by
  unfold fX0_leaveBody at h
  refine g_aload_n X (pc := 0) 0 rfl rfl dX0_leaveBody_0 ?_
  obtain ⟨v1, ev1, h⟩ := bd h
  refine g_getI X (pc := 1) fk_0_3 rfl rfl ev1 tb_865 dX0_leaveBody_1 ?_
  refine g_aload_n X (pc := 4) 0 rfl rfl dX0_leaveBody_4 ?_
  obtain ⟨q2, eq2, h⟩ := bd h
  obtain ⟨v4, M3, eM3, h⟩ := b2d h
  refine g_callV X (pc := 5) (M' := M3) (ro := some (pI v4)) (c := 0) rfl (by decide) (as := []) (as' := []) (st := [pI v1]) eq2 (ctX0_held _ _ _ _ _ _ fu q2  M _ eM3) tb_605 tb_602 tb_603 tb_604 tb_19 ⟨rfl, hyX0_held⟩ rfl rfl ⟨by decide, by decide⟩ (Nat.le_of_ble_eq_true rfl) dX0_leaveBody_5 ?_
  refine g_mmin X (pc := 8) tb_1166 tb_348 tb_13 tb_349 ⟨by decide, Nat.le_of_ble_eq_true rfl⟩ dX0_leaveBody_8 ?_
  refine g_istore_n X (pc := 11) [(1, pI (jmin v1 v4)), (0, pR (some a0))] rfl (lt_n hn (by decide)) rfl dX0_leaveBody_11 ?_
  refine g_iload_n X (pc := 12) 0 rfl rfl dX0_leaveBody_12 ?_
  refine g_if_le X (pc := 13) (tgt := 31) dX0_leaveBody_13 (by decide) (fun hc => ?_) (fun hc => ?_)
  · have h := (if_pos hc).symm.trans h
    obtain rfl := Option.some.inj h
    exact g_return X hE dX0_leaveBody_31
  · have h := (if_neg hc).symm.trans h
    refine g_aload_n X (pc := 16) 1 rfl rfl dX0_leaveBody_16 ?_
    refine g_dup X (pc := 17) rfl dX0_leaveBody_17 ?_
    obtain ⟨v5, ev5, h⟩ := bd h
    refine g_getI X (pc := 18) fk_0_3 rfl rfl ev5 tb_865 dX0_leaveBody_18 ?_
    refine g_iload_n X (pc := 21) 0 rfl rfl dX0_leaveBody_21 ?_
    refine g_isub X (pc := 22) dX0_leaveBody_22 ?_
    obtain ⟨M6, eM6, h⟩ := bd h
    refine g_putI X (pc := 23) fk_0_3 rfl rfl rfl eM6 tb_865 (Or.inl rfl) dX0_leaveBody_23 ?_
    refine g_aload_n X (pc := 26) 1 rfl rfl dX0_leaveBody_26 ?_
    refine g_iload_n X (pc := 27) 0 rfl rfl dX0_leaveBody_27 ?_
    obtain ⟨q7, eq7, h⟩ := bd h
    obtain ⟨M8, eM8, h⟩ := bd h
    refine g_callV X (pc := 28) (M' := M8) (ro := none) (c := 0) rfl (by decide) (as := [pI (jmin v1 v4)]) (as' := [pI (jmin v1 v4)]) (st := []) eq7 (ctX0_leave _ _ _ _ _ _ fu q7 (jmin v1 v4) M6 _ eM8) tb_1170 tb_1167 tb_1168 tb_1169 tb_19 ⟨rfl, hyX0_leave⟩ rfl rfl ⟨by decide, by decide⟩ (Nat.le_of_ble_eq_true rfl) dX0_leaveBody_28 ?_
    obtain rfl := Option.some.inj h
    exact g_return X hE dX0_leaveBody_31
theorem hyX0_leaveBody : yX0_leaveBody.cls ≠ "java/lang/invoke/MethodHandle" ∧ yX0_leaveBody.cls ≠ "java/lang/invoke/VarHandle" ∧ (parseMethodDescriptor yX0_leaveBody.desc).map (fun d => d.parameters.length) = some 0 := ⟨by decide +kernel, by decide +kernel, by decide +kernel⟩
theorem ctX0_leaveBody (l : Launch) (E : Nat → Nat) (D : va_G) (dA : Nat → ClassId) (lo : Nat) (H0 : Heap) (fu : Nat) (a0 : Nat) (M : Mm) (out : Mm) (h : fX0_leaveBody fu a0 M = some out) : Ct l E D dA lo H0 yX0_leaveBody cX0_leaveBody 2 none 3 61 [pR (some a0)] M none out := by
  refine ct_of (by decide +kernel) (Nat.le_of_ble_eq_true rfl) ?_
  intro x hl he hd ha ho hh hn hin X hE
  exact wX0_leaveBody X hE hn fu a0 M h
/-! WebHost$Pace.<init>()V -/
def fX5_init (fu : Nat)  (a0 : Nat)  (M : Mm) : Option (Mm) :=
    some M
theorem dX5_init_0 : decode cX5_init 0 = .ok (.aload_n 0, 1) := by decide +kernel
theorem dX5_init_1 : decode cX5_init 1 = .ok (.invokespecial 3, 3) := by decide +kernel
theorem dX5_init_4 : decode cX5_init 4 = .ok (.return_, 1) := by decide +kernel
theorem wX5_init {x : GX} {n0 sl0 : Nat} (X : Cx x cX5_init RX5 none n0 sl0 1 12) {out : Mm} (hE : Ends x n0 sl0 none out) (hn : xn x = 1) (hin : (xt x).name = "<init>") (fu : Nat)   (a0 : Nat)  (M : Mm) (h : fX5_init fu  a0 M = some out) : Gw x M 0 [(0, pR (some a0))] [] := by
  unfold fX5_init at h
  refine g_aload_n X (pc := 0) 0 rfl rfl dX5_init_0 ?_
  refine g_objInit X (pc := 1) (o := (some a0)) ⟨_, rfl⟩ tb_900 tb_32 tb_33 ⟨by decide, Nat.le_of_ble_eq_true rfl⟩ dX5_init_1 ?_
  obtain rfl := Option.some.inj h
  exact g_return X hE dX5_init_4
theorem hyX5_init : yX5_init.cls ≠ "java/lang/invoke/MethodHandle" ∧ yX5_init.cls ≠ "java/lang/invoke/VarHandle" ∧ (parseMethodDescriptor yX5_init.desc).map (fun d => d.parameters.length) = some 0 := ⟨by decide +kernel, by decide +kernel, by decide +kernel⟩
theorem ctX5_init (l : Launch) (E : Nat → Nat) (D : va_G) (dA : Nat → ClassId) (lo : Nat) (H0 : Heap) (fu : Nat) (a0 : Nat) (M : Mm) (out : Mm) (h : fX5_init fu a0 M = some out) : Ct l E D dA lo H0 yX5_init cX5_init 1 none 1 12 [pR (some a0)] M none out := by
  refine ct_of (by decide +kernel) (Nat.le_of_ble_eq_true rfl) ?_
  intro x hl he hd ha ho hh hn hin X hE
  exact wX5_init X hE hn hin fu a0 M h
/-! WebHost$Connection.<init>()V -/
def fX1_init (fu : Nat)  (a0 : Nat)  (M : Mm) : Option (Mm) :=
    b2 (mkA M 100 (256 : Int32)) fun v1 M2 =>
    (pG M2 1 79 (some a0) (some v1)).bind fun M3 =>
    b2 (mkO M3 0) fun v4 M5 =>
    (fX0_init fu v4  M5).bind fun M6 =>
    (pG M6 1 80 (some a0) (some v4)).bind fun M7 =>
    b2 (mkO M7 5) fun v8 M9 =>
    (fX5_init fu v8  M9).bind fun M10 =>
    (pG M10 1 81 (some a0) (some v8)).bind fun M11 =>
    some M11
theorem dX1_init_0 : decode cX1_init 0 = .ok (.aload_n 0, 1) := by decide +kernel
theorem dX1_init_1 : decode cX1_init 1 = .ok (.invokespecial 3, 3) := by decide +kernel
theorem dX1_init_4 : decode cX1_init 4 = .ok (.aload_n 0, 1) := by decide +kernel
theorem dX1_init_5 : decode cX1_init 5 = .ok (.sipush 256, 3) := by decide +kernel
theorem dX1_init_8 : decode cX1_init 8 = .ok (.newarray .byte, 2) := by decide +kernel
theorem dX1_init_10 : decode cX1_init 10 = .ok (.putfield 11, 3) := by decide +kernel
theorem dX1_init_13 : decode cX1_init 13 = .ok (.aload_n 0, 1) := by decide +kernel
theorem dX1_init_14 : decode cX1_init 14 = .ok (.new 15, 3) := by decide +kernel
theorem dX1_init_17 : decode cX1_init 17 = .ok (.dup, 1) := by decide +kernel
theorem dX1_init_18 : decode cX1_init 18 = .ok (.invokespecial 17, 3) := by decide +kernel
theorem dX1_init_21 : decode cX1_init 21 = .ok (.putfield 18, 3) := by decide +kernel
theorem dX1_init_24 : decode cX1_init 24 = .ok (.aload_n 0, 1) := by decide +kernel
theorem dX1_init_25 : decode cX1_init 25 = .ok (.new 22, 3) := by decide +kernel
theorem dX1_init_28 : decode cX1_init 28 = .ok (.dup, 1) := by decide +kernel
theorem dX1_init_29 : decode cX1_init 29 = .ok (.invokespecial 24, 3) := by decide +kernel
theorem dX1_init_32 : decode cX1_init 32 = .ok (.putfield 25, 3) := by decide +kernel
theorem dX1_init_35 : decode cX1_init 35 = .ok (.return_, 1) := by decide +kernel
theorem wX1_init {x : GX} {n0 sl0 : Nat} (X : Cx x cX1_init RX1 none n0 sl0 2 32) {out : Mm} (hE : Ends x n0 sl0 none out) (hn : xn x = 1) (hin : (xt x).name = "<init>") (fu : Nat)   (a0 : Nat)  (M : Mm) (h : fX1_init fu  a0 M = some out) : Gw x M 0 [(0, pR (some a0))] [] := by
  unfold fX1_init at h
  refine g_aload_n X (pc := 0) 0 rfl rfl dX1_init_0 ?_
  refine g_objInit X (pc := 1) (o := (some a0)) ⟨_, rfl⟩ tb_852 tb_32 tb_33 ⟨by decide, Nat.le_of_ble_eq_true rfl⟩ dX1_init_1 ?_
  refine g_aload_n X (pc := 4) 0 rfl rfl dX1_init_4 ?_
  refine g_sipush X (pc := 5) (v := 256) dX1_init_5 (by decide) ?_
  obtain ⟨v1, M2, eM2, h⟩ := b2d h
  refine g_newarray X (pc := 8) (at9 := .byte) (k := 0) rfl (by decide) rfl (by decide) (fun _ _ q => q) tb_53 eM2 dX1_init_8 ?_
  obtain ⟨M3, eM3, h⟩ := bd h
  refine g_putG X (pc := 10) fk_1_15 rfl rfl rfl eM3 tb_991 (Or.inr ⟨rfl, hin, rfl⟩) dX1_init_10 ?_
  refine g_aload_n X (pc := 13) 0 rfl rfl dX1_init_13 ?_
  obtain ⟨v4, M5, eM5, h⟩ := b2d h
  refine g_new X (pc := 14) fk_0_0 dvX0 eM5 tb_853 tb_854 tb_19 dX1_init_14 ?_
  refine g_dup X (pc := 17) rfl dX1_init_17 ?_
  obtain ⟨M6, eM6, h⟩ := bd h
  refine g_callI X (pc := 18) (M' := M6) (as := []) (as' := []) (st := [pR (some v4), pR (some a0)]) (ctX0_init _ _ _ _ _ _ fu v4  M5 _ eM6) tb_857 tb_855 tb_856 tb_19 rfl hyX0_init rfl rfl ⟨by decide, by decide⟩ (Nat.le_of_ble_eq_true rfl) dX1_init_18 ?_
  obtain ⟨M7, eM7, h⟩ := bd h
  refine g_putG X (pc := 21) fk_1_16 rfl rfl rfl eM7 tb_993 (Or.inr ⟨rfl, hin, rfl⟩) dX1_init_21 ?_
  refine g_aload_n X (pc := 24) 0 rfl rfl dX1_init_24 ?_
  obtain ⟨v8, M9, eM9, h⟩ := b2d h
  refine g_new X (pc := 25) fk_5_0 dvX5 eM9 tb_895 tb_896 tb_20 dX1_init_25 ?_
  refine g_dup X (pc := 28) rfl dX1_init_28 ?_
  obtain ⟨M10, eM10, h⟩ := bd h
  refine g_callIN X (pc := 29) (M' := M10) (as := []) (as' := []) (st := [pR (some v8), pR (some a0)]) (ctX5_init _ _ _ _ _ _ fu v8  M9 _ eM10) tb_899 (List.mem_of_getElem? (i := 22) rfl) tb_898 tb_20 rfl hyX5_init rfl rfl ⟨by decide, by decide⟩ (Nat.le_of_ble_eq_true rfl) dX1_init_29 ?_
  obtain ⟨M11, eM11, h⟩ := bd h
  refine g_putG X (pc := 32) fk_1_17 rfl rfl rfl eM11 tb_996 (Or.inr ⟨rfl, hin, rfl⟩) dX1_init_32 ?_
  obtain rfl := Option.some.inj h
  exact g_return X hE dX1_init_35
theorem hyX1_init : yX1_init.cls ≠ "java/lang/invoke/MethodHandle" ∧ yX1_init.cls ≠ "java/lang/invoke/VarHandle" ∧ (parseMethodDescriptor yX1_init.desc).map (fun d => d.parameters.length) = some 0 := ⟨by decide +kernel, by decide +kernel, by decide +kernel⟩
theorem ctX1_init (l : Launch) (E : Nat → Nat) (D : va_G) (dA : Nat → ClassId) (lo : Nat) (H0 : Heap) (fu : Nat) (a0 : Nat) (M : Mm) (out : Mm) (h : fX1_init fu a0 M = some out) : Ct l E D dA lo H0 yX1_init cX1_init 1 none 2 32 [pR (some a0)] M none out := by
  refine ct_of (by decide +kernel) (Nat.le_of_ble_eq_true rfl) ?_
  intro x hl he hd ha ho hh hn hin X hE
  exact wX1_init X hE hn hin fu a0 M h
/-! WebHost$Connection.clearAnswer(I)V -/
def fX1_clearAnswer (fu : Nat)  (a0 : Nat) (a1 : Int32)  (M : Mm) : Option (Mm) :=
    (pF M 1 77 (some a0) a1).bind fun M1 =>
    (pF M1 1 78 (some a0) (0 : Int32)).bind fun M2 =>
    (pF M2 1 75 (some a0) (0 : Int32)).bind fun M3 =>
    (pF M3 1 76 (some a0) (0 : Int32)).bind fun M4 =>
    (pZ M4 1 74 (some a0) (0 : Int32)).bind fun M5 =>
    some M5
theorem dX1_clearAnswer_0 : decode cX1_clearAnswer 0 = .ok (.aload_n 0, 1) := by decide +kernel
theorem dX1_clearAnswer_1 : decode cX1_clearAnswer 1 = .ok (.iload_n 1, 1) := by decide +kernel
theorem dX1_clearAnswer_2 : decode cX1_clearAnswer 2 = .ok (.putfield 84, 3) := by decide +kernel
theorem dX1_clearAnswer_5 : decode cX1_clearAnswer 5 = .ok (.aload_n 0, 1) := by decide +kernel
theorem dX1_clearAnswer_6 : decode cX1_clearAnswer 6 = .ok (.iconst 0, 1) := by decide +kernel
theorem dX1_clearAnswer_7 : decode cX1_clearAnswer 7 = .ok (.putfield 87, 3) := by decide +kernel
theorem dX1_clearAnswer_10 : decode cX1_clearAnswer 10 = .ok (.aload_n 0, 1) := by decide +kernel
theorem dX1_clearAnswer_11 : decode cX1_clearAnswer 11 = .ok (.iconst 0, 1) := by decide +kernel
theorem dX1_clearAnswer_12 : decode cX1_clearAnswer 12 = .ok (.putfield 90, 3) := by decide +kernel
theorem dX1_clearAnswer_15 : decode cX1_clearAnswer 15 = .ok (.aload_n 0, 1) := by decide +kernel
theorem dX1_clearAnswer_16 : decode cX1_clearAnswer 16 = .ok (.iconst 0, 1) := by decide +kernel
theorem dX1_clearAnswer_17 : decode cX1_clearAnswer 17 = .ok (.putfield 93, 3) := by decide +kernel
theorem dX1_clearAnswer_20 : decode cX1_clearAnswer 20 = .ok (.aload_n 0, 1) := by decide +kernel
theorem dX1_clearAnswer_21 : decode cX1_clearAnswer 21 = .ok (.iconst 0, 1) := by decide +kernel
theorem dX1_clearAnswer_22 : decode cX1_clearAnswer 22 = .ok (.putfield 96, 3) := by decide +kernel
theorem dX1_clearAnswer_25 : decode cX1_clearAnswer 25 = .ok (.return_, 1) := by decide +kernel
theorem wX1_clearAnswer {x : GX} {n0 sl0 : Nat} (X : Cx x cX1_clearAnswer RX1 none n0 sl0 0 0) {out : Mm} (hE : Ends x n0 sl0 none out) (hn : xn x = 2) (fu : Nat)   (a0 : Nat) (a1 : Int32)  (M : Mm) (h : fX1_clearAnswer fu  a0 a1 M = some out) : Gw x M 0 [(0, pR (some a0)), (1, pI a1)] [] := by
  unfold fX1_clearAnswer at h
  refine g_aload_n X (pc := 0) 0 rfl rfl dX1_clearAnswer_0 ?_
  refine g_iload_n X (pc := 1) 1 rfl rfl dX1_clearAnswer_1 ?_
  obtain ⟨M1, eM1, h⟩ := bd h
  refine g_putI X (pc := 2) fk_1_13 rfl rfl rfl eM1 tb_987 (Or.inl rfl) dX1_clearAnswer_2 ?_
  refine g_aload_n X (pc := 5) 0 rfl rfl dX1_clearAnswer_5 ?_
  refine g_iconst X (pc := 6) (v := 0) dX1_clearAnswer_6 (by decide) ?_
  obtain ⟨M2, eM2, h⟩ := bd h
  refine g_putI X (pc := 7) fk_1_14 rfl rfl rfl eM2 tb_989 (Or.inl rfl) dX1_clearAnswer_7 ?_
  refine g_aload_n X (pc := 10) 0 rfl rfl dX1_clearAnswer_10 ?_
  refine g_iconst X (pc := 11) (v := 0) dX1_clearAnswer_11 (by decide) ?_
  obtain ⟨M3, eM3, h⟩ := bd h
  refine g_putI X (pc := 12) fk_1_11 rfl rfl rfl eM3 tb_982 (Or.inl rfl) dX1_clearAnswer_12 ?_
  refine g_aload_n X (pc := 15) 0 rfl rfl dX1_clearAnswer_15 ?_
  refine g_iconst X (pc := 16) (v := 0) dX1_clearAnswer_16 (by decide) ?_
  obtain ⟨M4, eM4, h⟩ := bd h
  refine g_putI X (pc := 17) fk_1_12 rfl rfl rfl eM4 tb_985 (Or.inl rfl) dX1_clearAnswer_17 ?_
  refine g_aload_n X (pc := 20) 0 rfl rfl dX1_clearAnswer_20 ?_
  refine g_iconst X (pc := 21) (v := 0) dX1_clearAnswer_21 (by decide) ?_
  obtain ⟨M5, eM5, h⟩ := bd h
  refine g_putZ X (pc := 22) fk_1_10 rfl rfl rfl eM5 tb_980 (Or.inl rfl) dX1_clearAnswer_22 ?_
  obtain rfl := Option.some.inj h
  exact g_return X hE dX1_clearAnswer_25
theorem hyX1_clearAnswer : yX1_clearAnswer.cls ≠ "java/lang/invoke/MethodHandle" ∧ yX1_clearAnswer.cls ≠ "java/lang/invoke/VarHandle" ∧ (parseMethodDescriptor yX1_clearAnswer.desc).map (fun d => d.parameters.length) = some 1 := ⟨by decide +kernel, by decide +kernel, by decide +kernel⟩
theorem ctX1_clearAnswer (l : Launch) (E : Nat → Nat) (D : va_G) (dA : Nat → ClassId) (lo : Nat) (H0 : Heap) (fu : Nat) (a0 : Nat) (a1 : Int32) (M : Mm) (out : Mm) (h : fX1_clearAnswer fu a0 a1 M = some out) : Ct l E D dA lo H0 yX1_clearAnswer cX1_clearAnswer 2 none 0 0 [pR (some a0), pI a1] M none out := by
  refine ct_of (by decide +kernel) (Nat.le_of_ble_eq_true rfl) ?_
  intro x hl he hd ha ho hh hn hin X hE
  exact wX1_clearAnswer X hE hn fu a0 a1 M h
/-! WebHost.two([BI)I -/
def fX11_two (fu : Nat)  (a0 : Option Nat) (a1 : Int32)  (M : Mm) : Option (Int32 × Mm) :=
    if a1 < 0 then (
    some ((0 : Int32), M))
    else (
    (aL M 100 a0).bind fun v1 =>
    if a1 ≤ (v1 - (2 : Int32)) then (
    (gA M 100 a0 a1).bind fun v2 =>
    (gA M 100 a0 (a1 + (1 : Int32))).bind fun v3 =>
    some ((((v2 &&& (255 : Int32)) <<< ((8 : Int32) &&& 31)) ||| (v3 &&& (255 : Int32))), M))
    else (
    some ((0 : Int32), M)))
theorem dX11_two_0 : decode cX11_two 0 = .ok (.iload_n 1, 1) := by decide +kernel
theorem dX11_two_1 : decode cX11_two 1 = .ok (.ifCond .lt 11, 3) := by decide +kernel
theorem dX11_two_4 : decode cX11_two 4 = .ok (.iload_n 1, 1) := by decide +kernel
theorem dX11_two_5 : decode cX11_two 5 = .ok (.aload_n 0, 1) := by decide +kernel
theorem dX11_two_6 : decode cX11_two 6 = .ok (.arraylength, 1) := by decide +kernel
theorem dX11_two_7 : decode cX11_two 7 = .ok (.iconst 2, 1) := by decide +kernel
theorem dX11_two_8 : decode cX11_two 8 = .ok (.isub, 1) := by decide +kernel
theorem dX11_two_9 : decode cX11_two 9 = .ok (.if_icmp .le 5, 3) := by decide +kernel
theorem dX11_two_12 : decode cX11_two 12 = .ok (.iconst 0, 1) := by decide +kernel
theorem dX11_two_13 : decode cX11_two 13 = .ok (.ireturn, 1) := by decide +kernel
theorem dX11_two_14 : decode cX11_two 14 = .ok (.aload_n 0, 1) := by decide +kernel
theorem dX11_two_15 : decode cX11_two 15 = .ok (.iload_n 1, 1) := by decide +kernel
theorem dX11_two_16 : decode cX11_two 16 = .ok (.baload, 1) := by decide +kernel
theorem dX11_two_17 : decode cX11_two 17 = .ok (.sipush 255, 3) := by decide +kernel
theorem dX11_two_20 : decode cX11_two 20 = .ok (.iand, 1) := by decide +kernel
theorem dX11_two_21 : decode cX11_two 21 = .ok (.bipush 8, 2) := by decide +kernel
theorem dX11_two_23 : decode cX11_two 23 = .ok (.ishl, 1) := by decide +kernel
theorem dX11_two_24 : decode cX11_two 24 = .ok (.aload_n 0, 1) := by decide +kernel
theorem dX11_two_25 : decode cX11_two 25 = .ok (.iload_n 1, 1) := by decide +kernel
theorem dX11_two_26 : decode cX11_two 26 = .ok (.iconst 1, 1) := by decide +kernel
theorem dX11_two_27 : decode cX11_two 27 = .ok (.iadd, 1) := by decide +kernel
theorem dX11_two_28 : decode cX11_two 28 = .ok (.baload, 1) := by decide +kernel
theorem dX11_two_29 : decode cX11_two 29 = .ok (.sipush 255, 3) := by decide +kernel
theorem dX11_two_32 : decode cX11_two 32 = .ok (.iand, 1) := by decide +kernel
theorem dX11_two_33 : decode cX11_two 33 = .ok (.ior, 1) := by decide +kernel
theorem dX11_two_34 : decode cX11_two 34 = .ok (.ireturn, 1) := by decide +kernel
theorem wX11_two {x : GX} {n0 sl0 : Nat} (X : Cx x cX11_two RX11 (some .int) n0 sl0 0 0) {out : Int32 × Mm} (hE : Ends x n0 sl0 (some (pI out.1)) out.2) (hn : xn x = 2) (fu : Nat)   (a0 : Option Nat) (a1 : Int32)  (M : Mm) (h : fX11_two fu  a0 a1 M = some out) : Gw x M 0 [(0, pR a0), (1, pI a1)] [] := by
  unfold fX11_two at h
  refine g_iload_n X (pc := 0) 1 rfl rfl dX11_two_0 ?_
  refine g_if_lt X (pc := 1) (tgt := 12) dX11_two_1 (by decide) (fun hc => ?_) (fun hc => ?_)
  · have h := (if_pos hc).symm.trans h
    refine g_iconst X (pc := 12) (v := 0) dX11_two_12 (by decide) ?_
    obtain rfl := Option.some.inj h
    exact g_ireturn X hE dX11_two_13
  · have h := (if_neg hc).symm.trans h
    refine g_iload_n X (pc := 4) 1 rfl rfl dX11_two_4 ?_
    refine g_aload_n X (pc := 5) 0 rfl rfl dX11_two_5 ?_
    obtain ⟨v1, ev1, h⟩ := bd h
    refine g_alen X (pc := 6) (k := 0) rfl (by decide) ev1 dX11_two_6 ?_
    refine g_iconst X (pc := 7) (v := 2) dX11_two_7 (by decide) ?_
    refine g_isub X (pc := 8) dX11_two_8 ?_
    refine g_icmp_le X (pc := 9) (tgt := 14) dX11_two_9 (by decide) (fun hc => ?_) (fun hc => ?_)
    · have h := (if_pos hc).symm.trans h
      refine g_aload_n X (pc := 14) 0 rfl rfl dX11_two_14 ?_
      refine g_iload_n X (pc := 15) 1 rfl rfl dX11_two_15 ?_
      obtain ⟨v2, ev2, h⟩ := bd h
      refine g_baload X (pc := 16) ev2 dX11_two_16 ?_
      refine g_sipush X (pc := 17) (v := 255) dX11_two_17 (by decide) ?_
      refine g_iand X (pc := 20) dX11_two_20 ?_
      refine g_bipush X (pc := 21) (v := 8) dX11_two_21 (by decide) ?_
      refine g_ishl X (pc := 23) dX11_two_23 ?_
      refine g_aload_n X (pc := 24) 0 rfl rfl dX11_two_24 ?_
      refine g_iload_n X (pc := 25) 1 rfl rfl dX11_two_25 ?_
      refine g_iconst X (pc := 26) (v := 1) dX11_two_26 (by decide) ?_
      refine g_iadd X (pc := 27) dX11_two_27 ?_
      obtain ⟨v3, ev3, h⟩ := bd h
      refine g_baload X (pc := 28) ev3 dX11_two_28 ?_
      refine g_sipush X (pc := 29) (v := 255) dX11_two_29 (by decide) ?_
      refine g_iand X (pc := 32) dX11_two_32 ?_
      refine g_ior X (pc := 33) dX11_two_33 ?_
      obtain rfl := Option.some.inj h
      exact g_ireturn X hE dX11_two_34
    · have h := (if_neg hc).symm.trans h
      refine g_iconst X (pc := 12) (v := 0) dX11_two_12 (by decide) ?_
      obtain rfl := Option.some.inj h
      exact g_ireturn X hE dX11_two_13
theorem hyX11_two : yX11_two.cls ≠ "java/lang/invoke/MethodHandle" ∧ yX11_two.cls ≠ "java/lang/invoke/VarHandle" ∧ (parseMethodDescriptor yX11_two.desc).map (fun d => d.parameters.length) = some 2 := ⟨by decide +kernel, by decide +kernel, by decide +kernel⟩
theorem ctX11_two (l : Launch) (E : Nat → Nat) (D : va_G) (dA : Nat → ClassId) (lo : Nat) (H0 : Heap) (fu : Nat) (a0 : Option Nat) (a1 : Int32) (M : Mm) (out : Int32 × Mm) (h : fX11_two fu a0 a1 M = some out) : Ct l E D dA lo H0 yX11_two cX11_two 2 (some .int) 0 0 [pR a0, pI a1] M (some (pI out.1)) out.2 := by
  refine ct_of (by decide +kernel) (Nat.le_of_ble_eq_true rfl) ?_
  intro x hl he hd ha ho hh hn hin X hE
  exact wX11_two X hE hn fu a0 a1 M h
/-! WebHost$Intake.mss()I -/
def fX3_mss_L114 (fu : Nat) (k8 : Nat → Int32 → Mm → Option (Int32 × Mm)) (a0 : Nat) (a1 : Int32) (a3 : Int32)  (M : Mm) : Option (Int32 × Mm) :=
    k8 a0 (a1 + a3) M
def fX3_mss_L63 (fu : Nat) (k8 : Nat → Int32 → Mm → Option (Int32 × Mm)) (a0 : Nat) (a1 : Int32) (a2 : Int32) (s0 : Int32) (M : Mm) : Option (Int32 × Mm) :=
    if s0 < (2 : Int32) then (
    some ((536 : Int32), M))
    else (
    (gI M 3 200 (some a0)).bind fun v1 =>
    if (a1 + s0) ≤ v1 then (
    if a2 = (2 : Int32) then (
    if s0 = (4 : Int32) then (
    (gR M 3 192 (some a0)).bind fun v2 =>
    b2 (fX11_two fu  v2 (a1 + (2 : Int32)) M) fun v4 M3 =>
    some ((jmax (64 : Int32) (jmin (1460 : Int32) v4)), M3))
    else (
    fX3_mss_L114 fu k8 a0 a1 s0 M))
    else (
    fX3_mss_L114 fu k8 a0 a1 s0 M))
    else (
    some ((536 : Int32), M)))
def fX3_mss_L8 (fu : Nat)  : Nat → Nat → Int32 → Mm → Option (Int32 × Mm)
  | 0, _, _, _ => none
  | n + 1, a0, a1, M =>
    (gI M 3 200 (some a0)).bind fun v1 =>
    if v1 ≤ a1 then (
    some ((536 : Int32), M))
    else (
    (gR M 3 192 (some a0)).bind fun v2 =>
    b2 (fX11_one fu  v2 a1 M) fun v4 M3 =>
    if v4 = 0 then (
    some ((536 : Int32), M3))
    else (
    if v4 = (1 : Int32) then (
    fX3_mss_L114 fu (fun b0 b1 M => fX3_mss_L8 fu  n b0 b1 M) a0 a1 (1 : Int32) M3)
    else (
    (gI M3 3 200 (some a0)).bind fun v5 =>
    if v5 ≤ (a1 + (1 : Int32)) then (
    fX3_mss_L63 fu (fun b0 b1 M => fX3_mss_L8 fu  n b0 b1 M) a0 a1 v4 (0 : Int32) M3)
    else (
    (gR M3 3 192 (some a0)).bind fun v6 =>
    b2 (fX11_one fu  v6 (a1 + (1 : Int32)) M3) fun v8 M7 =>
    fX3_mss_L63 fu (fun b0 b1 M => fX3_mss_L8 fu  n b0 b1 M) a0 a1 v4 v8 M7))))
def fX3_mss (fu : Nat)  (a0 : Nat)  (M : Mm) : Option (Int32 × Mm) :=
    (gI M 3 202 (some a0)).bind fun v1 =>
    fX3_mss_L8 fu  fu a0 (v1 + (20 : Int32)) M
theorem dX3_mss_0 : decode cX3_mss 0 = .ok (.aload_n 0, 1) := by decide +kernel
theorem dX3_mss_1 : decode cX3_mss 1 = .ok (.getfield 77, 3) := by decide +kernel
theorem dX3_mss_4 : decode cX3_mss 4 = .ok (.bipush 20, 2) := by decide +kernel
theorem dX3_mss_6 : decode cX3_mss 6 = .ok (.iadd, 1) := by decide +kernel
theorem dX3_mss_7 : decode cX3_mss 7 = .ok (.istore_n 1, 1) := by decide +kernel
theorem dX3_mss_8 : decode cX3_mss 8 = .ok (.iload_n 1, 1) := by decide +kernel
theorem dX3_mss_9 : decode cX3_mss 9 = .ok (.aload_n 0, 1) := by decide +kernel
theorem dX3_mss_10 : decode cX3_mss 10 = .ok (.getfield 181, 3) := by decide +kernel
theorem dX3_mss_13 : decode cX3_mss 13 = .ok (.if_icmp .ge 108, 3) := by decide +kernel
theorem dX3_mss_16 : decode cX3_mss 16 = .ok (.aload_n 0, 1) := by decide +kernel
theorem dX3_mss_17 : decode cX3_mss 17 = .ok (.getfield 19, 3) := by decide +kernel
theorem dX3_mss_20 : decode cX3_mss 20 = .ok (.iload_n 1, 1) := by decide +kernel
theorem dX3_mss_21 : decode cX3_mss 21 = .ok (.invokestatic 60, 3) := by decide +kernel
theorem dX3_mss_24 : decode cX3_mss 24 = .ok (.istore_n 2, 1) := by decide +kernel
theorem dX3_mss_25 : decode cX3_mss 25 = .ok (.iload_n 2, 1) := by decide +kernel
theorem dX3_mss_26 : decode cX3_mss 26 = .ok (.ifCond .ne 6, 3) := by decide +kernel
theorem dX3_mss_29 : decode cX3_mss 29 = .ok (.goto 92, 3) := by decide +kernel
theorem dX3_mss_32 : decode cX3_mss 32 = .ok (.iconst 1, 1) := by decide +kernel
theorem dX3_mss_33 : decode cX3_mss 33 = .ok (.istore_n 3, 1) := by decide +kernel
theorem dX3_mss_34 : decode cX3_mss 34 = .ok (.iload_n 2, 1) := by decide +kernel
theorem dX3_mss_35 : decode cX3_mss 35 = .ok (.iconst 1, 1) := by decide +kernel
theorem dX3_mss_36 : decode cX3_mss 36 = .ok (.if_icmp .eq 78, 3) := by decide +kernel
theorem dX3_mss_39 : decode cX3_mss 39 = .ok (.iload_n 1, 1) := by decide +kernel
theorem dX3_mss_40 : decode cX3_mss 40 = .ok (.iconst 1, 1) := by decide +kernel
theorem dX3_mss_41 : decode cX3_mss 41 = .ok (.iadd, 1) := by decide +kernel
theorem dX3_mss_42 : decode cX3_mss 42 = .ok (.aload_n 0, 1) := by decide +kernel
theorem dX3_mss_43 : decode cX3_mss 43 = .ok (.getfield 181, 3) := by decide +kernel
theorem dX3_mss_46 : decode cX3_mss 46 = .ok (.if_icmp .ge 16, 3) := by decide +kernel
theorem dX3_mss_49 : decode cX3_mss 49 = .ok (.aload_n 0, 1) := by decide +kernel
theorem dX3_mss_50 : decode cX3_mss 50 = .ok (.getfield 19, 3) := by decide +kernel
theorem dX3_mss_53 : decode cX3_mss 53 = .ok (.iload_n 1, 1) := by decide +kernel
theorem dX3_mss_54 : decode cX3_mss 54 = .ok (.iconst 1, 1) := by decide +kernel
theorem dX3_mss_55 : decode cX3_mss 55 = .ok (.iadd, 1) := by decide +kernel
theorem dX3_mss_56 : decode cX3_mss 56 = .ok (.invokestatic 60, 3) := by decide +kernel
theorem dX3_mss_59 : decode cX3_mss 59 = .ok (.goto 4, 3) := by decide +kernel
theorem dX3_mss_62 : decode cX3_mss 62 = .ok (.iconst 0, 1) := by decide +kernel
theorem dX3_mss_63 : decode cX3_mss 63 = .ok (.istore_n 3, 1) := by decide +kernel
theorem dX3_mss_64 : decode cX3_mss 64 = .ok (.iload_n 3, 1) := by decide +kernel
theorem dX3_mss_65 : decode cX3_mss 65 = .ok (.iconst 2, 1) := by decide +kernel
theorem dX3_mss_66 : decode cX3_mss 66 = .ok (.if_icmp .lt 55, 3) := by decide +kernel
theorem dX3_mss_69 : decode cX3_mss 69 = .ok (.iload_n 1, 1) := by decide +kernel
theorem dX3_mss_70 : decode cX3_mss 70 = .ok (.iload_n 3, 1) := by decide +kernel
theorem dX3_mss_71 : decode cX3_mss 71 = .ok (.iadd, 1) := by decide +kernel
theorem dX3_mss_72 : decode cX3_mss 72 = .ok (.aload_n 0, 1) := by decide +kernel
theorem dX3_mss_73 : decode cX3_mss 73 = .ok (.getfield 181, 3) := by decide +kernel
theorem dX3_mss_76 : decode cX3_mss 76 = .ok (.if_icmp .le 6, 3) := by decide +kernel
theorem dX3_mss_79 : decode cX3_mss 79 = .ok (.goto 42, 3) := by decide +kernel
theorem dX3_mss_82 : decode cX3_mss 82 = .ok (.iload_n 2, 1) := by decide +kernel
theorem dX3_mss_83 : decode cX3_mss 83 = .ok (.iconst 2, 1) := by decide +kernel
theorem dX3_mss_84 : decode cX3_mss 84 = .ok (.if_icmp .ne 30, 3) := by decide +kernel
theorem dX3_mss_87 : decode cX3_mss 87 = .ok (.iload_n 3, 1) := by decide +kernel
theorem dX3_mss_88 : decode cX3_mss 88 = .ok (.iconst 4, 1) := by decide +kernel
theorem dX3_mss_89 : decode cX3_mss 89 = .ok (.if_icmp .ne 25, 3) := by decide +kernel
theorem dX3_mss_92 : decode cX3_mss 92 = .ok (.bipush 64, 2) := by decide +kernel
theorem dX3_mss_94 : decode cX3_mss 94 = .ok (.sipush 1460, 3) := by decide +kernel
theorem dX3_mss_97 : decode cX3_mss 97 = .ok (.aload_n 0, 1) := by decide +kernel
theorem dX3_mss_98 : decode cX3_mss 98 = .ok (.getfield 19, 3) := by decide +kernel
theorem dX3_mss_101 : decode cX3_mss 101 = .ok (.iload_n 1, 1) := by decide +kernel
theorem dX3_mss_102 : decode cX3_mss 102 = .ok (.iconst 2, 1) := by decide +kernel
theorem dX3_mss_103 : decode cX3_mss 103 = .ok (.iadd, 1) := by decide +kernel
theorem dX3_mss_104 : decode cX3_mss 104 = .ok (.invokestatic 37, 3) := by decide +kernel
theorem dX3_mss_107 : decode cX3_mss 107 = .ok (.invokestatic 190, 3) := by decide +kernel
theorem dX3_mss_110 : decode cX3_mss 110 = .ok (.invokestatic 196, 3) := by decide +kernel
theorem dX3_mss_113 : decode cX3_mss 113 = .ok (.ireturn, 1) := by decide +kernel
theorem dX3_mss_114 : decode cX3_mss 114 = .ok (.iload_n 1, 1) := by decide +kernel
theorem dX3_mss_115 : decode cX3_mss 115 = .ok (.iload_n 3, 1) := by decide +kernel
theorem dX3_mss_116 : decode cX3_mss 116 = .ok (.iadd, 1) := by decide +kernel
theorem dX3_mss_117 : decode cX3_mss 117 = .ok (.istore_n 1, 1) := by decide +kernel
theorem dX3_mss_118 : decode cX3_mss 118 = .ok (.goto (-110), 3) := by decide +kernel
theorem dX3_mss_121 : decode cX3_mss 121 = .ok (.sipush 536, 3) := by decide +kernel
theorem dX3_mss_124 : decode cX3_mss 124 = .ok (.ireturn, 1) := by decide +kernel
theorem wX3_mss_L114 {x : GX} {n0 sl0 : Nat} (X : Cx x cX3_mss RX3 (some .int) n0 sl0 1 21) {out : Int32 × Mm} (hE : Ends x n0 sl0 (some (pI out.1)) out.2) (hn : xn x = 4) (fu : Nat) (k8 : Nat → Int32 → Mm → Option (Int32 × Mm)) (hk8 : ∀ (b0 : Nat) (b1 : Int32)  (M : Mm), k8 b0 b1 M = some out → Gw x M 8 [(0, pR (some b0)), (1, pI b1)] []) (a0 : Nat) (a1 : Int32) (a3 : Int32)  (M : Mm) (h : fX3_mss_L114 fu k8 a0 a1 a3 M = some out) : Gw x M 114 [(0, pR (some a0)), (1, pI a1), (3, pI a3)] [] := by
  unfold fX3_mss_L114 at h
  refine g_iload_n X (pc := 114) 1 rfl rfl dX3_mss_114 ?_
  refine g_iload_n X (pc := 115) 2 rfl rfl dX3_mss_115 ?_
  refine g_iadd X (pc := 116) dX3_mss_116 ?_
  refine g_istore_n X (pc := 117) [(1, pI (a1 + a3)), (0, pR (some a0)), (3, pI a3)] rfl (lt_n hn (by decide)) rfl dX3_mss_117 ?_
  refine g_goto X (pc := 118) (tgt := 8) dX3_mss_118 (by decide) ?_
  refine g_sub [1, 0] [(0, pR (some a0)), (1, pI (a1 + a3))] rfl ?_
  exact hk8 a0 (a1 + a3) M h
theorem wX3_mss_L63 {x : GX} {n0 sl0 : Nat} (X : Cx x cX3_mss RX3 (some .int) n0 sl0 1 21) {out : Int32 × Mm} (hE : Ends x n0 sl0 (some (pI out.1)) out.2) (hn : xn x = 4) (fu : Nat) (k8 : Nat → Int32 → Mm → Option (Int32 × Mm)) (hk8 : ∀ (b0 : Nat) (b1 : Int32)  (M : Mm), k8 b0 b1 M = some out → Gw x M 8 [(0, pR (some b0)), (1, pI b1)] []) (a0 : Nat) (a1 : Int32) (a2 : Int32) (s0 : Int32) (M : Mm) (h : fX3_mss_L63 fu k8 a0 a1 a2 s0 M = some out) : Gw x M 63 [(0, pR (some a0)), (1, pI a1), (2, pI a2)] [pI s0] := by
  unfold fX3_mss_L63 at h
  refine g_istore_n X (pc := 63) [(3, pI s0), (0, pR (some a0)), (1, pI a1), (2, pI a2)] rfl (lt_n hn (by decide)) rfl dX3_mss_63 ?_
  refine g_iload_n X (pc := 64) 0 rfl rfl dX3_mss_64 ?_
  refine g_iconst X (pc := 65) (v := 2) dX3_mss_65 (by decide) ?_
  refine g_icmp_lt X (pc := 66) (tgt := 121) dX3_mss_66 (by decide) (fun hc => ?_) (fun hc => ?_)
  · have h := (if_pos hc).symm.trans h
    refine g_sipush X (pc := 121) (v := 536) dX3_mss_121 (by decide) ?_
    obtain rfl := Option.some.inj h
    exact g_ireturn X hE dX3_mss_124
  · have h := (if_neg hc).symm.trans h
    refine g_iload_n X (pc := 69) 2 rfl rfl dX3_mss_69 ?_
    refine g_iload_n X (pc := 70) 0 rfl rfl dX3_mss_70 ?_
    refine g_iadd X (pc := 71) dX3_mss_71 ?_
    refine g_aload_n X (pc := 72) 1 rfl rfl dX3_mss_72 ?_
    obtain ⟨v1, ev1, h⟩ := bd h
    refine g_getI X (pc := 73) fk_3_8 rfl rfl ev1 tb_180 dX3_mss_73 ?_
    refine g_icmp_le X (pc := 76) (tgt := 82) dX3_mss_76 (by decide) (fun hc => ?_) (fun hc => ?_)
    · have h := (if_pos hc).symm.trans h
      refine g_iload_n X (pc := 82) 3 rfl rfl dX3_mss_82 ?_
      refine g_iconst X (pc := 83) (v := 2) dX3_mss_83 (by decide) ?_
      refine g_icmp_ne X (pc := 84) (tgt := 114) dX3_mss_84 (by decide) (fun hc => ?_) (fun hc => ?_)
      · have h := (if_neg hc).symm.trans h
        refine g_sub [1, 2, 0] [(0, pR (some a0)), (1, pI a1), (3, pI s0)] rfl ?_
        exact wX3_mss_L114 X hE hn fu k8 hk8 a0 a1 s0 M h
      · have h := (if_pos hc).symm.trans h
        refine g_iload_n X (pc := 87) 0 rfl rfl dX3_mss_87 ?_
        refine g_iconst X (pc := 88) (v := 4) dX3_mss_88 (by decide) ?_
        refine g_icmp_ne X (pc := 89) (tgt := 114) dX3_mss_89 (by decide) (fun hc => ?_) (fun hc => ?_)
        · have h := (if_neg hc).symm.trans h
          refine g_sub [1, 2, 0] [(0, pR (some a0)), (1, pI a1), (3, pI s0)] rfl ?_
          exact wX3_mss_L114 X hE hn fu k8 hk8 a0 a1 s0 M h
        · have h := (if_pos hc).symm.trans h
          refine g_bipush X (pc := 92) (v := 64) dX3_mss_92 (by decide) ?_
          refine g_sipush X (pc := 94) (v := 1460) dX3_mss_94 (by decide) ?_
          refine g_aload_n X (pc := 97) 1 rfl rfl dX3_mss_97 ?_
          obtain ⟨v2, ev2, h⟩ := bd h
          refine g_getR X (pc := 98) fk_3_0 rfl rfl ev2 tb_158 dX3_mss_98 ?_
          refine g_iload_n X (pc := 101) 2 rfl rfl dX3_mss_101 ?_
          refine g_iconst X (pc := 102) (v := 2) dX3_mss_102 (by decide) ?_
          refine g_iadd X (pc := 103) dX3_mss_103 ?_
          obtain ⟨v4, M3, eM3, h⟩ := b2d h
          refine g_callSN X (pc := 104) (M' := M3) (ro := some (pI v4)) (as := [pR v2, pI (a1 + (2 : Int32))]) (as' := [pI (a1 + (2 : Int32)), pR v2]) (st := [pI (1460 : Int32), pI (64 : Int32)]) (ctX11_two _ _ _ _ _ _ fu  v2 (a1 + (2 : Int32)) M _ eM3) tb_398 (List.mem_of_getElem? (i := 11) rfl) tb_397 tb_1 hyX11_two rfl rfl ⟨by decide, by decide⟩ (Nat.le_of_ble_eq_true rfl) dX3_mss_104 ?_
          refine g_mmin X (pc := 107) tb_1060 tb_348 tb_13 tb_349 ⟨by decide, Nat.le_of_ble_eq_true rfl⟩ dX3_mss_107 ?_
          refine g_mmax X (pc := 110) tb_1061 tb_405 tb_13 tb_406 ⟨by decide, Nat.le_of_ble_eq_true rfl⟩ dX3_mss_110 ?_
          obtain rfl := Option.some.inj h
          exact g_ireturn X hE dX3_mss_113
    · have h := (if_neg hc).symm.trans h
      refine g_goto X (pc := 79) (tgt := 121) dX3_mss_79 (by decide) ?_
      refine g_sipush X (pc := 121) (v := 536) dX3_mss_121 (by decide) ?_
      obtain rfl := Option.some.inj h
      exact g_ireturn X hE dX3_mss_124
theorem wX3_mss_L8 {x : GX} {n0 sl0 : Nat} (X : Cx x cX3_mss RX3 (some .int) n0 sl0 1 21) {out : Int32 × Mm} (hE : Ends x n0 sl0 (some (pI out.1)) out.2) (hn : xn x = 4) (fu : Nat)   : ∀ (n : Nat) (a0 : Nat) (a1 : Int32)  (M : Mm), fX3_mss_L8 fu  n a0 a1 M = some out → Gw x M 8 [(0, pR (some a0)), (1, pI a1)] [] := by
  intro n
  induction n with
  | zero =>
    intro a0 a1 M h
    have h : (none : Option (Int32 × Mm)) = some out := h
    cases h
  | succ n ih =>
    intro a0 a1 M h
    rw [fX3_mss_L8] at h
    refine g_iload_n X (pc := 8) 1 rfl rfl dX3_mss_8 ?_
    refine g_aload_n X (pc := 9) 0 rfl rfl dX3_mss_9 ?_
    obtain ⟨v1, ev1, h⟩ := bd h
    refine g_getI X (pc := 10) fk_3_8 rfl rfl ev1 tb_180 dX3_mss_10 ?_
    refine g_icmp_ge X (pc := 13) (tgt := 121) dX3_mss_13 (by decide) (fun hc => ?_) (fun hc => ?_)
    · have h := (if_pos hc).symm.trans h
      refine g_sipush X (pc := 121) (v := 536) dX3_mss_121 (by decide) ?_
      obtain rfl := Option.some.inj h
      exact g_ireturn X hE dX3_mss_124
    · have h := (if_neg hc).symm.trans h
      refine g_aload_n X (pc := 16) 0 rfl rfl dX3_mss_16 ?_
      obtain ⟨v2, ev2, h⟩ := bd h
      refine g_getR X (pc := 17) fk_3_0 rfl rfl ev2 tb_158 dX3_mss_17 ?_
      refine g_iload_n X (pc := 20) 1 rfl rfl dX3_mss_20 ?_
      obtain ⟨v4, M3, eM3, h⟩ := b2d h
      refine g_callSN X (pc := 21) (M' := M3) (ro := some (pI v4)) (as := [pR v2, pI a1]) (as' := [pI a1, pR v2]) (st := []) (ctX11_one _ _ _ _ _ _ fu  v2 a1 M _ eM3) tb_415 (List.mem_of_getElem? (i := 13) rfl) tb_414 tb_1 hyX11_one rfl rfl ⟨by decide, by decide⟩ (Nat.le_of_ble_eq_true rfl) dX3_mss_21 ?_
      refine g_istore_n X (pc := 24) [(2, pI v4), (0, pR (some a0)), (1, pI a1)] rfl (lt_n hn (by decide)) rfl dX3_mss_24 ?_
      refine g_iload_n X (pc := 25) 0 rfl rfl dX3_mss_25 ?_
      refine g_if_ne X (pc := 26) (tgt := 32) dX3_mss_26 (by decide) (fun hc => ?_) (fun hc => ?_)
      · have h := (if_neg hc).symm.trans h
        refine g_iconst X (pc := 32) (v := 1) dX3_mss_32 (by decide) ?_
        refine g_istore_n X (pc := 33) [(3, pI (1 : Int32)), (2, pI v4), (0, pR (some a0)), (1, pI a1)] rfl (lt_n hn (by decide)) rfl dX3_mss_33 ?_
        refine g_iload_n X (pc := 34) 1 rfl rfl dX3_mss_34 ?_
        refine g_iconst X (pc := 35) (v := 1) dX3_mss_35 (by decide) ?_
        refine g_icmp_eq X (pc := 36) (tgt := 114) dX3_mss_36 (by decide) (fun hc => ?_) (fun hc => ?_)
        · have h := (if_pos hc).symm.trans h
          refine g_sub [2, 3, 0] [(0, pR (some a0)), (1, pI a1), (3, pI (1 : Int32))] rfl ?_
          exact wX3_mss_L114 X hE hn fu (fun b0 b1 M => fX3_mss_L8 fu  n b0 b1 M) ih a0 a1 (1 : Int32) M3 h
        · have h := (if_neg hc).symm.trans h
          refine g_iload_n X (pc := 39) 3 rfl rfl dX3_mss_39 ?_
          refine g_iconst X (pc := 40) (v := 1) dX3_mss_40 (by decide) ?_
          refine g_iadd X (pc := 41) dX3_mss_41 ?_
          refine g_aload_n X (pc := 42) 2 rfl rfl dX3_mss_42 ?_
          obtain ⟨v5, ev5, h⟩ := bd h
          refine g_getI X (pc := 43) fk_3_8 rfl rfl ev5 tb_180 dX3_mss_43 ?_
          refine g_icmp_ge X (pc := 46) (tgt := 62) dX3_mss_46 (by decide) (fun hc => ?_) (fun hc => ?_)
          · have h := (if_pos hc).symm.trans h
            refine g_iconst X (pc := 62) (v := 0) dX3_mss_62 (by decide) ?_
            refine g_sub [2, 3, 1] [(0, pR (some a0)), (1, pI a1), (2, pI v4)] rfl ?_
            exact wX3_mss_L63 X hE hn fu (fun b0 b1 M => fX3_mss_L8 fu  n b0 b1 M) ih a0 a1 v4 (0 : Int32) M3 h
          · have h := (if_neg hc).symm.trans h
            refine g_aload_n X (pc := 49) 2 rfl rfl dX3_mss_49 ?_
            obtain ⟨v6, ev6, h⟩ := bd h
            refine g_getR X (pc := 50) fk_3_0 rfl rfl ev6 tb_158 dX3_mss_50 ?_
            refine g_iload_n X (pc := 53) 3 rfl rfl dX3_mss_53 ?_
            refine g_iconst X (pc := 54) (v := 1) dX3_mss_54 (by decide) ?_
            refine g_iadd X (pc := 55) dX3_mss_55 ?_
            obtain ⟨v8, M7, eM7, h⟩ := b2d h
            refine g_callSN X (pc := 56) (M' := M7) (ro := some (pI v8)) (as := [pR v6, pI (a1 + (1 : Int32))]) (as' := [pI (a1 + (1 : Int32)), pR v6]) (st := []) (ctX11_one _ _ _ _ _ _ fu  v6 (a1 + (1 : Int32)) M3 _ eM7) tb_415 (List.mem_of_getElem? (i := 13) rfl) tb_414 tb_1 hyX11_one rfl rfl ⟨by decide, by decide⟩ (Nat.le_of_ble_eq_true rfl) dX3_mss_56 ?_
            refine g_goto X (pc := 59) (tgt := 63) dX3_mss_59 (by decide) ?_
            refine g_sub [2, 3, 1] [(0, pR (some a0)), (1, pI a1), (2, pI v4)] rfl ?_
            exact wX3_mss_L63 X hE hn fu (fun b0 b1 M => fX3_mss_L8 fu  n b0 b1 M) ih a0 a1 v4 v8 M7 h
      · have h := (if_pos hc).symm.trans h
        refine g_goto X (pc := 29) (tgt := 121) dX3_mss_29 (by decide) ?_
        refine g_sipush X (pc := 121) (v := 536) dX3_mss_121 (by decide) ?_
        obtain rfl := Option.some.inj h
        exact g_ireturn X hE dX3_mss_124
theorem wX3_mss {x : GX} {n0 sl0 : Nat} (X : Cx x cX3_mss RX3 (some .int) n0 sl0 1 21) {out : Int32 × Mm} (hE : Ends x n0 sl0 (some (pI out.1)) out.2) (hn : xn x = 4) (fu : Nat)   (a0 : Nat)  (M : Mm) (h : fX3_mss fu  a0 M = some out) : Gw x M 0 [(0, pR (some a0))] [] := by
  unfold fX3_mss at h
  refine g_aload_n X (pc := 0) 0 rfl rfl dX3_mss_0 ?_
  obtain ⟨v1, ev1, h⟩ := bd h
  refine g_getI X (pc := 1) fk_3_10 rfl rfl ev1 tb_184 dX3_mss_1 ?_
  refine g_bipush X (pc := 4) (v := 20) dX3_mss_4 (by decide) ?_
  refine g_iadd X (pc := 6) dX3_mss_6 ?_
  refine g_istore_n X (pc := 7) [(1, pI (v1 + (20 : Int32))), (0, pR (some a0))] rfl (lt_n hn (by decide)) rfl dX3_mss_7 ?_
  refine g_sub [1, 0] [(0, pR (some a0)), (1, pI (v1 + (20 : Int32)))] rfl ?_
  exact wX3_mss_L8 X hE hn fu   fu a0 (v1 + (20 : Int32)) M h
theorem hyX3_mss : yX3_mss.cls ≠ "java/lang/invoke/MethodHandle" ∧ yX3_mss.cls ≠ "java/lang/invoke/VarHandle" ∧ (parseMethodDescriptor yX3_mss.desc).map (fun d => d.parameters.length) = some 0 := ⟨by decide +kernel, by decide +kernel, by decide +kernel⟩
theorem ctX3_mss (l : Launch) (E : Nat → Nat) (D : va_G) (dA : Nat → ClassId) (lo : Nat) (H0 : Heap) (fu : Nat) (a0 : Nat) (M : Mm) (out : Int32 × Mm) (h : fX3_mss fu a0 M = some out) : Ct l E D dA lo H0 yX3_mss cX3_mss 4 (some .int) 1 21 [pR (some a0)] M (some (pI out.1)) out.2 := by
  refine ct_of (by decide +kernel) (Nat.le_of_ble_eq_true rfl) ?_
  intro x hl he hd ha ho hh hn hin X hE
  exact wX3_mss X hE hn fu a0 M h
