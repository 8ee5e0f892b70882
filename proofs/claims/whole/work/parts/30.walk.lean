/-! ===== walks of methods, printed by a program of ours ===== -/
/-! WebHost$Store.<init>()V -/
def fX8_init (fu : Nat)  (a0 : Nat)  (M : Mm) : Option (Mm) :=
    b2 (mkA M 100 (0 : Int32)) fun v1 M2 =>
    (pG M2 8 512 (some a0) (some v1)).bind fun M3 =>
    b2 (mkA M3 100 (0 : Int32)) fun v4 M5 =>
    (pG M5 8 514 (some a0) (some v4)).bind fun M6 =>
    some M6
theorem dX8_init_0 : decode cX8_init 0 = .ok (.aload_n 0, 1) := by decide +kernel
theorem dX8_init_1 : decode cX8_init 1 = .ok (.invokespecial 1, 3) := by decide +kernel
theorem dX8_init_4 : decode cX8_init 4 = .ok (.aload_n 0, 1) := by decide +kernel
theorem dX8_init_5 : decode cX8_init 5 = .ok (.iconst 0, 1) := by decide +kernel
theorem dX8_init_6 : decode cX8_init 6 = .ok (.newarray .byte, 2) := by decide +kernel
theorem dX8_init_8 : decode cX8_init 8 = .ok (.putfield 7, 3) := by decide +kernel
theorem dX8_init_11 : decode cX8_init 11 = .ok (.aload_n 0, 1) := by decide +kernel
theorem dX8_init_12 : decode cX8_init 12 = .ok (.iconst 0, 1) := by decide +kernel
theorem dX8_init_13 : decode cX8_init 13 = .ok (.newarray .byte, 2) := by decide +kernel
theorem dX8_init_15 : decode cX8_init 15 = .ok (.putfield 13, 3) := by decide +kernel
theorem dX8_init_18 : decode cX8_init 18 = .ok (.return_, 1) := by decide +kernel
theorem wX8_init {x : GX} {n0 sl0 : Nat} (X : Cx x cX8_init RX8 none n0 sl0 1 12) {out : Mm} (hE : Ends x n0 sl0 none out) (hn : xn x = 1) (hin : (xt x).name = "<init>") (fu : Nat)   (a0 : Nat)  (M : Mm) (h : fX8_init fu  a0 M = some out) : Gw x M 0 [(0, pR (some a0))] [] := by
  unfold fX8_init at h
  refine g_aload_n X (pc := 0) 0 rfl rfl dX8_init_0 ?_
  refine g_objInit X (pc := 1) (o := (some a0)) ⟨_, rfl⟩ tb_39 tb_32 tb_33 ⟨by decide, Nat.le_of_ble_eq_true rfl⟩ dX8_init_1 ?_
  refine g_aload_n X (pc := 4) 0 rfl rfl dX8_init_4 ?_
  refine g_iconst X (pc := 5) (v := 0) dX8_init_5 (by decide) ?_
  obtain ⟨v1, M2, eM2, h⟩ := b2d h
  refine g_newarray X (pc := 6) (at9 := .byte) (k := 0) rfl (by decide) rfl (by decide) (fun _ _ q => q) tb_53 eM2 dX8_init_6 ?_
  obtain ⟨M3, eM3, h⟩ := bd h
  refine g_putG X (pc := 8) fk_8_0 rfl rfl rfl eM3 tb_40 (Or.inl rfl) dX8_init_8 ?_
  refine g_aload_n X (pc := 11) 0 rfl rfl dX8_init_11 ?_
  refine g_iconst X (pc := 12) (v := 0) dX8_init_12 (by decide) ?_
  obtain ⟨v4, M5, eM5, h⟩ := b2d h
  refine g_newarray X (pc := 13) (at9 := .byte) (k := 0) rfl (by decide) rfl (by decide) (fun _ _ q => q) tb_53 eM5 dX8_init_13 ?_
  obtain ⟨M6, eM6, h⟩ := bd h
  refine g_putG X (pc := 15) fk_8_2 rfl rfl rfl eM6 tb_45 (Or.inl rfl) dX8_init_15 ?_
  obtain rfl := Option.some.inj h
  exact g_return X hE dX8_init_18
theorem hyX8_init : yX8_init.cls ≠ "java/lang/invoke/MethodHandle" ∧ yX8_init.cls ≠ "java/lang/invoke/VarHandle" ∧ (parseMethodDescriptor yX8_init.desc).map (fun d => d.parameters.length) = some 0 := ⟨by decide +kernel, by decide +kernel, by decide +kernel⟩
theorem ctX8_init (l : Launch) (E : Nat → Nat) (D : va_G) (dA : Nat → ClassId) (lo : Nat) (H0 : Heap) (fu : Nat) (a0 : Nat) (M : Mm) (out : Mm) (h : fX8_init fu a0 M = some out) : Ct l E D dA lo H0 yX8_init cX8_init 1 none 1 12 [pR (some a0)] M none out := by
  refine ct_of (by decide +kernel) (Nat.le_of_ble_eq_true rfl) ?_
  intro x hl he hd ha ho hh hn hin X hE
  exact wX8_init X hE hn hin fu a0 M h
/-! java/util/Arrays.copyOf([BI)[B -/
def fJ7_copyOf_9075b (fu : Nat)  (a0 : Option Nat) (a1 : Int32)  (M : Mm) : Option (Option Nat × Mm) :=
    (aL M 100 a0).bind fun v1 =>
    if a1 = v1 then (
    b2 (clnB M a0) fun q6 M7 =>
    (rc M7 100 (some q6)).bind fun q8 =>
    some ((some q8), M7))
    else (
    b2 (mkA M 100 a1) fun v2 M3 =>
    (aL M3 100 a0).bind fun v4 =>
    (cpB M3 a0 (0 : Int32) (some v2) (0 : Int32) (jmin v4 a1)).bind fun M5 =>
    some ((some v2), M5))
theorem dJ7_copyOf_9075b_0 : decode cJ7_copyOf_9075b 0 = .ok (.iload_n 1, 1) := by decide +kernel
theorem dJ7_copyOf_9075b_1 : decode cJ7_copyOf_9075b 1 = .ok (.aload_n 0, 1) := by decide +kernel
theorem dJ7_copyOf_9075b_2 : decode cJ7_copyOf_9075b 2 = .ok (.arraylength, 1) := by decide +kernel
theorem dJ7_copyOf_9075b_3 : decode cJ7_copyOf_9075b 3 = .ok (.if_icmp .ne 11, 3) := by decide +kernel
theorem dJ7_copyOf_9075b_6 : decode cJ7_copyOf_9075b 6 = .ok (.aload_n 0, 1) := by decide +kernel
theorem dJ7_copyOf_9075b_7 : decode cJ7_copyOf_9075b 7 = .ok (.invokevirtual 310, 3) := by decide +kernel
theorem dJ7_copyOf_9075b_10 : decode cJ7_copyOf_9075b 10 = .ok (.checkcast 311, 3) := by decide +kernel
theorem dJ7_copyOf_9075b_13 : decode cJ7_copyOf_9075b 13 = .ok (.areturn, 1) := by decide +kernel
theorem dJ7_copyOf_9075b_14 : decode cJ7_copyOf_9075b 14 = .ok (.iload_n 1, 1) := by decide +kernel
theorem dJ7_copyOf_9075b_15 : decode cJ7_copyOf_9075b 15 = .ok (.newarray .byte, 2) := by decide +kernel
theorem dJ7_copyOf_9075b_17 : decode cJ7_copyOf_9075b 17 = .ok (.astore_n 2, 1) := by decide +kernel
theorem dJ7_copyOf_9075b_18 : decode cJ7_copyOf_9075b 18 = .ok (.aload_n 0, 1) := by decide +kernel
theorem dJ7_copyOf_9075b_19 : decode cJ7_copyOf_9075b 19 = .ok (.iconst 0, 1) := by decide +kernel
theorem dJ7_copyOf_9075b_20 : decode cJ7_copyOf_9075b 20 = .ok (.aload_n 2, 1) := by decide +kernel
theorem dJ7_copyOf_9075b_21 : decode cJ7_copyOf_9075b 21 = .ok (.iconst 0, 1) := by decide +kernel
theorem dJ7_copyOf_9075b_22 : decode cJ7_copyOf_9075b 22 = .ok (.aload_n 0, 1) := by decide +kernel
theorem dJ7_copyOf_9075b_23 : decode cJ7_copyOf_9075b 23 = .ok (.arraylength, 1) := by decide +kernel
theorem dJ7_copyOf_9075b_24 : decode cJ7_copyOf_9075b 24 = .ok (.iload_n 1, 1) := by decide +kernel
theorem dJ7_copyOf_9075b_25 : decode cJ7_copyOf_9075b 25 = .ok (.invokestatic 304, 3) := by decide +kernel
theorem dJ7_copyOf_9075b_28 : decode cJ7_copyOf_9075b 28 = .ok (.invokestatic 150, 3) := by decide +kernel
theorem dJ7_copyOf_9075b_31 : decode cJ7_copyOf_9075b 31 = .ok (.aload_n 2, 1) := by decide +kernel
theorem dJ7_copyOf_9075b_32 : decode cJ7_copyOf_9075b 32 = .ok (.areturn, 1) := by decide +kernel
theorem wJ7_copyOf_9075b {x : GX} {n0 sl0 : Nat} (X : Cx x cJ7_copyOf_9075b RJ7 (some (.array .byte)) n0 sl0 1 40) {out : Option Nat × Mm} (hE : Ends x n0 sl0 (some (pR out.1)) out.2) (hn : xn x = 3) (fu : Nat)   (a0 : Option Nat) (a1 : Int32)  (M : Mm) (h : fJ7_copyOf_9075b fu  a0 a1 M = some out) : Gw x M 0 [(0, pR a0), (1, pI a1)] [] := by
  unfold fJ7_copyOf_9075b at h
  refine g_iload_n X (pc := 0) 1 rfl rfl dJ7_copyOf_9075b_0 ?_
  refine g_aload_n X (pc := 1) 0 rfl rfl dJ7_copyOf_9075b_1 ?_
  obtain ⟨v1, ev1, h⟩ := bd h
  refine g_alen X (pc := 2) (k := 0) rfl (by decide) ev1 dJ7_copyOf_9075b_2 ?_
  refine g_icmp_ne X (pc := 3) (tgt := 14) dJ7_copyOf_9075b_3 (by decide) (fun hc => ?_) (fun hc => ?_)
  · have h := (if_neg hc).symm.trans h
    refine g_iload_n X (pc := 14) 1 rfl rfl dJ7_copyOf_9075b_14 ?_
    obtain ⟨v2, M3, eM3, h⟩ := b2d h
    refine g_newarray X (pc := 15) (at9 := .byte) (k := 0) rfl (by decide) rfl (by decide) (fun _ _ q => q) tb_53 eM3 dJ7_copyOf_9075b_15 ?_
    refine g_astore_n X (pc := 17) [(2, pR (some v2)), (0, pR a0), (1, pI a1)] rfl (lt_n hn (by decide)) rfl dJ7_copyOf_9075b_17 ?_
    refine g_aload_n X (pc := 18) 1 rfl rfl dJ7_copyOf_9075b_18 ?_
    refine g_iconst X (pc := 19) (v := 0) dJ7_copyOf_9075b_19 (by decide) ?_
    refine g_aload_n X (pc := 20) 0 rfl rfl dJ7_copyOf_9075b_20 ?_
    refine g_iconst X (pc := 21) (v := 0) dJ7_copyOf_9075b_21 (by decide) ?_
    refine g_aload_n X (pc := 22) 1 rfl rfl dJ7_copyOf_9075b_22 ?_
    obtain ⟨v4, ev4, h⟩ := bd h
    refine g_alen X (pc := 23) (k := 0) rfl (by decide) ev4 dJ7_copyOf_9075b_23 ?_
    refine g_iload_n X (pc := 24) 2 rfl rfl dJ7_copyOf_9075b_24 ?_
    refine g_mmin X (pc := 25) tb_360 tb_348 tb_13 tb_349 ⟨by decide, Nat.le_of_ble_eq_true rfl⟩ dJ7_copyOf_9075b_25 ?_
    obtain ⟨M5, eM5, h⟩ := bd h
    refine g_copyB X (pc := 28) eM5 tb_361 tb_363 tb_362 tb_15 ⟨by decide, Nat.le_of_ble_eq_true rfl⟩ dJ7_copyOf_9075b_28 ?_
    refine g_aload_n X (pc := 31) 0 rfl rfl dJ7_copyOf_9075b_31 ?_
    obtain rfl := Option.some.inj h
    exact g_areturn X rfl (Or.inr ⟨_, rfl⟩) hE dJ7_copyOf_9075b_32
  · have h := (if_pos hc).symm.trans h
    refine g_aload_n X (pc := 6) 0 rfl rfl dJ7_copyOf_9075b_6 ?_
    obtain ⟨q6, M7, eM7, h⟩ := b2d h
    refine g_cloneB X (pc := 7) eM7 tb_353 tb_354 tb_355 tb_356 tb_357 ⟨by decide, Nat.le_of_ble_eq_true rfl⟩ dJ7_copyOf_9075b_7 ?_
    obtain ⟨q8, eq8, h⟩ := bd h
    refine g_castB X (pc := 10) eq8 tb_359 dJ7_copyOf_9075b_10 ?_
    obtain rfl := Option.some.inj h
    exact g_areturn X rfl (Or.inr ⟨_, rfl⟩) hE dJ7_copyOf_9075b_13
theorem hyJ7_copyOf_9075b : yJ7_copyOf_9075b.cls ≠ "java/lang/invoke/MethodHandle" ∧ yJ7_copyOf_9075b.cls ≠ "java/lang/invoke/VarHandle" ∧ (parseMethodDescriptor yJ7_copyOf_9075b.desc).map (fun d => d.parameters.length) = some 2 := ⟨by decide +kernel, by decide +kernel, by decide +kernel⟩
theorem ctJ7_copyOf_9075b (l : Launch) (E : Nat → Nat) (D : va_G) (dA : Nat → ClassId) (lo : Nat) (H0 : Heap) (fu : Nat) (a0 : Option Nat) (a1 : Int32) (M : Mm) (out : Option Nat × Mm) (h : fJ7_copyOf_9075b fu a0 a1 M = some out) : Ct l E D dA lo H0 yJ7_copyOf_9075b cJ7_copyOf_9075b 3 (some (.array .byte)) 1 40 [pR a0, pI a1] M (some (pR out.1)) out.2 := by
  refine ct_of (by decide +kernel) (Nat.le_of_ble_eq_true rfl) ?_
  intro x hl he hd ha ho hh hn hin X hE
  exact wJ7_copyOf_9075b X hE hn fu a0 a1 M h
/-! WebHost$Store.keep([BI)V -/
def fX8_keep (fu : Nat)  (a0 : Nat) (a1 : Option Nat) (a2 : Int32)  (M : Mm) : Option (Mm) :=
    if a2 < 0 then (
    some M)
    else (
    b2 (fJ7_copyOf_9075b fu  a1 a2 M) fun v2 M1 =>
    (pG M1 8 512 (some a0) v2).bind fun M3 =>
    some M3)
theorem dX8_keep_0 : decode cX8_keep 0 = .ok (.iload_n 2, 1) := by decide +kernel
theorem dX8_keep_1 : decode cX8_keep 1 = .ok (.ifCond .lt 12, 3) := by decide +kernel
theorem dX8_keep_4 : decode cX8_keep 4 = .ok (.aload_n 0, 1) := by decide +kernel
theorem dX8_keep_5 : decode cX8_keep 5 = .ok (.aload_n 1, 1) := by decide +kernel
theorem dX8_keep_6 : decode cX8_keep 6 = .ok (.iload_n 2, 1) := by decide +kernel
theorem dX8_keep_7 : decode cX8_keep 7 = .ok (.invokestatic 16, 3) := by decide +kernel
theorem dX8_keep_10 : decode cX8_keep 10 = .ok (.putfield 7, 3) := by decide +kernel
theorem dX8_keep_13 : decode cX8_keep 13 = .ok (.return_, 1) := by decide +kernel
theorem wX8_keep {x : GX} {n0 sl0 : Nat} (X : Cx x cX8_keep RX8 none n0 sl0 2 62) {out : Mm} (hE : Ends x n0 sl0 none out) (hn : xn x = 3) (fu : Nat)   (a0 : Nat) (a1 : Option Nat) (a2 : Int32)  (M : Mm) (h : fX8_keep fu  a0 a1 a2 M = some out) : Gw x M 0 [(0, pR (some a0)), (1, pR a1), (2, pI a2)] [] := by
  unfold fX8_keep at h
  refine g_iload_n X (pc := 0) 2 rfl rfl dX8_keep_0 ?_
  refine g_if_lt X (pc := 1) (tgt := 13) dX8_keep_1 (by decide) (fun hc => ?_) (fun hc => ?_)
  · have h := (if_pos hc).symm.trans h
    obtain rfl := Option.some.inj h
    exact g_return X hE dX8_keep_13
  · have h := (if_neg hc).symm.trans h
    refine g_aload_n X (pc := 4) 0 rfl rfl dX8_keep_4 ?_
    refine g_aload_n X (pc := 5) 1 rfl rfl dX8_keep_5 ?_
    refine g_iload_n X (pc := 6) 2 rfl rfl dX8_keep_6 ?_
    obtain ⟨v2, M1, eM1, h⟩ := b2d h
    refine g_callS X (pc := 7) (M' := M1) (ro := some (pR v2)) (as := [pR a1, pI a2]) (as' := [pI a2, pR a1]) (st := [pR (some a0)]) (ctJ7_copyOf_9075b _ _ _ _ _ _ fu  a1 a2 M _ eM1) tb_352 tb_380 tb_351 tb_14 hyJ7_copyOf_9075b rfl rfl ⟨by decide, by decide⟩ (Nat.le_of_ble_eq_true rfl) dX8_keep_7 ?_
    obtain ⟨M3, eM3, h⟩ := bd h
    refine g_putG X (pc := 10) fk_8_0 rfl rfl rfl eM3 tb_40 (Or.inl rfl) dX8_keep_10 ?_
    obtain rfl := Option.some.inj h
    exact g_return X hE dX8_keep_13
theorem hyX8_keep : yX8_keep.cls ≠ "java/lang/invoke/MethodHandle" ∧ yX8_keep.cls ≠ "java/lang/invoke/VarHandle" ∧ (parseMethodDescriptor yX8_keep.desc).map (fun d => d.parameters.length) = some 2 := ⟨by decide +kernel, by decide +kernel, by decide +kernel⟩
theorem ctX8_keep (l : Launch) (E : Nat → Nat) (D : va_G) (dA : Nat → ClassId) (lo : Nat) (H0 : Heap) (fu : Nat) (a0 : Nat) (a1 : Option Nat) (a2 : Int32) (M : Mm) (out : Mm) (h : fX8_keep fu a0 a1 a2 M = some out) : Ct l E D dA lo H0 yX8_keep cX8_keep 3 none 2 62 [pR (some a0), pR a1, pI a2] M none out := by
  refine ct_of (by decide +kernel) (Nat.le_of_ble_eq_true rfl) ?_
  intro x hl he hd ha ho hh hn hin X hE
  exact wX8_keep X hE hn fu a0 a1 a2 M h
/-! WebHost$Store.hasRightName(I)Z -/
def fX8_hasRightName_L96 (fu : Nat) (k35 : Nat → Int32 → Int32 → Int32 → Mm → Option (Int32 × Mm)) (a0 : Nat) (a1 : Int32) (a2 : Int32) (a3 : Int32)  (M : Mm) : Option (Int32 × Mm) :=
    k35 a0 a1 a2 (a3 + (1 : Int32)) M
def fX8_hasRightName_L67 (fu : Nat) (k35 : Nat → Int32 → Int32 → Int32 → Mm → Option (Int32 × Mm)) (a0 : Nat) (a1 : Int32) (a3 : Int32) (a4 : Int32) (s0 : Int32) (M : Mm) : Option (Int32 × Mm) :=
    if s0 = 0 then (
    if a4 < (33 : Int32) then (
    rN .boolean (0 : Int32) M)
    else (
    if a4 ≤ (126 : Int32) then (
    fX8_hasRightName_L96 fu k35 a0 a1 s0 a3 M)
    else (
    rN .boolean (0 : Int32) M)))
    else (
    if a4 = 0 then (
    fX8_hasRightName_L96 fu k35 a0 a1 s0 a3 M)
    else (
    rN .boolean (0 : Int32) M))
def fX8_hasRightName_L62 (fu : Nat) (k35 : Nat → Int32 → Int32 → Int32 → Mm → Option (Int32 × Mm)) (a0 : Nat) (a1 : Int32) (a3 : Int32) (a4 : Int32)  (M : Mm) : Option (Int32 × Mm) :=
    fX8_hasRightName_L67 fu k35 a0 a1 a3 a4 (1 : Int32) M
def fX8_hasRightName_L35 (fu : Nat)  : Nat → Nat → Int32 → Int32 → Int32 → Mm → Option (Int32 × Mm)
  | 0, _, _, _, _, _ => none
  | n + 1, a0, a1, a2, a3, M =>
    if (48 : Int32) ≤ a3 then (
    rN .boolean (1 : Int32) M)
    else (
    (gR M 8 512 (some a0)).bind fun v1 =>
    b2 (fX11_one fu  v1 (a1 + a3) M) fun v3 M2 =>
    if a2 = 0 then (
    if v3 = 0 then (
    fX8_hasRightName_L62 fu (fun b0 b1 b2 b3 M => fX8_hasRightName_L35 fu  n b0 b1 b2 b3 M) a0 a1 a3 v3 M2)
    else (
    fX8_hasRightName_L67 fu (fun b0 b1 b2 b3 M => fX8_hasRightName_L35 fu  n b0 b1 b2 b3 M) a0 a1 a3 v3 (0 : Int32) M2))
    else (
    fX8_hasRightName_L62 fu (fun b0 b1 b2 b3 M => fX8_hasRightName_L35 fu  n b0 b1 b2 b3 M) a0 a1 a3 v3 M2))
def fX8_hasRightName (fu : Nat)  (a0 : Nat) (a1 : Int32)  (M : Mm) : Option (Int32 × Mm) :=
    (gR M 8 512 (some a0)).bind fun v1 =>
    b2 (fX11_one fu  v1 a1 M) fun v3 M2 =>
    if v3 = (47 : Int32) then (
    (gR M2 8 512 (some a0)).bind fun v4 =>
    b2 (fX11_one fu  v4 ((a1 + (48 : Int32)) - (1 : Int32)) M2) fun v6 M5 =>
    if v6 = 0 then (
    fX8_hasRightName_L35 fu  fu a0 a1 (0 : Int32) (1 : Int32) M5)
    else (
    rN .boolean (0 : Int32) M5))
    else (
    rN .boolean (0 : Int32) M2)
theorem dX8_hasRightName_0 : decode cX8_hasRightName 0 = .ok (.aload_n 0, 1) := by decide +kernel
theorem dX8_hasRightName_1 : decode cX8_hasRightName 1 = .ok (.getfield 7, 3) := by decide +kernel
theorem dX8_hasRightName_4 : decode cX8_hasRightName 4 = .ok (.iload_n 1, 1) := by decide +kernel
theorem dX8_hasRightName_5 : decode cX8_hasRightName 5 = .ok (.invokestatic 46, 3) := by decide +kernel
theorem dX8_hasRightName_8 : decode cX8_hasRightName 8 = .ok (.bipush 47, 2) := by decide +kernel
theorem dX8_hasRightName_10 : decode cX8_hasRightName 10 = .ok (.if_icmp .ne 19, 3) := by decide +kernel
theorem dX8_hasRightName_13 : decode cX8_hasRightName 13 = .ok (.aload_n 0, 1) := by decide +kernel
theorem dX8_hasRightName_14 : decode cX8_hasRightName 14 = .ok (.getfield 7, 3) := by decide +kernel
theorem dX8_hasRightName_17 : decode cX8_hasRightName 17 = .ok (.iload_n 1, 1) := by decide +kernel
theorem dX8_hasRightName_18 : decode cX8_hasRightName 18 = .ok (.bipush 48, 2) := by decide +kernel
theorem dX8_hasRightName_20 : decode cX8_hasRightName 20 = .ok (.iadd, 1) := by decide +kernel
theorem dX8_hasRightName_21 : decode cX8_hasRightName 21 = .ok (.iconst 1, 1) := by decide +kernel
theorem dX8_hasRightName_22 : decode cX8_hasRightName 22 = .ok (.isub, 1) := by decide +kernel
theorem dX8_hasRightName_23 : decode cX8_hasRightName 23 = .ok (.invokestatic 46, 3) := by decide +kernel
theorem dX8_hasRightName_26 : decode cX8_hasRightName 26 = .ok (.ifCond .eq 5, 3) := by decide +kernel
theorem dX8_hasRightName_29 : decode cX8_hasRightName 29 = .ok (.iconst 0, 1) := by decide +kernel
theorem dX8_hasRightName_30 : decode cX8_hasRightName 30 = .ok (.ireturn, 1) := by decide +kernel
theorem dX8_hasRightName_31 : decode cX8_hasRightName 31 = .ok (.iconst 0, 1) := by decide +kernel
theorem dX8_hasRightName_32 : decode cX8_hasRightName 32 = .ok (.istore_n 2, 1) := by decide +kernel
theorem dX8_hasRightName_33 : decode cX8_hasRightName 33 = .ok (.iconst 1, 1) := by decide +kernel
theorem dX8_hasRightName_34 : decode cX8_hasRightName 34 = .ok (.istore_n 3, 1) := by decide +kernel
theorem dX8_hasRightName_35 : decode cX8_hasRightName 35 = .ok (.iload_n 3, 1) := by decide +kernel
theorem dX8_hasRightName_36 : decode cX8_hasRightName 36 = .ok (.bipush 48, 2) := by decide +kernel
theorem dX8_hasRightName_38 : decode cX8_hasRightName 38 = .ok (.if_icmp .ge 64, 3) := by decide +kernel
theorem dX8_hasRightName_41 : decode cX8_hasRightName 41 = .ok (.aload_n 0, 1) := by decide +kernel
theorem dX8_hasRightName_42 : decode cX8_hasRightName 42 = .ok (.getfield 7, 3) := by decide +kernel
theorem dX8_hasRightName_45 : decode cX8_hasRightName 45 = .ok (.iload_n 1, 1) := by decide +kernel
theorem dX8_hasRightName_46 : decode cX8_hasRightName 46 = .ok (.iload_n 3, 1) := by decide +kernel
theorem dX8_hasRightName_47 : decode cX8_hasRightName 47 = .ok (.iadd, 1) := by decide +kernel
theorem dX8_hasRightName_48 : decode cX8_hasRightName 48 = .ok (.invokestatic 46, 3) := by decide +kernel
theorem dX8_hasRightName_51 : decode cX8_hasRightName 51 = .ok (.istore 4, 2) := by decide +kernel
theorem dX8_hasRightName_53 : decode cX8_hasRightName 53 = .ok (.iload_n 2, 1) := by decide +kernel
theorem dX8_hasRightName_54 : decode cX8_hasRightName 54 = .ok (.ifCond .ne 8, 3) := by decide +kernel
theorem dX8_hasRightName_57 : decode cX8_hasRightName 57 = .ok (.iload 4, 2) := by decide +kernel
theorem dX8_hasRightName_59 : decode cX8_hasRightName 59 = .ok (.ifCond .ne 7, 3) := by decide +kernel
theorem dX8_hasRightName_62 : decode cX8_hasRightName 62 = .ok (.iconst 1, 1) := by decide +kernel
theorem dX8_hasRightName_63 : decode cX8_hasRightName 63 = .ok (.goto 4, 3) := by decide +kernel
theorem dX8_hasRightName_66 : decode cX8_hasRightName 66 = .ok (.iconst 0, 1) := by decide +kernel
theorem dX8_hasRightName_67 : decode cX8_hasRightName 67 = .ok (.istore_n 2, 1) := by decide +kernel
theorem dX8_hasRightName_68 : decode cX8_hasRightName 68 = .ok (.iload_n 2, 1) := by decide +kernel
theorem dX8_hasRightName_69 : decode cX8_hasRightName 69 = .ok (.ifCond .eq 11, 3) := by decide +kernel
theorem dX8_hasRightName_72 : decode cX8_hasRightName 72 = .ok (.iload 4, 2) := by decide +kernel
theorem dX8_hasRightName_74 : decode cX8_hasRightName 74 = .ok (.ifCond .eq 22, 3) := by decide +kernel
theorem dX8_hasRightName_77 : decode cX8_hasRightName 77 = .ok (.goto 17, 3) := by decide +kernel
theorem dX8_hasRightName_80 : decode cX8_hasRightName 80 = .ok (.iload 4, 2) := by decide +kernel
theorem dX8_hasRightName_82 : decode cX8_hasRightName 82 = .ok (.bipush 33, 2) := by decide +kernel
theorem dX8_hasRightName_84 : decode cX8_hasRightName 84 = .ok (.if_icmp .lt 10, 3) := by decide +kernel
theorem dX8_hasRightName_87 : decode cX8_hasRightName 87 = .ok (.iload 4, 2) := by decide +kernel
theorem dX8_hasRightName_89 : decode cX8_hasRightName 89 = .ok (.bipush 126, 2) := by decide +kernel
theorem dX8_hasRightName_91 : decode cX8_hasRightName 91 = .ok (.if_icmp .le 5, 3) := by decide +kernel
theorem dX8_hasRightName_94 : decode cX8_hasRightName 94 = .ok (.iconst 0, 1) := by decide +kernel
theorem dX8_hasRightName_95 : decode cX8_hasRightName 95 = .ok (.ireturn, 1) := by decide +kernel
theorem dX8_hasRightName_96 : decode cX8_hasRightName 96 = .ok (.iinc 3 1, 3) := by decide +kernel
theorem dX8_hasRightName_99 : decode cX8_hasRightName 99 = .ok (.goto (-64), 3) := by decide +kernel
theorem dX8_hasRightName_102 : decode cX8_hasRightName 102 = .ok (.iconst 1, 1) := by decide +kernel
theorem dX8_hasRightName_103 : decode cX8_hasRightName 103 = .ok (.ireturn, 1) := by decide +kernel
theorem wX8_hasRightName_L96 {x : GX} {n0 sl0 : Nat} (X : Cx x cX8_hasRightName RX8 (some .boolean) n0 sl0 1 21) {out : Int32 × Mm} (hE : Ends x n0 sl0 (some (pI out.1)) out.2) (hn : xn x = 5) (fu : Nat) (k35 : Nat → Int32 → Int32 → Int32 → Mm → Option (Int32 × Mm)) (hk35 : ∀ (b0 : Nat) (b1 : Int32) (b2 : Int32) (b3 : Int32)  (M : Mm), k35 b0 b1 b2 b3 M = some out → Gw x M 35 [(0, pR (some b0)), (1, pI b1), (2, pI b2), (3, pI b3)] []) (a0 : Nat) (a1 : Int32) (a2 : Int32) (a3 : Int32)  (M : Mm) (h : fX8_hasRightName_L96 fu k35 a0 a1 a2 a3 M = some out) : Gw x M 96 [(0, pR (some a0)), (1, pI a1), (2, pI a2), (3, pI a3)] [] := by
  unfold fX8_hasRightName_L96 at h
  refine g_iinc X (pc := 96) 3 [(3, pI (a3 + (1 : Int32))), (0, pR (some a0)), (1, pI a1), (2, pI a2)] rfl (iinc_e (by decide)) (lt_n hn (by decide)) rfl dX8_hasRightName_96 ?_
  refine g_goto X (pc := 99) (tgt := 35) dX8_hasRightName_99 (by decide) ?_
  refine g_sub [1, 2, 3, 0] [(0, pR (some a0)), (1, pI a1), (2, pI a2), (3, pI (a3 + (1 : Int32)))] rfl ?_
  exact hk35 a0 a1 a2 (a3 + (1 : Int32)) M h
theorem wX8_hasRightName_L67 {x : GX} {n0 sl0 : Nat} (X : Cx x cX8_hasRightName RX8 (some .boolean) n0 sl0 1 21) {out : Int32 × Mm} (hE : Ends x n0 sl0 (some (pI out.1)) out.2) (hn : xn x = 5) (fu : Nat) (k35 : Nat → Int32 → Int32 → Int32 → Mm → Option (Int32 × Mm)) (hk35 : ∀ (b0 : Nat) (b1 : Int32) (b2 : Int32) (b3 : Int32)  (M : Mm), k35 b0 b1 b2 b3 M = some out → Gw x M 35 [(0, pR (some b0)), (1, pI b1), (2, pI b2), (3, pI b3)] []) (a0 : Nat) (a1 : Int32) (a3 : Int32) (a4 : Int32) (s0 : Int32) (M : Mm) (h : fX8_hasRightName_L67 fu k35 a0 a1 a3 a4 s0 M = some out) : Gw x M 67 [(0, pR (some a0)), (1, pI a1), (3, pI a3), (4, pI a4)] [pI s0] := by
  unfold fX8_hasRightName_L67 at h
  refine g_istore_n X (pc := 67) [(2, pI s0), (0, pR (some a0)), (1, pI a1), (3, pI a3), (4, pI a4)] rfl (lt_n hn (by decide)) rfl dX8_hasRightName_67 ?_
  refine g_iload_n X (pc := 68) 0 rfl rfl dX8_hasRightName_68 ?_
  refine g_if_eq X (pc := 69) (tgt := 80) dX8_hasRightName_69 (by decide) (fun hc => ?_) (fun hc => ?_)
  · have h := (if_pos hc).symm.trans h
    refine g_iload X (pc := 80) 4 rfl dX8_hasRightName_80 ?_
    refine g_bipush X (pc := 82) (v := 33) dX8_hasRightName_82 (by decide) ?_
    refine g_icmp_lt X (pc := 84) (tgt := 94) dX8_hasRightName_84 (by decide) (fun hc => ?_) (fun hc => ?_)
    · have h := (if_pos hc).symm.trans h
      refine g_iconst X (pc := 94) (v := 0) dX8_hasRightName_94 (by decide) ?_
      obtain ⟨hz, rfl⟩ := rN_some h
      exact g_nreturn X rfl hz hE dX8_hasRightName_95
    · have h := (if_neg hc).symm.trans h
      refine g_iload X (pc := 87) 4 rfl dX8_hasRightName_87 ?_
      refine g_bipush X (pc := 89) (v := 126) dX8_hasRightName_89 (by decide) ?_
      refine g_icmp_le X (pc := 91) (tgt := 96) dX8_hasRightName_91 (by decide) (fun hc => ?_) (fun hc => ?_)
      · have h := (if_pos hc).symm.trans h
        refine g_sub [1, 2, 0, 3] [(0, pR (some a0)), (1, pI a1), (2, pI s0), (3, pI a3)] rfl ?_
        exact wX8_hasRightName_L96 X hE hn fu k35 hk35 a0 a1 s0 a3 M h
      · have h := (if_neg hc).symm.trans h
        refine g_iconst X (pc := 94) (v := 0) dX8_hasRightName_94 (by decide) ?_
        obtain ⟨hz, rfl⟩ := rN_some h
        exact g_nreturn X rfl hz hE dX8_hasRightName_95
  · have h := (if_neg hc).symm.trans h
    refine g_iload X (pc := 72) 4 rfl dX8_hasRightName_72 ?_
    refine g_if_eq X (pc := 74) (tgt := 96) dX8_hasRightName_74 (by decide) (fun hc => ?_) (fun hc => ?_)
    · have h := (if_pos hc).symm.trans h
      refine g_sub [1, 2, 0, 3] [(0, pR (some a0)), (1, pI a1), (2, pI s0), (3, pI a3)] rfl ?_
      exact wX8_hasRightName_L96 X hE hn fu k35 hk35 a0 a1 s0 a3 M h
    · have h := (if_neg hc).symm.trans h
      refine g_goto X (pc := 77) (tgt := 94) dX8_hasRightName_77 (by decide) ?_
      refine g_iconst X (pc := 94) (v := 0) dX8_hasRightName_94 (by decide) ?_
      obtain ⟨hz, rfl⟩ := rN_some h
      exact g_nreturn X rfl hz hE dX8_hasRightName_95
theorem wX8_hasRightName_L62 {x : GX} {n0 sl0 : Nat} (X : Cx x cX8_hasRightName RX8 (some .boolean) n0 sl0 1 21) {out : Int32 × Mm} (hE : Ends x n0 sl0 (some (pI out.1)) out.2) (hn : xn x = 5) (fu : Nat) (k35 : Nat → Int32 → Int32 → Int32 → Mm → Option (Int32 × Mm)) (hk35 : ∀ (b0 : Nat) (b1 : Int32) (b2 : Int32) (b3 : Int32)  (M : Mm), k35 b0 b1 b2 b3 M = some out → Gw x M 35 [(0, pR (some b0)), (1, pI b1), (2, pI b2), (3, pI b3)] []) (a0 : Nat) (a1 : Int32) (a3 : Int32) (a4 : Int32)  (M : Mm) (h : fX8_hasRightName_L62 fu k35 a0 a1 a3 a4 M = some out) : Gw x M 62 [(0, pR (some a0)), (1, pI a1), (3, pI a3), (4, pI a4)] [] := by
  unfold fX8_hasRightName_L62 at h
  refine g_iconst X (pc := 62) (v := 1) dX8_hasRightName_62 (by decide) ?_
  refine g_goto X (pc := 63) (tgt := 67) dX8_hasRightName_63 (by decide) ?_
  exact wX8_hasRightName_L67 X hE hn fu k35 hk35 a0 a1 a3 a4 (1 : Int32) M h
theorem wX8_hasRightName_L35 {x : GX} {n0 sl0 : Nat} (X : Cx x cX8_hasRightName RX8 (some .boolean) n0 sl0 1 21) {out : Int32 × Mm} (hE : Ends x n0 sl0 (some (pI out.1)) out.2) (hn : xn x = 5) (fu : Nat)   : ∀ (n : Nat) (a0 : Nat) (a1 : Int32) (a2 : Int32) (a3 : Int32)  (M : Mm), fX8_hasRightName_L35 fu  n a0 a1 a2 a3 M = some out → Gw x M 35 [(0, pR (some a0)), (1, pI a1), (2, pI a2), (3, pI a3)] [] := by
  intro n
  induction n with
  | zero =>
    intro a0 a1 a2 a3 M h
    have h : (none : Option (Int32 × Mm)) = some out := h
    cases h
  | succ n ih =>
    intro a0 a1 a2 a3 M h
    rw [fX8_hasRightName_L35] at h
    refine g_iload_n X (pc := 35) 3 rfl rfl dX8_hasRightName_35 ?_
    refine g_bipush X (pc := 36) (v := 48) dX8_hasRightName_36 (by decide) ?_
    refine g_icmp_ge X (pc := 38) (tgt := 102) dX8_hasRightName_38 (by decide) (fun hc => ?_) (fun hc => ?_)
    · have h := (if_pos hc).symm.trans h
      refine g_iconst X (pc := 102) (v := 1) dX8_hasRightName_102 (by decide) ?_
      obtain ⟨hz, rfl⟩ := rN_some h
      exact g_nreturn X rfl hz hE dX8_hasRightName_103
    · have h := (if_neg hc).symm.trans h
      refine g_aload_n X (pc := 41) 0 rfl rfl dX8_hasRightName_41 ?_
      obtain ⟨v1, ev1, h⟩ := bd h
      refine g_getR X (pc := 42) fk_8_0 rfl rfl ev1 tb_40 dX8_hasRightName_42 ?_
      refine g_iload_n X (pc := 45) 1 rfl rfl dX8_hasRightName_45 ?_
      refine g_iload_n X (pc := 46) 3 rfl rfl dX8_hasRightName_46 ?_
      refine g_iadd X (pc := 47) dX8_hasRightName_47 ?_
      obtain ⟨v3, M2, eM2, h⟩ := b2d h
      refine g_callSN X (pc := 48) (M' := M2) (ro := some (pI v3)) (as := [pR v1, pI (a1 + a3)]) (as' := [pI (a1 + a3), pR v1]) (st := []) (ctX11_one _ _ _ _ _ _ fu  v1 (a1 + a3) M _ eM2) tb_415 (List.mem_of_getElem? (i := 2) rfl) tb_414 tb_1 hyX11_one rfl rfl ⟨by decide, by decide⟩ (Nat.le_of_ble_eq_true rfl) dX8_hasRightName_48 ?_
      refine g_istore X (pc := 51) [(4, pI v3), (0, pR (some a0)), (1, pI a1), (2, pI a2), (3, pI a3)] (lt_n hn (by decide)) rfl dX8_hasRightName_51 ?_
      refine g_iload_n X (pc := 53) 3 rfl rfl dX8_hasRightName_53 ?_
      refine g_if_ne X (pc := 54) (tgt := 62) dX8_hasRightName_54 (by decide) (fun hc => ?_) (fun hc => ?_)
      · have h := (if_neg hc).symm.trans h
        refine g_sub [1, 2, 4, 0] [(0, pR (some a0)), (1, pI a1), (3, pI a3), (4, pI v3)] rfl ?_
        exact wX8_hasRightName_L62 X hE hn fu (fun b0 b1 b2 b3 M => fX8_hasRightName_L35 fu  n b0 b1 b2 b3 M) ih a0 a1 a3 v3 M2 h
      · have h := (if_pos hc).symm.trans h
        refine g_iload X (pc := 57) 0 rfl dX8_hasRightName_57 ?_
        refine g_if_ne X (pc := 59) (tgt := 66) dX8_hasRightName_59 (by decide) (fun hc => ?_) (fun hc => ?_)
        · have h := (if_neg hc).symm.trans h
          refine g_iconst X (pc := 66) (v := 0) dX8_hasRightName_66 (by decide) ?_
          refine g_sub [1, 2, 4, 0] [(0, pR (some a0)), (1, pI a1), (3, pI a3), (4, pI v3)] rfl ?_
          exact wX8_hasRightName_L67 X hE hn fu (fun b0 b1 b2 b3 M => fX8_hasRightName_L35 fu  n b0 b1 b2 b3 M) ih a0 a1 a3 v3 (0 : Int32) M2 h
        · have h := (if_pos hc).symm.trans h
          refine g_sub [1, 2, 4, 0] [(0, pR (some a0)), (1, pI a1), (3, pI a3), (4, pI v3)] rfl ?_
          exact wX8_hasRightName_L62 X hE hn fu (fun b0 b1 b2 b3 M => fX8_hasRightName_L35 fu  n b0 b1 b2 b3 M) ih a0 a1 a3 v3 M2 h
theorem wX8_hasRightName {x : GX} {n0 sl0 : Nat} (X : Cx x cX8_hasRightName RX8 (some .boolean) n0 sl0 1 21) {out : Int32 × Mm} (hE : Ends x n0 sl0 (some (pI out.1)) out.2) (hn : xn x = 5) (fu : Nat)   (a0 : Nat) (a1 : Int32)  (M : Mm) (h : fX8_hasRightName fu  a0 a1 M = some out) : Gw x M 0 [(0, pR (some a0)), (1, pI a1)] [] := by
  unfold fX8_hasRightName at h
  refine g_aload_n X (pc := 0) 0 rfl rfl dX8_hasRightName_0 ?_
  obtain ⟨v1, ev1, h⟩ := bd h
  refine g_getR X (pc := 1) fk_8_0 rfl rfl ev1 tb_40 dX8_hasRightName_1 ?_
  refine g_iload_n X (pc := 4) 1 rfl rfl dX8_hasRightName_4 ?_
  obtain ⟨v3, M2, eM2, h⟩ := b2d h
  refine g_callSN X (pc := 5) (M' := M2) (ro := some (pI v3)) (as := [pR v1, pI a1]) (as' := [pI a1, pR v1]) (st := []) (ctX11_one _ _ _ _ _ _ fu  v1 a1 M _ eM2) tb_415 (List.mem_of_getElem? (i := 2) rfl) tb_414 tb_1 hyX11_one rfl rfl ⟨by decide, by decide⟩ (Nat.le_of_ble_eq_true rfl) dX8_hasRightName_5 ?_
  refine g_bipush X (pc := 8) (v := 47) dX8_hasRightName_8 (by decide) ?_
  refine g_icmp_ne X (pc := 10) (tgt := 29) dX8_hasRightName_10 (by decide) (fun hc => ?_) (fun hc => ?_)
  · have h := (if_neg hc).symm.trans h
    refine g_iconst X (pc := 29) (v := 0) dX8_hasRightName_29 (by decide) ?_
    obtain ⟨hz, rfl⟩ := rN_some h
    exact g_nreturn X rfl hz hE dX8_hasRightName_30
  · have h := (if_pos hc).symm.trans h
    refine g_aload_n X (pc := 13) 0 rfl rfl dX8_hasRightName_13 ?_
    obtain ⟨v4, ev4, h⟩ := bd h
    refine g_getR X (pc := 14) fk_8_0 rfl rfl ev4 tb_40 dX8_hasRightName_14 ?_
    refine g_iload_n X (pc := 17) 1 rfl rfl dX8_hasRightName_17 ?_
    refine g_bipush X (pc := 18) (v := 48) dX8_hasRightName_18 (by decide) ?_
    refine g_iadd X (pc := 20) dX8_hasRightName_20 ?_
    refine g_iconst X (pc := 21) (v := 1) dX8_hasRightName_21 (by decide) ?_
    refine g_isub X (pc := 22) dX8_hasRightName_22 ?_
    obtain ⟨v6, M5, eM5, h⟩ := b2d h
    refine g_callSN X (pc := 23) (M' := M5) (ro := some (pI v6)) (as := [pR v4, pI ((a1 + (48 : Int32)) - (1 : Int32))]) (as' := [pI ((a1 + (48 : Int32)) - (1 : Int32)), pR v4]) (st := []) (ctX11_one _ _ _ _ _ _ fu  v4 ((a1 + (48 : Int32)) - (1 : Int32)) M2 _ eM5) tb_415 (List.mem_of_getElem? (i := 2) rfl) tb_414 tb_1 hyX11_one rfl rfl ⟨by decide, by decide⟩ (Nat.le_of_ble_eq_true rfl) dX8_hasRightName_23 ?_
    refine g_if_eq X (pc := 26) (tgt := 31) dX8_hasRightName_26 (by decide) (fun hc => ?_) (fun hc => ?_)
    · have h := (if_pos hc).symm.trans h
      refine g_iconst X (pc := 31) (v := 0) dX8_hasRightName_31 (by decide) ?_
      refine g_istore_n X (pc := 32) [(2, pI (0 : Int32)), (0, pR (some a0)), (1, pI a1)] rfl (lt_n hn (by decide)) rfl dX8_hasRightName_32 ?_
      refine g_iconst X (pc := 33) (v := 1) dX8_hasRightName_33 (by decide) ?_
      refine g_istore_n X (pc := 34) [(3, pI (1 : Int32)), (2, pI (0 : Int32)), (0, pR (some a0)), (1, pI a1)] rfl (lt_n hn (by decide)) rfl dX8_hasRightName_34 ?_
      refine g_sub [2, 3, 1, 0] [(0, pR (some a0)), (1, pI a1), (2, pI (0 : Int32)), (3, pI (1 : Int32))] rfl ?_
      exact wX8_hasRightName_L35 X hE hn fu   fu a0 a1 (0 : Int32) (1 : Int32) M5 h
    · have h := (if_neg hc).symm.trans h
      refine g_iconst X (pc := 29) (v := 0) dX8_hasRightName_29 (by decide) ?_
      obtain ⟨hz, rfl⟩ := rN_some h
      exact g_nreturn X rfl hz hE dX8_hasRightName_30
theorem hyX8_hasRightName : yX8_hasRightName.cls ≠ "java/lang/invoke/MethodHandle" ∧ yX8_hasRightName.cls ≠ "java/lang/invoke/VarHandle" ∧ (parseMethodDescriptor yX8_hasRightName.desc).map (fun d => d.parameters.length) = some 1 := ⟨by decide +kernel, by decide +kernel, by decide +kernel⟩
theorem ctX8_hasRightName (l : Launch) (E : Nat → Nat) (D : va_G) (dA : Nat → ClassId) (lo : Nat) (H0 : Heap) (fu : Nat) (a0 : Nat) (a1 : Int32) (M : Mm) (out : Int32 × Mm) (h : fX8_hasRightName fu a0 a1 M = some out) : Ct l E D dA lo H0 yX8_hasRightName cX8_hasRightName 5 (some .boolean) 1 21 [pR (some a0), pI a1] M (some (pI out.1)) out.2 := by
  refine ct_of (by decide +kernel) (Nat.le_of_ble_eq_true rfl) ?_
  intro x hl he hd ha ho hh hn hin X hE
  exact wX8_hasRightName X hE hn fu a0 a1 M h
/-! WebHost$Store.liesWithin(I)Z -/
def fX8_liesWithin (fu : Nat)  (a0 : Nat) (a1 : Int32)  (M : Mm) : Option (Int32 × Mm) :=
    (gR M 8 512 (some a0)).bind fun v1 =>
    b2 (fX11_four fu  v1 (a1 + (48 : Int32)) M) fun v3 M2 =>
    (some ((Int32.toInt64 v3) &&& (4294967295 : Int64))).bind fun v4 =>
    (gR M2 8 512 (some a0)).bind fun v5 =>
    b2 (fX11_four fu  v5 ((a1 + (48 : Int32)) + (4 : Int32)) M2) fun v7 M6 =>
    (some ((Int32.toInt64 v7) &&& (4294967295 : Int64))).bind fun v8 =>
    (gR M6 8 512 (some a0)).bind fun v9 =>
    (aL M6 100 v9).bind fun v10 =>
    if 0 < (lg_cmp (v4 + v8) (Int32.toInt64 v10)) then (
    rN .boolean (0 : Int32) M6)
    else (
    (gR M6 8 512 (some a0)).bind fun v11 =>
    b2 (fX11_four fu  v11 ((a1 + (48 : Int32)) + (12 : Int32)) M6) fun v13 M12 =>
    if v13 = 0 then (
    rN .boolean (1 : Int32) M12)
    else (
    rN .boolean (0 : Int32) M12))
theorem dX8_liesWithin_0 : decode cX8_liesWithin 0 = .ok (.aload_n 0, 1) := by decide +kernel
theorem dX8_liesWithin_1 : decode cX8_liesWithin 1 = .ok (.getfield 7, 3) := by decide +kernel
theorem dX8_liesWithin_4 : decode cX8_liesWithin 4 = .ok (.iload_n 1, 1) := by decide +kernel
theorem dX8_liesWithin_5 : decode cX8_liesWithin 5 = .ok (.bipush 48, 2) := by decide +kernel
theorem dX8_liesWithin_7 : decode cX8_liesWithin 7 = .ok (.iadd, 1) := by decide +kernel
theorem dX8_liesWithin_8 : decode cX8_liesWithin 8 = .ok (.invokestatic 22, 3) := by decide +kernel
theorem dX8_liesWithin_11 : decode cX8_liesWithin 11 = .ok (.i2l, 1) := by decide +kernel
theorem dX8_liesWithin_12 : decode cX8_liesWithin 12 = .ok (.ldc2_w 49, 3) := by decide +kernel
theorem dX8_liesWithin_15 : decode cX8_liesWithin 15 = .ok (.land, 1) := by decide +kernel
theorem dX8_liesWithin_16 : decode cX8_liesWithin 16 = .ok (.lstore_n 2, 1) := by decide +kernel
theorem dX8_liesWithin_17 : decode cX8_liesWithin 17 = .ok (.aload_n 0, 1) := by decide +kernel
theorem dX8_liesWithin_18 : decode cX8_liesWithin 18 = .ok (.getfield 7, 3) := by decide +kernel
theorem dX8_liesWithin_21 : decode cX8_liesWithin 21 = .ok (.iload_n 1, 1) := by decide +kernel
theorem dX8_liesWithin_22 : decode cX8_liesWithin 22 = .ok (.bipush 48, 2) := by decide +kernel
theorem dX8_liesWithin_24 : decode cX8_liesWithin 24 = .ok (.iadd, 1) := by decide +kernel
theorem dX8_liesWithin_25 : decode cX8_liesWithin 25 = .ok (.iconst 4, 1) := by decide +kernel
theorem dX8_liesWithin_26 : decode cX8_liesWithin 26 = .ok (.iadd, 1) := by decide +kernel
theorem dX8_liesWithin_27 : decode cX8_liesWithin 27 = .ok (.invokestatic 22, 3) := by decide +kernel
theorem dX8_liesWithin_30 : decode cX8_liesWithin 30 = .ok (.i2l, 1) := by decide +kernel
theorem dX8_liesWithin_31 : decode cX8_liesWithin 31 = .ok (.ldc2_w 49, 3) := by decide +kernel
theorem dX8_liesWithin_34 : decode cX8_liesWithin 34 = .ok (.land, 1) := by decide +kernel
theorem dX8_liesWithin_35 : decode cX8_liesWithin 35 = .ok (.lstore 4, 2) := by decide +kernel
theorem dX8_liesWithin_37 : decode cX8_liesWithin 37 = .ok (.lload_n 2, 1) := by decide +kernel
theorem dX8_liesWithin_38 : decode cX8_liesWithin 38 = .ok (.lload 4, 2) := by decide +kernel
theorem dX8_liesWithin_40 : decode cX8_liesWithin 40 = .ok (.ladd, 1) := by decide +kernel
theorem dX8_liesWithin_41 : decode cX8_liesWithin 41 = .ok (.aload_n 0, 1) := by decide +kernel
theorem dX8_liesWithin_42 : decode cX8_liesWithin 42 = .ok (.getfield 7, 3) := by decide +kernel
theorem dX8_liesWithin_45 : decode cX8_liesWithin 45 = .ok (.arraylength, 1) := by decide +kernel
theorem dX8_liesWithin_46 : decode cX8_liesWithin 46 = .ok (.i2l, 1) := by decide +kernel
theorem dX8_liesWithin_47 : decode cX8_liesWithin 47 = .ok (.lcmp, 1) := by decide +kernel
theorem dX8_liesWithin_48 : decode cX8_liesWithin 48 = .ok (.ifCond .gt 24, 3) := by decide +kernel
theorem dX8_liesWithin_51 : decode cX8_liesWithin 51 = .ok (.aload_n 0, 1) := by decide +kernel
theorem dX8_liesWithin_52 : decode cX8_liesWithin 52 = .ok (.getfield 7, 3) := by decide +kernel
theorem dX8_liesWithin_55 : decode cX8_liesWithin 55 = .ok (.iload_n 1, 1) := by decide +kernel
theorem dX8_liesWithin_56 : decode cX8_liesWithin 56 = .ok (.bipush 48, 2) := by decide +kernel
theorem dX8_liesWithin_58 : decode cX8_liesWithin 58 = .ok (.iadd, 1) := by decide +kernel
theorem dX8_liesWithin_59 : decode cX8_liesWithin 59 = .ok (.bipush 12, 2) := by decide +kernel
theorem dX8_liesWithin_61 : decode cX8_liesWithin 61 = .ok (.iadd, 1) := by decide +kernel
theorem dX8_liesWithin_62 : decode cX8_liesWithin 62 = .ok (.invokestatic 22, 3) := by decide +kernel
theorem dX8_liesWithin_65 : decode cX8_liesWithin 65 = .ok (.ifCond .ne 7, 3) := by decide +kernel
theorem dX8_liesWithin_68 : decode cX8_liesWithin 68 = .ok (.iconst 1, 1) := by decide +kernel
theorem dX8_liesWithin_69 : decode cX8_liesWithin 69 = .ok (.goto 4, 3) := by decide +kernel
theorem dX8_liesWithin_72 : decode cX8_liesWithin 72 = .ok (.iconst 0, 1) := by decide +kernel
theorem dX8_liesWithin_73 : decode cX8_liesWithin 73 = .ok (.ireturn, 1) := by decide +kernel
theorem wX8_liesWithin {x : GX} {n0 sl0 : Nat} (X : Cx x cX8_liesWithin RX8 (some .boolean) n0 sl0 1 21) {out : Int32 × Mm} (hE : Ends x n0 sl0 (some (pI out.1)) out.2) (hn : xn x = 6) (fu : Nat)   (a0 : Nat) (a1 : Int32)  (M : Mm) (h : fX8_liesWithin fu  a0 a1 M = some out) : Gw x M 0 [(0, pR (some a0)), (1, pI a1)] [] := by
  unfold fX8_liesWithin at h
  refine g_aload_n X (pc := 0) 0 rfl rfl dX8_liesWithin_0 ?_
  obtain ⟨v1, ev1, h⟩ := bd h
  refine g_getR X (pc := 1) fk_8_0 rfl rfl ev1 tb_40 dX8_liesWithin_1 ?_
  refine g_iload_n X (pc := 4) 1 rfl rfl dX8_liesWithin_4 ?_
  refine g_bipush X (pc := 5) (v := 48) dX8_liesWithin_5 (by decide) ?_
  refine g_iadd X (pc := 7) dX8_liesWithin_7 ?_
  obtain ⟨v3, M2, eM2, h⟩ := b2d h
  refine g_callSN X (pc := 8) (M' := M2) (ro := some (pI v3)) (as := [pR v1, pI (a1 + (48 : Int32))]) (as' := [pI (a1 + (48 : Int32)), pR v1]) (st := []) (ctX11_four _ _ _ _ _ _ fu  v1 (a1 + (48 : Int32)) M _ eM2) tb_394 (List.mem_of_getElem? (i := 0) rfl) tb_393 tb_1 hyX11_four rfl rfl ⟨by decide, by decide⟩ (Nat.le_of_ble_eq_true rfl) dX8_liesWithin_8 ?_
  refine g_i2l X (pc := 11) dX8_liesWithin_11 ?_
  refine g_ldc2 X (pc := 12) tb_420 dX8_liesWithin_12 ?_
  refine g_land X (pc := 15) dX8_liesWithin_15 ?_
  obtain ⟨v4, ev4, h⟩ := bd h
  refine g_nmJ ev4 ?_
  refine g_lstore_n X (pc := 16) [(2, pL v4), (0, pR (some a0)), (1, pI a1)] rfl (lt_n hn (by decide)) rfl dX8_liesWithin_16 ?_
  refine g_aload_n X (pc := 17) 1 rfl rfl dX8_liesWithin_17 ?_
  obtain ⟨v5, ev5, h⟩ := bd h
  refine g_getR X (pc := 18) fk_8_0 rfl rfl ev5 tb_40 dX8_liesWithin_18 ?_
  refine g_iload_n X (pc := 21) 2 rfl rfl dX8_liesWithin_21 ?_
  refine g_bipush X (pc := 22) (v := 48) dX8_liesWithin_22 (by decide) ?_
  refine g_iadd X (pc := 24) dX8_liesWithin_24 ?_
  refine g_iconst X (pc := 25) (v := 4) dX8_liesWithin_25 (by decide) ?_
  refine g_iadd X (pc := 26) dX8_liesWithin_26 ?_
  obtain ⟨v7, M6, eM6, h⟩ := b2d h
  refine g_callSN X (pc := 27) (M' := M6) (ro := some (pI v7)) (as := [pR v5, pI ((a1 + (48 : Int32)) + (4 : Int32))]) (as' := [pI ((a1 + (48 : Int32)) + (4 : Int32)), pR v5]) (st := []) (ctX11_four _ _ _ _ _ _ fu  v5 ((a1 + (48 : Int32)) + (4 : Int32)) M2 _ eM6) tb_394 (List.mem_of_getElem? (i := 0) rfl) tb_393 tb_1 hyX11_four rfl rfl ⟨by decide, by decide⟩ (Nat.le_of_ble_eq_true rfl) dX8_liesWithin_27 ?_
  refine g_i2l X (pc := 30) dX8_liesWithin_30 ?_
  refine g_ldc2 X (pc := 31) tb_420 dX8_liesWithin_31 ?_
  refine g_land X (pc := 34) dX8_liesWithin_34 ?_
  obtain ⟨v8, ev8, h⟩ := bd h
  refine g_nmJ ev8 ?_
  refine g_lstore X (pc := 35) [(4, pL v8), (2, pL v4), (0, pR (some a0)), (1, pI a1)] (lt_n hn (by decide)) rfl dX8_liesWithin_35 ?_
  refine g_lload_n X (pc := 37) 1 rfl rfl dX8_liesWithin_37 ?_
  refine g_lload X (pc := 38) 0 rfl dX8_liesWithin_38 ?_
  refine g_ladd X (pc := 40) dX8_liesWithin_40 ?_
  refine g_aload_n X (pc := 41) 2 rfl rfl dX8_liesWithin_41 ?_
  obtain ⟨v9, ev9, h⟩ := bd h
  refine g_getR X (pc := 42) fk_8_0 rfl rfl ev9 tb_40 dX8_liesWithin_42 ?_
  obtain ⟨v10, ev10, h⟩ := bd h
  refine g_alen X (pc := 45) (k := 0) rfl (by decide) ev10 dX8_liesWithin_45 ?_
  refine g_i2l X (pc := 46) dX8_liesWithin_46 ?_
  refine g_lcmp X (pc := 47) dX8_liesWithin_47 ?_
  refine g_if_gt X (pc := 48) (tgt := 72) dX8_liesWithin_48 (by decide) (fun hc => ?_) (fun hc => ?_)
  · have h := (if_pos hc).symm.trans h
    refine g_iconst X (pc := 72) (v := 0) dX8_liesWithin_72 (by decide) ?_
    obtain ⟨hz, rfl⟩ := rN_some h
    exact g_nreturn X rfl hz hE dX8_liesWithin_73
  · have h := (if_neg hc).symm.trans h
    refine g_aload_n X (pc := 51) 2 rfl rfl dX8_liesWithin_51 ?_
    obtain ⟨v11, ev11, h⟩ := bd h
    refine g_getR X (pc := 52) fk_8_0 rfl rfl ev11 tb_40 dX8_liesWithin_52 ?_
    refine g_iload_n X (pc := 55) 3 rfl rfl dX8_liesWithin_55 ?_
    refine g_bipush X (pc := 56) (v := 48) dX8_liesWithin_56 (by decide) ?_
    refine g_iadd X (pc := 58) dX8_liesWithin_58 ?_
    refine g_bipush X (pc := 59) (v := 12) dX8_liesWithin_59 (by decide) ?_
    refine g_iadd X (pc := 61) dX8_liesWithin_61 ?_
    obtain ⟨v13, M12, eM12, h⟩ := b2d h
    refine g_callSN X (pc := 62) (M' := M12) (ro := some (pI v13)) (as := [pR v11, pI ((a1 + (48 : Int32)) + (12 : Int32))]) (as' := [pI ((a1 + (48 : Int32)) + (12 : Int32)), pR v11]) (st := []) (ctX11_four _ _ _ _ _ _ fu  v11 ((a1 + (48 : Int32)) + (12 : Int32)) M6 _ eM12) tb_394 (List.mem_of_getElem? (i := 0) rfl) tb_393 tb_1 hyX11_four rfl rfl ⟨by decide, by decide⟩ (Nat.le_of_ble_eq_true rfl) dX8_liesWithin_62 ?_
    refine g_if_ne X (pc := 65) (tgt := 72) dX8_liesWithin_65 (by decide) (fun hc => ?_) (fun hc => ?_)
    · have h := (if_neg hc).symm.trans h
      refine g_iconst X (pc := 72) (v := 0) dX8_liesWithin_72 (by decide) ?_
      obtain ⟨hz, rfl⟩ := rN_some h
      exact g_nreturn X rfl hz hE dX8_liesWithin_73
    · have h := (if_pos hc).symm.trans h
      refine g_iconst X (pc := 68) (v := 1) dX8_liesWithin_68 (by decide) ?_
      refine g_goto X (pc := 69) (tgt := 73) dX8_liesWithin_69 (by decide) ?_
      obtain ⟨hz, rfl⟩ := rN_some h
      exact g_nreturn X rfl hz hE dX8_liesWithin_73
theorem hyX8_liesWithin : yX8_liesWithin.cls ≠ "java/lang/invoke/MethodHandle" ∧ yX8_liesWithin.cls ≠ "java/lang/invoke/VarHandle" ∧ (parseMethodDescriptor yX8_liesWithin.desc).map (fun d => d.parameters.length) = some 1 := ⟨by decide +kernel, by decide +kernel, by decide +kernel⟩
theorem ctX8_liesWithin (l : Launch) (E : Nat → Nat) (D : va_G) (dA : Nat → ClassId) (lo : Nat) (H0 : Heap) (fu : Nat) (a0 : Nat) (a1 : Int32) (M : Mm) (out : Int32 × Mm) (h : fX8_liesWithin fu a0 a1 M = some out) : Ct l E D dA lo H0 yX8_liesWithin cX8_liesWithin 6 (some .boolean) 1 21 [pR (some a0), pI a1] M (some (pI out.1)) out.2 := by
  refine ct_of (by decide +kernel) (Nat.le_of_ble_eq_true rfl) ?_
  intro x hl he hd ha ho hh hn hin X hE
  exact wX8_liesWithin X hE hn fu a0 a1 M h
/-! WebHost$Store.isNamedBefore(I)Z -/
def fX8_isNamedBefore_L45 (fu : Nat) (k3 : Nat → Int32 → Int32 → Mm → Option (Int32 × Mm)) (a0 : Nat) (a1 : Int32) (a2 : Int32) (a3 : Int32)  (M : Mm) : Option (Int32 × Mm) :=
    if a3 = (48 : Int32) then (
    rN .boolean (1 : Int32) M)
    else (
    k3 a0 a1 (a2 + (64 : Int32)) M)
def fX8_isNamedBefore_L10 (fu : Nat) (k3 : Nat → Int32 → Int32 → Mm → Option (Int32 × Mm)) : Nat → Nat → Int32 → Int32 → Int32 → Mm → Option (Int32 × Mm)
  | 0, _, _, _, _, _ => none
  | n + 1, a0, a1, a2, a3, M =>
    if (48 : Int32) ≤ a3 then (
    fX8_isNamedBefore_L45 fu k3 a0 a1 a2 a3 M)
    else (
    (gR M 8 512 (some a0)).bind fun v1 =>
    b2 (fX11_one fu  v1 (a2 + a3) M) fun v3 M2 =>
    (gR M2 8 512 (some a0)).bind fun v4 =>
    b2 (fX11_one fu  v4 (a1 + a3) M2) fun v6 M5 =>
    if v3 = v6 then (
    fX8_isNamedBefore_L10 fu k3 n a0 a1 a2 (a3 + (1 : Int32)) M5)
    else (
    fX8_isNamedBefore_L45 fu k3 a0 a1 a2 a3 M5))
def fX8_isNamedBefore_L3 (fu : Nat)  : Nat → Nat → Int32 → Int32 → Mm → Option (Int32 × Mm)
  | 0, _, _, _, _ => none
  | n + 1, a0, a1, a2, M =>
    if a1 ≤ a2 then (
    rN .boolean (0 : Int32) M)
    else (
    fX8_isNamedBefore_L10 fu (fun b0 b1 b2 M => fX8_isNamedBefore_L3 fu  n b0 b1 b2 M) fu a0 a1 a2 (0 : Int32) M)
def fX8_isNamedBefore (fu : Nat)  (a0 : Nat) (a1 : Int32)  (M : Mm) : Option (Int32 × Mm) :=
    fX8_isNamedBefore_L3 fu  fu a0 a1 (8 : Int32) M
theorem dX8_isNamedBefore_0 : decode cX8_isNamedBefore 0 = .ok (.bipush 8, 2) := by decide +kernel
theorem dX8_isNamedBefore_2 : decode cX8_isNamedBefore 2 = .ok (.istore_n 2, 1) := by decide +kernel
theorem dX8_isNamedBefore_3 : decode cX8_isNamedBefore 3 = .ok (.iload_n 2, 1) := by decide +kernel
theorem dX8_isNamedBefore_4 : decode cX8_isNamedBefore 4 = .ok (.iload_n 1, 1) := by decide +kernel
theorem dX8_isNamedBefore_5 : decode cX8_isNamedBefore 5 = .ok (.if_icmp .ge 54, 3) := by decide +kernel
theorem dX8_isNamedBefore_8 : decode cX8_isNamedBefore 8 = .ok (.iconst 0, 1) := by decide +kernel
theorem dX8_isNamedBefore_9 : decode cX8_isNamedBefore 9 = .ok (.istore_n 3, 1) := by decide +kernel
theorem dX8_isNamedBefore_10 : decode cX8_isNamedBefore 10 = .ok (.iload_n 3, 1) := by decide +kernel
theorem dX8_isNamedBefore_11 : decode cX8_isNamedBefore 11 = .ok (.bipush 48, 2) := by decide +kernel
theorem dX8_isNamedBefore_13 : decode cX8_isNamedBefore 13 = .ok (.if_icmp .ge 32, 3) := by decide +kernel
theorem dX8_isNamedBefore_16 : decode cX8_isNamedBefore 16 = .ok (.aload_n 0, 1) := by decide +kernel
theorem dX8_isNamedBefore_17 : decode cX8_isNamedBefore 17 = .ok (.getfield 7, 3) := by decide +kernel
theorem dX8_isNamedBefore_20 : decode cX8_isNamedBefore 20 = .ok (.iload_n 2, 1) := by decide +kernel
theorem dX8_isNamedBefore_21 : decode cX8_isNamedBefore 21 = .ok (.iload_n 3, 1) := by decide +kernel
theorem dX8_isNamedBefore_22 : decode cX8_isNamedBefore 22 = .ok (.iadd, 1) := by decide +kernel
theorem dX8_isNamedBefore_23 : decode cX8_isNamedBefore 23 = .ok (.invokestatic 46, 3) := by decide +kernel
theorem dX8_isNamedBefore_26 : decode cX8_isNamedBefore 26 = .ok (.aload_n 0, 1) := by decide +kernel
theorem dX8_isNamedBefore_27 : decode cX8_isNamedBefore 27 = .ok (.getfield 7, 3) := by decide +kernel
theorem dX8_isNamedBefore_30 : decode cX8_isNamedBefore 30 = .ok (.iload_n 1, 1) := by decide +kernel
theorem dX8_isNamedBefore_31 : decode cX8_isNamedBefore 31 = .ok (.iload_n 3, 1) := by decide +kernel
theorem dX8_isNamedBefore_32 : decode cX8_isNamedBefore 32 = .ok (.iadd, 1) := by decide +kernel
theorem dX8_isNamedBefore_33 : decode cX8_isNamedBefore 33 = .ok (.invokestatic 46, 3) := by decide +kernel
theorem dX8_isNamedBefore_36 : decode cX8_isNamedBefore 36 = .ok (.if_icmp .ne 9, 3) := by decide +kernel
theorem dX8_isNamedBefore_39 : decode cX8_isNamedBefore 39 = .ok (.iinc 3 1, 3) := by decide +kernel
theorem dX8_isNamedBefore_42 : decode cX8_isNamedBefore 42 = .ok (.goto (-32), 3) := by decide +kernel
theorem dX8_isNamedBefore_45 : decode cX8_isNamedBefore 45 = .ok (.iload_n 3, 1) := by decide +kernel
theorem dX8_isNamedBefore_46 : decode cX8_isNamedBefore 46 = .ok (.bipush 48, 2) := by decide +kernel
theorem dX8_isNamedBefore_48 : decode cX8_isNamedBefore 48 = .ok (.if_icmp .ne 5, 3) := by decide +kernel
theorem dX8_isNamedBefore_51 : decode cX8_isNamedBefore 51 = .ok (.iconst 1, 1) := by decide +kernel
theorem dX8_isNamedBefore_52 : decode cX8_isNamedBefore 52 = .ok (.ireturn, 1) := by decide +kernel
theorem dX8_isNamedBefore_53 : decode cX8_isNamedBefore 53 = .ok (.iinc 2 64, 3) := by decide +kernel
theorem dX8_isNamedBefore_56 : decode cX8_isNamedBefore 56 = .ok (.goto (-53), 3) := by decide +kernel
theorem dX8_isNamedBefore_59 : decode cX8_isNamedBefore 59 = .ok (.iconst 0, 1) := by decide +kernel
theorem dX8_isNamedBefore_60 : decode cX8_isNamedBefore 60 = .ok (.ireturn, 1) := by decide +kernel
theorem wX8_isNamedBefore_L45 {x : GX} {n0 sl0 : Nat} (X : Cx x cX8_isNamedBefore RX8 (some .boolean) n0 sl0 1 21) {out : Int32 × Mm} (hE : Ends x n0 sl0 (some (pI out.1)) out.2) (hn : xn x = 4) (fu : Nat) (k3 : Nat → Int32 → Int32 → Mm → Option (Int32 × Mm)) (hk3 : ∀ (b0 : Nat) (b1 : Int32) (b2 : Int32)  (M : Mm), k3 b0 b1 b2 M = some out → Gw x M 3 [(0, pR (some b0)), (1, pI b1), (2, pI b2)] []) (a0 : Nat) (a1 : Int32) (a2 : Int32) (a3 : Int32)  (M : Mm) (h : fX8_isNamedBefore_L45 fu k3 a0 a1 a2 a3 M = some out) : Gw x M 45 [(0, pR (some a0)), (1, pI a1), (2, pI a2), (3, pI a3)] [] := by
  unfold fX8_isNamedBefore_L45 at h
  refine g_iload_n X (pc := 45) 3 rfl rfl dX8_isNamedBefore_45 ?_
  refine g_bipush X (pc := 46) (v := 48) dX8_isNamedBefore_46 (by decide) ?_
  refine g_icmp_ne X (pc := 48) (tgt := 53) dX8_isNamedBefore_48 (by decide) (fun hc => ?_) (fun hc => ?_)
  · have h := (if_neg hc).symm.trans h
    refine g_iinc X (pc := 53) 2 [(2, pI (a2 + (64 : Int32))), (0, pR (some a0)), (1, pI a1), (3, pI a3)] rfl (iinc_e (by decide)) (lt_n hn (by decide)) rfl dX8_isNamedBefore_53 ?_
    refine g_goto X (pc := 56) (tgt := 3) dX8_isNamedBefore_56 (by decide) ?_
    refine g_sub [1, 2, 0] [(0, pR (some a0)), (1, pI a1), (2, pI (a2 + (64 : Int32)))] rfl ?_
    exact hk3 a0 a1 (a2 + (64 : Int32)) M h
  · have h := (if_pos hc).symm.trans h
    refine g_iconst X (pc := 51) (v := 1) dX8_isNamedBefore_51 (by decide) ?_
    obtain ⟨hz, rfl⟩ := rN_some h
    exact g_nreturn X rfl hz hE dX8_isNamedBefore_52
theorem wX8_isNamedBefore_L10 {x : GX} {n0 sl0 : Nat} (X : Cx x cX8_isNamedBefore RX8 (some .boolean) n0 sl0 1 21) {out : Int32 × Mm} (hE : Ends x n0 sl0 (some (pI out.1)) out.2) (hn : xn x = 4) (fu : Nat) (k3 : Nat → Int32 → Int32 → Mm → Option (Int32 × Mm)) (hk3 : ∀ (b0 : Nat) (b1 : Int32) (b2 : Int32)  (M : Mm), k3 b0 b1 b2 M = some out → Gw x M 3 [(0, pR (some b0)), (1, pI b1), (2, pI b2)] []) : ∀ (n : Nat) (a0 : Nat) (a1 : Int32) (a2 : Int32) (a3 : Int32)  (M : Mm), fX8_isNamedBefore_L10 fu k3 n a0 a1 a2 a3 M = some out → Gw x M 10 [(0, pR (some a0)), (1, pI a1), (2, pI a2), (3, pI a3)] [] := by
  intro n
  induction n with
  | zero =>
    intro a0 a1 a2 a3 M h
    have h : (none : Option (Int32 × Mm)) = some out := h
    cases h
  | succ n ih =>
    intro a0 a1 a2 a3 M h
    rw [fX8_isNamedBefore_L10] at h
    refine g_iload_n X (pc := 10) 3 rfl rfl dX8_isNamedBefore_10 ?_
    refine g_bipush X (pc := 11) (v := 48) dX8_isNamedBefore_11 (by decide) ?_
    refine g_icmp_ge X (pc := 13) (tgt := 45) dX8_isNamedBefore_13 (by decide) (fun hc => ?_) (fun hc => ?_)
    · have h := (if_pos hc).symm.trans h
      exact wX8_isNamedBefore_L45 X hE hn fu k3 hk3 a0 a1 a2 a3 M h
    · have h := (if_neg hc).symm.trans h
      refine g_aload_n X (pc := 16) 0 rfl rfl dX8_isNamedBefore_16 ?_
      obtain ⟨v1, ev1, h⟩ := bd h
      refine g_getR X (pc := 17) fk_8_0 rfl rfl ev1 tb_40 dX8_isNamedBefore_17 ?_
      refine g_iload_n X (pc := 20) 2 rfl rfl dX8_isNamedBefore_20 ?_
      refine g_iload_n X (pc := 21) 3 rfl rfl dX8_isNamedBefore_21 ?_
      refine g_iadd X (pc := 22) dX8_isNamedBefore_22 ?_
      obtain ⟨v3, M2, eM2, h⟩ := b2d h
      refine g_callSN X (pc := 23) (M' := M2) (ro := some (pI v3)) (as := [pR v1, pI (a2 + a3)]) (as' := [pI (a2 + a3), pR v1]) (st := []) (ctX11_one _ _ _ _ _ _ fu  v1 (a2 + a3) M _ eM2) tb_415 (List.mem_of_getElem? (i := 2) rfl) tb_414 tb_1 hyX11_one rfl rfl ⟨by decide, by decide⟩ (Nat.le_of_ble_eq_true rfl) dX8_isNamedBefore_23 ?_
      refine g_aload_n X (pc := 26) 0 rfl rfl dX8_isNamedBefore_26 ?_
      obtain ⟨v4, ev4, h⟩ := bd h
      refine g_getR X (pc := 27) fk_8_0 rfl rfl ev4 tb_40 dX8_isNamedBefore_27 ?_
      refine g_iload_n X (pc := 30) 1 rfl rfl dX8_isNamedBefore_30 ?_
      refine g_iload_n X (pc := 31) 3 rfl rfl dX8_isNamedBefore_31 ?_
      refine g_iadd X (pc := 32) dX8_isNamedBefore_32 ?_
      obtain ⟨v6, M5, eM5, h⟩ := b2d h
      refine g_callSN X (pc := 33) (M' := M5) (ro := some (pI v6)) (as := [pR v4, pI (a1 + a3)]) (as' := [pI (a1 + a3), pR v4]) (st := [pI v3]) (ctX11_one _ _ _ _ _ _ fu  v4 (a1 + a3) M2 _ eM5) tb_415 (List.mem_of_getElem? (i := 2) rfl) tb_414 tb_1 hyX11_one rfl rfl ⟨by decide, by decide⟩ (Nat.le_of_ble_eq_true rfl) dX8_isNamedBefore_33 ?_
      refine g_icmp_ne X (pc := 36) (tgt := 45) dX8_isNamedBefore_36 (by decide) (fun hc => ?_) (fun hc => ?_)
      · have h := (if_neg hc).symm.trans h
        exact wX8_isNamedBefore_L45 X hE hn fu k3 hk3 a0 a1 a2 a3 M5 h
      · have h := (if_pos hc).symm.trans h
        refine g_iinc X (pc := 39) 3 [(3, pI (a3 + (1 : Int32))), (0, pR (some a0)), (1, pI a1), (2, pI a2)] rfl (iinc_e (by decide)) (lt_n hn (by decide)) rfl dX8_isNamedBefore_39 ?_
        refine g_goto X (pc := 42) (tgt := 10) dX8_isNamedBefore_42 (by decide) ?_
        refine g_sub [1, 2, 3, 0] [(0, pR (some a0)), (1, pI a1), (2, pI a2), (3, pI (a3 + (1 : Int32)))] rfl ?_
        exact ih a0 a1 a2 (a3 + (1 : Int32)) M5 h
theorem wX8_isNamedBefore_L3 {x : GX} {n0 sl0 : Nat} (X : Cx x cX8_isNamedBefore RX8 (some .boolean) n0 sl0 1 21) {out : Int32 × Mm} (hE : Ends x n0 sl0 (some (pI out.1)) out.2) (hn : xn x = 4) (fu : Nat)   : ∀ (n : Nat) (a0 : Nat) (a1 : Int32) (a2 : Int32)  (M : Mm), fX8_isNamedBefore_L3 fu  n a0 a1 a2 M = some out → Gw x M 3 [(0, pR (some a0)), (1, pI a1), (2, pI a2)] [] := by
  intro n
  induction n with
  | zero =>
    intro a0 a1 a2 M h
    have h : (none : Option (Int32 × Mm)) = some out := h
    cases h
  | succ n ih =>
    intro a0 a1 a2 M h
    rw [fX8_isNamedBefore_L3] at h
    refine g_iload_n X (pc := 3) 2 rfl rfl dX8_isNamedBefore_3 ?_
    refine g_iload_n X (pc := 4) 1 rfl rfl dX8_isNamedBefore_4 ?_
    refine g_icmp_ge X (pc := 5) (tgt := 59) dX8_isNamedBefore_5 (by decide) (fun hc => ?_) (fun hc => ?_)
    · have h := (if_pos hc).symm.trans h
      refine g_iconst X (pc := 59) (v := 0) dX8_isNamedBefore_59 (by decide) ?_
      obtain ⟨hz, rfl⟩ := rN_some h
      exact g_nreturn X rfl hz hE dX8_isNamedBefore_60
    · have h := (if_neg hc).symm.trans h
      refine g_iconst X (pc := 8) (v := 0) dX8_isNamedBefore_8 (by decide) ?_
      refine g_istore_n X (pc := 9) [(3, pI (0 : Int32)), (0, pR (some a0)), (1, pI a1), (2, pI a2)] rfl (lt_n hn (by decide)) rfl dX8_isNamedBefore_9 ?_
      refine g_sub [1, 2, 3, 0] [(0, pR (some a0)), (1, pI a1), (2, pI a2), (3, pI (0 : Int32))] rfl ?_
      exact wX8_isNamedBefore_L10 X hE hn fu (fun b0 b1 b2 M => fX8_isNamedBefore_L3 fu  n b0 b1 b2 M) ih fu a0 a1 a2 (0 : Int32) M h
theorem wX8_isNamedBefore {x : GX} {n0 sl0 : Nat} (X : Cx x cX8_isNamedBefore RX8 (some .boolean) n0 sl0 1 21) {out : Int32 × Mm} (hE : Ends x n0 sl0 (some (pI out.1)) out.2) (hn : xn x = 4) (fu : Nat)   (a0 : Nat) (a1 : Int32)  (M : Mm) (h : fX8_isNamedBefore fu  a0 a1 M = some out) : Gw x M 0 [(0, pR (some a0)), (1, pI a1)] [] := by
  unfold fX8_isNamedBefore at h
  refine g_bipush X (pc := 0) (v := 8) dX8_isNamedBefore_0 (by decide) ?_
  refine g_istore_n X (pc := 2) [(2, pI (8 : Int32)), (0, pR (some a0)), (1, pI a1)] rfl (lt_n hn (by decide)) rfl dX8_isNamedBefore_2 ?_
  refine g_sub [1, 2, 0] [(0, pR (some a0)), (1, pI a1), (2, pI (8 : Int32))] rfl ?_
  exact wX8_isNamedBefore_L3 X hE hn fu   fu a0 a1 (8 : Int32) M h
theorem hyX8_isNamedBefore : yX8_isNamedBefore.cls ≠ "java/lang/invoke/MethodHandle" ∧ yX8_isNamedBefore.cls ≠ "java/lang/invoke/VarHandle" ∧ (parseMethodDescriptor yX8_isNamedBefore.desc).map (fun d => d.parameters.length) = some 1 := ⟨by decide +kernel, by decide +kernel, by decide +kernel⟩
theorem ctX8_isNamedBefore (l : Launch) (E : Nat → Nat) (D : va_G) (dA : Nat → ClassId) (lo : Nat) (H0 : Heap) (fu : Nat) (a0 : Nat) (a1 : Int32) (M : Mm) (out : Int32 × Mm) (h : fX8_isNamedBefore fu a0 a1 M = some out) : Ct l E D dA lo H0 yX8_isNamedBefore cX8_isNamedBefore 4 (some .boolean) 1 21 [pR (some a0), pI a1] M (some (pI out.1)) out.2 := by
  refine ct_of (by decide +kernel) (Nat.le_of_ble_eq_true rfl) ?_
  intro x hl he hd ha ho hh hn hin X hE
  exact wX8_isNamedBefore X hE hn fu a0 a1 M h
/-! WebHost$Store.isRight()Z -/
def fX8_isRight_L82 (fu : Nat)  : Nat → Nat → Int32 → Int32 → Mm → Option (Int32 × Mm)
  | 0, _, _, _, _ => none
  | n + 1, a0, a1, a3, M =>
    if a1 ≤ a3 then (
    rN .boolean (1 : Int32) M)
    else (
    (rc M 8 (some a0)).bind fun q1 =>
    b2 (fX8_hasRightName fu q1 ((8 : Int32) + ((64 : Int32) * a3)) M) fun v3 M2 =>
    if v3 = 0 then (
    rN .boolean (0 : Int32) M2)
    else (
    (rc M2 8 (some a0)).bind fun q4 =>
    b2 (fX8_liesWithin fu q4 ((8 : Int32) + ((64 : Int32) * a3)) M2) fun v6 M5 =>
    if v6 = 0 then (
    rN .boolean (0 : Int32) M5)
    else (
    (rc M5 8 (some a0)).bind fun q7 =>
    b2 (fX8_isNamedBefore fu q7 ((8 : Int32) + ((64 : Int32) * a3)) M5) fun v9 M8 =>
    if v9 = 0 then (
    fX8_isRight_L82 fu  n a0 a1 (a3 + (1 : Int32)) M8)
    else (
    rN .boolean (0 : Int32) M8))))
def fX8_isRight (fu : Nat)  (a0 : Nat)  (M : Mm) : Option (Int32 × Mm) :=
    (gR M 8 512 (some a0)).bind fun v1 =>
    b2 (fX11_four fu  v1 (0 : Int32) M) fun v3 M2 =>
    if v3 = (1398034258 : Int32) then (
    (gR M2 8 512 (some a0)).bind fun v4 =>
    b2 (fX11_two fu  v4 (6 : Int32) M2) fun v6 M5 =>
    if v6 = 0 then (
    (gR M5 8 512 (some a0)).bind fun v7 =>
    b2 (fX11_two fu  v7 (4 : Int32) M5) fun v9 M8 =>
    if (64 : Int32) < v9 then (
    rN .boolean (0 : Int32) M8)
    else (
    (gR M8 8 512 (some a0)).bind fun v10 =>
    (aL M8 100 v10).bind fun v11 =>
    if v11 < (((8 : Int32) + ((64 : Int32) * v9)) + (4 : Int32)) then (
    rN .boolean (0 : Int32) M8)
    else (
    (gR M8 8 512 (some a0)).bind fun v12 =>
    b2 (fX11_four fu  v12 ((8 : Int32) + ((64 : Int32) * v9)) M8) fun v14 M13 =>
    (rc M13 8 (some a0)).bind fun q15 =>
    b2 (fX8_checkOf fu q15 (0 : Int32) ((8 : Int32) + ((64 : Int32) * v9)) M13) fun v17 M16 =>
    if v14 = v17 then (
    fX8_isRight_L82 fu  fu a0 v9 (0 : Int32) M16)
    else (
    rN .boolean (0 : Int32) M16))))
    else (
    rN .boolean (0 : Int32) M5))
    else (
    rN .boolean (0 : Int32) M2)
theorem dX8_isRight_0 : decode cX8_isRight 0 = .ok (.aload_n 0, 1) := by decide +kernel
theorem dX8_isRight_1 : decode cX8_isRight 1 = .ok (.getfield 7, 3) := by decide +kernel
theorem dX8_isRight_4 : decode cX8_isRight 4 = .ok (.iconst 0, 1) := by decide +kernel
theorem dX8_isRight_5 : decode cX8_isRight 5 = .ok (.invokestatic 22, 3) := by decide +kernel
theorem dX8_isRight_8 : decode cX8_isRight 8 = .ok (.ldc 28, 2) := by decide +kernel
theorem dX8_isRight_10 : decode cX8_isRight 10 = .ok (.if_icmp .ne 15, 3) := by decide +kernel
theorem dX8_isRight_13 : decode cX8_isRight 13 = .ok (.aload_n 0, 1) := by decide +kernel
theorem dX8_isRight_14 : decode cX8_isRight 14 = .ok (.getfield 7, 3) := by decide +kernel
theorem dX8_isRight_17 : decode cX8_isRight 17 = .ok (.bipush 6, 2) := by decide +kernel
theorem dX8_isRight_19 : decode cX8_isRight 19 = .ok (.invokestatic 29, 3) := by decide +kernel
theorem dX8_isRight_22 : decode cX8_isRight 22 = .ok (.ifCond .eq 5, 3) := by decide +kernel
theorem dX8_isRight_25 : decode cX8_isRight 25 = .ok (.iconst 0, 1) := by decide +kernel
theorem dX8_isRight_26 : decode cX8_isRight 26 = .ok (.ireturn, 1) := by decide +kernel
theorem dX8_isRight_27 : decode cX8_isRight 27 = .ok (.aload_n 0, 1) := by decide +kernel
theorem dX8_isRight_28 : decode cX8_isRight 28 = .ok (.getfield 7, 3) := by decide +kernel
theorem dX8_isRight_31 : decode cX8_isRight 31 = .ok (.iconst 4, 1) := by decide +kernel
theorem dX8_isRight_32 : decode cX8_isRight 32 = .ok (.invokestatic 29, 3) := by decide +kernel
theorem dX8_isRight_35 : decode cX8_isRight 35 = .ok (.istore_n 1, 1) := by decide +kernel
theorem dX8_isRight_36 : decode cX8_isRight 36 = .ok (.bipush 8, 2) := by decide +kernel
theorem dX8_isRight_38 : decode cX8_isRight 38 = .ok (.bipush 64, 2) := by decide +kernel
theorem dX8_isRight_40 : decode cX8_isRight 40 = .ok (.iload_n 1, 1) := by decide +kernel
theorem dX8_isRight_41 : decode cX8_isRight 41 = .ok (.imul, 1) := by decide +kernel
theorem dX8_isRight_42 : decode cX8_isRight 42 = .ok (.iadd, 1) := by decide +kernel
theorem dX8_isRight_43 : decode cX8_isRight 43 = .ok (.istore_n 2, 1) := by decide +kernel
theorem dX8_isRight_44 : decode cX8_isRight 44 = .ok (.iload_n 1, 1) := by decide +kernel
theorem dX8_isRight_45 : decode cX8_isRight 45 = .ok (.bipush 64, 2) := by decide +kernel
theorem dX8_isRight_47 : decode cX8_isRight 47 = .ok (.if_icmp .gt 31, 3) := by decide +kernel
theorem dX8_isRight_50 : decode cX8_isRight 50 = .ok (.aload_n 0, 1) := by decide +kernel
theorem dX8_isRight_51 : decode cX8_isRight 51 = .ok (.getfield 7, 3) := by decide +kernel
theorem dX8_isRight_54 : decode cX8_isRight 54 = .ok (.arraylength, 1) := by decide +kernel
theorem dX8_isRight_55 : decode cX8_isRight 55 = .ok (.iload_n 2, 1) := by decide +kernel
theorem dX8_isRight_56 : decode cX8_isRight 56 = .ok (.iconst 4, 1) := by decide +kernel
theorem dX8_isRight_57 : decode cX8_isRight 57 = .ok (.iadd, 1) := by decide +kernel
theorem dX8_isRight_58 : decode cX8_isRight 58 = .ok (.if_icmp .lt 20, 3) := by decide +kernel
theorem dX8_isRight_61 : decode cX8_isRight 61 = .ok (.aload_n 0, 1) := by decide +kernel
theorem dX8_isRight_62 : decode cX8_isRight 62 = .ok (.getfield 7, 3) := by decide +kernel
theorem dX8_isRight_65 : decode cX8_isRight 65 = .ok (.iload_n 2, 1) := by decide +kernel
theorem dX8_isRight_66 : decode cX8_isRight 66 = .ok (.invokestatic 22, 3) := by decide +kernel
theorem dX8_isRight_69 : decode cX8_isRight 69 = .ok (.aload_n 0, 1) := by decide +kernel
theorem dX8_isRight_70 : decode cX8_isRight 70 = .ok (.iconst 0, 1) := by decide +kernel
theorem dX8_isRight_71 : decode cX8_isRight 71 = .ok (.iload_n 2, 1) := by decide +kernel
theorem dX8_isRight_72 : decode cX8_isRight 72 = .ok (.invokevirtual 32, 3) := by decide +kernel
theorem dX8_isRight_75 : decode cX8_isRight 75 = .ok (.if_icmp .eq 5, 3) := by decide +kernel
theorem dX8_isRight_78 : decode cX8_isRight 78 = .ok (.iconst 0, 1) := by decide +kernel
theorem dX8_isRight_79 : decode cX8_isRight 79 = .ok (.ireturn, 1) := by decide +kernel
theorem dX8_isRight_80 : decode cX8_isRight 80 = .ok (.iconst 0, 1) := by decide +kernel
theorem dX8_isRight_81 : decode cX8_isRight 81 = .ok (.istore_n 3, 1) := by decide +kernel
theorem dX8_isRight_82 : decode cX8_isRight 82 = .ok (.iload_n 3, 1) := by decide +kernel
theorem dX8_isRight_83 : decode cX8_isRight 83 = .ok (.iload_n 1, 1) := by decide +kernel
theorem dX8_isRight_84 : decode cX8_isRight 84 = .ok (.if_icmp .ge 47, 3) := by decide +kernel
theorem dX8_isRight_87 : decode cX8_isRight 87 = .ok (.bipush 8, 2) := by decide +kernel
theorem dX8_isRight_89 : decode cX8_isRight 89 = .ok (.bipush 64, 2) := by decide +kernel
theorem dX8_isRight_91 : decode cX8_isRight 91 = .ok (.iload_n 3, 1) := by decide +kernel
theorem dX8_isRight_92 : decode cX8_isRight 92 = .ok (.imul, 1) := by decide +kernel
theorem dX8_isRight_93 : decode cX8_isRight 93 = .ok (.iadd, 1) := by decide +kernel
theorem dX8_isRight_94 : decode cX8_isRight 94 = .ok (.istore 4, 2) := by decide +kernel
theorem dX8_isRight_96 : decode cX8_isRight 96 = .ok (.aload_n 0, 1) := by decide +kernel
theorem dX8_isRight_97 : decode cX8_isRight 97 = .ok (.iload 4, 2) := by decide +kernel
theorem dX8_isRight_99 : decode cX8_isRight 99 = .ok (.invokevirtual 36, 3) := by decide +kernel
theorem dX8_isRight_102 : decode cX8_isRight 102 = .ok (.ifCond .eq 21, 3) := by decide +kernel
theorem dX8_isRight_105 : decode cX8_isRight 105 = .ok (.aload_n 0, 1) := by decide +kernel
theorem dX8_isRight_106 : decode cX8_isRight 106 = .ok (.iload 4, 2) := by decide +kernel
theorem dX8_isRight_108 : decode cX8_isRight 108 = .ok (.invokevirtual 40, 3) := by decide +kernel
theorem dX8_isRight_111 : decode cX8_isRight 111 = .ok (.ifCond .eq 12, 3) := by decide +kernel
theorem dX8_isRight_114 : decode cX8_isRight 114 = .ok (.aload_n 0, 1) := by decide +kernel
theorem dX8_isRight_115 : decode cX8_isRight 115 = .ok (.iload 4, 2) := by decide +kernel
theorem dX8_isRight_117 : decode cX8_isRight 117 = .ok (.invokevirtual 43, 3) := by decide +kernel
theorem dX8_isRight_120 : decode cX8_isRight 120 = .ok (.ifCond .eq 5, 3) := by decide +kernel
theorem dX8_isRight_123 : decode cX8_isRight 123 = .ok (.iconst 0, 1) := by decide +kernel
theorem dX8_isRight_124 : decode cX8_isRight 124 = .ok (.ireturn, 1) := by decide +kernel
theorem dX8_isRight_125 : decode cX8_isRight 125 = .ok (.iinc 3 1, 3) := by decide +kernel
theorem dX8_isRight_128 : decode cX8_isRight 128 = .ok (.goto (-46), 3) := by decide +kernel
theorem dX8_isRight_131 : decode cX8_isRight 131 = .ok (.iconst 1, 1) := by decide +kernel
theorem dX8_isRight_132 : decode cX8_isRight 132 = .ok (.ireturn, 1) := by decide +kernel
theorem wX8_isRight_L82 {x : GX} {n0 sl0 : Nat} (X : Cx x cX8_isRight RX8 (some .boolean) n0 sl0 2 46) {out : Int32 × Mm} (hE : Ends x n0 sl0 (some (pI out.1)) out.2) (hn : xn x = 5) (fu : Nat)   : ∀ (n : Nat) (a0 : Nat) (a1 : Int32) (a3 : Int32)  (M : Mm), fX8_isRight_L82 fu  n a0 a1 a3 M = some out → Gw x M 82 [(0, pR (some a0)), (1, pI a1), (3, pI a3)] [] := by
  intro n
  induction n with
  | zero =>
    intro a0 a1 a3 M h
    have h : (none : Option (Int32 × Mm)) = some out := h
    cases h
  | succ n ih =>
    intro a0 a1 a3 M h
    rw [fX8_isRight_L82] at h
    refine g_iload_n X (pc := 82) 2 rfl rfl dX8_isRight_82 ?_
    refine g_iload_n X (pc := 83) 1 rfl rfl dX8_isRight_83 ?_
    refine g_icmp_ge X (pc := 84) (tgt := 131) dX8_isRight_84 (by decide) (fun hc => ?_) (fun hc => ?_)
    · have h := (if_pos hc).symm.trans h
      refine g_iconst X (pc := 131) (v := 1) dX8_isRight_131 (by decide) ?_
      obtain ⟨hz, rfl⟩ := rN_some h
      exact g_nreturn X rfl hz hE dX8_isRight_132
    · have h := (if_neg hc).symm.trans h
      refine g_bipush X (pc := 87) (v := 8) dX8_isRight_87 (by decide) ?_
      refine g_bipush X (pc := 89) (v := 64) dX8_isRight_89 (by decide) ?_
      refine g_iload_n X (pc := 91) 2 rfl rfl dX8_isRight_91 ?_
      refine g_imul X (pc := 92) dX8_isRight_92 ?_
      refine g_iadd X (pc := 93) dX8_isRight_93 ?_
      refine g_istore X (pc := 94) [(4, pI ((8 : Int32) + ((64 : Int32) * a3))), (0, pR (some a0)), (1, pI a1), (3, pI a3)] (lt_n hn (by decide)) rfl dX8_isRight_94 ?_
      refine g_aload_n X (pc := 96) 1 rfl rfl dX8_isRight_96 ?_
      refine g_iload X (pc := 97) 0 rfl dX8_isRight_97 ?_
      obtain ⟨q1, eq1, h⟩ := bd h
      obtain ⟨v3, M2, eM2, h⟩ := b2d h
      refine g_callV X (pc := 99) (M' := M2) (ro := some (pI v3)) (c := 8) rfl (by decide) (as := [pI ((8 : Int32) + ((64 : Int32) * a3))]) (as' := [pI ((8 : Int32) + ((64 : Int32) * a3))]) (st := []) eq1 (ctX8_hasRightName _ _ _ _ _ _ fu q1 ((8 : Int32) + ((64 : Int32) * a3)) M _ eM2) tb_412 tb_409 tb_411 ts_1 tb_2 ⟨rfl, hyX8_hasRightName⟩ rfl rfl ⟨by decide, by decide⟩ (Nat.le_of_ble_eq_true rfl) dX8_isRight_99 ?_
      refine g_if_eq X (pc := 102) (tgt := 123) dX8_isRight_102 (by decide) (fun hc => ?_) (fun hc => ?_)
      · have h := (if_pos hc).symm.trans h
        refine g_iconst X (pc := 123) (v := 0) dX8_isRight_123 (by decide) ?_
        obtain ⟨hz, rfl⟩ := rN_some h
        exact g_nreturn X rfl hz hE dX8_isRight_124
      · have h := (if_neg hc).symm.trans h
        refine g_aload_n X (pc := 105) 1 rfl rfl dX8_isRight_105 ?_
        refine g_iload X (pc := 106) 0 rfl dX8_isRight_106 ?_
        obtain ⟨q4, eq4, h⟩ := bd h
        obtain ⟨v6, M5, eM5, h⟩ := b2d h
        refine g_callV X (pc := 108) (M' := M5) (ro := some (pI v6)) (c := 8) rfl (by decide) (as := [pI ((8 : Int32) + ((64 : Int32) * a3))]) (as' := [pI ((8 : Int32) + ((64 : Int32) * a3))]) (st := []) eq4 (ctX8_liesWithin _ _ _ _ _ _ fu q4 ((8 : Int32) + ((64 : Int32) * a3)) M2 _ eM5) tb_419 tb_416 tb_418 ts_2 tb_2 ⟨rfl, hyX8_liesWithin⟩ rfl rfl ⟨by decide, by decide⟩ (Nat.le_of_ble_eq_true rfl) dX8_isRight_108 ?_
        refine g_if_eq X (pc := 111) (tgt := 123) dX8_isRight_111 (by decide) (fun hc => ?_) (fun hc => ?_)
        · have h := (if_pos hc).symm.trans h
          refine g_iconst X (pc := 123) (v := 0) dX8_isRight_123 (by decide) ?_
          obtain ⟨hz, rfl⟩ := rN_some h
          exact g_nreturn X rfl hz hE dX8_isRight_124
        · have h := (if_neg hc).symm.trans h
          refine g_aload_n X (pc := 114) 1 rfl rfl dX8_isRight_114 ?_
          refine g_iload X (pc := 115) 0 rfl dX8_isRight_115 ?_
          obtain ⟨q7, eq7, h⟩ := bd h
          obtain ⟨v9, M8, eM8, h⟩ := b2d h
          refine g_callV X (pc := 117) (M' := M8) (ro := some (pI v9)) (c := 8) rfl (by decide) (as := [pI ((8 : Int32) + ((64 : Int32) * a3))]) (as' := [pI ((8 : Int32) + ((64 : Int32) * a3))]) (st := []) eq7 (ctX8_isNamedBefore _ _ _ _ _ _ fu q7 ((8 : Int32) + ((64 : Int32) * a3)) M5 _ eM8) tb_424 tb_421 tb_423 ts_3 tb_2 ⟨rfl, hyX8_isNamedBefore⟩ rfl rfl ⟨by decide, by decide⟩ (Nat.le_of_ble_eq_true rfl) dX8_isRight_117 ?_
          refine g_if_eq X (pc := 120) (tgt := 125) dX8_isRight_120 (by decide) (fun hc => ?_) (fun hc => ?_)
          · have h := (if_pos hc).symm.trans h
            refine g_iinc X (pc := 125) 3 [(3, pI (a3 + (1 : Int32))), (4, pI ((8 : Int32) + ((64 : Int32) * a3))), (0, pR (some a0)), (1, pI a1)] rfl (iinc_e (by decide)) (lt_n hn (by decide)) rfl dX8_isRight_125 ?_
            refine g_goto X (pc := 128) (tgt := 82) dX8_isRight_128 (by decide) ?_
            refine g_sub [2, 3, 0] [(0, pR (some a0)), (1, pI a1), (3, pI (a3 + (1 : Int32)))] rfl ?_
            exact ih a0 a1 (a3 + (1 : Int32)) M8 h
          · have h := (if_neg hc).symm.trans h
            refine g_iconst X (pc := 123) (v := 0) dX8_isRight_123 (by decide) ?_
            obtain ⟨hz, rfl⟩ := rN_some h
            exact g_nreturn X rfl hz hE dX8_isRight_124
theorem wX8_isRight {x : GX} {n0 sl0 : Nat} (X : Cx x cX8_isRight RX8 (some .boolean) n0 sl0 2 46) {out : Int32 × Mm} (hE : Ends x n0 sl0 (some (pI out.1)) out.2) (hn : xn x = 5) (fu : Nat)   (a0 : Nat)  (M : Mm) (h : fX8_isRight fu  a0 M = some out) : Gw x M 0 [(0, pR (some a0))] [] := by
  unfold fX8_isRight at h
  refine g_aload_n X (pc := 0) 0 rfl rfl dX8_isRight_0 ?_
  obtain ⟨v1, ev1, h⟩ := bd h
  refine g_getR X (pc := 1) fk_8_0 rfl rfl ev1 tb_40 dX8_isRight_1 ?_
  refine g_iconst X (pc := 4) (v := 0) dX8_isRight_4 (by decide) ?_
  obtain ⟨v3, M2, eM2, h⟩ := b2d h
  refine g_callSN X (pc := 5) (M' := M2) (ro := some (pI v3)) (as := [pR v1, pI (0 : Int32)]) (as' := [pI (0 : Int32), pR v1]) (st := []) (ctX11_four _ _ _ _ _ _ fu  v1 (0 : Int32) M _ eM2) tb_394 (List.mem_of_getElem? (i := 0) rfl) tb_393 tb_1 hyX11_four rfl rfl ⟨by decide, by decide⟩ (Nat.le_of_ble_eq_true rfl) dX8_isRight_5 ?_
  refine g_ldc X (pc := 8) tb_395 dX8_isRight_8 ?_
  refine g_icmp_ne X (pc := 10) (tgt := 25) dX8_isRight_10 (by decide) (fun hc => ?_) (fun hc => ?_)
  · have h := (if_neg hc).symm.trans h
    refine g_iconst X (pc := 25) (v := 0) dX8_isRight_25 (by decide) ?_
    obtain ⟨hz, rfl⟩ := rN_some h
    exact g_nreturn X rfl hz hE dX8_isRight_26
  · have h := (if_pos hc).symm.trans h
    refine g_aload_n X (pc := 13) 0 rfl rfl dX8_isRight_13 ?_
    obtain ⟨v4, ev4, h⟩ := bd h
    refine g_getR X (pc := 14) fk_8_0 rfl rfl ev4 tb_40 dX8_isRight_14 ?_
    refine g_bipush X (pc := 17) (v := 6) dX8_isRight_17 (by decide) ?_
    obtain ⟨v6, M5, eM5, h⟩ := b2d h
    refine g_callSN X (pc := 19) (M' := M5) (ro := some (pI v6)) (as := [pR v4, pI (6 : Int32)]) (as' := [pI (6 : Int32), pR v4]) (st := []) (ctX11_two _ _ _ _ _ _ fu  v4 (6 : Int32) M2 _ eM5) tb_398 (List.mem_of_getElem? (i := 1) rfl) tb_397 tb_1 hyX11_two rfl rfl ⟨by decide, by decide⟩ (Nat.le_of_ble_eq_true rfl) dX8_isRight_19 ?_
    refine g_if_eq X (pc := 22) (tgt := 27) dX8_isRight_22 (by decide) (fun hc => ?_) (fun hc => ?_)
    · have h := (if_pos hc).symm.trans h
      refine g_aload_n X (pc := 27) 0 rfl rfl dX8_isRight_27 ?_
      obtain ⟨v7, ev7, h⟩ := bd h
      refine g_getR X (pc := 28) fk_8_0 rfl rfl ev7 tb_40 dX8_isRight_28 ?_
      refine g_iconst X (pc := 31) (v := 4) dX8_isRight_31 (by decide) ?_
      obtain ⟨v9, M8, eM8, h⟩ := b2d h
      refine g_callSN X (pc := 32) (M' := M8) (ro := some (pI v9)) (as := [pR v7, pI (4 : Int32)]) (as' := [pI (4 : Int32), pR v7]) (st := []) (ctX11_two _ _ _ _ _ _ fu  v7 (4 : Int32) M5 _ eM8) tb_398 (List.mem_of_getElem? (i := 1) rfl) tb_397 tb_1 hyX11_two rfl rfl ⟨by decide, by decide⟩ (Nat.le_of_ble_eq_true rfl) dX8_isRight_32 ?_
      refine g_istore_n X (pc := 35) [(1, pI v9), (0, pR (some a0))] rfl (lt_n hn (by decide)) rfl dX8_isRight_35 ?_
      refine g_bipush X (pc := 36) (v := 8) dX8_isRight_36 (by decide) ?_
      refine g_bipush X (pc := 38) (v := 64) dX8_isRight_38 (by decide) ?_
      refine g_iload_n X (pc := 40) 0 rfl rfl dX8_isRight_40 ?_
      refine g_imul X (pc := 41) dX8_isRight_41 ?_
      refine g_iadd X (pc := 42) dX8_isRight_42 ?_
      refine g_istore_n X (pc := 43) [(2, pI ((8 : Int32) + ((64 : Int32) * v9))), (1, pI v9), (0, pR (some a0))] rfl (lt_n hn (by decide)) rfl dX8_isRight_43 ?_
      refine g_iload_n X (pc := 44) 1 rfl rfl dX8_isRight_44 ?_
      refine g_bipush X (pc := 45) (v := 64) dX8_isRight_45 (by decide) ?_
      refine g_icmp_gt X (pc := 47) (tgt := 78) dX8_isRight_47 (by decide) (fun hc => ?_) (fun hc => ?_)
      · have h := (if_pos hc).symm.trans h
        refine g_iconst X (pc := 78) (v := 0) dX8_isRight_78 (by decide) ?_
        obtain ⟨hz, rfl⟩ := rN_some h
        exact g_nreturn X rfl hz hE dX8_isRight_79
      · have h := (if_neg hc).symm.trans h
        refine g_aload_n X (pc := 50) 2 rfl rfl dX8_isRight_50 ?_
        obtain ⟨v10, ev10, h⟩ := bd h
        refine g_getR X (pc := 51) fk_8_0 rfl rfl ev10 tb_40 dX8_isRight_51 ?_
        obtain ⟨v11, ev11, h⟩ := bd h
        refine g_alen X (pc := 54) (k := 0) rfl (by decide) ev11 dX8_isRight_54 ?_
        refine g_iload_n X (pc := 55) 0 rfl rfl dX8_isRight_55 ?_
        refine g_iconst X (pc := 56) (v := 4) dX8_isRight_56 (by decide) ?_
        refine g_iadd X (pc := 57) dX8_isRight_57 ?_
        refine g_icmp_lt X (pc := 58) (tgt := 78) dX8_isRight_58 (by decide) (fun hc => ?_) (fun hc => ?_)
        · have h := (if_pos hc).symm.trans h
          refine g_iconst X (pc := 78) (v := 0) dX8_isRight_78 (by decide) ?_
          obtain ⟨hz, rfl⟩ := rN_some h
          exact g_nreturn X rfl hz hE dX8_isRight_79
        · have h := (if_neg hc).symm.trans h
          refine g_aload_n X (pc := 61) 2 rfl rfl dX8_isRight_61 ?_
          obtain ⟨v12, ev12, h⟩ := bd h
          refine g_getR X (pc := 62) fk_8_0 rfl rfl ev12 tb_40 dX8_isRight_62 ?_
          refine g_iload_n X (pc := 65) 0 rfl rfl dX8_isRight_65 ?_
          obtain ⟨v14, M13, eM13, h⟩ := b2d h
          refine g_callSN X (pc := 66) (M' := M13) (ro := some (pI v14)) (as := [pR v12, pI ((8 : Int32) + ((64 : Int32) * v9))]) (as' := [pI ((8 : Int32) + ((64 : Int32) * v9)), pR v12]) (st := []) (ctX11_four _ _ _ _ _ _ fu  v12 ((8 : Int32) + ((64 : Int32) * v9)) M8 _ eM13) tb_394 (List.mem_of_getElem? (i := 0) rfl) tb_393 tb_1 hyX11_four rfl rfl ⟨by decide, by decide⟩ (Nat.le_of_ble_eq_true rfl) dX8_isRight_66 ?_
          refine g_aload_n X (pc := 69) 2 rfl rfl dX8_isRight_69 ?_
          refine g_iconst X (pc := 70) (v := 0) dX8_isRight_70 (by decide) ?_
          refine g_iload_n X (pc := 71) 0 rfl rfl dX8_isRight_71 ?_
          obtain ⟨q15, eq15, h⟩ := bd h
          obtain ⟨v17, M16, eM16, h⟩ := b2d h
          refine g_callV X (pc := 72) (M' := M16) (ro := some (pI v17)) (c := 8) rfl (by decide) (as := [pI (0 : Int32), pI ((8 : Int32) + ((64 : Int32) * v9))]) (as' := [pI ((8 : Int32) + ((64 : Int32) * v9)), pI (0 : Int32)]) (st := [pI v14]) eq15 (ctX8_checkOf _ _ _ _ _ _ fu q15 (0 : Int32) ((8 : Int32) + ((64 : Int32) * v9)) M13 _ eM16) tb_402 tb_399 tb_401 ts_0 tb_2 ⟨rfl, hyX8_checkOf⟩ rfl rfl ⟨by decide, by decide⟩ (Nat.le_of_ble_eq_true rfl) dX8_isRight_72 ?_
          refine g_icmp_eq X (pc := 75) (tgt := 80) dX8_isRight_75 (by decide) (fun hc => ?_) (fun hc => ?_)
          · have h := (if_pos hc).symm.trans h
            refine g_iconst X (pc := 80) (v := 0) dX8_isRight_80 (by decide) ?_
            refine g_istore_n X (pc := 81) [(3, pI (0 : Int32)), (2, pI ((8 : Int32) + ((64 : Int32) * v9))), (1, pI v9), (0, pR (some a0))] rfl (lt_n hn (by decide)) rfl dX8_isRight_81 ?_
            refine g_sub [3, 2, 0] [(0, pR (some a0)), (1, pI v9), (3, pI (0 : Int32))] rfl ?_
            exact wX8_isRight_L82 X hE hn fu   fu a0 v9 (0 : Int32) M16 h
          · have h := (if_neg hc).symm.trans h
            refine g_iconst X (pc := 78) (v := 0) dX8_isRight_78 (by decide) ?_
            obtain ⟨hz, rfl⟩ := rN_some h
            exact g_nreturn X rfl hz hE dX8_isRight_79
    · have h := (if_neg hc).symm.trans h
      refine g_iconst X (pc := 25) (v := 0) dX8_isRight_25 (by decide) ?_
      obtain ⟨hz, rfl⟩ := rN_some h
      exact g_nreturn X rfl hz hE dX8_isRight_26
theorem hyX8_isRight : yX8_isRight.cls ≠ "java/lang/invoke/MethodHandle" ∧ yX8_isRight.cls ≠ "java/lang/invoke/VarHandle" ∧ (parseMethodDescriptor yX8_isRight.desc).map (fun d => d.parameters.length) = some 0 := ⟨by decide +kernel, by decide +kernel, by decide +kernel⟩
theorem ctX8_isRight (l : Launch) (E : Nat → Nat) (D : va_G) (dA : Nat → ClassId) (lo : Nat) (H0 : Heap) (fu : Nat) (a0 : Nat) (M : Mm) (out : Int32 × Mm) (h : fX8_isRight fu a0 M = some out) : Ct l E D dA lo H0 yX8_isRight cX8_isRight 5 (some .boolean) 2 46 [pR (some a0)] M (some (pI out.1)) out.2 := by
  refine ct_of (by decide +kernel) (Nat.le_of_ble_eq_true rfl) ?_
  intro x hl he hd ha ho hh hn hin X hE
  exact wX8_isRight X hE hn fu a0 M h
/-! WebHost$Store.keepEntries()V -/
def fX8_keepEntries_L49 (fu : Nat)  (a0 : Nat) (a1 : Int32) (a2 : Int32)  (M : Mm) : Option (Mm) :=
    (gR M 8 512 (some a0)).bind fun v1 =>
    (gR M 8 514 (some a0)).bind fun v2 =>
    (cpB M v1 (8 : Int32) v2 (0 : Int32) a2).bind fun M3 =>
    (pF M3 8 513 (some a0) a1).bind fun M4 =>
    some M4
def fX8_keepEntries (fu : Nat)  (a0 : Nat)  (M : Mm) : Option (Mm) :=
    (gR M 8 512 (some a0)).bind fun v1 =>
    b2 (fX11_two fu  v1 (4 : Int32) M) fun v3 M2 =>
    if (64 : Int32) < v3 then (
    some M2)
    else (
    (gR M2 8 512 (some a0)).bind fun v4 =>
    (aL M2 100 v4).bind fun v5 =>
    if ((8 : Int32) + (v3 * (64 : Int32))) ≤ v5 then (
    (gR M2 8 514 (some a0)).bind fun v6 =>
    (aL M2 100 v6).bind fun v7 =>
    if (v3 * (64 : Int32)) ≤ v7 then (
    fX8_keepEntries_L49 fu  a0 v3 (v3 * (64 : Int32)) M2)
    else (
    b2 (mkA M2 100 (v3 * (64 : Int32))) fun v8 M9 =>
    (pG M9 8 514 (some a0) (some v8)).bind fun M10 =>
    fX8_keepEntries_L49 fu  a0 v3 (v3 * (64 : Int32)) M10))
    else (
    some M2))
theorem dX8_keepEntries_0 : decode cX8_keepEntries 0 = .ok (.aload_n 0, 1) := by decide +kernel
theorem dX8_keepEntries_1 : decode cX8_keepEntries 1 = .ok (.getfield 7, 3) := by decide +kernel
theorem dX8_keepEntries_4 : decode cX8_keepEntries 4 = .ok (.iconst 4, 1) := by decide +kernel
theorem dX8_keepEntries_5 : decode cX8_keepEntries 5 = .ok (.invokestatic 29, 3) := by decide +kernel
theorem dX8_keepEntries_8 : decode cX8_keepEntries 8 = .ok (.istore_n 1, 1) := by decide +kernel
theorem dX8_keepEntries_9 : decode cX8_keepEntries 9 = .ok (.iload_n 1, 1) := by decide +kernel
theorem dX8_keepEntries_10 : decode cX8_keepEntries 10 = .ok (.bipush 64, 2) := by decide +kernel
theorem dX8_keepEntries_12 : decode cX8_keepEntries 12 = .ok (.imul, 1) := by decide +kernel
theorem dX8_keepEntries_13 : decode cX8_keepEntries 13 = .ok (.istore_n 2, 1) := by decide +kernel
theorem dX8_keepEntries_14 : decode cX8_keepEntries 14 = .ok (.iload_n 1, 1) := by decide +kernel
theorem dX8_keepEntries_15 : decode cX8_keepEntries 15 = .ok (.bipush 64, 2) := by decide +kernel
theorem dX8_keepEntries_17 : decode cX8_keepEntries 17 = .ok (.if_icmp .gt 15, 3) := by decide +kernel
theorem dX8_keepEntries_20 : decode cX8_keepEntries 20 = .ok (.aload_n 0, 1) := by decide +kernel
theorem dX8_keepEntries_21 : decode cX8_keepEntries 21 = .ok (.getfield 7, 3) := by decide +kernel
theorem dX8_keepEntries_24 : decode cX8_keepEntries 24 = .ok (.arraylength, 1) := by decide +kernel
theorem dX8_keepEntries_25 : decode cX8_keepEntries 25 = .ok (.bipush 8, 2) := by decide +kernel
theorem dX8_keepEntries_27 : decode cX8_keepEntries 27 = .ok (.iload_n 2, 1) := by decide +kernel
theorem dX8_keepEntries_28 : decode cX8_keepEntries 28 = .ok (.iadd, 1) := by decide +kernel
theorem dX8_keepEntries_29 : decode cX8_keepEntries 29 = .ok (.if_icmp .ge 4, 3) := by decide +kernel
theorem dX8_keepEntries_32 : decode cX8_keepEntries 32 = .ok (.return_, 1) := by decide +kernel
theorem dX8_keepEntries_33 : decode cX8_keepEntries 33 = .ok (.aload_n 0, 1) := by decide +kernel
theorem dX8_keepEntries_34 : decode cX8_keepEntries 34 = .ok (.getfield 13, 3) := by decide +kernel
theorem dX8_keepEntries_37 : decode cX8_keepEntries 37 = .ok (.arraylength, 1) := by decide +kernel
theorem dX8_keepEntries_38 : decode cX8_keepEntries 38 = .ok (.iload_n 2, 1) := by decide +kernel
theorem dX8_keepEntries_39 : decode cX8_keepEntries 39 = .ok (.if_icmp .ge 10, 3) := by decide +kernel
theorem dX8_keepEntries_42 : decode cX8_keepEntries 42 = .ok (.aload_n 0, 1) := by decide +kernel
theorem dX8_keepEntries_43 : decode cX8_keepEntries 43 = .ok (.iload_n 2, 1) := by decide +kernel
theorem dX8_keepEntries_44 : decode cX8_keepEntries 44 = .ok (.newarray .byte, 2) := by decide +kernel
theorem dX8_keepEntries_46 : decode cX8_keepEntries 46 = .ok (.putfield 13, 3) := by decide +kernel
theorem dX8_keepEntries_49 : decode cX8_keepEntries 49 = .ok (.aload_n 0, 1) := by decide +kernel
theorem dX8_keepEntries_50 : decode cX8_keepEntries 50 = .ok (.getfield 7, 3) := by decide +kernel
theorem dX8_keepEntries_53 : decode cX8_keepEntries 53 = .ok (.bipush 8, 2) := by decide +kernel
theorem dX8_keepEntries_55 : decode cX8_keepEntries 55 = .ok (.aload_n 0, 1) := by decide +kernel
theorem dX8_keepEntries_56 : decode cX8_keepEntries 56 = .ok (.getfield 13, 3) := by decide +kernel
theorem dX8_keepEntries_59 : decode cX8_keepEntries 59 = .ok (.iconst 0, 1) := by decide +kernel
theorem dX8_keepEntries_60 : decode cX8_keepEntries 60 = .ok (.iload_n 2, 1) := by decide +kernel
theorem dX8_keepEntries_61 : decode cX8_keepEntries 61 = .ok (.invokestatic 51, 3) := by decide +kernel
theorem dX8_keepEntries_64 : decode cX8_keepEntries 64 = .ok (.aload_n 0, 1) := by decide +kernel
theorem dX8_keepEntries_65 : decode cX8_keepEntries 65 = .ok (.iload_n 1, 1) := by decide +kernel
theorem dX8_keepEntries_66 : decode cX8_keepEntries 66 = .ok (.putfield 57, 3) := by decide +kernel
theorem dX8_keepEntries_69 : decode cX8_keepEntries 69 = .ok (.return_, 1) := by decide +kernel
theorem wX8_keepEntries_L49 {x : GX} {n0 sl0 : Nat} (X : Cx x cX8_keepEntries RX8 none n0 sl0 1 40) {out : Mm} (hE : Ends x n0 sl0 none out) (hn : xn x = 3) (fu : Nat)   (a0 : Nat) (a1 : Int32) (a2 : Int32)  (M : Mm) (h : fX8_keepEntries_L49 fu  a0 a1 a2 M = some out) : Gw x M 49 [(0, pR (some a0)), (1, pI a1), (2, pI a2)] [] := by
  unfold fX8_keepEntries_L49 at h
  refine g_aload_n X (pc := 49) 0 rfl rfl dX8_keepEntries_49 ?_
  obtain ⟨v1, ev1, h⟩ := bd h
  refine g_getR X (pc := 50) fk_8_0 rfl rfl ev1 tb_40 dX8_keepEntries_50 ?_
  refine g_bipush X (pc := 53) (v := 8) dX8_keepEntries_53 (by decide) ?_
  refine g_aload_n X (pc := 55) 0 rfl rfl dX8_keepEntries_55 ?_
  obtain ⟨v2, ev2, h⟩ := bd h
  refine g_getR X (pc := 56) fk_8_2 rfl rfl ev2 tb_45 dX8_keepEntries_56 ?_
  refine g_iconst X (pc := 59) (v := 0) dX8_keepEntries_59 (by decide) ?_
  refine g_iload_n X (pc := 60) 2 rfl rfl dX8_keepEntries_60 ?_
  obtain ⟨M3, eM3, h⟩ := bd h
  refine g_copyB X (pc := 61) eM3 tb_429 tb_363 tb_362 tb_15 ⟨by decide, Nat.le_of_ble_eq_true rfl⟩ dX8_keepEntries_61 ?_
  refine g_aload_n X (pc := 64) 0 rfl rfl dX8_keepEntries_64 ?_
  refine g_iload_n X (pc := 65) 1 rfl rfl dX8_keepEntries_65 ?_
  obtain ⟨M4, eM4, h⟩ := bd h
  refine g_putI X (pc := 66) fk_8_1 rfl rfl rfl eM4 tb_44 (Or.inl rfl) dX8_keepEntries_66 ?_
  obtain rfl := Option.some.inj h
  exact g_return X hE dX8_keepEntries_69
theorem wX8_keepEntries {x : GX} {n0 sl0 : Nat} (X : Cx x cX8_keepEntries RX8 none n0 sl0 1 40) {out : Mm} (hE : Ends x n0 sl0 none out) (hn : xn x = 3) (fu : Nat)   (a0 : Nat)  (M : Mm) (h : fX8_keepEntries fu  a0 M = some out) : Gw x M 0 [(0, pR (some a0))] [] := by
  unfold fX8_keepEntries at h
  refine g_aload_n X (pc := 0) 0 rfl rfl dX8_keepEntries_0 ?_
  obtain ⟨v1, ev1, h⟩ := bd h
  refine g_getR X (pc := 1) fk_8_0 rfl rfl ev1 tb_40 dX8_keepEntries_1 ?_
  refine g_iconst X (pc := 4) (v := 4) dX8_keepEntries_4 (by decide) ?_
  obtain ⟨v3, M2, eM2, h⟩ := b2d h
  refine g_callSN X (pc := 5) (M' := M2) (ro := some (pI v3)) (as := [pR v1, pI (4 : Int32)]) (as' := [pI (4 : Int32), pR v1]) (st := []) (ctX11_two _ _ _ _ _ _ fu  v1 (4 : Int32) M _ eM2) tb_398 (List.mem_of_getElem? (i := 1) rfl) tb_397 tb_1 hyX11_two rfl rfl ⟨by decide, by decide⟩ (Nat.le_of_ble_eq_true rfl) dX8_keepEntries_5 ?_
  refine g_istore_n X (pc := 8) [(1, pI v3), (0, pR (some a0))] rfl (lt_n hn (by decide)) rfl dX8_keepEntries_8 ?_
  refine g_iload_n X (pc := 9) 0 rfl rfl dX8_keepEntries_9 ?_
  refine g_bipush X (pc := 10) (v := 64) dX8_keepEntries_10 (by decide) ?_
  refine g_imul X (pc := 12) dX8_keepEntries_12 ?_
  refine g_istore_n X (pc := 13) [(2, pI (v3 * (64 : Int32))), (1, pI v3), (0, pR (some a0))] rfl (lt_n hn (by decide)) rfl dX8_keepEntries_13 ?_
  refine g_iload_n X (pc := 14) 1 rfl rfl dX8_keepEntries_14 ?_
  refine g_bipush X (pc := 15) (v := 64) dX8_keepEntries_15 (by decide) ?_
  refine g_icmp_gt X (pc := 17) (tgt := 32) dX8_keepEntries_17 (by decide) (fun hc => ?_) (fun hc => ?_)
  · have h := (if_pos hc).symm.trans h
    obtain rfl := Option.some.inj h
    exact g_return X hE dX8_keepEntries_32
  · have h := (if_neg hc).symm.trans h
    refine g_aload_n X (pc := 20) 2 rfl rfl dX8_keepEntries_20 ?_
    obtain ⟨v4, ev4, h⟩ := bd h
    refine g_getR X (pc := 21) fk_8_0 rfl rfl ev4 tb_40 dX8_keepEntries_21 ?_
    obtain ⟨v5, ev5, h⟩ := bd h
    refine g_alen X (pc := 24) (k := 0) rfl (by decide) ev5 dX8_keepEntries_24 ?_
    refine g_bipush X (pc := 25) (v := 8) dX8_keepEntries_25 (by decide) ?_
    refine g_iload_n X (pc := 27) 0 rfl rfl dX8_keepEntries_27 ?_
    refine g_iadd X (pc := 28) dX8_keepEntries_28 ?_
    refine g_icmp_ge X (pc := 29) (tgt := 33) dX8_keepEntries_29 (by decide) (fun hc => ?_) (fun hc => ?_)
    · have h := (if_pos hc).symm.trans h
      refine g_aload_n X (pc := 33) 2 rfl rfl dX8_keepEntries_33 ?_
      obtain ⟨v6, ev6, h⟩ := bd h
      refine g_getR X (pc := 34) fk_8_2 rfl rfl ev6 tb_45 dX8_keepEntries_34 ?_
      obtain ⟨v7, ev7, h⟩ := bd h
      refine g_alen X (pc := 37) (k := 0) rfl (by decide) ev7 dX8_keepEntries_37 ?_
      refine g_iload_n X (pc := 38) 0 rfl rfl dX8_keepEntries_38 ?_
      refine g_icmp_ge X (pc := 39) (tgt := 49) dX8_keepEntries_39 (by decide) (fun hc => ?_) (fun hc => ?_)
      · have h := (if_pos hc).symm.trans h
        refine g_sub [2, 1, 0] [(0, pR (some a0)), (1, pI v3), (2, pI (v3 * (64 : Int32)))] rfl ?_
        exact wX8_keepEntries_L49 X hE hn fu   a0 v3 (v3 * (64 : Int32)) M2 h
      · have h := (if_neg hc).symm.trans h
        refine g_aload_n X (pc := 42) 2 rfl rfl dX8_keepEntries_42 ?_
        refine g_iload_n X (pc := 43) 0 rfl rfl dX8_keepEntries_43 ?_
        obtain ⟨v8, M9, eM9, h⟩ := b2d h
        refine g_newarray X (pc := 44) (at9 := .byte) (k := 0) rfl (by decide) rfl (by decide) (fun _ _ q => q) tb_53 eM9 dX8_keepEntries_44 ?_
        obtain ⟨M10, eM10, h⟩ := bd h
        refine g_putG X (pc := 46) fk_8_2 rfl rfl rfl eM10 tb_45 (Or.inl rfl) dX8_keepEntries_46 ?_
        refine g_sub [2, 1, 0] [(0, pR (some a0)), (1, pI v3), (2, pI (v3 * (64 : Int32)))] rfl ?_
        exact wX8_keepEntries_L49 X hE hn fu   a0 v3 (v3 * (64 : Int32)) M10 h
    · have h := (if_neg hc).symm.trans h
      obtain rfl := Option.some.inj h
      exact g_return X hE dX8_keepEntries_32
theorem hyX8_keepEntries : yX8_keepEntries.cls ≠ "java/lang/invoke/MethodHandle" ∧ yX8_keepEntries.cls ≠ "java/lang/invoke/VarHandle" ∧ (parseMethodDescriptor yX8_keepEntries.desc).map (fun d => d.parameters.length) = some 0 := ⟨by decide +kernel, by decide +kernel, by decide +kernel⟩
theorem ctX8_keepEntries (l : Launch) (E : Nat → Nat) (D : va_G) (dA : Nat → ClassId) (lo : Nat) (H0 : Heap) (fu : Nat) (a0 : Nat) (M : Mm) (out : Mm) (h : fX8_keepEntries fu a0 M = some out) : Ct l E D dA lo H0 yX8_keepEntries cX8_keepEntries 3 none 1 40 [pR (some a0)] M none out := by
  refine ct_of (by decide +kernel) (Nat.le_of_ble_eq_true rfl) ?_
  intro x hl he hd ha ho hh hn hin X hE
  exact wX8_keepEntries X hE hn fu a0 M h
/-! WebHost$Tcp.<init>(LWebHost$Wire;LWebHost$Link;LWebHost$Store;LWebHost$Intake;)V -/
def fX9_init (fu : Nat)  (a0 : Nat) (a1 : Option Nat) (a2 : Option Nat) (a3 : Option Nat) (a4 : Option Nat)  (M : Mm) : Option (Mm) :=
    (pG M 9 576 (some a0) a1).bind fun M1 =>
    (pG M1 9 577 (some a0) a2).bind fun M2 =>
    (pG M2 9 578 (some a0) a3).bind fun M3 =>
    (pG M3 9 579 (some a0) a4).bind fun M4 =>
    b2 (mkA M4 111 (16 : Int32)) fun v5 M6 =>
    (pG M6 9 580 (some a0) (some v5)).bind fun M7 =>
    some M7
theorem dX9_init_0 : decode cX9_init 0 = .ok (.aload_n 0, 1) := by decide +kernel
theorem dX9_init_1 : decode cX9_init 1 = .ok (.invokespecial 3, 3) := by decide +kernel
theorem dX9_init_4 : decode cX9_init 4 = .ok (.aload_n 0, 1) := by decide +kernel
theorem dX9_init_5 : decode cX9_init 5 = .ok (.aload_n 1, 1) := by decide +kernel
theorem dX9_init_6 : decode cX9_init 6 = .ok (.putfield 9, 3) := by decide +kernel
theorem dX9_init_9 : decode cX9_init 9 = .ok (.aload_n 0, 1) := by decide +kernel
theorem dX9_init_10 : decode cX9_init 10 = .ok (.aload_n 2, 1) := by decide +kernel
theorem dX9_init_11 : decode cX9_init 11 = .ok (.putfield 15, 3) := by decide +kernel
theorem dX9_init_14 : decode cX9_init 14 = .ok (.aload_n 0, 1) := by decide +kernel
theorem dX9_init_15 : decode cX9_init 15 = .ok (.aload_n 3, 1) := by decide +kernel
theorem dX9_init_16 : decode cX9_init 16 = .ok (.putfield 19, 3) := by decide +kernel
theorem dX9_init_19 : decode cX9_init 19 = .ok (.aload_n 0, 1) := by decide +kernel
theorem dX9_init_20 : decode cX9_init 20 = .ok (.aload 4, 2) := by decide +kernel
theorem dX9_init_22 : decode cX9_init 22 = .ok (.putfield 23, 3) := by decide +kernel
theorem dX9_init_25 : decode cX9_init 25 = .ok (.aload_n 0, 1) := by decide +kernel
theorem dX9_init_26 : decode cX9_init 26 = .ok (.bipush 16, 2) := by decide +kernel
theorem dX9_init_28 : decode cX9_init 28 = .ok (.anewarray 27, 3) := by decide +kernel
theorem dX9_init_31 : decode cX9_init 31 = .ok (.putfield 29, 3) := by decide +kernel
theorem dX9_init_34 : decode cX9_init 34 = .ok (.return_, 1) := by decide +kernel
theorem wX9_init {x : GX} {n0 sl0 : Nat} (X : Cx x cX9_init RX9 none n0 sl0 1 12) {out : Mm} (hE : Ends x n0 sl0 none out) (hn : xn x = 5) (hin : (xt x).name = "<init>") (fu : Nat)   (a0 : Nat) (a1 : Option Nat) (a2 : Option Nat) (a3 : Option Nat) (a4 : Option Nat)  (M : Mm) (h : fX9_init fu  a0 a1 a2 a3 a4 M = some out) : Gw x M 0 [(0, pR (some a0)), (1, pR a1), (2, pR a2), (3, pR a3), (4, pR a4)] [] := by
  unfold fX9_init at h
  refine g_aload_n X (pc := 0) 0 rfl rfl dX9_init_0 ?_
  refine g_objInit X (pc := 1) (o := (some a0)) ⟨_, rfl⟩ tb_231 tb_32 tb_33 ⟨by decide, Nat.le_of_ble_eq_true rfl⟩ dX9_init_1 ?_
  refine g_aload_n X (pc := 4) 0 rfl rfl dX9_init_4 ?_
  refine g_aload_n X (pc := 5) 1 rfl rfl dX9_init_5 ?_
  obtain ⟨M1, eM1, h⟩ := bd h
  refine g_putG X (pc := 6) fk_9_0 rfl rfl rfl eM1 tb_234 (Or.inr ⟨rfl, hin, rfl⟩) dX9_init_6 ?_
  refine g_aload_n X (pc := 9) 0 rfl rfl dX9_init_9 ?_
  refine g_aload_n X (pc := 10) 2 rfl rfl dX9_init_10 ?_
  obtain ⟨M2, eM2, h⟩ := bd h
  refine g_putG X (pc := 11) fk_9_1 rfl rfl rfl eM2 tb_235 (Or.inr ⟨rfl, hin, rfl⟩) dX9_init_11 ?_
  refine g_aload_n X (pc := 14) 0 rfl rfl dX9_init_14 ?_
  refine g_aload_n X (pc := 15) 3 rfl rfl dX9_init_15 ?_
  obtain ⟨M3, eM3, h⟩ := bd h
  refine g_putG X (pc := 16) fk_9_2 rfl rfl rfl eM3 tb_236 (Or.inr ⟨rfl, hin, rfl⟩) dX9_init_16 ?_
  refine g_aload_n X (pc := 19) 0 rfl rfl dX9_init_19 ?_
  refine g_aload X (pc := 20) 4 rfl dX9_init_20 ?_
  obtain ⟨M4, eM4, h⟩ := bd h
  refine g_putG X (pc := 22) fk_9_3 rfl rfl rfl eM4 tb_237 (Or.inr ⟨rfl, hin, rfl⟩) dX9_init_22 ?_
  refine g_aload_n X (pc := 25) 0 rfl rfl dX9_init_25 ?_
  refine g_bipush X (pc := 26) (v := 16) dX9_init_26 (by decide) ?_
  obtain ⟨v5, M6, eM6, h⟩ := b2d h
  refine g_anewarray X (pc := 28) (k := 5) rfl (by decide) (by decide) tb_232 eM6 dX9_init_28 ?_
  obtain ⟨M7, eM7, h⟩ := bd h
  refine g_putG X (pc := 31) fk_9_4 rfl rfl rfl eM7 tb_238 (Or.inr ⟨rfl, hin, rfl⟩) dX9_init_31 ?_
  obtain rfl := Option.some.inj h
  exact g_return X hE dX9_init_34
theorem hyX9_init : yX9_init.cls ≠ "java/lang/invoke/MethodHandle" ∧ yX9_init.cls ≠ "java/lang/invoke/VarHandle" ∧ (parseMethodDescriptor yX9_init.desc).map (fun d => d.parameters.length) = some 4 := ⟨by decide +kernel, by decide +kernel, by decide +kernel⟩
theorem ctX9_init (l : Launch) (E : Nat → Nat) (D : va_G) (dA : Nat → ClassId) (lo : Nat) (H0 : Heap) (fu : Nat) (a0 : Nat) (a1 : Option Nat) (a2 : Option Nat) (a3 : Option Nat) (a4 : Option Nat) (M : Mm) (out : Mm) (h : fX9_init fu a0 a1 a2 a3 a4 M = some out) : Ct l E D dA lo H0 yX9_init cX9_init 5 none 1 12 [pR (some a0), pR a1, pR a2, pR a3, pR a4] M none out := by
  refine ct_of (by decide +kernel) (Nat.le_of_ble_eq_true rfl) ?_
  intro x hl he hd ha ho hh hn hin X hE
  exact wX9_init X hE hn hin fu a0 a1 a2 a3 a4 M h
/-! WebHost$Tcp.restart()V -/
def fX9_restart_L23 (fu : Nat) (k2 : Nat → Int32 → Mm → Option (Mm)) (a0 : Nat) (a1 : Int32)  (M : Mm) : Option (Mm) :=
    k2 a0 (a1 + (1 : Int32)) M
def fX9_restart_L2 (fu : Nat)  : Nat → Nat → Int32 → Mm → Option (Mm)
  | 0, _, _, _ => none
  | n + 1, a0, a1, M =>
    if (16 : Int32) ≤ a1 then (
    some M)
    else (
    (gR M 9 580 (some a0)).bind fun v1 =>
    (gB M 111 v1 a1).bind fun v2 =>
    if v2 = none then (
    fX9_restart_L23 fu (fun b0 b1 M => fX9_restart_L2 fu  n b0 b1 M) a0 a1 M)
    else (
    (rc M 1 v2).bind fun q3 =>
    (fX1_leave fu q3  M).bind fun M4 =>
    fX9_restart_L23 fu (fun b0 b1 M => fX9_restart_L2 fu  n b0 b1 M) a0 a1 M4))
def fX9_restart (fu : Nat)  (a0 : Nat)  (M : Mm) : Option (Mm) :=
    fX9_restart_L2 fu  fu a0 (0 : Int32) M
theorem dX9_restart_0 : decode cX9_restart 0 = .ok (.iconst 0, 1) := by decide +kernel
theorem dX9_restart_1 : decode cX9_restart 1 = .ok (.istore_n 1, 1) := by decide +kernel
theorem dX9_restart_2 : decode cX9_restart 2 = .ok (.iload_n 1, 1) := by decide +kernel
theorem dX9_restart_3 : decode cX9_restart 3 = .ok (.bipush 16, 2) := by decide +kernel
theorem dX9_restart_5 : decode cX9_restart 5 = .ok (.if_icmp .ge 24, 3) := by decide +kernel
theorem dX9_restart_8 : decode cX9_restart 8 = .ok (.aload_n 0, 1) := by decide +kernel
theorem dX9_restart_9 : decode cX9_restart 9 = .ok (.getfield 29, 3) := by decide +kernel
theorem dX9_restart_12 : decode cX9_restart 12 = .ok (.iload_n 1, 1) := by decide +kernel
theorem dX9_restart_13 : decode cX9_restart 13 = .ok (.aaload, 1) := by decide +kernel
theorem dX9_restart_14 : decode cX9_restart 14 = .ok (.astore_n 2, 1) := by decide +kernel
theorem dX9_restart_15 : decode cX9_restart 15 = .ok (.aload_n 2, 1) := by decide +kernel
theorem dX9_restart_16 : decode cX9_restart 16 = .ok (.ifnull 7, 3) := by decide +kernel
theorem dX9_restart_19 : decode cX9_restart 19 = .ok (.aload_n 2, 1) := by decide +kernel
theorem dX9_restart_20 : decode cX9_restart 20 = .ok (.invokevirtual 33, 3) := by decide +kernel
theorem dX9_restart_23 : decode cX9_restart 23 = .ok (.iinc 1 1, 3) := by decide +kernel
theorem dX9_restart_26 : decode cX9_restart 26 = .ok (.goto (-24), 3) := by decide +kernel
theorem dX9_restart_29 : decode cX9_restart 29 = .ok (.return_, 1) := by decide +kernel
theorem wX9_restart_L23 {x : GX} {n0 sl0 : Nat} (X : Cx x cX9_restart RX9 none n0 sl0 1 20) {out : Mm} (hE : Ends x n0 sl0 none out) (hn : xn x = 3) (fu : Nat) (k2 : Nat → Int32 → Mm → Option (Mm)) (hk2 : ∀ (b0 : Nat) (b1 : Int32)  (M : Mm), k2 b0 b1 M = some out → Gw x M 2 [(0, pR (some b0)), (1, pI b1)] []) (a0 : Nat) (a1 : Int32)  (M : Mm) (h : fX9_restart_L23 fu k2 a0 a1 M = some out) : Gw x M 23 [(0, pR (some a0)), (1, pI a1)] [] := by
  unfold fX9_restart_L23 at h
  refine g_iinc X (pc := 23) 1 [(1, pI (a1 + (1 : Int32))), (0, pR (some a0))] rfl (iinc_e (by decide)) (lt_n hn (by decide)) rfl dX9_restart_23 ?_
  refine g_goto X (pc := 26) (tgt := 2) dX9_restart_26 (by decide) ?_
  refine g_sub [1, 0] [(0, pR (some a0)), (1, pI (a1 + (1 : Int32)))] rfl ?_
  exact hk2 a0 (a1 + (1 : Int32)) M h
theorem wX9_restart_L2 {x : GX} {n0 sl0 : Nat} (X : Cx x cX9_restart RX9 none n0 sl0 1 20) {out : Mm} (hE : Ends x n0 sl0 none out) (hn : xn x = 3) (fu : Nat)   : ∀ (n : Nat) (a0 : Nat) (a1 : Int32)  (M : Mm), fX9_restart_L2 fu  n a0 a1 M = some out → Gw x M 2 [(0, pR (some a0)), (1, pI a1)] [] := by
  intro n
  induction n with
  | zero =>
    intro a0 a1 M h
    have h : (none : Option (Mm)) = some out := h
    cases h
  | succ n ih =>
    intro a0 a1 M h
    rw [fX9_restart_L2] at h
    refine g_iload_n X (pc := 2) 1 rfl rfl dX9_restart_2 ?_
    refine g_bipush X (pc := 3) (v := 16) dX9_restart_3 (by decide) ?_
    refine g_icmp_ge X (pc := 5) (tgt := 29) dX9_restart_5 (by decide) (fun hc => ?_) (fun hc => ?_)
    · have h := (if_pos hc).symm.trans h
      obtain rfl := Option.some.inj h
      exact g_return X hE dX9_restart_29
    · have h := (if_neg hc).symm.trans h
      refine g_aload_n X (pc := 8) 0 rfl rfl dX9_restart_8 ?_
      obtain ⟨v1, ev1, h⟩ := bd h
      refine g_getR X (pc := 9) fk_9_4 rfl rfl ev1 tb_238 dX9_restart_9 ?_
      refine g_iload_n X (pc := 12) 1 rfl rfl dX9_restart_12 ?_
      obtain ⟨v2, ev2, h⟩ := bd h
      refine g_aaload X (pc := 13) (k := 5) rfl rfl (by decide) ev2 dX9_restart_13 ?_
      refine g_astore_n X (pc := 14) [(2, pR v2), (0, pR (some a0)), (1, pI a1)] rfl (lt_n hn (by decide)) rfl dX9_restart_14 ?_
      refine g_aload_n X (pc := 15) 0 rfl rfl dX9_restart_15 ?_
      refine g_ifnull X (pc := 16) (tgt := 23) dX9_restart_16 (by decide) (fun hc => ?_) (fun hc => ?_)
      · have h := (if_pos hc).symm.trans h
        refine g_sub [1, 2] [(0, pR (some a0)), (1, pI a1)] rfl ?_
        exact wX9_restart_L23 X hE hn fu (fun b0 b1 M => fX9_restart_L2 fu  n b0 b1 M) ih a0 a1 M h
      · have h := (if_neg hc).symm.trans h
        refine g_aload_n X (pc := 19) 0 rfl rfl dX9_restart_19 ?_
        obtain ⟨q3, eq3, h⟩ := bd h
        obtain ⟨M4, eM4, h⟩ := bd h
        refine g_callV X (pc := 20) (M' := M4) (ro := none) (c := 1) rfl (by decide) (as := []) (as' := []) (st := []) eq3 (ctX1_leave _ _ _ _ _ _ fu q3  M _ eM4) tb_452 tb_449 tb_450 tb_451 tb_18 ⟨rfl, hyX1_leave⟩ rfl rfl ⟨by decide, by decide⟩ (Nat.le_of_ble_eq_true rfl) dX9_restart_20 ?_
        refine g_sub [1, 2] [(0, pR (some a0)), (1, pI a1)] rfl ?_
        exact wX9_restart_L23 X hE hn fu (fun b0 b1 M => fX9_restart_L2 fu  n b0 b1 M) ih a0 a1 M4 h
theorem wX9_restart {x : GX} {n0 sl0 : Nat} (X : Cx x cX9_restart RX9 none n0 sl0 1 20) {out : Mm} (hE : Ends x n0 sl0 none out) (hn : xn x = 3) (fu : Nat)   (a0 : Nat)  (M : Mm) (h : fX9_restart fu  a0 M = some out) : Gw x M 0 [(0, pR (some a0))] [] := by
  unfold fX9_restart at h
  refine g_iconst X (pc := 0) (v := 0) dX9_restart_0 (by decide) ?_
  refine g_istore_n X (pc := 1) [(1, pI (0 : Int32)), (0, pR (some a0))] rfl (lt_n hn (by decide)) rfl dX9_restart_1 ?_
  refine g_sub [1, 0] [(0, pR (some a0)), (1, pI (0 : Int32))] rfl ?_
  exact wX9_restart_L2 X hE hn fu   fu a0 (0 : Int32) M h
theorem hyX9_restart : yX9_restart.cls ≠ "java/lang/invoke/MethodHandle" ∧ yX9_restart.cls ≠ "java/lang/invoke/VarHandle" ∧ (parseMethodDescriptor yX9_restart.desc).map (fun d => d.parameters.length) = some 0 := ⟨by decide +kernel, by decide +kernel, by decide +kernel⟩
theorem ctX9_restart (l : Launch) (E : Nat → Nat) (D : va_G) (dA : Nat → ClassId) (lo : Nat) (H0 : Heap) (fu : Nat) (a0 : Nat) (M : Mm) (out : Mm) (h : fX9_restart fu a0 M = some out) : Ct l E D dA lo H0 yX9_restart cX9_restart 3 none 1 20 [pR (some a0)] M none out := by
  refine ct_of (by decide +kernel) (Nat.le_of_ble_eq_true rfl) ?_
  intro x hl he hd ha ho hh hn hin X hE
  exact wX9_restart X hE hn fu a0 M h
/-! WebHost$Tcp.connectionAt(I)LWebHost$Connection; -/
def fX9_connectionAt (fu : Nat)  (a0 : Nat) (a1 : Int32)  (M : Mm) : Option (Option Nat × Mm) :=
    if a1 < 0 then (
    some (none, M))
    else (
    if a1 < (16 : Int32) then (
    (gR M 9 580 (some a0)).bind fun v1 =>
    (gB M 111 v1 a1).bind fun v2 =>
    if v2 = none then (
    some (none, M))
    else (
    (gI M 1 64 v2).bind fun v3 =>
    if v3 = 0 then (
    some (none, M))
    else (
    some (v2, M))))
    else (
    some (none, M)))
theorem dX9_connectionAt_0 : decode cX9_connectionAt 0 = .ok (.iload_n 1, 1) := by decide +kernel
theorem dX9_connectionAt_1 : decode cX9_connectionAt 1 = .ok (.ifCond .lt 9, 3) := by decide +kernel
theorem dX9_connectionAt_4 : decode cX9_connectionAt 4 = .ok (.iload_n 1, 1) := by decide +kernel
theorem dX9_connectionAt_5 : decode cX9_connectionAt 5 = .ok (.bipush 16, 2) := by decide +kernel
theorem dX9_connectionAt_7 : decode cX9_connectionAt 7 = .ok (.if_icmp .lt 5, 3) := by decide +kernel
theorem dX9_connectionAt_10 : decode cX9_connectionAt 10 = .ok (.aconst_null, 1) := by decide +kernel
theorem dX9_connectionAt_11 : decode cX9_connectionAt 11 = .ok (.areturn, 1) := by decide +kernel
theorem dX9_connectionAt_12 : decode cX9_connectionAt 12 = .ok (.aload_n 0, 1) := by decide +kernel
theorem dX9_connectionAt_13 : decode cX9_connectionAt 13 = .ok (.getfield 29, 3) := by decide +kernel
theorem dX9_connectionAt_16 : decode cX9_connectionAt 16 = .ok (.iload_n 1, 1) := by decide +kernel
theorem dX9_connectionAt_17 : decode cX9_connectionAt 17 = .ok (.aaload, 1) := by decide +kernel
theorem dX9_connectionAt_18 : decode cX9_connectionAt 18 = .ok (.astore_n 2, 1) := by decide +kernel
theorem dX9_connectionAt_19 : decode cX9_connectionAt 19 = .ok (.aload_n 2, 1) := by decide +kernel
theorem dX9_connectionAt_20 : decode cX9_connectionAt 20 = .ok (.ifnull 10, 3) := by decide +kernel
theorem dX9_connectionAt_23 : decode cX9_connectionAt 23 = .ok (.aload_n 2, 1) := by decide +kernel
theorem dX9_connectionAt_24 : decode cX9_connectionAt 24 = .ok (.getfield 36, 3) := by decide +kernel
theorem dX9_connectionAt_27 : decode cX9_connectionAt 27 = .ok (.ifCond .ne 7, 3) := by decide +kernel
theorem dX9_connectionAt_30 : decode cX9_connectionAt 30 = .ok (.aconst_null, 1) := by decide +kernel
theorem dX9_connectionAt_31 : decode cX9_connectionAt 31 = .ok (.goto 4, 3) := by decide +kernel
theorem dX9_connectionAt_34 : decode cX9_connectionAt 34 = .ok (.aload_n 2, 1) := by decide +kernel
theorem dX9_connectionAt_35 : decode cX9_connectionAt 35 = .ok (.areturn, 1) := by decide +kernel
theorem wX9_connectionAt {x : GX} {n0 sl0 : Nat} (X : Cx x cX9_connectionAt RX9 (some (.object "WebHost$Connection")) n0 sl0 0 0) {out : Option Nat × Mm} (hE : Ends x n0 sl0 (some (pR out.1)) out.2) (hn : xn x = 3) (fu : Nat)   (a0 : Nat) (a1 : Int32)  (M : Mm) (h : fX9_connectionAt fu  a0 a1 M = some out) : Gw x M 0 [(0, pR (some a0)), (1, pI a1)] [] := by
  unfold fX9_connectionAt at h
  refine g_iload_n X (pc := 0) 1 rfl rfl dX9_connectionAt_0 ?_
  refine g_if_lt X (pc := 1) (tgt := 10) dX9_connectionAt_1 (by decide) (fun hc => ?_) (fun hc => ?_)
  · have h := (if_pos hc).symm.trans h
    refine g_null X (pc := 10) dX9_connectionAt_10 ?_
    obtain rfl := Option.some.inj h
    exact g_areturn X rfl (Or.inl ⟨_, rfl⟩) hE dX9_connectionAt_11
  · have h := (if_neg hc).symm.trans h
    refine g_iload_n X (pc := 4) 1 rfl rfl dX9_connectionAt_4 ?_
    refine g_bipush X (pc := 5) (v := 16) dX9_connectionAt_5 (by decide) ?_
    refine g_icmp_lt X (pc := 7) (tgt := 12) dX9_connectionAt_7 (by decide) (fun hc => ?_) (fun hc => ?_)
    · have h := (if_pos hc).symm.trans h
      refine g_aload_n X (pc := 12) 0 rfl rfl dX9_connectionAt_12 ?_
      obtain ⟨v1, ev1, h⟩ := bd h
      refine g_getR X (pc := 13) fk_9_4 rfl rfl ev1 tb_238 dX9_connectionAt_13 ?_
      refine g_iload_n X (pc := 16) 1 rfl rfl dX9_connectionAt_16 ?_
      obtain ⟨v2, ev2, h⟩ := bd h
      refine g_aaload X (pc := 17) (k := 5) rfl rfl (by decide) ev2 dX9_connectionAt_17 ?_
      refine g_astore_n X (pc := 18) [(2, pR v2), (0, pR (some a0)), (1, pI a1)] rfl (lt_n hn (by decide)) rfl dX9_connectionAt_18 ?_
      refine g_aload_n X (pc := 19) 0 rfl rfl dX9_connectionAt_19 ?_
      refine g_ifnull X (pc := 20) (tgt := 30) dX9_connectionAt_20 (by decide) (fun hc => ?_) (fun hc => ?_)
      · have h := (if_pos hc).symm.trans h
        refine g_null X (pc := 30) dX9_connectionAt_30 ?_
        refine g_goto X (pc := 31) (tgt := 35) dX9_connectionAt_31 (by decide) ?_
        obtain rfl := Option.some.inj h
        exact g_areturn X rfl (Or.inl ⟨_, rfl⟩) hE dX9_connectionAt_35
      · have h := (if_neg hc).symm.trans h
        refine g_aload_n X (pc := 23) 0 rfl rfl dX9_connectionAt_23 ?_
        obtain ⟨v3, ev3, h⟩ := bd h
        refine g_getI X (pc := 24) fk_1_0 rfl rfl ev3 tb_959 dX9_connectionAt_24 ?_
        refine g_if_ne X (pc := 27) (tgt := 34) dX9_connectionAt_27 (by decide) (fun hc => ?_) (fun hc => ?_)
        · have h := (if_neg hc).symm.trans h
          refine g_aload_n X (pc := 34) 0 rfl rfl dX9_connectionAt_34 ?_
          obtain rfl := Option.some.inj h
          exact g_areturn X rfl (Or.inl ⟨_, rfl⟩) hE dX9_connectionAt_35
        · have h := (if_pos hc).symm.trans h
          refine g_null X (pc := 30) dX9_connectionAt_30 ?_
          refine g_goto X (pc := 31) (tgt := 35) dX9_connectionAt_31 (by decide) ?_
          obtain rfl := Option.some.inj h
          exact g_areturn X rfl (Or.inl ⟨_, rfl⟩) hE dX9_connectionAt_35
    · have h := (if_neg hc).symm.trans h
      refine g_null X (pc := 10) dX9_connectionAt_10 ?_
      obtain rfl := Option.some.inj h
      exact g_areturn X rfl (Or.inl ⟨_, rfl⟩) hE dX9_connectionAt_11
theorem hyX9_connectionAt : yX9_connectionAt.cls ≠ "java/lang/invoke/MethodHandle" ∧ yX9_connectionAt.cls ≠ "java/lang/invoke/VarHandle" ∧ (parseMethodDescriptor yX9_connectionAt.desc).map (fun d => d.parameters.length) = some 1 := ⟨by decide +kernel, by decide +kernel, by decide +kernel⟩
theorem ctX9_connectionAt (l : Launch) (E : Nat → Nat) (D : va_G) (dA : Nat → ClassId) (lo : Nat) (H0 : Heap) (fu : Nat) (a0 : Nat) (a1 : Int32) (M : Mm) (out : Option Nat × Mm) (h : fX9_connectionAt fu a0 a1 M = some out) : Ct l E D dA lo H0 yX9_connectionAt cX9_connectionAt 3 (some (.object "WebHost$Connection")) 0 0 [pR (some a0), pI a1] M (some (pR out.1)) out.2 := by
  refine ct_of (by decide +kernel) (Nat.le_of_ble_eq_true rfl) ?_
  intro x hl he hd ha ho hh hn hin X hE
  exact wX9_connectionAt X hE hn fu a0 a1 M h
/-! WebHost$Tcp.isBusy()Z -/
def fX9_isBusy_L27 (fu : Nat) (k2 : Nat → Int32 → Mm → Option (Int32 × Mm)) (a0 : Nat) (a1 : Int32)  (M : Mm) : Option (Int32 × Mm) :=
    k2 a0 (a1 + (1 : Int32)) M
def fX9_isBusy_L2 (fu : Nat)  : Nat → Nat → Int32 → Mm → Option (Int32 × Mm)
  | 0, _, _, _ => none
  | n + 1, a0, a1, M =>
    if (16 : Int32) ≤ a1 then (
    rN .boolean (0 : Int32) M)
    else (
    (rc M 9 (some a0)).bind fun q1 =>
    b2 (fX9_connectionAt fu q1 a1 M) fun v3 M2 =>
    if v3 = none then (
    fX9_isBusy_L27 fu (fun b0 b1 M => fX9_isBusy_L2 fu  n b0 b1 M) a0 a1 M2)
    else (
    (rc M2 1 v3).bind fun q4 =>
    b2 (fX1_isBusy fu q4  M2) fun v6 M5 =>
    if v6 = 0 then (
    fX9_isBusy_L27 fu (fun b0 b1 M => fX9_isBusy_L2 fu  n b0 b1 M) a0 a1 M5)
    else (
    rN .boolean (1 : Int32) M5)))
def fX9_isBusy (fu : Nat)  (a0 : Nat)  (M : Mm) : Option (Int32 × Mm) :=
    fX9_isBusy_L2 fu  fu a0 (0 : Int32) M
theorem dX9_isBusy_0 : decode cX9_isBusy 0 = .ok (.iconst 0, 1) := by decide +kernel
theorem dX9_isBusy_1 : decode cX9_isBusy 1 = .ok (.istore_n 1, 1) := by decide +kernel
theorem dX9_isBusy_2 : decode cX9_isBusy 2 = .ok (.iload_n 1, 1) := by decide +kernel
theorem dX9_isBusy_3 : decode cX9_isBusy 3 = .ok (.bipush 16, 2) := by decide +kernel
theorem dX9_isBusy_5 : decode cX9_isBusy 5 = .ok (.if_icmp .ge 28, 3) := by decide +kernel
theorem dX9_isBusy_8 : decode cX9_isBusy 8 = .ok (.aload_n 0, 1) := by decide +kernel
theorem dX9_isBusy_9 : decode cX9_isBusy 9 = .ok (.iload_n 1, 1) := by decide +kernel
theorem dX9_isBusy_10 : decode cX9_isBusy 10 = .ok (.invokevirtual 40, 3) := by decide +kernel
theorem dX9_isBusy_13 : decode cX9_isBusy 13 = .ok (.astore_n 2, 1) := by decide +kernel
theorem dX9_isBusy_14 : decode cX9_isBusy 14 = .ok (.aload_n 2, 1) := by decide +kernel
theorem dX9_isBusy_15 : decode cX9_isBusy 15 = .ok (.ifnull 12, 3) := by decide +kernel
theorem dX9_isBusy_18 : decode cX9_isBusy 18 = .ok (.aload_n 2, 1) := by decide +kernel
theorem dX9_isBusy_19 : decode cX9_isBusy 19 = .ok (.invokevirtual 44, 3) := by decide +kernel
theorem dX9_isBusy_22 : decode cX9_isBusy 22 = .ok (.ifCond .eq 5, 3) := by decide +kernel
theorem dX9_isBusy_25 : decode cX9_isBusy 25 = .ok (.iconst 1, 1) := by decide +kernel
theorem dX9_isBusy_26 : decode cX9_isBusy 26 = .ok (.ireturn, 1) := by decide +kernel
theorem dX9_isBusy_27 : decode cX9_isBusy 27 = .ok (.iinc 1 1, 3) := by decide +kernel
theorem dX9_isBusy_30 : decode cX9_isBusy 30 = .ok (.goto (-28), 3) := by decide +kernel
theorem dX9_isBusy_33 : decode cX9_isBusy 33 = .ok (.iconst 0, 1) := by decide +kernel
theorem dX9_isBusy_34 : decode cX9_isBusy 34 = .ok (.ireturn, 1) := by decide +kernel
theorem wX9_isBusy_L27 {x : GX} {n0 sl0 : Nat} (X : Cx x cX9_isBusy RX9 (some .boolean) n0 sl0 3 60) {out : Int32 × Mm} (hE : Ends x n0 sl0 (some (pI out.1)) out.2) (hn : xn x = 3) (fu : Nat) (k2 : Nat → Int32 → Mm → Option (Int32 × Mm)) (hk2 : ∀ (b0 : Nat) (b1 : Int32)  (M : Mm), k2 b0 b1 M = some out → Gw x M 2 [(0, pR (some b0)), (1, pI b1)] []) (a0 : Nat) (a1 : Int32)  (M : Mm) (h : fX9_isBusy_L27 fu k2 a0 a1 M = some out) : Gw x M 27 [(0, pR (some a0)), (1, pI a1)] [] := by
  unfold fX9_isBusy_L27 at h
  refine g_iinc X (pc := 27) 1 [(1, pI (a1 + (1 : Int32))), (0, pR (some a0))] rfl (iinc_e (by decide)) (lt_n hn (by decide)) rfl dX9_isBusy_27 ?_
  refine g_goto X (pc := 30) (tgt := 2) dX9_isBusy_30 (by decide) ?_
  refine g_sub [1, 0] [(0, pR (some a0)), (1, pI (a1 + (1 : Int32)))] rfl ?_
  exact hk2 a0 (a1 + (1 : Int32)) M h
theorem wX9_isBusy_L2 {x : GX} {n0 sl0 : Nat} (X : Cx x cX9_isBusy RX9 (some .boolean) n0 sl0 3 60) {out : Int32 × Mm} (hE : Ends x n0 sl0 (some (pI out.1)) out.2) (hn : xn x = 3) (fu : Nat)   : ∀ (n : Nat) (a0 : Nat) (a1 : Int32)  (M : Mm), fX9_isBusy_L2 fu  n a0 a1 M = some out → Gw x M 2 [(0, pR (some a0)), (1, pI a1)] [] := by
  intro n
  induction n with
  | zero =>
    intro a0 a1 M h
    have h : (none : Option (Int32 × Mm)) = some out := h
    cases h
  | succ n ih =>
    intro a0 a1 M h
    rw [fX9_isBusy_L2] at h
    refine g_iload_n X (pc := 2) 1 rfl rfl dX9_isBusy_2 ?_
    refine g_bipush X (pc := 3) (v := 16) dX9_isBusy_3 (by decide) ?_
    refine g_icmp_ge X (pc := 5) (tgt := 33) dX9_isBusy_5 (by decide) (fun hc => ?_) (fun hc => ?_)
    · have h := (if_pos hc).symm.trans h
      refine g_iconst X (pc := 33) (v := 0) dX9_isBusy_33 (by decide) ?_
      obtain ⟨hz, rfl⟩ := rN_some h
      exact g_nreturn X rfl hz hE dX9_isBusy_34
    · have h := (if_neg hc).symm.trans h
      refine g_aload_n X (pc := 8) 0 rfl rfl dX9_isBusy_8 ?_
      refine g_iload_n X (pc := 9) 1 rfl rfl dX9_isBusy_9 ?_
      obtain ⟨q1, eq1, h⟩ := bd h
      obtain ⟨v3, M2, eM2, h⟩ := b2d h
      refine g_callV X (pc := 10) (M' := M2) (ro := some (pR v3)) (c := 9) rfl (by decide) (as := [pI a1]) (as' := [pI a1]) (st := []) eq1 (ctX9_connectionAt _ _ _ _ _ _ fu q1 a1 M _ eM2) tb_491 tb_488 tb_489 tb_490 tb_6 ⟨rfl, hyX9_connectionAt⟩ rfl rfl ⟨by decide, by decide⟩ (Nat.le_of_ble_eq_true rfl) dX9_isBusy_10 ?_
      refine g_astore_n X (pc := 13) [(2, pR v3), (0, pR (some a0)), (1, pI a1)] rfl (lt_n hn (by decide)) rfl dX9_isBusy_13 ?_
      refine g_aload_n X (pc := 14) 0 rfl rfl dX9_isBusy_14 ?_
      refine g_ifnull X (pc := 15) (tgt := 27) dX9_isBusy_15 (by decide) (fun hc => ?_) (fun hc => ?_)
      · have h := (if_pos hc).symm.trans h
        refine g_sub [1, 2] [(0, pR (some a0)), (1, pI a1)] rfl ?_
        exact wX9_isBusy_L27 X hE hn fu (fun b0 b1 M => fX9_isBusy_L2 fu  n b0 b1 M) ih a0 a1 M2 h
      · have h := (if_neg hc).symm.trans h
        refine g_aload_n X (pc := 18) 0 rfl rfl dX9_isBusy_18 ?_
        obtain ⟨q4, eq4, h⟩ := bd h
        obtain ⟨v6, M5, eM5, h⟩ := b2d h
        refine g_callV X (pc := 19) (M' := M5) (ro := some (pI v6)) (c := 1) rfl (by decide) (as := []) (as' := []) (st := []) eq4 (ctX1_isBusy _ _ _ _ _ _ fu q4  M2 _ eM5) tb_499 tb_1553 tb_497 tb_498 tb_18 ⟨rfl, hyX1_isBusy⟩ rfl rfl ⟨by decide, by decide⟩ (Nat.le_of_ble_eq_true rfl) dX9_isBusy_19 ?_
        refine g_if_eq X (pc := 22) (tgt := 27) dX9_isBusy_22 (by decide) (fun hc => ?_) (fun hc => ?_)
        · have h := (if_pos hc).symm.trans h
          refine g_sub [1, 2] [(0, pR (some a0)), (1, pI a1)] rfl ?_
          exact wX9_isBusy_L27 X hE hn fu (fun b0 b1 M => fX9_isBusy_L2 fu  n b0 b1 M) ih a0 a1 M5 h
        · have h := (if_neg hc).symm.trans h
          refine g_iconst X (pc := 25) (v := 1) dX9_isBusy_25 (by decide) ?_
          obtain ⟨hz, rfl⟩ := rN_some h
          exact g_nreturn X rfl hz hE dX9_isBusy_26
theorem wX9_isBusy {x : GX} {n0 sl0 : Nat} (X : Cx x cX9_isBusy RX9 (some .boolean) n0 sl0 3 60) {out : Int32 × Mm} (hE : Ends x n0 sl0 (some (pI out.1)) out.2) (hn : xn x = 3) (fu : Nat)   (a0 : Nat)  (M : Mm) (h : fX9_isBusy fu  a0 M = some out) : Gw x M 0 [(0, pR (some a0))] [] := by
  unfold fX9_isBusy at h
  refine g_iconst X (pc := 0) (v := 0) dX9_isBusy_0 (by decide) ?_
  refine g_istore_n X (pc := 1) [(1, pI (0 : Int32)), (0, pR (some a0))] rfl (lt_n hn (by decide)) rfl dX9_isBusy_1 ?_
  refine g_sub [1, 0] [(0, pR (some a0)), (1, pI (0 : Int32))] rfl ?_
  exact wX9_isBusy_L2 X hE hn fu   fu a0 (0 : Int32) M h
theorem hyX9_isBusy : yX9_isBusy.cls ≠ "java/lang/invoke/MethodHandle" ∧ yX9_isBusy.cls ≠ "java/lang/invoke/VarHandle" ∧ (parseMethodDescriptor yX9_isBusy.desc).map (fun d => d.parameters.length) = some 0 := ⟨by decide +kernel, by decide +kernel, by decide +kernel⟩
theorem ctX9_isBusy (l : Launch) (E : Nat → Nat) (D : va_G) (dA : Nat → ClassId) (lo : Nat) (H0 : Heap) (fu : Nat) (a0 : Nat) (M : Mm) (out : Int32 × Mm) (h : fX9_isBusy fu a0 M = some out) : Ct l E D dA lo H0 yX9_isBusy cX9_isBusy 3 (some .boolean) 3 60 [pR (some a0)] M (some (pI out.1)) out.2 := by
  refine ct_of (by decide +kernel) (Nat.le_of_ble_eq_true rfl) ?_
  intro x hl he hd ha ho hh hn hin X hE
  exact wX9_isBusy X hE hn fu a0 M h
/-! WebHost$Tcp.earliest()I -/
def fX9_earliest_L40 (fu : Nat) (k5 : Nat → Int32 → Int32 → Mm → Option (Int32 × Mm)) (a0 : Nat) (a1 : Int32) (a2 : Int32)  (M : Mm) : Option (Int32 × Mm) :=
    k5 a0 a1 (a2 + (1 : Int32)) M
def fX9_earliest_L5 (fu : Nat)  : Nat → Nat → Int32 → Int32 → Mm → Option (Int32 × Mm)
  | 0, _, _, _, _ => none
  | n + 1, a0, a1, a2, M =>
    if (16 : Int32) ≤ a2 then (
    some (a1, M))
    else (
    (rc M 9 (some a0)).bind fun q1 =>
    b2 (fX9_connectionAt fu q1 a2 M) fun v3 M2 =>
    if v3 = none then (
    fX9_earliest_L40 fu (fun b0 b1 b2 M => fX9_earliest_L5 fu  n b0 b1 b2 M) a0 a1 a2 M2)
    else (
    (gR M2 1 81 v3).bind fun v4 =>
    (gI M2 5 324 v4).bind fun v5 =>
    (rc M2 1 v3).bind fun q6 =>
    b2 (fX1_lifeDue fu q6  M2) fun v8 M7 =>
    fX9_earliest_L40 fu (fun b0 b1 b2 M => fX9_earliest_L5 fu  n b0 b1 b2 M) a0 (jmin a1 (jmin v5 v8)) a2 M7))
def fX9_earliest (fu : Nat)  (a0 : Nat)  (M : Mm) : Option (Int32 × Mm) :=
    fX9_earliest_L5 fu  fu a0 (2147483647 : Int32) (0 : Int32) M
theorem dX9_earliest_0 : decode cX9_earliest 0 = .ok (.ldc 48, 2) := by decide +kernel
theorem dX9_earliest_2 : decode cX9_earliest 2 = .ok (.istore_n 1, 1) := by decide +kernel
theorem dX9_earliest_3 : decode cX9_earliest 3 = .ok (.iconst 0, 1) := by decide +kernel
theorem dX9_earliest_4 : decode cX9_earliest 4 = .ok (.istore_n 2, 1) := by decide +kernel
theorem dX9_earliest_5 : decode cX9_earliest 5 = .ok (.iload_n 2, 1) := by decide +kernel
theorem dX9_earliest_6 : decode cX9_earliest 6 = .ok (.bipush 16, 2) := by decide +kernel
theorem dX9_earliest_8 : decode cX9_earliest 8 = .ok (.if_icmp .ge 38, 3) := by decide +kernel
theorem dX9_earliest_11 : decode cX9_earliest 11 = .ok (.aload_n 0, 1) := by decide +kernel
theorem dX9_earliest_12 : decode cX9_earliest 12 = .ok (.iload_n 2, 1) := by decide +kernel
theorem dX9_earliest_13 : decode cX9_earliest 13 = .ok (.invokevirtual 40, 3) := by decide +kernel
theorem dX9_earliest_16 : decode cX9_earliest 16 = .ok (.astore_n 3, 1) := by decide +kernel
theorem dX9_earliest_17 : decode cX9_earliest 17 = .ok (.aload_n 3, 1) := by decide +kernel
theorem dX9_earliest_18 : decode cX9_earliest 18 = .ok (.ifnull 22, 3) := by decide +kernel
theorem dX9_earliest_21 : decode cX9_earliest 21 = .ok (.iload_n 1, 1) := by decide +kernel
theorem dX9_earliest_22 : decode cX9_earliest 22 = .ok (.aload_n 3, 1) := by decide +kernel
theorem dX9_earliest_23 : decode cX9_earliest 23 = .ok (.getfield 49, 3) := by decide +kernel
theorem dX9_earliest_26 : decode cX9_earliest 26 = .ok (.getfield 53, 3) := by decide +kernel
theorem dX9_earliest_29 : decode cX9_earliest 29 = .ok (.aload_n 3, 1) := by decide +kernel
theorem dX9_earliest_30 : decode cX9_earliest 30 = .ok (.invokevirtual 58, 3) := by decide +kernel
theorem dX9_earliest_33 : decode cX9_earliest 33 = .ok (.invokestatic 62, 3) := by decide +kernel
theorem dX9_earliest_36 : decode cX9_earliest 36 = .ok (.invokestatic 62, 3) := by decide +kernel
theorem dX9_earliest_39 : decode cX9_earliest 39 = .ok (.istore_n 1, 1) := by decide +kernel
theorem dX9_earliest_40 : decode cX9_earliest 40 = .ok (.iinc 2 1, 3) := by decide +kernel
theorem dX9_earliest_43 : decode cX9_earliest 43 = .ok (.goto (-38), 3) := by decide +kernel
theorem dX9_earliest_46 : decode cX9_earliest 46 = .ok (.iload_n 1, 1) := by decide +kernel
theorem dX9_earliest_47 : decode cX9_earliest 47 = .ok (.ireturn, 1) := by decide +kernel
theorem wX9_earliest_L40 {x : GX} {n0 sl0 : Nat} (X : Cx x cX9_earliest RX9 (some .int) n0 sl0 4 80) {out : Int32 × Mm} (hE : Ends x n0 sl0 (some (pI out.1)) out.2) (hn : xn x = 4) (fu : Nat) (k5 : Nat → Int32 → Int32 → Mm → Option (Int32 × Mm)) (hk5 : ∀ (b0 : Nat) (b1 : Int32) (b2 : Int32)  (M : Mm), k5 b0 b1 b2 M = some out → Gw x M 5 [(0, pR (some b0)), (1, pI b1), (2, pI b2)] []) (a0 : Nat) (a1 : Int32) (a2 : Int32)  (M : Mm) (h : fX9_earliest_L40 fu k5 a0 a1 a2 M = some out) : Gw x M 40 [(0, pR (some a0)), (1, pI a1), (2, pI a2)] [] := by
  unfold fX9_earliest_L40 at h
  refine g_iinc X (pc := 40) 2 [(2, pI (a2 + (1 : Int32))), (0, pR (some a0)), (1, pI a1)] rfl (iinc_e (by decide)) (lt_n hn (by decide)) rfl dX9_earliest_40 ?_
  refine g_goto X (pc := 43) (tgt := 5) dX9_earliest_43 (by decide) ?_
  refine g_sub [1, 2, 0] [(0, pR (some a0)), (1, pI a1), (2, pI (a2 + (1 : Int32)))] rfl ?_
  exact hk5 a0 a1 (a2 + (1 : Int32)) M h
theorem wX9_earliest_L5 {x : GX} {n0 sl0 : Nat} (X : Cx x cX9_earliest RX9 (some .int) n0 sl0 4 80) {out : Int32 × Mm} (hE : Ends x n0 sl0 (some (pI out.1)) out.2) (hn : xn x = 4) (fu : Nat)   : ∀ (n : Nat) (a0 : Nat) (a1 : Int32) (a2 : Int32)  (M : Mm), fX9_earliest_L5 fu  n a0 a1 a2 M = some out → Gw x M 5 [(0, pR (some a0)), (1, pI a1), (2, pI a2)] [] := by
  intro n
  induction n with
  | zero =>
    intro a0 a1 a2 M h
    have h : (none : Option (Int32 × Mm)) = some out := h
    cases h
  | succ n ih =>
    intro a0 a1 a2 M h
    rw [fX9_earliest_L5] at h
    refine g_iload_n X (pc := 5) 2 rfl rfl dX9_earliest_5 ?_
    refine g_bipush X (pc := 6) (v := 16) dX9_earliest_6 (by decide) ?_
    refine g_icmp_ge X (pc := 8) (tgt := 46) dX9_earliest_8 (by decide) (fun hc => ?_) (fun hc => ?_)
    · have h := (if_pos hc).symm.trans h
      refine g_iload_n X (pc := 46) 1 rfl rfl dX9_earliest_46 ?_
      obtain rfl := Option.some.inj h
      exact g_ireturn X hE dX9_earliest_47
    · have h := (if_neg hc).symm.trans h
      refine g_aload_n X (pc := 11) 0 rfl rfl dX9_earliest_11 ?_
      refine g_iload_n X (pc := 12) 2 rfl rfl dX9_earliest_12 ?_
      obtain ⟨q1, eq1, h⟩ := bd h
      obtain ⟨v3, M2, eM2, h⟩ := b2d h
      refine g_callV X (pc := 13) (M' := M2) (ro := some (pR v3)) (c := 9) rfl (by decide) (as := [pI a2]) (as' := [pI a2]) (st := []) eq1 (ctX9_connectionAt _ _ _ _ _ _ fu q1 a2 M _ eM2) tb_491 tb_488 tb_489 tb_490 tb_6 ⟨rfl, hyX9_connectionAt⟩ rfl rfl ⟨by decide, by decide⟩ (Nat.le_of_ble_eq_true rfl) dX9_earliest_13 ?_
      refine g_astore_n X (pc := 16) [(3, pR v3), (0, pR (some a0)), (1, pI a1), (2, pI a2)] rfl (lt_n hn (by decide)) rfl dX9_earliest_16 ?_
      refine g_aload_n X (pc := 17) 0 rfl rfl dX9_earliest_17 ?_
      refine g_ifnull X (pc := 18) (tgt := 40) dX9_earliest_18 (by decide) (fun hc => ?_) (fun hc => ?_)
      · have h := (if_pos hc).symm.trans h
        refine g_sub [1, 2, 3] [(0, pR (some a0)), (1, pI a1), (2, pI a2)] rfl ?_
        exact wX9_earliest_L40 X hE hn fu (fun b0 b1 b2 M => fX9_earliest_L5 fu  n b0 b1 b2 M) ih a0 a1 a2 M2 h
      · have h := (if_neg hc).symm.trans h
        refine g_iload_n X (pc := 21) 2 rfl rfl dX9_earliest_21 ?_
        refine g_aload_n X (pc := 22) 0 rfl rfl dX9_earliest_22 ?_
        obtain ⟨v4, ev4, h⟩ := bd h
        refine g_getR X (pc := 23) fk_1_17 rfl rfl ev4 tb_997 dX9_earliest_23 ?_
        obtain ⟨v5, ev5, h⟩ := bd h
        refine g_getI X (pc := 26) fk_5_4 rfl rfl ev5 tb_912 dX9_earliest_26 ?_
        refine g_aload_n X (pc := 29) 0 rfl rfl dX9_earliest_29 ?_
        obtain ⟨q6, eq6, h⟩ := bd h
        obtain ⟨v8, M7, eM7, h⟩ := b2d h
        refine g_callV X (pc := 30) (M' := M7) (ro := some (pI v8)) (c := 1) rfl (by decide) (as := []) (as' := []) (st := [pI v5, pI a1]) eq6 (ctX1_lifeDue _ _ _ _ _ _ fu q6  M2 _ eM7) tb_495 tb_492 tb_493 tb_494 tb_18 ⟨rfl, hyX1_lifeDue⟩ rfl rfl ⟨by decide, by decide⟩ (Nat.le_of_ble_eq_true rfl) dX9_earliest_30 ?_
        refine g_mmin X (pc := 33) tb_508 tb_348 tb_13 tb_349 ⟨by decide, Nat.le_of_ble_eq_true rfl⟩ dX9_earliest_33 ?_
        refine g_mmin X (pc := 36) tb_508 tb_348 tb_13 tb_349 ⟨by decide, Nat.le_of_ble_eq_true rfl⟩ dX9_earliest_36 ?_
        refine g_istore_n X (pc := 39) [(1, pI (jmin a1 (jmin v5 v8))), (3, pR v3), (0, pR (some a0)), (2, pI a2)] rfl (lt_n hn (by decide)) rfl dX9_earliest_39 ?_
        refine g_sub [2, 0, 3] [(0, pR (some a0)), (1, pI (jmin a1 (jmin v5 v8))), (2, pI a2)] rfl ?_
        exact wX9_earliest_L40 X hE hn fu (fun b0 b1 b2 M => fX9_earliest_L5 fu  n b0 b1 b2 M) ih a0 (jmin a1 (jmin v5 v8)) a2 M7 h
theorem wX9_earliest {x : GX} {n0 sl0 : Nat} (X : Cx x cX9_earliest RX9 (some .int) n0 sl0 4 80) {out : Int32 × Mm} (hE : Ends x n0 sl0 (some (pI out.1)) out.2) (hn : xn x = 4) (fu : Nat)   (a0 : Nat)  (M : Mm) (h : fX9_earliest fu  a0 M = some out) : Gw x M 0 [(0, pR (some a0))] [] := by
  unfold fX9_earliest at h
  refine g_ldc X (pc := 0) tb_487 dX9_earliest_0 ?_
  refine g_istore_n X (pc := 2) [(1, pI (2147483647 : Int32)), (0, pR (some a0))] rfl (lt_n hn (by decide)) rfl dX9_earliest_2 ?_
  refine g_iconst X (pc := 3) (v := 0) dX9_earliest_3 (by decide) ?_
  refine g_istore_n X (pc := 4) [(2, pI (0 : Int32)), (1, pI (2147483647 : Int32)), (0, pR (some a0))] rfl (lt_n hn (by decide)) rfl dX9_earliest_4 ?_
  refine g_sub [2, 1, 0] [(0, pR (some a0)), (1, pI (2147483647 : Int32)), (2, pI (0 : Int32))] rfl ?_
  exact wX9_earliest_L5 X hE hn fu   fu a0 (2147483647 : Int32) (0 : Int32) M h
theorem hyX9_earliest : yX9_earliest.cls ≠ "java/lang/invoke/MethodHandle" ∧ yX9_earliest.cls ≠ "java/lang/invoke/VarHandle" ∧ (parseMethodDescriptor yX9_earliest.desc).map (fun d => d.parameters.length) = some 0 := ⟨by decide +kernel, by decide +kernel, by decide +kernel⟩
theorem ctX9_earliest (l : Launch) (E : Nat → Nat) (D : va_G) (dA : Nat → ClassId) (lo : Nat) (H0 : Heap) (fu : Nat) (a0 : Nat) (M : Mm) (out : Int32 × Mm) (h : fX9_earliest fu a0 M = some out) : Ct l E D dA lo H0 yX9_earliest cX9_earliest 4 (some .int) 4 80 [pR (some a0)] M (some (pI out.1)) out.2 := by
  refine ct_of (by decide +kernel) (Nat.le_of_ble_eq_true rfl) ?_
  intro x hl he hd ha ho hh hn hin X hE
  exact wX9_earliest X hE hn fu a0 M h
/-! WebHost$Tcp.dueFirst(I)LWebHost$Connection; -/
def fX9_dueFirst_L39 (fu : Nat) (k2 : Nat → Int32 → Int32 → Mm → Option (Option Nat × Mm)) (a0 : Nat) (a1 : Int32) (a2 : Int32)  (M : Mm) : Option (Option Nat × Mm) :=
    k2 a0 a1 (a2 + (1 : Int32)) M
def fX9_dueFirst_L2 (fu : Nat)  : Nat → Nat → Int32 → Int32 → Mm → Option (Option Nat × Mm)
  | 0, _, _, _, _ => none
  | n + 1, a0, a1, a2, M =>
    if (16 : Int32) ≤ a2 then (
    some (none, M))
    else (
    (rc M 9 (some a0)).bind fun q1 =>
    b2 (fX9_connectionAt fu q1 a2 M) fun v3 M2 =>
    if v3 = none then (
    fX9_dueFirst_L39 fu (fun b0 b1 b2 M => fX9_dueFirst_L2 fu  n b0 b1 b2 M) a0 a1 a2 M2)
    else (
    (gR M2 1 81 v3).bind fun v4 =>
    (gI M2 5 324 v4).bind fun v5 =>
    if v5 = a1 then (
    some (v3, M2))
    else (
    (rc M2 1 v3).bind fun q6 =>
    b2 (fX1_lifeDue fu q6  M2) fun v8 M7 =>
    if v8 = a1 then (
    some (v3, M7))
    else (
    fX9_dueFirst_L39 fu (fun b0 b1 b2 M => fX9_dueFirst_L2 fu  n b0 b1 b2 M) a0 a1 a2 M7))))
def fX9_dueFirst (fu : Nat)  (a0 : Nat) (a1 : Int32)  (M : Mm) : Option (Option Nat × Mm) :=
    fX9_dueFirst_L2 fu  fu a0 a1 (0 : Int32) M
theorem dX9_dueFirst_0 : decode cX9_dueFirst 0 = .ok (.iconst 0, 1) := by decide +kernel
theorem dX9_dueFirst_1 : decode cX9_dueFirst 1 = .ok (.istore_n 2, 1) := by decide +kernel
theorem dX9_dueFirst_2 : decode cX9_dueFirst 2 = .ok (.iload_n 2, 1) := by decide +kernel
theorem dX9_dueFirst_3 : decode cX9_dueFirst 3 = .ok (.bipush 16, 2) := by decide +kernel
theorem dX9_dueFirst_5 : decode cX9_dueFirst 5 = .ok (.if_icmp .ge 40, 3) := by decide +kernel
theorem dX9_dueFirst_8 : decode cX9_dueFirst 8 = .ok (.aload_n 0, 1) := by decide +kernel
theorem dX9_dueFirst_9 : decode cX9_dueFirst 9 = .ok (.iload_n 2, 1) := by decide +kernel
theorem dX9_dueFirst_10 : decode cX9_dueFirst 10 = .ok (.invokevirtual 40, 3) := by decide +kernel
theorem dX9_dueFirst_13 : decode cX9_dueFirst 13 = .ok (.astore_n 3, 1) := by decide +kernel
theorem dX9_dueFirst_14 : decode cX9_dueFirst 14 = .ok (.aload_n 3, 1) := by decide +kernel
theorem dX9_dueFirst_15 : decode cX9_dueFirst 15 = .ok (.ifnull 24, 3) := by decide +kernel
theorem dX9_dueFirst_18 : decode cX9_dueFirst 18 = .ok (.aload_n 3, 1) := by decide +kernel
theorem dX9_dueFirst_19 : decode cX9_dueFirst 19 = .ok (.getfield 49, 3) := by decide +kernel
theorem dX9_dueFirst_22 : decode cX9_dueFirst 22 = .ok (.getfield 53, 3) := by decide +kernel
theorem dX9_dueFirst_25 : decode cX9_dueFirst 25 = .ok (.iload_n 1, 1) := by decide +kernel
theorem dX9_dueFirst_26 : decode cX9_dueFirst 26 = .ok (.if_icmp .eq 11, 3) := by decide +kernel
theorem dX9_dueFirst_29 : decode cX9_dueFirst 29 = .ok (.aload_n 3, 1) := by decide +kernel
theorem dX9_dueFirst_30 : decode cX9_dueFirst 30 = .ok (.invokevirtual 58, 3) := by decide +kernel
theorem dX9_dueFirst_33 : decode cX9_dueFirst 33 = .ok (.iload_n 1, 1) := by decide +kernel
theorem dX9_dueFirst_34 : decode cX9_dueFirst 34 = .ok (.if_icmp .ne 5, 3) := by decide +kernel
theorem dX9_dueFirst_37 : decode cX9_dueFirst 37 = .ok (.aload_n 3, 1) := by decide +kernel
theorem dX9_dueFirst_38 : decode cX9_dueFirst 38 = .ok (.areturn, 1) := by decide +kernel
theorem dX9_dueFirst_39 : decode cX9_dueFirst 39 = .ok (.iinc 2 1, 3) := by decide +kernel
theorem dX9_dueFirst_42 : decode cX9_dueFirst 42 = .ok (.goto (-40), 3) := by decide +kernel
theorem dX9_dueFirst_45 : decode cX9_dueFirst 45 = .ok (.aconst_null, 1) := by decide +kernel
theorem dX9_dueFirst_46 : decode cX9_dueFirst 46 = .ok (.areturn, 1) := by decide +kernel
theorem wX9_dueFirst_L39 {x : GX} {n0 sl0 : Nat} (X : Cx x cX9_dueFirst RX9 (some (.object "WebHost$Connection")) n0 sl0 4 80) {out : Option Nat × Mm} (hE : Ends x n0 sl0 (some (pR out.1)) out.2) (hn : xn x = 4) (fu : Nat) (k2 : Nat → Int32 → Int32 → Mm → Option (Option Nat × Mm)) (hk2 : ∀ (b0 : Nat) (b1 : Int32) (b2 : Int32)  (M : Mm), k2 b0 b1 b2 M = some out → Gw x M 2 [(0, pR (some b0)), (1, pI b1), (2, pI b2)] []) (a0 : Nat) (a1 : Int32) (a2 : Int32)  (M : Mm) (h : fX9_dueFirst_L39 fu k2 a0 a1 a2 M = some out) : Gw x M 39 [(0, pR (some a0)), (1, pI a1), (2, pI a2)] [] := by
  unfold fX9_dueFirst_L39 at h
  refine g_iinc X (pc := 39) 2 [(2, pI (a2 + (1 : Int32))), (0, pR (some a0)), (1, pI a1)] rfl (iinc_e (by decide)) (lt_n hn (by decide)) rfl dX9_dueFirst_39 ?_
  refine g_goto X (pc := 42) (tgt := 2) dX9_dueFirst_42 (by decide) ?_
  refine g_sub [1, 2, 0] [(0, pR (some a0)), (1, pI a1), (2, pI (a2 + (1 : Int32)))] rfl ?_
  exact hk2 a0 a1 (a2 + (1 : Int32)) M h
theorem wX9_dueFirst_L2 {x : GX} {n0 sl0 : Nat} (X : Cx x cX9_dueFirst RX9 (some (.object "WebHost$Connection")) n0 sl0 4 80) {out : Option Nat × Mm} (hE : Ends x n0 sl0 (some (pR out.1)) out.2) (hn : xn x = 4) (fu : Nat)   : ∀ (n : Nat) (a0 : Nat) (a1 : Int32) (a2 : Int32)  (M : Mm), fX9_dueFirst_L2 fu  n a0 a1 a2 M = some out → Gw x M 2 [(0, pR (some a0)), (1, pI a1), (2, pI a2)] [] := by
  intro n
  induction n with
  | zero =>
    intro a0 a1 a2 M h
    have h : (none : Option (Option Nat × Mm)) = some out := h
    cases h
  | succ n ih =>
    intro a0 a1 a2 M h
    rw [fX9_dueFirst_L2] at h
    refine g_iload_n X (pc := 2) 2 rfl rfl dX9_dueFirst_2 ?_
    refine g_bipush X (pc := 3) (v := 16) dX9_dueFirst_3 (by decide) ?_
    refine g_icmp_ge X (pc := 5) (tgt := 45) dX9_dueFirst_5 (by decide) (fun hc => ?_) (fun hc => ?_)
    · have h := (if_pos hc).symm.trans h
      refine g_null X (pc := 45) dX9_dueFirst_45 ?_
      obtain rfl := Option.some.inj h
      exact g_areturn X rfl (Or.inl ⟨_, rfl⟩) hE dX9_dueFirst_46
    · have h := (if_neg hc).symm.trans h
      refine g_aload_n X (pc := 8) 0 rfl rfl dX9_dueFirst_8 ?_
      refine g_iload_n X (pc := 9) 2 rfl rfl dX9_dueFirst_9 ?_
      obtain ⟨q1, eq1, h⟩ := bd h
      obtain ⟨v3, M2, eM2, h⟩ := b2d h
      refine g_callV X (pc := 10) (M' := M2) (ro := some (pR v3)) (c := 9) rfl (by decide) (as := [pI a2]) (as' := [pI a2]) (st := []) eq1 (ctX9_connectionAt _ _ _ _ _ _ fu q1 a2 M _ eM2) tb_491 tb_488 tb_489 tb_490 tb_6 ⟨rfl, hyX9_connectionAt⟩ rfl rfl ⟨by decide, by decide⟩ (Nat.le_of_ble_eq_true rfl) dX9_dueFirst_10 ?_
      refine g_astore_n X (pc := 13) [(3, pR v3), (0, pR (some a0)), (1, pI a1), (2, pI a2)] rfl (lt_n hn (by decide)) rfl dX9_dueFirst_13 ?_
      refine g_aload_n X (pc := 14) 0 rfl rfl dX9_dueFirst_14 ?_
      refine g_ifnull X (pc := 15) (tgt := 39) dX9_dueFirst_15 (by decide) (fun hc => ?_) (fun hc => ?_)
      · have h := (if_pos hc).symm.trans h
        refine g_sub [1, 2, 3] [(0, pR (some a0)), (1, pI a1), (2, pI a2)] rfl ?_
        exact wX9_dueFirst_L39 X hE hn fu (fun b0 b1 b2 M => fX9_dueFirst_L2 fu  n b0 b1 b2 M) ih a0 a1 a2 M2 h
      · have h := (if_neg hc).symm.trans h
        refine g_aload_n X (pc := 18) 0 rfl rfl dX9_dueFirst_18 ?_
        obtain ⟨v4, ev4, h⟩ := bd h
        refine g_getR X (pc := 19) fk_1_17 rfl rfl ev4 tb_997 dX9_dueFirst_19 ?_
        obtain ⟨v5, ev5, h⟩ := bd h
        refine g_getI X (pc := 22) fk_5_4 rfl rfl ev5 tb_912 dX9_dueFirst_22 ?_
        refine g_iload_n X (pc := 25) 2 rfl rfl dX9_dueFirst_25 ?_
        refine g_icmp_eq X (pc := 26) (tgt := 37) dX9_dueFirst_26 (by decide) (fun hc => ?_) (fun hc => ?_)
        · have h := (if_pos hc).symm.trans h
          refine g_aload_n X (pc := 37) 0 rfl rfl dX9_dueFirst_37 ?_
          obtain rfl := Option.some.inj h
          exact g_areturn X rfl (Or.inl ⟨_, rfl⟩) hE dX9_dueFirst_38
        · have h := (if_neg hc).symm.trans h
          refine g_aload_n X (pc := 29) 0 rfl rfl dX9_dueFirst_29 ?_
          obtain ⟨q6, eq6, h⟩ := bd h
          obtain ⟨v8, M7, eM7, h⟩ := b2d h
          refine g_callV X (pc := 30) (M' := M7) (ro := some (pI v8)) (c := 1) rfl (by decide) (as := []) (as' := []) (st := []) eq6 (ctX1_lifeDue _ _ _ _ _ _ fu q6  M2 _ eM7) tb_495 tb_492 tb_493 tb_494 tb_18 ⟨rfl, hyX1_lifeDue⟩ rfl rfl ⟨by decide, by decide⟩ (Nat.le_of_ble_eq_true rfl) dX9_dueFirst_30 ?_
          refine g_iload_n X (pc := 33) 2 rfl rfl dX9_dueFirst_33 ?_
          refine g_icmp_ne X (pc := 34) (tgt := 39) dX9_dueFirst_34 (by decide) (fun hc => ?_) (fun hc => ?_)
          · have h := (if_neg hc).symm.trans h
            refine g_sub [1, 2, 3] [(0, pR (some a0)), (1, pI a1), (2, pI a2)] rfl ?_
            exact wX9_dueFirst_L39 X hE hn fu (fun b0 b1 b2 M => fX9_dueFirst_L2 fu  n b0 b1 b2 M) ih a0 a1 a2 M7 h
          · have h := (if_pos hc).symm.trans h
            refine g_aload_n X (pc := 37) 0 rfl rfl dX9_dueFirst_37 ?_
            obtain rfl := Option.some.inj h
            exact g_areturn X rfl (Or.inl ⟨_, rfl⟩) hE dX9_dueFirst_38
theorem wX9_dueFirst {x : GX} {n0 sl0 : Nat} (X : Cx x cX9_dueFirst RX9 (some (.object "WebHost$Connection")) n0 sl0 4 80) {out : Option Nat × Mm} (hE : Ends x n0 sl0 (some (pR out.1)) out.2) (hn : xn x = 4) (fu : Nat)   (a0 : Nat) (a1 : Int32)  (M : Mm) (h : fX9_dueFirst fu  a0 a1 M = some out) : Gw x M 0 [(0, pR (some a0)), (1, pI a1)] [] := by
  unfold fX9_dueFirst at h
  refine g_iconst X (pc := 0) (v := 0) dX9_dueFirst_0 (by decide) ?_
  refine g_istore_n X (pc := 1) [(2, pI (0 : Int32)), (0, pR (some a0)), (1, pI a1)] rfl (lt_n hn (by decide)) rfl dX9_dueFirst_1 ?_
  refine g_sub [1, 2, 0] [(0, pR (some a0)), (1, pI a1), (2, pI (0 : Int32))] rfl ?_
  exact wX9_dueFirst_L2 X hE hn fu   fu a0 a1 (0 : Int32) M h
theorem hyX9_dueFirst : yX9_dueFirst.cls ≠ "java/lang/invoke/MethodHandle" ∧ yX9_dueFirst.cls ≠ "java/lang/invoke/VarHandle" ∧ (parseMethodDescriptor yX9_dueFirst.desc).map (fun d => d.parameters.length) = some 1 := ⟨by decide +kernel, by decide +kernel, by decide +kernel⟩
theorem ctX9_dueFirst (l : Launch) (E : Nat → Nat) (D : va_G) (dA : Nat → ClassId) (lo : Nat) (H0 : Heap) (fu : Nat) (a0 : Nat) (a1 : Int32) (M : Mm) (out : Option Nat × Mm) (h : fX9_dueFirst fu a0 a1 M = some out) : Ct l E D dA lo H0 yX9_dueFirst cX9_dueFirst 4 (some (.object "WebHost$Connection")) 4 80 [pR (some a0), pI a1] M (some (pR out.1)) out.2 := by
  refine ct_of (by decide +kernel) (Nat.le_of_ble_eq_true rfl) ?_
  intro x hl he hd ha ho hh hn hin X hE
  exact wX9_dueFirst X hE hn fu a0 a1 M h
/-! WebHost$Tcp.connectionOfSegment()LWebHost$Connection; -/
def fX9_connectionOfSegment_L60 (fu : Nat) (k2 : Nat → Int32 → Mm → Option (Option Nat × Mm)) (a0 : Nat) (a1 : Int32)  (M : Mm) : Option (Option Nat × Mm) :=
    k2 a0 (a1 + (1 : Int32)) M
def fX9_connectionOfSegment_L2 (fu : Nat)  : Nat → Nat → Int32 → Mm → Option (Option Nat × Mm)
  | 0, _, _, _ => none
  | n + 1, a0, a1, M =>
    if (16 : Int32) ≤ a1 then (
    some (none, M))
    else (
    (gR M 9 579 (some a0)).bind fun v1 =>
    (gI M 3 195 v1).bind fun v2 =>
    if v2 = (80 : Int32) then (
    (rc M 9 (some a0)).bind fun q3 =>
    b2 (fX9_connectionAt fu q3 a1 M) fun v5 M4 =>
    if v5 = none then (
    fX9_connectionOfSegment_L60 fu (fun b0 b1 M => fX9_connectionOfSegment_L2 fu  n b0 b1 M) a0 a1 M4)
    else (
    (gI M4 1 65 v5).bind fun v6 =>
    (gR M4 9 579 (some a0)).bind fun v7 =>
    (gI M4 3 193 v7).bind fun v8 =>
    if v6 = v8 then (
    (gI M4 1 66 v5).bind fun v9 =>
    (gR M4 9 579 (some a0)).bind fun v10 =>
    (gI M4 3 194 v10).bind fun v11 =>
    if v9 = v11 then (
    some (v5, M4))
    else (
    fX9_connectionOfSegment_L60 fu (fun b0 b1 M => fX9_connectionOfSegment_L2 fu  n b0 b1 M) a0 a1 M4))
    else (
    fX9_connectionOfSegment_L60 fu (fun b0 b1 M => fX9_connectionOfSegment_L2 fu  n b0 b1 M) a0 a1 M4)))
    else (
    some (none, M)))
def fX9_connectionOfSegment (fu : Nat)  (a0 : Nat)  (M : Mm) : Option (Option Nat × Mm) :=
    fX9_connectionOfSegment_L2 fu  fu a0 (0 : Int32) M
theorem dX9_connectionOfSegment_0 : decode cX9_connectionOfSegment 0 = .ok (.iconst 0, 1) := by decide +kernel
theorem dX9_connectionOfSegment_1 : decode cX9_connectionOfSegment 1 = .ok (.istore_n 1, 1) := by decide +kernel
theorem dX9_connectionOfSegment_2 : decode cX9_connectionOfSegment 2 = .ok (.iload_n 1, 1) := by decide +kernel
theorem dX9_connectionOfSegment_3 : decode cX9_connectionOfSegment 3 = .ok (.bipush 16, 2) := by decide +kernel
theorem dX9_connectionOfSegment_5 : decode cX9_connectionOfSegment 5 = .ok (.if_icmp .ge 61, 3) := by decide +kernel
theorem dX9_connectionOfSegment_8 : decode cX9_connectionOfSegment 8 = .ok (.aload_n 0, 1) := by decide +kernel
theorem dX9_connectionOfSegment_9 : decode cX9_connectionOfSegment 9 = .ok (.getfield 23, 3) := by decide +kernel
theorem dX9_connectionOfSegment_12 : decode cX9_connectionOfSegment 12 = .ok (.getfield 122, 3) := by decide +kernel
theorem dX9_connectionOfSegment_15 : decode cX9_connectionOfSegment 15 = .ok (.bipush 80, 2) := by decide +kernel
theorem dX9_connectionOfSegment_17 : decode cX9_connectionOfSegment 17 = .ok (.if_icmp .ne 49, 3) := by decide +kernel
theorem dX9_connectionOfSegment_20 : decode cX9_connectionOfSegment 20 = .ok (.aload_n 0, 1) := by decide +kernel
theorem dX9_connectionOfSegment_21 : decode cX9_connectionOfSegment 21 = .ok (.iload_n 1, 1) := by decide +kernel
theorem dX9_connectionOfSegment_22 : decode cX9_connectionOfSegment 22 = .ok (.invokevirtual 40, 3) := by decide +kernel
theorem dX9_connectionOfSegment_25 : decode cX9_connectionOfSegment 25 = .ok (.astore_n 2, 1) := by decide +kernel
theorem dX9_connectionOfSegment_26 : decode cX9_connectionOfSegment 26 = .ok (.aload_n 2, 1) := by decide +kernel
theorem dX9_connectionOfSegment_27 : decode cX9_connectionOfSegment 27 = .ok (.ifnull 33, 3) := by decide +kernel
theorem dX9_connectionOfSegment_30 : decode cX9_connectionOfSegment 30 = .ok (.aload_n 2, 1) := by decide +kernel
theorem dX9_connectionOfSegment_31 : decode cX9_connectionOfSegment 31 = .ok (.getfield 125, 3) := by decide +kernel
theorem dX9_connectionOfSegment_34 : decode cX9_connectionOfSegment 34 = .ok (.aload_n 0, 1) := by decide +kernel
theorem dX9_connectionOfSegment_35 : decode cX9_connectionOfSegment 35 = .ok (.getfield 23, 3) := by decide +kernel
theorem dX9_connectionOfSegment_38 : decode cX9_connectionOfSegment 38 = .ok (.getfield 128, 3) := by decide +kernel
theorem dX9_connectionOfSegment_41 : decode cX9_connectionOfSegment 41 = .ok (.if_icmp .ne 19, 3) := by decide +kernel
theorem dX9_connectionOfSegment_44 : decode cX9_connectionOfSegment 44 = .ok (.aload_n 2, 1) := by decide +kernel
theorem dX9_connectionOfSegment_45 : decode cX9_connectionOfSegment 45 = .ok (.getfield 131, 3) := by decide +kernel
theorem dX9_connectionOfSegment_48 : decode cX9_connectionOfSegment 48 = .ok (.aload_n 0, 1) := by decide +kernel
theorem dX9_connectionOfSegment_49 : decode cX9_connectionOfSegment 49 = .ok (.getfield 23, 3) := by decide +kernel
theorem dX9_connectionOfSegment_52 : decode cX9_connectionOfSegment 52 = .ok (.getfield 134, 3) := by decide +kernel
theorem dX9_connectionOfSegment_55 : decode cX9_connectionOfSegment 55 = .ok (.if_icmp .ne 5, 3) := by decide +kernel
theorem dX9_connectionOfSegment_58 : decode cX9_connectionOfSegment 58 = .ok (.aload_n 2, 1) := by decide +kernel
theorem dX9_connectionOfSegment_59 : decode cX9_connectionOfSegment 59 = .ok (.areturn, 1) := by decide +kernel
theorem dX9_connectionOfSegment_60 : decode cX9_connectionOfSegment 60 = .ok (.iinc 1 1, 3) := by decide +kernel
theorem dX9_connectionOfSegment_63 : decode cX9_connectionOfSegment 63 = .ok (.goto (-61), 3) := by decide +kernel
theorem dX9_connectionOfSegment_66 : decode cX9_connectionOfSegment 66 = .ok (.aconst_null, 1) := by decide +kernel
theorem dX9_connectionOfSegment_67 : decode cX9_connectionOfSegment 67 = .ok (.areturn, 1) := by decide +kernel
theorem wX9_connectionOfSegment_L60 {x : GX} {n0 sl0 : Nat} (X : Cx x cX9_connectionOfSegment RX9 (some (.object "WebHost$Connection")) n0 sl0 1 22) {out : Option Nat × Mm} (hE : Ends x n0 sl0 (some (pR out.1)) out.2) (hn : xn x = 3) (fu : Nat) (k2 : Nat → Int32 → Mm → Option (Option Nat × Mm)) (hk2 : ∀ (b0 : Nat) (b1 : Int32)  (M : Mm), k2 b0 b1 M = some out → Gw x M 2 [(0, pR (some b0)), (1, pI b1)] []) (a0 : Nat) (a1 : Int32)  (M : Mm) (h : fX9_connectionOfSegment_L60 fu k2 a0 a1 M = some out) : Gw x M 60 [(0, pR (some a0)), (1, pI a1)] [] := by
  unfold fX9_connectionOfSegment_L60 at h
  refine g_iinc X (pc := 60) 1 [(1, pI (a1 + (1 : Int32))), (0, pR (some a0))] rfl (iinc_e (by decide)) (lt_n hn (by decide)) rfl dX9_connectionOfSegment_60 ?_
  refine g_goto X (pc := 63) (tgt := 2) dX9_connectionOfSegment_63 (by decide) ?_
  refine g_sub [1, 0] [(0, pR (some a0)), (1, pI (a1 + (1 : Int32)))] rfl ?_
  exact hk2 a0 (a1 + (1 : Int32)) M h
theorem wX9_connectionOfSegment_L2 {x : GX} {n0 sl0 : Nat} (X : Cx x cX9_connectionOfSegment RX9 (some (.object "WebHost$Connection")) n0 sl0 1 22) {out : Option Nat × Mm} (hE : Ends x n0 sl0 (some (pR out.1)) out.2) (hn : xn x = 3) (fu : Nat)   : ∀ (n : Nat) (a0 : Nat) (a1 : Int32)  (M : Mm), fX9_connectionOfSegment_L2 fu  n a0 a1 M = some out → Gw x M 2 [(0, pR (some a0)), (1, pI a1)] [] := by
  intro n
  induction n with
  | zero =>
    intro a0 a1 M h
    have h : (none : Option (Option Nat × Mm)) = some out := h
    cases h
  | succ n ih =>
    intro a0 a1 M h
    rw [fX9_connectionOfSegment_L2] at h
    refine g_iload_n X (pc := 2) 1 rfl rfl dX9_connectionOfSegment_2 ?_
    refine g_bipush X (pc := 3) (v := 16) dX9_connectionOfSegment_3 (by decide) ?_
    refine g_icmp_ge X (pc := 5) (tgt := 66) dX9_connectionOfSegment_5 (by decide) (fun hc => ?_) (fun hc => ?_)
    · have h := (if_pos hc).symm.trans h
      refine g_null X (pc := 66) dX9_connectionOfSegment_66 ?_
      obtain rfl := Option.some.inj h
      exact g_areturn X rfl (Or.inl ⟨_, rfl⟩) hE dX9_connectionOfSegment_67
    · have h := (if_neg hc).symm.trans h
      refine g_aload_n X (pc := 8) 0 rfl rfl dX9_connectionOfSegment_8 ?_
      obtain ⟨v1, ev1, h⟩ := bd h
      refine g_getR X (pc := 9) fk_9_3 rfl rfl ev1 tb_237 dX9_connectionOfSegment_9 ?_
      obtain ⟨v2, ev2, h⟩ := bd h
      refine g_getI X (pc := 12) fk_3_3 rfl rfl ev2 tb_166 dX9_connectionOfSegment_12 ?_
      refine g_bipush X (pc := 15) (v := 80) dX9_connectionOfSegment_15 (by decide) ?_
      refine g_icmp_ne X (pc := 17) (tgt := 66) dX9_connectionOfSegment_17 (by decide) (fun hc => ?_) (fun hc => ?_)
      · have h := (if_neg hc).symm.trans h
        refine g_null X (pc := 66) dX9_connectionOfSegment_66 ?_
        obtain rfl := Option.some.inj h
        exact g_areturn X rfl (Or.inl ⟨_, rfl⟩) hE dX9_connectionOfSegment_67
      · have h := (if_pos hc).symm.trans h
        refine g_aload_n X (pc := 20) 0 rfl rfl dX9_connectionOfSegment_20 ?_
        refine g_iload_n X (pc := 21) 1 rfl rfl dX9_connectionOfSegment_21 ?_
        obtain ⟨q3, eq3, h⟩ := bd h
        obtain ⟨v5, M4, eM4, h⟩ := b2d h
        refine g_callV X (pc := 22) (M' := M4) (ro := some (pR v5)) (c := 9) rfl (by decide) (as := [pI a1]) (as' := [pI a1]) (st := []) eq3 (ctX9_connectionAt _ _ _ _ _ _ fu q3 a1 M _ eM4) tb_491 tb_488 tb_489 tb_490 tb_6 ⟨rfl, hyX9_connectionAt⟩ rfl rfl ⟨by decide, by decide⟩ (Nat.le_of_ble_eq_true rfl) dX9_connectionOfSegment_22 ?_
        refine g_astore_n X (pc := 25) [(2, pR v5), (0, pR (some a0)), (1, pI a1)] rfl (lt_n hn (by decide)) rfl dX9_connectionOfSegment_25 ?_
        refine g_aload_n X (pc := 26) 0 rfl rfl dX9_connectionOfSegment_26 ?_
        refine g_ifnull X (pc := 27) (tgt := 60) dX9_connectionOfSegment_27 (by decide) (fun hc => ?_) (fun hc => ?_)
        · have h := (if_pos hc).symm.trans h
          refine g_sub [1, 2] [(0, pR (some a0)), (1, pI a1)] rfl ?_
          exact wX9_connectionOfSegment_L60 X hE hn fu (fun b0 b1 M => fX9_connectionOfSegment_L2 fu  n b0 b1 M) ih a0 a1 M4 h
        · have h := (if_neg hc).symm.trans h
          refine g_aload_n X (pc := 30) 0 rfl rfl dX9_connectionOfSegment_30 ?_
          obtain ⟨v6, ev6, h⟩ := bd h
          refine g_getI X (pc := 31) fk_1_1 rfl rfl ev6 tb_962 dX9_connectionOfSegment_31 ?_
          refine g_aload_n X (pc := 34) 1 rfl rfl dX9_connectionOfSegment_34 ?_
          obtain ⟨v7, ev7, h⟩ := bd h
          refine g_getR X (pc := 35) fk_9_3 rfl rfl ev7 tb_237 dX9_connectionOfSegment_35 ?_
          obtain ⟨v8, ev8, h⟩ := bd h
          refine g_getI X (pc := 38) fk_3_1 rfl rfl ev8 tb_162 dX9_connectionOfSegment_38 ?_
          refine g_icmp_ne X (pc := 41) (tgt := 60) dX9_connectionOfSegment_41 (by decide) (fun hc => ?_) (fun hc => ?_)
          · have h := (if_neg hc).symm.trans h
            refine g_sub [1, 2] [(0, pR (some a0)), (1, pI a1)] rfl ?_
            exact wX9_connectionOfSegment_L60 X hE hn fu (fun b0 b1 M => fX9_connectionOfSegment_L2 fu  n b0 b1 M) ih a0 a1 M4 h
          · have h := (if_pos hc).symm.trans h
            refine g_aload_n X (pc := 44) 0 rfl rfl dX9_connectionOfSegment_44 ?_
            obtain ⟨v9, ev9, h⟩ := bd h
            refine g_getI X (pc := 45) fk_1_2 rfl rfl ev9 tb_964 dX9_connectionOfSegment_45 ?_
            refine g_aload_n X (pc := 48) 1 rfl rfl dX9_connectionOfSegment_48 ?_
            obtain ⟨v10, ev10, h⟩ := bd h
            refine g_getR X (pc := 49) fk_9_3 rfl rfl ev10 tb_237 dX9_connectionOfSegment_49 ?_
            obtain ⟨v11, ev11, h⟩ := bd h
            refine g_getI X (pc := 52) fk_3_2 rfl rfl ev11 tb_164 dX9_connectionOfSegment_52 ?_
            refine g_icmp_ne X (pc := 55) (tgt := 60) dX9_connectionOfSegment_55 (by decide) (fun hc => ?_) (fun hc => ?_)
            · have h := (if_neg hc).symm.trans h
              refine g_sub [1, 2] [(0, pR (some a0)), (1, pI a1)] rfl ?_
              exact wX9_connectionOfSegment_L60 X hE hn fu (fun b0 b1 M => fX9_connectionOfSegment_L2 fu  n b0 b1 M) ih a0 a1 M4 h
            · have h := (if_pos hc).symm.trans h
              refine g_aload_n X (pc := 58) 0 rfl rfl dX9_connectionOfSegment_58 ?_
              obtain rfl := Option.some.inj h
              exact g_areturn X rfl (Or.inl ⟨_, rfl⟩) hE dX9_connectionOfSegment_59
theorem wX9_connectionOfSegment {x : GX} {n0 sl0 : Nat} (X : Cx x cX9_connectionOfSegment RX9 (some (.object "WebHost$Connection")) n0 sl0 1 22) {out : Option Nat × Mm} (hE : Ends x n0 sl0 (some (pR out.1)) out.2) (hn : xn x = 3) (fu : Nat)   (a0 : Nat)  (M : Mm) (h : fX9_connectionOfSegment fu  a0 M = some out) : Gw x M 0 [(0, pR (some a0))] [] := by
  unfold fX9_connectionOfSegment at h
  refine g_iconst X (pc := 0) (v := 0) dX9_connectionOfSegment_0 (by decide) ?_
  refine g_istore_n X (pc := 1) [(1, pI (0 : Int32)), (0, pR (some a0))] rfl (lt_n hn (by decide)) rfl dX9_connectionOfSegment_1 ?_
  refine g_sub [1, 0] [(0, pR (some a0)), (1, pI (0 : Int32))] rfl ?_
  exact wX9_connectionOfSegment_L2 X hE hn fu   fu a0 (0 : Int32) M h
theorem hyX9_connectionOfSegment : yX9_connectionOfSegment.cls ≠ "java/lang/invoke/MethodHandle" ∧ yX9_connectionOfSegment.cls ≠ "java/lang/invoke/VarHandle" ∧ (parseMethodDescriptor yX9_connectionOfSegment.desc).map (fun d => d.parameters.length) = some 0 := ⟨by decide +kernel, by decide +kernel, by decide +kernel⟩
theorem ctX9_connectionOfSegment (l : Launch) (E : Nat → Nat) (D : va_G) (dA : Nat → ClassId) (lo : Nat) (H0 : Heap) (fu : Nat) (a0 : Nat) (M : Mm) (out : Option Nat × Mm) (h : fX9_connectionOfSegment fu a0 M = some out) : Ct l E D dA lo H0 yX9_connectionOfSegment cX9_connectionOfSegment 3 (some (.object "WebHost$Connection")) 1 22 [pR (some a0)] M (some (pR out.1)) out.2 := by
  refine ct_of (by decide +kernel) (Nat.le_of_ble_eq_true rfl) ?_
  intro x hl he hd ha ho hh hn hin X hE
  exact wX9_connectionOfSegment X hE hn fu a0 M h
