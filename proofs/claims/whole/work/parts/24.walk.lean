/-! ===== walks of methods, printed by a program of ours ===== -/
/-! WebHost$Link.fillArp(IIII)V -/
def fX4_fillArp (fu : Nat)  (a0 : Nat) (a1 : Int32) (a2 : Int32) (a3 : Int32) (a4 : Int32)  (M : Mm) : Option (Mm) :=
    (gR M 4 256 (some a0)).bind fun v1 =>
    (fX11_putFour fu  v1 (14 : Int32) (67584 : Int32) M).bind fun M2 =>
    (gR M2 4 256 (some a0)).bind fun v3 =>
    (fX11_putTwo fu  v3 (18 : Int32) (1540 : Int32) M2).bind fun M4 =>
    (gR M4 4 256 (some a0)).bind fun v5 =>
    (fX11_putTwo fu  v5 (20 : Int32) a1 M4).bind fun M6 =>
    (gR M6 4 256 (some a0)).bind fun v7 =>
    (gI M6 4 258 (some a0)).bind fun v8 =>
    (fX11_putTwo fu  v7 (22 : Int32) v8 M6).bind fun M9 =>
    (gR M9 4 256 (some a0)).bind fun v10 =>
    (gI M9 4 259 (some a0)).bind fun v11 =>
    (fX11_putFour fu  v10 (24 : Int32) v11 M9).bind fun M12 =>
    (gR M12 4 256 (some a0)).bind fun v13 =>
    (gI M12 4 257 (some a0)).bind fun v14 =>
    (fX11_putFour fu  v13 (28 : Int32) v14 M12).bind fun M15 =>
    (gR M15 4 256 (some a0)).bind fun v16 =>
    (fX11_putTwo fu  v16 (32 : Int32) a2 M15).bind fun M17 =>
    (gR M17 4 256 (some a0)).bind fun v18 =>
    (fX11_putFour fu  v18 (34 : Int32) a3 M17).bind fun M19 =>
    (gR M19 4 256 (some a0)).bind fun v20 =>
    (fX11_putFour fu  v20 (38 : Int32) a4 M19).bind fun M21 =>
    some M21
theorem dX4_fillArp_0 : decode cX4_fillArp 0 = .ok (.aload_n 0, 1) := by decide +kernel
theorem dX4_fillArp_1 : decode cX4_fillArp 1 = .ok (.getfield 15, 3) := by decide +kernel
theorem dX4_fillArp_4 : decode cX4_fillArp 4 = .ok (.bipush 14, 2) := by decide +kernel
theorem dX4_fillArp_6 : decode cX4_fillArp 6 = .ok (.ldc 77, 2) := by decide +kernel
theorem dX4_fillArp_8 : decode cX4_fillArp 8 = .ok (.invokestatic 132, 3) := by decide +kernel
theorem dX4_fillArp_11 : decode cX4_fillArp 11 = .ok (.aload_n 0, 1) := by decide +kernel
theorem dX4_fillArp_12 : decode cX4_fillArp 12 = .ok (.getfield 15, 3) := by decide +kernel
theorem dX4_fillArp_15 : decode cX4_fillArp 15 = .ok (.bipush 18, 2) := by decide +kernel
theorem dX4_fillArp_17 : decode cX4_fillArp 17 = .ok (.sipush 1540, 3) := by decide +kernel
theorem dX4_fillArp_20 : decode cX4_fillArp 20 = .ok (.invokestatic 128, 3) := by decide +kernel
theorem dX4_fillArp_23 : decode cX4_fillArp 23 = .ok (.aload_n 0, 1) := by decide +kernel
theorem dX4_fillArp_24 : decode cX4_fillArp 24 = .ok (.getfield 15, 3) := by decide +kernel
theorem dX4_fillArp_27 : decode cX4_fillArp 27 = .ok (.bipush 20, 2) := by decide +kernel
theorem dX4_fillArp_29 : decode cX4_fillArp 29 = .ok (.iload_n 1, 1) := by decide +kernel
theorem dX4_fillArp_30 : decode cX4_fillArp 30 = .ok (.invokestatic 128, 3) := by decide +kernel
theorem dX4_fillArp_33 : decode cX4_fillArp 33 = .ok (.aload_n 0, 1) := by decide +kernel
theorem dX4_fillArp_34 : decode cX4_fillArp 34 = .ok (.getfield 15, 3) := by decide +kernel
theorem dX4_fillArp_37 : decode cX4_fillArp 37 = .ok (.bipush 22, 2) := by decide +kernel
theorem dX4_fillArp_39 : decode cX4_fillArp 39 = .ok (.aload_n 0, 1) := by decide +kernel
theorem dX4_fillArp_40 : decode cX4_fillArp 40 = .ok (.getfield 48, 3) := by decide +kernel
theorem dX4_fillArp_43 : decode cX4_fillArp 43 = .ok (.invokestatic 128, 3) := by decide +kernel
theorem dX4_fillArp_46 : decode cX4_fillArp 46 = .ok (.aload_n 0, 1) := by decide +kernel
theorem dX4_fillArp_47 : decode cX4_fillArp 47 = .ok (.getfield 15, 3) := by decide +kernel
theorem dX4_fillArp_50 : decode cX4_fillArp 50 = .ok (.bipush 24, 2) := by decide +kernel
theorem dX4_fillArp_52 : decode cX4_fillArp 52 = .ok (.aload_n 0, 1) := by decide +kernel
theorem dX4_fillArp_53 : decode cX4_fillArp 53 = .ok (.getfield 51, 3) := by decide +kernel
theorem dX4_fillArp_56 : decode cX4_fillArp 56 = .ok (.invokestatic 132, 3) := by decide +kernel
theorem dX4_fillArp_59 : decode cX4_fillArp 59 = .ok (.aload_n 0, 1) := by decide +kernel
theorem dX4_fillArp_60 : decode cX4_fillArp 60 = .ok (.getfield 15, 3) := by decide +kernel
theorem dX4_fillArp_63 : decode cX4_fillArp 63 = .ok (.bipush 28, 2) := by decide +kernel
theorem dX4_fillArp_65 : decode cX4_fillArp 65 = .ok (.aload_n 0, 1) := by decide +kernel
theorem dX4_fillArp_66 : decode cX4_fillArp 66 = .ok (.getfield 38, 3) := by decide +kernel
theorem dX4_fillArp_69 : decode cX4_fillArp 69 = .ok (.invokestatic 132, 3) := by decide +kernel
theorem dX4_fillArp_72 : decode cX4_fillArp 72 = .ok (.aload_n 0, 1) := by decide +kernel
theorem dX4_fillArp_73 : decode cX4_fillArp 73 = .ok (.getfield 15, 3) := by decide +kernel
theorem dX4_fillArp_76 : decode cX4_fillArp 76 = .ok (.bipush 32, 2) := by decide +kernel
theorem dX4_fillArp_78 : decode cX4_fillArp 78 = .ok (.iload_n 2, 1) := by decide +kernel
theorem dX4_fillArp_79 : decode cX4_fillArp 79 = .ok (.invokestatic 128, 3) := by decide +kernel
theorem dX4_fillArp_82 : decode cX4_fillArp 82 = .ok (.aload_n 0, 1) := by decide +kernel
theorem dX4_fillArp_83 : decode cX4_fillArp 83 = .ok (.getfield 15, 3) := by decide +kernel
theorem dX4_fillArp_86 : decode cX4_fillArp 86 = .ok (.bipush 34, 2) := by decide +kernel
theorem dX4_fillArp_88 : decode cX4_fillArp 88 = .ok (.iload_n 3, 1) := by decide +kernel
theorem dX4_fillArp_89 : decode cX4_fillArp 89 = .ok (.invokestatic 132, 3) := by decide +kernel
theorem dX4_fillArp_92 : decode cX4_fillArp 92 = .ok (.aload_n 0, 1) := by decide +kernel
theorem dX4_fillArp_93 : decode cX4_fillArp 93 = .ok (.getfield 15, 3) := by decide +kernel
theorem dX4_fillArp_96 : decode cX4_fillArp 96 = .ok (.bipush 38, 2) := by decide +kernel
theorem dX4_fillArp_98 : decode cX4_fillArp 98 = .ok (.iload 4, 2) := by decide +kernel
theorem dX4_fillArp_100 : decode cX4_fillArp 100 = .ok (.invokestatic 132, 3) := by decide +kernel
theorem dX4_fillArp_103 : decode cX4_fillArp 103 = .ok (.return_, 1) := by decide +kernel
theorem wX4_fillArp {x : GX} {n0 sl0 : Nat} (X : Cx x cX4_fillArp RX4 none n0 sl0 1 22) {out : Mm} (hE : Ends x n0 sl0 none out) (hn : xn x = 5) (fu : Nat)   (a0 : Nat) (a1 : Int32) (a2 : Int32) (a3 : Int32) (a4 : Int32)  (M : Mm) (h : fX4_fillArp fu  a0 a1 a2 a3 a4 M = some out) : Gw x M 0 [(0, pR (some a0)), (1, pI a1), (2, pI a2), (3, pI a3), (4, pI a4)] [] := by
  unfold fX4_fillArp at h
  refine g_aload_n X (pc := 0) 0 rfl rfl dX4_fillArp_0 ?_
  obtain ⟨v1, ev1, h⟩ := bd h
  refine g_getR X (pc := 1) fk_4_0 rfl rfl ev1 tb_97 dX4_fillArp_1 ?_
  refine g_bipush X (pc := 4) (v := 14) dX4_fillArp_4 (by decide) ?_
  refine g_ldc X (pc := 6) tb_521 dX4_fillArp_6 ?_
  obtain ⟨M2, eM2, h⟩ := bd h
  refine g_callSN X (pc := 8) (M' := M2) (ro := none) (as := [pR v1, pI (14 : Int32), pI (67584 : Int32)]) (as' := [pI (67584 : Int32), pI (14 : Int32), pR v1]) (st := []) (ctX11_putFour _ _ _ _ _ _ fu  v1 (14 : Int32) (67584 : Int32) M _ eM2) tb_366 (List.mem_of_getElem? (i := 3) rfl) tb_365 tb_1 hyX11_putFour rfl rfl ⟨by decide, by decide⟩ (Nat.le_of_ble_eq_true rfl) dX4_fillArp_8 ?_
  refine g_aload_n X (pc := 11) 0 rfl rfl dX4_fillArp_11 ?_
  obtain ⟨v3, ev3, h⟩ := bd h
  refine g_getR X (pc := 12) fk_4_0 rfl rfl ev3 tb_97 dX4_fillArp_12 ?_
  refine g_bipush X (pc := 15) (v := 18) dX4_fillArp_15 (by decide) ?_
  refine g_sipush X (pc := 17) (v := 1540) dX4_fillArp_17 (by decide) ?_
  obtain ⟨M4, eM4, h⟩ := bd h
  refine g_callSN X (pc := 20) (M' := M4) (ro := none) (as := [pR v3, pI (18 : Int32), pI (1540 : Int32)]) (as' := [pI (1540 : Int32), pI (18 : Int32), pR v3]) (st := []) (ctX11_putTwo _ _ _ _ _ _ fu  v3 (18 : Int32) (1540 : Int32) M2 _ eM4) tb_525 (List.mem_of_getElem? (i := 4) rfl) tb_524 tb_1 hyX11_putTwo rfl rfl ⟨by decide, by decide⟩ (Nat.le_of_ble_eq_true rfl) dX4_fillArp_20 ?_
  refine g_aload_n X (pc := 23) 0 rfl rfl dX4_fillArp_23 ?_
  obtain ⟨v5, ev5, h⟩ := bd h
  refine g_getR X (pc := 24) fk_4_0 rfl rfl ev5 tb_97 dX4_fillArp_24 ?_
  refine g_bipush X (pc := 27) (v := 20) dX4_fillArp_27 (by decide) ?_
  refine g_iload_n X (pc := 29) 1 rfl rfl dX4_fillArp_29 ?_
  obtain ⟨M6, eM6, h⟩ := bd h
  refine g_callSN X (pc := 30) (M' := M6) (ro := none) (as := [pR v5, pI (20 : Int32), pI a1]) (as' := [pI a1, pI (20 : Int32), pR v5]) (st := []) (ctX11_putTwo _ _ _ _ _ _ fu  v5 (20 : Int32) a1 M4 _ eM6) tb_525 (List.mem_of_getElem? (i := 4) rfl) tb_524 tb_1 hyX11_putTwo rfl rfl ⟨by decide, by decide⟩ (Nat.le_of_ble_eq_true rfl) dX4_fillArp_30 ?_
  refine g_aload_n X (pc := 33) 0 rfl rfl dX4_fillArp_33 ?_
  obtain ⟨v7, ev7, h⟩ := bd h
  refine g_getR X (pc := 34) fk_4_0 rfl rfl ev7 tb_97 dX4_fillArp_34 ?_
  refine g_bipush X (pc := 37) (v := 22) dX4_fillArp_37 (by decide) ?_
  refine g_aload_n X (pc := 39) 0 rfl rfl dX4_fillArp_39 ?_
  obtain ⟨v8, ev8, h⟩ := bd h
  refine g_getI X (pc := 40) fk_4_2 rfl rfl ev8 tb_103 dX4_fillArp_40 ?_
  obtain ⟨M9, eM9, h⟩ := bd h
  refine g_callSN X (pc := 43) (M' := M9) (ro := none) (as := [pR v7, pI (22 : Int32), pI v8]) (as' := [pI v8, pI (22 : Int32), pR v7]) (st := []) (ctX11_putTwo _ _ _ _ _ _ fu  v7 (22 : Int32) v8 M6 _ eM9) tb_525 (List.mem_of_getElem? (i := 4) rfl) tb_524 tb_1 hyX11_putTwo rfl rfl ⟨by decide, by decide⟩ (Nat.le_of_ble_eq_true rfl) dX4_fillArp_43 ?_
  refine g_aload_n X (pc := 46) 0 rfl rfl dX4_fillArp_46 ?_
  obtain ⟨v10, ev10, h⟩ := bd h
  refine g_getR X (pc := 47) fk_4_0 rfl rfl ev10 tb_97 dX4_fillArp_47 ?_
  refine g_bipush X (pc := 50) (v := 24) dX4_fillArp_50 (by decide) ?_
  refine g_aload_n X (pc := 52) 0 rfl rfl dX4_fillArp_52 ?_
  obtain ⟨v11, ev11, h⟩ := bd h
  refine g_getI X (pc := 53) fk_4_3 rfl rfl ev11 tb_105 dX4_fillArp_53 ?_
  obtain ⟨M12, eM12, h⟩ := bd h
  refine g_callSN X (pc := 56) (M' := M12) (ro := none) (as := [pR v10, pI (24 : Int32), pI v11]) (as' := [pI v11, pI (24 : Int32), pR v10]) (st := []) (ctX11_putFour _ _ _ _ _ _ fu  v10 (24 : Int32) v11 M9 _ eM12) tb_366 (List.mem_of_getElem? (i := 3) rfl) tb_365 tb_1 hyX11_putFour rfl rfl ⟨by decide, by decide⟩ (Nat.le_of_ble_eq_true rfl) dX4_fillArp_56 ?_
  refine g_aload_n X (pc := 59) 0 rfl rfl dX4_fillArp_59 ?_
  obtain ⟨v13, ev13, h⟩ := bd h
  refine g_getR X (pc := 60) fk_4_0 rfl rfl ev13 tb_97 dX4_fillArp_60 ?_
  refine g_bipush X (pc := 63) (v := 28) dX4_fillArp_63 (by decide) ?_
  refine g_aload_n X (pc := 65) 0 rfl rfl dX4_fillArp_65 ?_
  obtain ⟨v14, ev14, h⟩ := bd h
  refine g_getI X (pc := 66) fk_4_1 rfl rfl ev14 tb_100 dX4_fillArp_66 ?_
  obtain ⟨M15, eM15, h⟩ := bd h
  refine g_callSN X (pc := 69) (M' := M15) (ro := none) (as := [pR v13, pI (28 : Int32), pI v14]) (as' := [pI v14, pI (28 : Int32), pR v13]) (st := []) (ctX11_putFour _ _ _ _ _ _ fu  v13 (28 : Int32) v14 M12 _ eM15) tb_366 (List.mem_of_getElem? (i := 3) rfl) tb_365 tb_1 hyX11_putFour rfl rfl ⟨by decide, by decide⟩ (Nat.le_of_ble_eq_true rfl) dX4_fillArp_69 ?_
  refine g_aload_n X (pc := 72) 0 rfl rfl dX4_fillArp_72 ?_
  obtain ⟨v16, ev16, h⟩ := bd h
  refine g_getR X (pc := 73) fk_4_0 rfl rfl ev16 tb_97 dX4_fillArp_73 ?_
  refine g_bipush X (pc := 76) (v := 32) dX4_fillArp_76 (by decide) ?_
  refine g_iload_n X (pc := 78) 2 rfl rfl dX4_fillArp_78 ?_
  obtain ⟨M17, eM17, h⟩ := bd h
  refine g_callSN X (pc := 79) (M' := M17) (ro := none) (as := [pR v16, pI (32 : Int32), pI a2]) (as' := [pI a2, pI (32 : Int32), pR v16]) (st := []) (ctX11_putTwo _ _ _ _ _ _ fu  v16 (32 : Int32) a2 M15 _ eM17) tb_525 (List.mem_of_getElem? (i := 4) rfl) tb_524 tb_1 hyX11_putTwo rfl rfl ⟨by decide, by decide⟩ (Nat.le_of_ble_eq_true rfl) dX4_fillArp_79 ?_
  refine g_aload_n X (pc := 82) 0 rfl rfl dX4_fillArp_82 ?_
  obtain ⟨v18, ev18, h⟩ := bd h
  refine g_getR X (pc := 83) fk_4_0 rfl rfl ev18 tb_97 dX4_fillArp_83 ?_
  refine g_bipush X (pc := 86) (v := 34) dX4_fillArp_86 (by decide) ?_
  refine g_iload_n X (pc := 88) 3 rfl rfl dX4_fillArp_88 ?_
  obtain ⟨M19, eM19, h⟩ := bd h
  refine g_callSN X (pc := 89) (M' := M19) (ro := none) (as := [pR v18, pI (34 : Int32), pI a3]) (as' := [pI a3, pI (34 : Int32), pR v18]) (st := []) (ctX11_putFour _ _ _ _ _ _ fu  v18 (34 : Int32) a3 M17 _ eM19) tb_366 (List.mem_of_getElem? (i := 3) rfl) tb_365 tb_1 hyX11_putFour rfl rfl ⟨by decide, by decide⟩ (Nat.le_of_ble_eq_true rfl) dX4_fillArp_89 ?_
  refine g_aload_n X (pc := 92) 0 rfl rfl dX4_fillArp_92 ?_
  obtain ⟨v20, ev20, h⟩ := bd h
  refine g_getR X (pc := 93) fk_4_0 rfl rfl ev20 tb_97 dX4_fillArp_93 ?_
  refine g_bipush X (pc := 96) (v := 38) dX4_fillArp_96 (by decide) ?_
  refine g_iload X (pc := 98) 4 rfl dX4_fillArp_98 ?_
  obtain ⟨M21, eM21, h⟩ := bd h
  refine g_callSN X (pc := 100) (M' := M21) (ro := none) (as := [pR v20, pI (38 : Int32), pI a4]) (as' := [pI a4, pI (38 : Int32), pR v20]) (st := []) (ctX11_putFour _ _ _ _ _ _ fu  v20 (38 : Int32) a4 M19 _ eM21) tb_366 (List.mem_of_getElem? (i := 3) rfl) tb_365 tb_1 hyX11_putFour rfl rfl ⟨by decide, by decide⟩ (Nat.le_of_ble_eq_true rfl) dX4_fillArp_100 ?_
  obtain rfl := Option.some.inj h
  exact g_return X hE dX4_fillArp_103
theorem hyX4_fillArp : yX4_fillArp.cls ≠ "java/lang/invoke/MethodHandle" ∧ yX4_fillArp.cls ≠ "java/lang/invoke/VarHandle" ∧ (parseMethodDescriptor yX4_fillArp.desc).map (fun d => d.parameters.length) = some 4 := ⟨by decide +kernel, by decide +kernel, by decide +kernel⟩
theorem ctX4_fillArp (l : Launch) (E : Nat → Nat) (D : va_G) (dA : Nat → ClassId) (lo : Nat) (H0 : Heap) (fu : Nat) (a0 : Nat) (a1 : Int32) (a2 : Int32) (a3 : Int32) (a4 : Int32) (M : Mm) (out : Mm) (h : fX4_fillArp fu a0 a1 a2 a3 a4 M = some out) : Ct l E D dA lo H0 yX4_fillArp cX4_fillArp 5 none 1 22 [pR (some a0), pI a1, pI a2, pI a3, pI a4] M none out := by
  refine ct_of (by decide +kernel) (Nat.le_of_ble_eq_true rfl) ?_
  intro x hl he hd ha ho hh hn hin X hE
  exact wX4_fillArp X hE hn fu a0 a1 a2 a3 a4 M h
/-! WebHost$Link.fillAsk(I)V -/
def fX4_fillAsk (fu : Nat)  (a0 : Nat) (a1 : Int32)  (M : Mm) : Option (Mm) :=
    (rc M 4 (some a0)).bind fun q1 =>
    (fX4_fillArp fu q1 (1 : Int32) (0 : Int32) (0 : Int32) a1 M).bind fun M2 =>
    (gR M2 4 256 (some a0)).bind fun v3 =>
    (rc M2 4 (some a0)).bind fun q4 =>
    (fX4_fillLink fu q4 v3 (65535 : Int32) (-1 : Int32) (2054 : Int32) M2).bind fun M5 =>
    some M5
theorem dX4_fillAsk_0 : decode cX4_fillAsk 0 = .ok (.aload_n 0, 1) := by decide +kernel
theorem dX4_fillAsk_1 : decode cX4_fillAsk 1 = .ok (.iconst 1, 1) := by decide +kernel
theorem dX4_fillAsk_2 : decode cX4_fillAsk 2 = .ok (.iconst 0, 1) := by decide +kernel
theorem dX4_fillAsk_3 : decode cX4_fillAsk 3 = .ok (.iconst 0, 1) := by decide +kernel
theorem dX4_fillAsk_4 : decode cX4_fillAsk 4 = .ok (.iload_n 1, 1) := by decide +kernel
theorem dX4_fillAsk_5 : decode cX4_fillAsk 5 = .ok (.invokevirtual 89, 3) := by decide +kernel
theorem dX4_fillAsk_8 : decode cX4_fillAsk 8 = .ok (.aload_n 0, 1) := by decide +kernel
theorem dX4_fillAsk_9 : decode cX4_fillAsk 9 = .ok (.aload_n 0, 1) := by decide +kernel
theorem dX4_fillAsk_10 : decode cX4_fillAsk 10 = .ok (.getfield 15, 3) := by decide +kernel
theorem dX4_fillAsk_13 : decode cX4_fillAsk 13 = .ok (.ldc 139, 2) := by decide +kernel
theorem dX4_fillAsk_15 : decode cX4_fillAsk 15 = .ok (.iconst (-1), 1) := by decide +kernel
theorem dX4_fillAsk_16 : decode cX4_fillAsk 16 = .ok (.sipush 2054, 3) := by decide +kernel
theorem dX4_fillAsk_19 : decode cX4_fillAsk 19 = .ok (.invokevirtual 93, 3) := by decide +kernel
theorem dX4_fillAsk_22 : decode cX4_fillAsk 22 = .ok (.return_, 1) := by decide +kernel
theorem wX4_fillAsk {x : GX} {n0 sl0 : Nat} (X : Cx x cX4_fillAsk RX4 none n0 sl0 2 46) {out : Mm} (hE : Ends x n0 sl0 none out) (hn : xn x = 2) (fu : Nat)   (a0 : Nat) (a1 : Int32)  (M : Mm) (h : fX4_fillAsk fu  a0 a1 M = some out) : Gw x M 0 [(0, pR (some a0)), (1, pI a1)] [] := by
  unfold fX4_fillAsk at h
  refine g_aload_n X (pc := 0) 0 rfl rfl dX4_fillAsk_0 ?_
  refine g_iconst X (pc := 1) (v := 1) dX4_fillAsk_1 (by decide) ?_
  refine g_iconst X (pc := 2) (v := 0) dX4_fillAsk_2 (by decide) ?_
  refine g_iconst X (pc := 3) (v := 0) dX4_fillAsk_3 (by decide) ?_
  refine g_iload_n X (pc := 4) 1 rfl rfl dX4_fillAsk_4 ?_
  obtain ⟨q1, eq1, h⟩ := bd h
  obtain ⟨M2, eM2, h⟩ := bd h
  refine g_callV X (pc := 5) (M' := M2) (ro := none) (c := 4) rfl (by decide) (as := [pI (1 : Int32), pI (0 : Int32), pI (0 : Int32), pI a1]) (as' := [pI a1, pI (0 : Int32), pI (0 : Int32), pI (1 : Int32)]) (st := []) eq1 (ctX4_fillArp _ _ _ _ _ _ fu q1 (1 : Int32) (0 : Int32) (0 : Int32) a1 M _ eM2) tb_520 tb_517 tb_519 ts_7 tb_4 ⟨rfl, hyX4_fillArp⟩ rfl rfl ⟨by decide, by decide⟩ (Nat.le_of_ble_eq_true rfl) dX4_fillAsk_5 ?_
  refine g_aload_n X (pc := 8) 0 rfl rfl dX4_fillAsk_8 ?_
  refine g_aload_n X (pc := 9) 0 rfl rfl dX4_fillAsk_9 ?_
  obtain ⟨v3, ev3, h⟩ := bd h
  refine g_getR X (pc := 10) fk_4_0 rfl rfl ev3 tb_97 dX4_fillAsk_10 ?_
  refine g_ldc X (pc := 13) tb_526 dX4_fillAsk_13 ?_
  refine g_iconst X (pc := 15) (v := (-1)) dX4_fillAsk_15 (by decide) ?_
  refine g_sipush X (pc := 16) (v := 2054) dX4_fillAsk_16 (by decide) ?_
  obtain ⟨q4, eq4, h⟩ := bd h
  obtain ⟨M5, eM5, h⟩ := bd h
  refine g_callV X (pc := 19) (M' := M5) (ro := none) (c := 4) rfl (by decide) (as := [pR v3, pI (65535 : Int32), pI (-1 : Int32), pI (2054 : Int32)]) (as' := [pI (2054 : Int32), pI (-1 : Int32), pI (65535 : Int32), pR v3]) (st := []) eq4 (ctX4_fillLink _ _ _ _ _ _ fu q4 v3 (65535 : Int32) (-1 : Int32) (2054 : Int32) M2 _ eM5) tb_530 tb_527 tb_529 ts_8 tb_4 ⟨rfl, hyX4_fillLink⟩ rfl rfl ⟨by decide, by decide⟩ (Nat.le_of_ble_eq_true rfl) dX4_fillAsk_19 ?_
  obtain rfl := Option.some.inj h
  exact g_return X hE dX4_fillAsk_22
theorem hyX4_fillAsk : yX4_fillAsk.cls ≠ "java/lang/invoke/MethodHandle" ∧ yX4_fillAsk.cls ≠ "java/lang/invoke/VarHandle" ∧ (parseMethodDescriptor yX4_fillAsk.desc).map (fun d => d.parameters.length) = some 1 := ⟨by decide +kernel, by decide +kernel, by decide +kernel⟩
theorem ctX4_fillAsk (l : Launch) (E : Nat → Nat) (D : va_G) (dA : Nat → ClassId) (lo : Nat) (H0 : Heap) (fu : Nat) (a0 : Nat) (a1 : Int32) (M : Mm) (out : Mm) (h : fX4_fillAsk fu a0 a1 M = some out) : Ct l E D dA lo H0 yX4_fillAsk cX4_fillAsk 2 none 2 46 [pR (some a0), pI a1] M none out := by
  refine ct_of (by decide +kernel) (Nat.le_of_ble_eq_true rfl) ?_
  intro x hl he hd ha ho hh hn hin X hE
  exact wX4_fillAsk X hE hn fu a0 a1 M h
/-! WebHost.pseudoSum(III)I -/
def fX11_pseudoSum (fu : Nat)  (a0 : Int32) (a1 : Int32) (a2 : Int32)  (M : Mm) : Option (Int32 × Mm) :=
    some (((((((ushr a0 (16 : Int32)) + (a0 &&& (65535 : Int32))) + (ushr a1 (16 : Int32))) + (a1 &&& (65535 : Int32))) + (6 : Int32)) + a2), M)
theorem dX11_pseudoSum_0 : decode cX11_pseudoSum 0 = .ok (.iload_n 0, 1) := by decide +kernel
theorem dX11_pseudoSum_1 : decode cX11_pseudoSum 1 = .ok (.bipush 16, 2) := by decide +kernel
theorem dX11_pseudoSum_3 : decode cX11_pseudoSum 3 = .ok (.iushr, 1) := by decide +kernel
theorem dX11_pseudoSum_4 : decode cX11_pseudoSum 4 = .ok (.iload_n 0, 1) := by decide +kernel
theorem dX11_pseudoSum_5 : decode cX11_pseudoSum 5 = .ok (.ldc 84, 2) := by decide +kernel
theorem dX11_pseudoSum_7 : decode cX11_pseudoSum 7 = .ok (.iand, 1) := by decide +kernel
theorem dX11_pseudoSum_8 : decode cX11_pseudoSum 8 = .ok (.iadd, 1) := by decide +kernel
theorem dX11_pseudoSum_9 : decode cX11_pseudoSum 9 = .ok (.iload_n 1, 1) := by decide +kernel
theorem dX11_pseudoSum_10 : decode cX11_pseudoSum 10 = .ok (.bipush 16, 2) := by decide +kernel
theorem dX11_pseudoSum_12 : decode cX11_pseudoSum 12 = .ok (.iushr, 1) := by decide +kernel
theorem dX11_pseudoSum_13 : decode cX11_pseudoSum 13 = .ok (.iadd, 1) := by decide +kernel
theorem dX11_pseudoSum_14 : decode cX11_pseudoSum 14 = .ok (.iload_n 1, 1) := by decide +kernel
theorem dX11_pseudoSum_15 : decode cX11_pseudoSum 15 = .ok (.ldc 84, 2) := by decide +kernel
theorem dX11_pseudoSum_17 : decode cX11_pseudoSum 17 = .ok (.iand, 1) := by decide +kernel
theorem dX11_pseudoSum_18 : decode cX11_pseudoSum 18 = .ok (.iadd, 1) := by decide +kernel
theorem dX11_pseudoSum_19 : decode cX11_pseudoSum 19 = .ok (.bipush 6, 2) := by decide +kernel
theorem dX11_pseudoSum_21 : decode cX11_pseudoSum 21 = .ok (.iadd, 1) := by decide +kernel
theorem dX11_pseudoSum_22 : decode cX11_pseudoSum 22 = .ok (.iload_n 2, 1) := by decide +kernel
theorem dX11_pseudoSum_23 : decode cX11_pseudoSum 23 = .ok (.iadd, 1) := by decide +kernel
theorem dX11_pseudoSum_24 : decode cX11_pseudoSum 24 = .ok (.ireturn, 1) := by decide +kernel
theorem wX11_pseudoSum {x : GX} {n0 sl0 : Nat} (X : Cx x cX11_pseudoSum RX11 (some .int) n0 sl0 0 0) {out : Int32 × Mm} (hE : Ends x n0 sl0 (some (pI out.1)) out.2) (hn : xn x = 3) (fu : Nat)   (a0 : Int32) (a1 : Int32) (a2 : Int32)  (M : Mm) (h : fX11_pseudoSum fu  a0 a1 a2 M = some out) : Gw x M 0 [(0, pI a0), (1, pI a1), (2, pI a2)] [] := by
  unfold fX11_pseudoSum at h
  refine g_iload_n X (pc := 0) 0 rfl rfl dX11_pseudoSum_0 ?_
  refine g_bipush X (pc := 1) (v := 16) dX11_pseudoSum_1 (by decide) ?_
  refine g_iushr X (pc := 3) dX11_pseudoSum_3 ?_
  refine g_iload_n X (pc := 4) 0 rfl rfl dX11_pseudoSum_4 ?_
  refine g_ldc X (pc := 5) tb_375 dX11_pseudoSum_5 ?_
  refine g_iand X (pc := 7) dX11_pseudoSum_7 ?_
  refine g_iadd X (pc := 8) dX11_pseudoSum_8 ?_
  refine g_iload_n X (pc := 9) 1 rfl rfl dX11_pseudoSum_9 ?_
  refine g_bipush X (pc := 10) (v := 16) dX11_pseudoSum_10 (by decide) ?_
  refine g_iushr X (pc := 12) dX11_pseudoSum_12 ?_
  refine g_iadd X (pc := 13) dX11_pseudoSum_13 ?_
  refine g_iload_n X (pc := 14) 1 rfl rfl dX11_pseudoSum_14 ?_
  refine g_ldc X (pc := 15) tb_375 dX11_pseudoSum_15 ?_
  refine g_iand X (pc := 17) dX11_pseudoSum_17 ?_
  refine g_iadd X (pc := 18) dX11_pseudoSum_18 ?_
  refine g_bipush X (pc := 19) (v := 6) dX11_pseudoSum_19 (by decide) ?_
  refine g_iadd X (pc := 21) dX11_pseudoSum_21 ?_
  refine g_iload_n X (pc := 22) 2 rfl rfl dX11_pseudoSum_22 ?_
  refine g_iadd X (pc := 23) dX11_pseudoSum_23 ?_
  obtain rfl := Option.some.inj h
  exact g_ireturn X hE dX11_pseudoSum_24
theorem hyX11_pseudoSum : yX11_pseudoSum.cls ≠ "java/lang/invoke/MethodHandle" ∧ yX11_pseudoSum.cls ≠ "java/lang/invoke/VarHandle" ∧ (parseMethodDescriptor yX11_pseudoSum.desc).map (fun d => d.parameters.length) = some 3 := ⟨by decide +kernel, by decide +kernel, by decide +kernel⟩
theorem ctX11_pseudoSum (l : Launch) (E : Nat → Nat) (D : va_G) (dA : Nat → ClassId) (lo : Nat) (H0 : Heap) (fu : Nat) (a0 : Int32) (a1 : Int32) (a2 : Int32) (M : Mm) (out : Int32 × Mm) (h : fX11_pseudoSum fu a0 a1 a2 M = some out) : Ct l E D dA lo H0 yX11_pseudoSum cX11_pseudoSum 3 (some .int) 0 0 [pI a0, pI a1, pI a2] M (some (pI out.1)) out.2 := by
  refine ct_of (by decide +kernel) (Nat.le_of_ble_eq_true rfl) ?_
  intro x hl he hd ha ho hh hn hin X hE
  exact wX11_pseudoSum X hE hn fu a0 a1 a2 M h
/-! WebHost$Intake.readSegment()Z -/
def fX3_readSegment (fu : Nat)  (a0 : Nat)  (M : Mm) : Option (Int32 × Mm) :=
    (gR M 3 192 (some a0)).bind fun v1 =>
    (gI M 3 202 (some a0)).bind fun v2 =>
    b2 (fX11_one fu  v1 (v2 + (12 : Int32)) M) fun v4 M3 =>
    (some ((v4 >>> ((4 : Int32) &&& 31)) * (4 : Int32))).bind fun v5 =>
    (gI M3 3 203 (some a0)).bind fun v6 =>
    if v6 < (20 : Int32) then (
    rN .boolean (0 : Int32) M3)
    else (
    if v5 < (20 : Int32) then (
    rN .boolean (0 : Int32) M3)
    else (
    (gI M3 3 203 (some a0)).bind fun v7 =>
    if v5 ≤ v7 then (
    (gR M3 3 192 (some a0)).bind fun v8 =>
    (gI M3 3 202 (some a0)).bind fun v9 =>
    (gI M3 3 203 (some a0)).bind fun v10 =>
    (gI M3 3 193 (some a0)).bind fun v11 =>
    (gR M3 3 206 (some a0)).bind fun v12 =>
    (gI M3 4 257 v12).bind fun v13 =>
    (gI M3 3 203 (some a0)).bind fun v14 =>
    b2 (fX11_pseudoSum fu  v11 v13 v14 M3) fun v16 M15 =>
    b2 (fX11_added fu  v8 v9 v10 v16 M15) fun v18 M17 =>
    if v18 = (65535 : Int32) then (
    (gR M17 3 192 (some a0)).bind fun v19 =>
    (gI M17 3 202 (some a0)).bind fun v20 =>
    b2 (fX11_two fu  v19 v20 M17) fun v22 M21 =>
    (pF M21 3 194 (some a0) v22).bind fun M23 =>
    (gR M23 3 192 (some a0)).bind fun v24 =>
    (gI M23 3 202 (some a0)).bind fun v25 =>
    b2 (fX11_two fu  v24 (v25 + (2 : Int32)) M23) fun v27 M26 =>
    (pF M26 3 195 (some a0) v27).bind fun M28 =>
    (gR M28 3 192 (some a0)).bind fun v29 =>
    (gI M28 3 202 (some a0)).bind fun v30 =>
    b2 (fX11_four fu  v29 (v30 + (4 : Int32)) M28) fun v32 M31 =>
    (pF M31 3 196 (some a0) v32).bind fun M33 =>
    (gR M33 3 192 (some a0)).bind fun v34 =>
    (gI M33 3 202 (some a0)).bind fun v35 =>
    b2 (fX11_four fu  v34 (v35 + (8 : Int32)) M33) fun v37 M36 =>
    (pF M36 3 197 (some a0) v37).bind fun M38 =>
    (gR M38 3 192 (some a0)).bind fun v39 =>
    (gI M38 3 202 (some a0)).bind fun v40 =>
    b2 (fX11_one fu  v39 (v40 + (13 : Int32)) M38) fun v42 M41 =>
    (pF M41 3 198 (some a0) v42).bind fun M43 =>
    (gR M43 3 192 (some a0)).bind fun v44 =>
    (gI M43 3 202 (some a0)).bind fun v45 =>
    b2 (fX11_two fu  v44 (v45 + (14 : Int32)) M43) fun v47 M46 =>
    (pF M46 3 199 (some a0) v47).bind fun M48 =>
    (gI M48 3 202 (some a0)).bind fun v49 =>
    (pF M48 3 200 (some a0) (v49 + v5)).bind fun M50 =>
    (gI M50 3 203 (some a0)).bind fun v51 =>
    (pF M50 3 201 (some a0) (v51 - v5)).bind fun M52 =>
    rN .boolean (1 : Int32) M52)
    else (
    rN .boolean (0 : Int32) M17))
    else (
    rN .boolean (0 : Int32) M3)))
theorem dX3_readSegment_0 : decode cX3_readSegment 0 = .ok (.aload_n 0, 1) := by decide +kernel
theorem dX3_readSegment_1 : decode cX3_readSegment 1 = .ok (.getfield 19, 3) := by decide +kernel
theorem dX3_readSegment_4 : decode cX3_readSegment 4 = .ok (.aload_n 0, 1) := by decide +kernel
theorem dX3_readSegment_5 : decode cX3_readSegment 5 = .ok (.getfield 77, 3) := by decide +kernel
theorem dX3_readSegment_8 : decode cX3_readSegment 8 = .ok (.bipush 12, 2) := by decide +kernel
theorem dX3_readSegment_10 : decode cX3_readSegment 10 = .ok (.iadd, 1) := by decide +kernel
theorem dX3_readSegment_11 : decode cX3_readSegment 11 = .ok (.invokestatic 60, 3) := by decide +kernel
theorem dX3_readSegment_14 : decode cX3_readSegment 14 = .ok (.iconst 4, 1) := by decide +kernel
theorem dX3_readSegment_15 : decode cX3_readSegment 15 = .ok (.ishr, 1) := by decide +kernel
theorem dX3_readSegment_16 : decode cX3_readSegment 16 = .ok (.iconst 4, 1) := by decide +kernel
theorem dX3_readSegment_17 : decode cX3_readSegment 17 = .ok (.imul, 1) := by decide +kernel
theorem dX3_readSegment_18 : decode cX3_readSegment 18 = .ok (.istore_n 1, 1) := by decide +kernel
theorem dX3_readSegment_19 : decode cX3_readSegment 19 = .ok (.aload_n 0, 1) := by decide +kernel
theorem dX3_readSegment_20 : decode cX3_readSegment 20 = .ok (.getfield 80, 3) := by decide +kernel
theorem dX3_readSegment_23 : decode cX3_readSegment 23 = .ok (.bipush 20, 2) := by decide +kernel
theorem dX3_readSegment_25 : decode cX3_readSegment 25 = .ok (.if_icmp .lt 17, 3) := by decide +kernel
theorem dX3_readSegment_28 : decode cX3_readSegment 28 = .ok (.iload_n 1, 1) := by decide +kernel
theorem dX3_readSegment_29 : decode cX3_readSegment 29 = .ok (.bipush 20, 2) := by decide +kernel
theorem dX3_readSegment_31 : decode cX3_readSegment 31 = .ok (.if_icmp .lt 11, 3) := by decide +kernel
theorem dX3_readSegment_34 : decode cX3_readSegment 34 = .ok (.iload_n 1, 1) := by decide +kernel
theorem dX3_readSegment_35 : decode cX3_readSegment 35 = .ok (.aload_n 0, 1) := by decide +kernel
theorem dX3_readSegment_36 : decode cX3_readSegment 36 = .ok (.getfield 80, 3) := by decide +kernel
theorem dX3_readSegment_39 : decode cX3_readSegment 39 = .ok (.if_icmp .le 5, 3) := by decide +kernel
theorem dX3_readSegment_42 : decode cX3_readSegment 42 = .ok (.iconst 0, 1) := by decide +kernel
theorem dX3_readSegment_43 : decode cX3_readSegment 43 = .ok (.ireturn, 1) := by decide +kernel
theorem dX3_readSegment_44 : decode cX3_readSegment 44 = .ok (.aload_n 0, 1) := by decide +kernel
theorem dX3_readSegment_45 : decode cX3_readSegment 45 = .ok (.getfield 19, 3) := by decide +kernel
theorem dX3_readSegment_48 : decode cX3_readSegment 48 = .ok (.aload_n 0, 1) := by decide +kernel
theorem dX3_readSegment_49 : decode cX3_readSegment 49 = .ok (.getfield 77, 3) := by decide +kernel
theorem dX3_readSegment_52 : decode cX3_readSegment 52 = .ok (.aload_n 0, 1) := by decide +kernel
theorem dX3_readSegment_53 : decode cX3_readSegment 53 = .ok (.getfield 80, 3) := by decide +kernel
theorem dX3_readSegment_56 : decode cX3_readSegment 56 = .ok (.aload_n 0, 1) := by decide +kernel
theorem dX3_readSegment_57 : decode cX3_readSegment 57 = .ok (.getfield 67, 3) := by decide +kernel
theorem dX3_readSegment_60 : decode cX3_readSegment 60 = .ok (.aload_n 0, 1) := by decide +kernel
theorem dX3_readSegment_61 : decode cX3_readSegment 61 = .ok (.getfield 15, 3) := by decide +kernel
theorem dX3_readSegment_64 : decode cX3_readSegment 64 = .ok (.getfield 70, 3) := by decide +kernel
theorem dX3_readSegment_67 : decode cX3_readSegment 67 = .ok (.aload_n 0, 1) := by decide +kernel
theorem dX3_readSegment_68 : decode cX3_readSegment 68 = .ok (.getfield 80, 3) := by decide +kernel
theorem dX3_readSegment_71 : decode cX3_readSegment 71 = .ok (.invokestatic 159, 3) := by decide +kernel
theorem dX3_readSegment_74 : decode cX3_readSegment 74 = .ok (.invokestatic 63, 3) := by decide +kernel
theorem dX3_readSegment_77 : decode cX3_readSegment 77 = .ok (.ldc 59, 2) := by decide +kernel
theorem dX3_readSegment_79 : decode cX3_readSegment 79 = .ok (.if_icmp .eq 5, 3) := by decide +kernel
theorem dX3_readSegment_82 : decode cX3_readSegment 82 = .ok (.iconst 0, 1) := by decide +kernel
theorem dX3_readSegment_83 : decode cX3_readSegment 83 = .ok (.ireturn, 1) := by decide +kernel
theorem dX3_readSegment_84 : decode cX3_readSegment 84 = .ok (.aload_n 0, 1) := by decide +kernel
theorem dX3_readSegment_85 : decode cX3_readSegment 85 = .ok (.aload_n 0, 1) := by decide +kernel
theorem dX3_readSegment_86 : decode cX3_readSegment 86 = .ok (.getfield 19, 3) := by decide +kernel
theorem dX3_readSegment_89 : decode cX3_readSegment 89 = .ok (.aload_n 0, 1) := by decide +kernel
theorem dX3_readSegment_90 : decode cX3_readSegment 90 = .ok (.getfield 77, 3) := by decide +kernel
theorem dX3_readSegment_93 : decode cX3_readSegment 93 = .ok (.invokestatic 37, 3) := by decide +kernel
theorem dX3_readSegment_96 : decode cX3_readSegment 96 = .ok (.putfield 163, 3) := by decide +kernel
theorem dX3_readSegment_99 : decode cX3_readSegment 99 = .ok (.aload_n 0, 1) := by decide +kernel
theorem dX3_readSegment_100 : decode cX3_readSegment 100 = .ok (.aload_n 0, 1) := by decide +kernel
theorem dX3_readSegment_101 : decode cX3_readSegment 101 = .ok (.getfield 19, 3) := by decide +kernel
theorem dX3_readSegment_104 : decode cX3_readSegment 104 = .ok (.aload_n 0, 1) := by decide +kernel
theorem dX3_readSegment_105 : decode cX3_readSegment 105 = .ok (.getfield 77, 3) := by decide +kernel
theorem dX3_readSegment_108 : decode cX3_readSegment 108 = .ok (.iconst 2, 1) := by decide +kernel
theorem dX3_readSegment_109 : decode cX3_readSegment 109 = .ok (.iadd, 1) := by decide +kernel
theorem dX3_readSegment_110 : decode cX3_readSegment 110 = .ok (.invokestatic 37, 3) := by decide +kernel
theorem dX3_readSegment_113 : decode cX3_readSegment 113 = .ok (.putfield 166, 3) := by decide +kernel
theorem dX3_readSegment_116 : decode cX3_readSegment 116 = .ok (.aload_n 0, 1) := by decide +kernel
theorem dX3_readSegment_117 : decode cX3_readSegment 117 = .ok (.aload_n 0, 1) := by decide +kernel
theorem dX3_readSegment_118 : decode cX3_readSegment 118 = .ok (.getfield 19, 3) := by decide +kernel
theorem dX3_readSegment_121 : decode cX3_readSegment 121 = .ok (.aload_n 0, 1) := by decide +kernel
theorem dX3_readSegment_122 : decode cX3_readSegment 122 = .ok (.getfield 77, 3) := by decide +kernel
theorem dX3_readSegment_125 : decode cX3_readSegment 125 = .ok (.iconst 4, 1) := by decide +kernel
theorem dX3_readSegment_126 : decode cX3_readSegment 126 = .ok (.iadd, 1) := by decide +kernel
theorem dX3_readSegment_127 : decode cX3_readSegment 127 = .ok (.invokestatic 48, 3) := by decide +kernel
theorem dX3_readSegment_130 : decode cX3_readSegment 130 = .ok (.putfield 169, 3) := by decide +kernel
theorem dX3_readSegment_133 : decode cX3_readSegment 133 = .ok (.aload_n 0, 1) := by decide +kernel
theorem dX3_readSegment_134 : decode cX3_readSegment 134 = .ok (.aload_n 0, 1) := by decide +kernel
theorem dX3_readSegment_135 : decode cX3_readSegment 135 = .ok (.getfield 19, 3) := by decide +kernel
theorem dX3_readSegment_138 : decode cX3_readSegment 138 = .ok (.aload_n 0, 1) := by decide +kernel
theorem dX3_readSegment_139 : decode cX3_readSegment 139 = .ok (.getfield 77, 3) := by decide +kernel
theorem dX3_readSegment_142 : decode cX3_readSegment 142 = .ok (.bipush 8, 2) := by decide +kernel
theorem dX3_readSegment_144 : decode cX3_readSegment 144 = .ok (.iadd, 1) := by decide +kernel
theorem dX3_readSegment_145 : decode cX3_readSegment 145 = .ok (.invokestatic 48, 3) := by decide +kernel
theorem dX3_readSegment_148 : decode cX3_readSegment 148 = .ok (.putfield 172, 3) := by decide +kernel
theorem dX3_readSegment_151 : decode cX3_readSegment 151 = .ok (.aload_n 0, 1) := by decide +kernel
theorem dX3_readSegment_152 : decode cX3_readSegment 152 = .ok (.aload_n 0, 1) := by decide +kernel
theorem dX3_readSegment_153 : decode cX3_readSegment 153 = .ok (.getfield 19, 3) := by decide +kernel
theorem dX3_readSegment_156 : decode cX3_readSegment 156 = .ok (.aload_n 0, 1) := by decide +kernel
theorem dX3_readSegment_157 : decode cX3_readSegment 157 = .ok (.getfield 77, 3) := by decide +kernel
theorem dX3_readSegment_160 : decode cX3_readSegment 160 = .ok (.bipush 13, 2) := by decide +kernel
theorem dX3_readSegment_162 : decode cX3_readSegment 162 = .ok (.iadd, 1) := by decide +kernel
theorem dX3_readSegment_163 : decode cX3_readSegment 163 = .ok (.invokestatic 60, 3) := by decide +kernel
theorem dX3_readSegment_166 : decode cX3_readSegment 166 = .ok (.putfield 175, 3) := by decide +kernel
theorem dX3_readSegment_169 : decode cX3_readSegment 169 = .ok (.aload_n 0, 1) := by decide +kernel
theorem dX3_readSegment_170 : decode cX3_readSegment 170 = .ok (.aload_n 0, 1) := by decide +kernel
theorem dX3_readSegment_171 : decode cX3_readSegment 171 = .ok (.getfield 19, 3) := by decide +kernel
theorem dX3_readSegment_174 : decode cX3_readSegment 174 = .ok (.aload_n 0, 1) := by decide +kernel
theorem dX3_readSegment_175 : decode cX3_readSegment 175 = .ok (.getfield 77, 3) := by decide +kernel
theorem dX3_readSegment_178 : decode cX3_readSegment 178 = .ok (.bipush 14, 2) := by decide +kernel
theorem dX3_readSegment_180 : decode cX3_readSegment 180 = .ok (.iadd, 1) := by decide +kernel
theorem dX3_readSegment_181 : decode cX3_readSegment 181 = .ok (.invokestatic 37, 3) := by decide +kernel
theorem dX3_readSegment_184 : decode cX3_readSegment 184 = .ok (.putfield 178, 3) := by decide +kernel
theorem dX3_readSegment_187 : decode cX3_readSegment 187 = .ok (.aload_n 0, 1) := by decide +kernel
theorem dX3_readSegment_188 : decode cX3_readSegment 188 = .ok (.aload_n 0, 1) := by decide +kernel
theorem dX3_readSegment_189 : decode cX3_readSegment 189 = .ok (.getfield 77, 3) := by decide +kernel
theorem dX3_readSegment_192 : decode cX3_readSegment 192 = .ok (.iload_n 1, 1) := by decide +kernel
theorem dX3_readSegment_193 : decode cX3_readSegment 193 = .ok (.iadd, 1) := by decide +kernel
theorem dX3_readSegment_194 : decode cX3_readSegment 194 = .ok (.putfield 181, 3) := by decide +kernel
theorem dX3_readSegment_197 : decode cX3_readSegment 197 = .ok (.aload_n 0, 1) := by decide +kernel
theorem dX3_readSegment_198 : decode cX3_readSegment 198 = .ok (.aload_n 0, 1) := by decide +kernel
theorem dX3_readSegment_199 : decode cX3_readSegment 199 = .ok (.getfield 80, 3) := by decide +kernel
theorem dX3_readSegment_202 : decode cX3_readSegment 202 = .ok (.iload_n 1, 1) := by decide +kernel
theorem dX3_readSegment_203 : decode cX3_readSegment 203 = .ok (.isub, 1) := by decide +kernel
theorem dX3_readSegment_204 : decode cX3_readSegment 204 = .ok (.putfield 184, 3) := by decide +kernel
theorem dX3_readSegment_207 : decode cX3_readSegment 207 = .ok (.iconst 1, 1) := by decide +kernel
theorem dX3_readSegment_208 : decode cX3_readSegment 208 = .ok (.ireturn, 1) := by decide +kernel
theorem wX3_readSegment {x : GX} {n0 sl0 : Nat} (X : Cx x cX3_readSegment RX3 (some .boolean) n0 sl0 2 39) {out : Int32 × Mm} (hE : Ends x n0 sl0 (some (pI out.1)) out.2) (hn : xn x = 2) (fu : Nat)   (a0 : Nat)  (M : Mm) (h : fX3_readSegment fu  a0 M = some out) : Gw x M 0 [(0, pR (some a0))] [] := by
  unfold fX3_readSegment at h
  refine g_aload_n X (pc := 0) 0 rfl rfl dX3_readSegment_0 ?_
  obtain ⟨v1, ev1, h⟩ := bd h
  refine g_getR X (pc := 1) fk_3_0 rfl rfl ev1 tb_158 dX3_readSegment_1 ?_
  refine g_aload_n X (pc := 4) 0 rfl rfl dX3_readSegment_4 ?_
  obtain ⟨v2, ev2, h⟩ := bd h
  refine g_getI X (pc := 5) fk_3_10 rfl rfl ev2 tb_184 dX3_readSegment_5 ?_
  refine g_bipush X (pc := 8) (v := 12) dX3_readSegment_8 (by decide) ?_
  refine g_iadd X (pc := 10) dX3_readSegment_10 ?_
  obtain ⟨v4, M3, eM3, h⟩ := b2d h
  refine g_callSN X (pc := 11) (M' := M3) (ro := some (pI v4)) (as := [pR v1, pI (v2 + (12 : Int32))]) (as' := [pI (v2 + (12 : Int32)), pR v1]) (st := []) (ctX11_one _ _ _ _ _ _ fu  v1 (v2 + (12 : Int32)) M _ eM3) tb_415 (List.mem_of_getElem? (i := 13) rfl) tb_414 tb_1 hyX11_one rfl rfl ⟨by decide, by decide⟩ (Nat.le_of_ble_eq_true rfl) dX3_readSegment_11 ?_
  refine g_iconst X (pc := 14) (v := 4) dX3_readSegment_14 (by decide) ?_
  refine g_ishr X (pc := 15) dX3_readSegment_15 ?_
  refine g_iconst X (pc := 16) (v := 4) dX3_readSegment_16 (by decide) ?_
  refine g_imul X (pc := 17) dX3_readSegment_17 ?_
  obtain ⟨v5, ev5, h⟩ := bd h
  refine g_nmI ev5 ?_
  refine g_istore_n X (pc := 18) [(1, pI v5), (0, pR (some a0))] rfl (lt_n hn (by decide)) rfl dX3_readSegment_18 ?_
  refine g_aload_n X (pc := 19) 1 rfl rfl dX3_readSegment_19 ?_
  obtain ⟨v6, ev6, h⟩ := bd h
  refine g_getI X (pc := 20) fk_3_11 rfl rfl ev6 tb_185 dX3_readSegment_20 ?_
  refine g_bipush X (pc := 23) (v := 20) dX3_readSegment_23 (by decide) ?_
  refine g_icmp_lt X (pc := 25) (tgt := 42) dX3_readSegment_25 (by decide) (fun hc => ?_) (fun hc => ?_)
  · have h := (if_pos hc).symm.trans h
    refine g_iconst X (pc := 42) (v := 0) dX3_readSegment_42 (by decide) ?_
    obtain ⟨hz, rfl⟩ := rN_some h
    exact g_nreturn X rfl hz hE dX3_readSegment_43
  · have h := (if_neg hc).symm.trans h
    refine g_iload_n X (pc := 28) 0 rfl rfl dX3_readSegment_28 ?_
    refine g_bipush X (pc := 29) (v := 20) dX3_readSegment_29 (by decide) ?_
    refine g_icmp_lt X (pc := 31) (tgt := 42) dX3_readSegment_31 (by decide) (fun hc => ?_) (fun hc => ?_)
    · have h := (if_pos hc).symm.trans h
      refine g_iconst X (pc := 42) (v := 0) dX3_readSegment_42 (by decide) ?_
      obtain ⟨hz, rfl⟩ := rN_some h
      exact g_nreturn X rfl hz hE dX3_readSegment_43
    · have h := (if_neg hc).symm.trans h
      refine g_iload_n X (pc := 34) 0 rfl rfl dX3_readSegment_34 ?_
      refine g_aload_n X (pc := 35) 1 rfl rfl dX3_readSegment_35 ?_
      obtain ⟨v7, ev7, h⟩ := bd h
      refine g_getI X (pc := 36) fk_3_11 rfl rfl ev7 tb_185 dX3_readSegment_36 ?_
      refine g_icmp_le X (pc := 39) (tgt := 44) dX3_readSegment_39 (by decide) (fun hc => ?_) (fun hc => ?_)
      · have h := (if_pos hc).symm.trans h
        refine g_aload_n X (pc := 44) 1 rfl rfl dX3_readSegment_44 ?_
        obtain ⟨v8, ev8, h⟩ := bd h
        refine g_getR X (pc := 45) fk_3_0 rfl rfl ev8 tb_158 dX3_readSegment_45 ?_
        refine g_aload_n X (pc := 48) 1 rfl rfl dX3_readSegment_48 ?_
        obtain ⟨v9, ev9, h⟩ := bd h
        refine g_getI X (pc := 49) fk_3_10 rfl rfl ev9 tb_184 dX3_readSegment_49 ?_
        refine g_aload_n X (pc := 52) 1 rfl rfl dX3_readSegment_52 ?_
        obtain ⟨v10, ev10, h⟩ := bd h
        refine g_getI X (pc := 53) fk_3_11 rfl rfl ev10 tb_185 dX3_readSegment_53 ?_
        refine g_aload_n X (pc := 56) 1 rfl rfl dX3_readSegment_56 ?_
        obtain ⟨v11, ev11, h⟩ := bd h
        refine g_getI X (pc := 57) fk_3_1 rfl rfl ev11 tb_161 dX3_readSegment_57 ?_
        refine g_aload_n X (pc := 60) 1 rfl rfl dX3_readSegment_60 ?_
        obtain ⟨v12, ev12, h⟩ := bd h
        refine g_getR X (pc := 61) fk_3_14 rfl rfl ev12 tb_188 dX3_readSegment_61 ?_
        obtain ⟨v13, ev13, h⟩ := bd h
        refine g_getI X (pc := 64) fk_4_1 rfl rfl ev13 tb_101 dX3_readSegment_64 ?_
        refine g_aload_n X (pc := 67) 1 rfl rfl dX3_readSegment_67 ?_
        obtain ⟨v14, ev14, h⟩ := bd h
        refine g_getI X (pc := 68) fk_3_11 rfl rfl ev14 tb_185 dX3_readSegment_68 ?_
        obtain ⟨v16, M15, eM15, h⟩ := b2d h
        refine g_callSN X (pc := 71) (M' := M15) (ro := some (pI v16)) (as := [pI v11, pI v13, pI v14]) (as' := [pI v14, pI v13, pI v11]) (st := [pI v10, pI v9, pR v8]) (ctX11_pseudoSum _ _ _ _ _ _ fu  v11 v13 v14 M3 _ eM15) tb_619 (List.mem_of_getElem? (i := 21) rfl) tb_618 tb_1 hyX11_pseudoSum rfl rfl ⟨by decide, by decide⟩ (Nat.le_of_ble_eq_true rfl) dX3_readSegment_71 ?_
        obtain ⟨v18, M17, eM17, h⟩ := b2d h
        refine g_callSN X (pc := 74) (M' := M17) (ro := some (pI v18)) (as := [pR v8, pI v9, pI v10, pI v16]) (as' := [pI v16, pI v10, pI v9, pR v8]) (st := []) (ctX11_added _ _ _ _ _ _ fu  v8 v9 v10 v16 M15 _ eM17) tb_622 (List.mem_of_getElem? (i := 14) rfl) tb_621 tb_1 hyX11_added rfl rfl ⟨by decide, by decide⟩ (Nat.le_of_ble_eq_true rfl) dX3_readSegment_74 ?_
        refine g_ldc X (pc := 77) tb_718 dX3_readSegment_77 ?_
        refine g_icmp_eq X (pc := 79) (tgt := 84) dX3_readSegment_79 (by decide) (fun hc => ?_) (fun hc => ?_)
        · have h := (if_pos hc).symm.trans h
          refine g_aload_n X (pc := 84) 1 rfl rfl dX3_readSegment_84 ?_
          refine g_aload_n X (pc := 85) 1 rfl rfl dX3_readSegment_85 ?_
          obtain ⟨v19, ev19, h⟩ := bd h
          refine g_getR X (pc := 86) fk_3_0 rfl rfl ev19 tb_158 dX3_readSegment_86 ?_
          refine g_aload_n X (pc := 89) 1 rfl rfl dX3_readSegment_89 ?_
          obtain ⟨v20, ev20, h⟩ := bd h
          refine g_getI X (pc := 90) fk_3_10 rfl rfl ev20 tb_184 dX3_readSegment_90 ?_
          obtain ⟨v22, M21, eM21, h⟩ := b2d h
          refine g_callSN X (pc := 93) (M' := M21) (ro := some (pI v22)) (as := [pR v19, pI v20]) (as' := [pI v20, pR v19]) (st := [pR (some a0)]) (ctX11_two _ _ _ _ _ _ fu  v19 v20 M17 _ eM21) tb_398 (List.mem_of_getElem? (i := 11) rfl) tb_397 tb_1 hyX11_two rfl rfl ⟨by decide, by decide⟩ (Nat.le_of_ble_eq_true rfl) dX3_readSegment_93 ?_
          obtain ⟨M23, eM23, h⟩ := bd h
          refine g_putI X (pc := 96) fk_3_2 rfl rfl rfl eM23 tb_165 (Or.inl rfl) dX3_readSegment_96 ?_
          refine g_aload_n X (pc := 99) 1 rfl rfl dX3_readSegment_99 ?_
          refine g_aload_n X (pc := 100) 1 rfl rfl dX3_readSegment_100 ?_
          obtain ⟨v24, ev24, h⟩ := bd h
          refine g_getR X (pc := 101) fk_3_0 rfl rfl ev24 tb_158 dX3_readSegment_101 ?_
          refine g_aload_n X (pc := 104) 1 rfl rfl dX3_readSegment_104 ?_
          obtain ⟨v25, ev25, h⟩ := bd h
          refine g_getI X (pc := 105) fk_3_10 rfl rfl ev25 tb_184 dX3_readSegment_105 ?_
          refine g_iconst X (pc := 108) (v := 2) dX3_readSegment_108 (by decide) ?_
          refine g_iadd X (pc := 109) dX3_readSegment_109 ?_
          obtain ⟨v27, M26, eM26, h⟩ := b2d h
          refine g_callSN X (pc := 110) (M' := M26) (ro := some (pI v27)) (as := [pR v24, pI (v25 + (2 : Int32))]) (as' := [pI (v25 + (2 : Int32)), pR v24]) (st := [pR (some a0)]) (ctX11_two _ _ _ _ _ _ fu  v24 (v25 + (2 : Int32)) M23 _ eM26) tb_398 (List.mem_of_getElem? (i := 11) rfl) tb_397 tb_1 hyX11_two rfl rfl ⟨by decide, by decide⟩ (Nat.le_of_ble_eq_true rfl) dX3_readSegment_110 ?_
          obtain ⟨M28, eM28, h⟩ := bd h
          refine g_putI X (pc := 113) fk_3_3 rfl rfl rfl eM28 tb_167 (Or.inl rfl) dX3_readSegment_113 ?_
          refine g_aload_n X (pc := 116) 1 rfl rfl dX3_readSegment_116 ?_
          refine g_aload_n X (pc := 117) 1 rfl rfl dX3_readSegment_117 ?_
          obtain ⟨v29, ev29, h⟩ := bd h
          refine g_getR X (pc := 118) fk_3_0 rfl rfl ev29 tb_158 dX3_readSegment_118 ?_
          refine g_aload_n X (pc := 121) 1 rfl rfl dX3_readSegment_121 ?_
          obtain ⟨v30, ev30, h⟩ := bd h
          refine g_getI X (pc := 122) fk_3_10 rfl rfl ev30 tb_184 dX3_readSegment_122 ?_
          refine g_iconst X (pc := 125) (v := 4) dX3_readSegment_125 (by decide) ?_
          refine g_iadd X (pc := 126) dX3_readSegment_126 ?_
          obtain ⟨v32, M31, eM31, h⟩ := b2d h
          refine g_callSN X (pc := 127) (M' := M31) (ro := some (pI v32)) (as := [pR v29, pI (v30 + (4 : Int32))]) (as' := [pI (v30 + (4 : Int32)), pR v29]) (st := [pR (some a0)]) (ctX11_four _ _ _ _ _ _ fu  v29 (v30 + (4 : Int32)) M28 _ eM31) tb_394 (List.mem_of_getElem? (i := 12) rfl) tb_393 tb_1 hyX11_four rfl rfl ⟨by decide, by decide⟩ (Nat.le_of_ble_eq_true rfl) dX3_readSegment_127 ?_
          obtain ⟨M33, eM33, h⟩ := bd h
          refine g_putI X (pc := 130) fk_3_4 rfl rfl rfl eM33 tb_170 (Or.inl rfl) dX3_readSegment_130 ?_
          refine g_aload_n X (pc := 133) 1 rfl rfl dX3_readSegment_133 ?_
          refine g_aload_n X (pc := 134) 1 rfl rfl dX3_readSegment_134 ?_
          obtain ⟨v34, ev34, h⟩ := bd h
          refine g_getR X (pc := 135) fk_3_0 rfl rfl ev34 tb_158 dX3_readSegment_135 ?_
          refine g_aload_n X (pc := 138) 1 rfl rfl dX3_readSegment_138 ?_
          obtain ⟨v35, ev35, h⟩ := bd h
          refine g_getI X (pc := 139) fk_3_10 rfl rfl ev35 tb_184 dX3_readSegment_139 ?_
          refine g_bipush X (pc := 142) (v := 8) dX3_readSegment_142 (by decide) ?_
          refine g_iadd X (pc := 144) dX3_readSegment_144 ?_
          obtain ⟨v37, M36, eM36, h⟩ := b2d h
          refine g_callSN X (pc := 145) (M' := M36) (ro := some (pI v37)) (as := [pR v34, pI (v35 + (8 : Int32))]) (as' := [pI (v35 + (8 : Int32)), pR v34]) (st := [pR (some a0)]) (ctX11_four _ _ _ _ _ _ fu  v34 (v35 + (8 : Int32)) M33 _ eM36) tb_394 (List.mem_of_getElem? (i := 12) rfl) tb_393 tb_1 hyX11_four rfl rfl ⟨by decide, by decide⟩ (Nat.le_of_ble_eq_true rfl) dX3_readSegment_145 ?_
          obtain ⟨M38, eM38, h⟩ := bd h
          refine g_putI X (pc := 148) fk_3_5 rfl rfl rfl eM38 tb_172 (Or.inl rfl) dX3_readSegment_148 ?_
          refine g_aload_n X (pc := 151) 1 rfl rfl dX3_readSegment_151 ?_
          refine g_aload_n X (pc := 152) 1 rfl rfl dX3_readSegment_152 ?_
          obtain ⟨v39, ev39, h⟩ := bd h
          refine g_getR X (pc := 153) fk_3_0 rfl rfl ev39 tb_158 dX3_readSegment_153 ?_
          refine g_aload_n X (pc := 156) 1 rfl rfl dX3_readSegment_156 ?_
          obtain ⟨v40, ev40, h⟩ := bd h
          refine g_getI X (pc := 157) fk_3_10 rfl rfl ev40 tb_184 dX3_readSegment_157 ?_
          refine g_bipush X (pc := 160) (v := 13) dX3_readSegment_160 (by decide) ?_
          refine g_iadd X (pc := 162) dX3_readSegment_162 ?_
          obtain ⟨v42, M41, eM41, h⟩ := b2d h
          refine g_callSN X (pc := 163) (M' := M41) (ro := some (pI v42)) (as := [pR v39, pI (v40 + (13 : Int32))]) (as' := [pI (v40 + (13 : Int32)), pR v39]) (st := [pR (some a0)]) (ctX11_one _ _ _ _ _ _ fu  v39 (v40 + (13 : Int32)) M38 _ eM41) tb_415 (List.mem_of_getElem? (i := 13) rfl) tb_414 tb_1 hyX11_one rfl rfl ⟨by decide, by decide⟩ (Nat.le_of_ble_eq_true rfl) dX3_readSegment_163 ?_
          obtain ⟨M43, eM43, h⟩ := bd h
          refine g_putI X (pc := 166) fk_3_6 rfl rfl rfl eM43 tb_175 (Or.inl rfl) dX3_readSegment_166 ?_
          refine g_aload_n X (pc := 169) 1 rfl rfl dX3_readSegment_169 ?_
          refine g_aload_n X (pc := 170) 1 rfl rfl dX3_readSegment_170 ?_
          obtain ⟨v44, ev44, h⟩ := bd h
          refine g_getR X (pc := 171) fk_3_0 rfl rfl ev44 tb_158 dX3_readSegment_171 ?_
          refine g_aload_n X (pc := 174) 1 rfl rfl dX3_readSegment_174 ?_
          obtain ⟨v45, ev45, h⟩ := bd h
          refine g_getI X (pc := 175) fk_3_10 rfl rfl ev45 tb_184 dX3_readSegment_175 ?_
          refine g_bipush X (pc := 178) (v := 14) dX3_readSegment_178 (by decide) ?_
          refine g_iadd X (pc := 180) dX3_readSegment_180 ?_
          obtain ⟨v47, M46, eM46, h⟩ := b2d h
          refine g_callSN X (pc := 181) (M' := M46) (ro := some (pI v47)) (as := [pR v44, pI (v45 + (14 : Int32))]) (as' := [pI (v45 + (14 : Int32)), pR v44]) (st := [pR (some a0)]) (ctX11_two _ _ _ _ _ _ fu  v44 (v45 + (14 : Int32)) M43 _ eM46) tb_398 (List.mem_of_getElem? (i := 11) rfl) tb_397 tb_1 hyX11_two rfl rfl ⟨by decide, by decide⟩ (Nat.le_of_ble_eq_true rfl) dX3_readSegment_181 ?_
          obtain ⟨M48, eM48, h⟩ := bd h
          refine g_putI X (pc := 184) fk_3_7 rfl rfl rfl eM48 tb_177 (Or.inl rfl) dX3_readSegment_184 ?_
          refine g_aload_n X (pc := 187) 1 rfl rfl dX3_readSegment_187 ?_
          refine g_aload_n X (pc := 188) 1 rfl rfl dX3_readSegment_188 ?_
          obtain ⟨v49, ev49, h⟩ := bd h
          refine g_getI X (pc := 189) fk_3_10 rfl rfl ev49 tb_184 dX3_readSegment_189 ?_
          refine g_iload_n X (pc := 192) 0 rfl rfl dX3_readSegment_192 ?_
          refine g_iadd X (pc := 193) dX3_readSegment_193 ?_
          obtain ⟨M50, eM50, h⟩ := bd h
          refine g_putI X (pc := 194) fk_3_8 rfl rfl rfl eM50 tb_180 (Or.inl rfl) dX3_readSegment_194 ?_
          refine g_aload_n X (pc := 197) 1 rfl rfl dX3_readSegment_197 ?_
          refine g_aload_n X (pc := 198) 1 rfl rfl dX3_readSegment_198 ?_
          obtain ⟨v51, ev51, h⟩ := bd h
          refine g_getI X (pc := 199) fk_3_11 rfl rfl ev51 tb_185 dX3_readSegment_199 ?_
          refine g_iload_n X (pc := 202) 0 rfl rfl dX3_readSegment_202 ?_
          refine g_isub X (pc := 203) dX3_readSegment_203 ?_
          obtain ⟨M52, eM52, h⟩ := bd h
          refine g_putI X (pc := 204) fk_3_9 rfl rfl rfl eM52 tb_182 (Or.inl rfl) dX3_readSegment_204 ?_
          refine g_iconst X (pc := 207) (v := 1) dX3_readSegment_207 (by decide) ?_
          obtain ⟨hz, rfl⟩ := rN_some h
          exact g_nreturn X rfl hz hE dX3_readSegment_208
        · have h := (if_neg hc).symm.trans h
          refine g_iconst X (pc := 82) (v := 0) dX3_readSegment_82 (by decide) ?_
          obtain ⟨hz, rfl⟩ := rN_some h
          exact g_nreturn X rfl hz hE dX3_readSegment_83
      · have h := (if_neg hc).symm.trans h
        refine g_iconst X (pc := 42) (v := 0) dX3_readSegment_42 (by decide) ?_
        obtain ⟨hz, rfl⟩ := rN_some h
        exact g_nreturn X rfl hz hE dX3_readSegment_43
theorem hyX3_readSegment : yX3_readSegment.cls ≠ "java/lang/invoke/MethodHandle" ∧ yX3_readSegment.cls ≠ "java/lang/invoke/VarHandle" ∧ (parseMethodDescriptor yX3_readSegment.desc).map (fun d => d.parameters.length) = some 0 := ⟨by decide +kernel, by decide +kernel, by decide +kernel⟩
theorem ctX3_readSegment (l : Launch) (E : Nat → Nat) (D : va_G) (dA : Nat → ClassId) (lo : Nat) (H0 : Heap) (fu : Nat) (a0 : Nat) (M : Mm) (out : Int32 × Mm) (h : fX3_readSegment fu a0 M = some out) : Ct l E D dA lo H0 yX3_readSegment cX3_readSegment 2 (some .boolean) 2 39 [pR (some a0)] M (some (pI out.1)) out.2 := by
  refine ct_of (by decide +kernel) (Nat.le_of_ble_eq_true rfl) ?_
  intro x hl he hd ha ho hh hn hin X hE
  exact wX3_readSegment X hE hn fu a0 M h
/-! WebHost$Link.<init>(LWebHost$Wire;)V -/
def fX4_init (fu : Nat)  (a0 : Nat) (a1 : Option Nat)  (M : Mm) : Option (Mm) :=
    (pG M 4 261 (some a0) a1).bind fun M1 =>
    b2 (mkA M1 100 (1514 : Int32)) fun v2 M3 =>
    (pG M3 4 256 (some a0) (some v2)).bind fun M4 =>
    b2 (mkA M4 101 (16 : Int32)) fun v5 M6 =>
    (pG M6 4 266 (some a0) (some v5)).bind fun M7 =>
    b2 (mkA M7 101 (16 : Int32)) fun v8 M9 =>
    (pG M9 4 267 (some a0) (some v8)).bind fun M10 =>
    b2 (mkA M10 101 (16 : Int32)) fun v11 M12 =>
    (pG M12 4 268 (some a0) (some v11)).bind fun M13 =>
    b2 (mkA M13 101 (16 : Int32)) fun v14 M15 =>
    (pG M15 4 269 (some a0) (some v14)).bind fun M16 =>
    b2 (mkA M16 116 (8 : Int32)) fun v17 M18 =>
    (pG M18 4 270 (some a0) (some v17)).bind fun M19 =>
    some M19
theorem dX4_init_0 : decode cX4_init 0 = .ok (.aload_n 0, 1) := by decide +kernel
theorem dX4_init_1 : decode cX4_init 1 = .ok (.invokespecial 3, 3) := by decide +kernel
theorem dX4_init_4 : decode cX4_init 4 = .ok (.aload_n 0, 1) := by decide +kernel
theorem dX4_init_5 : decode cX4_init 5 = .ok (.aload_n 1, 1) := by decide +kernel
theorem dX4_init_6 : decode cX4_init 6 = .ok (.putfield 9, 3) := by decide +kernel
theorem dX4_init_9 : decode cX4_init 9 = .ok (.aload_n 0, 1) := by decide +kernel
theorem dX4_init_10 : decode cX4_init 10 = .ok (.sipush 1514, 3) := by decide +kernel
theorem dX4_init_13 : decode cX4_init 13 = .ok (.newarray .byte, 2) := by decide +kernel
theorem dX4_init_15 : decode cX4_init 15 = .ok (.putfield 15, 3) := by decide +kernel
theorem dX4_init_18 : decode cX4_init 18 = .ok (.aload_n 0, 1) := by decide +kernel
theorem dX4_init_19 : decode cX4_init 19 = .ok (.bipush 16, 2) := by decide +kernel
theorem dX4_init_21 : decode cX4_init 21 = .ok (.newarray .int, 2) := by decide +kernel
theorem dX4_init_23 : decode cX4_init 23 = .ok (.putfield 19, 3) := by decide +kernel
theorem dX4_init_26 : decode cX4_init 26 = .ok (.aload_n 0, 1) := by decide +kernel
theorem dX4_init_27 : decode cX4_init 27 = .ok (.bipush 16, 2) := by decide +kernel
theorem dX4_init_29 : decode cX4_init 29 = .ok (.newarray .int, 2) := by decide +kernel
theorem dX4_init_31 : decode cX4_init 31 = .ok (.putfield 23, 3) := by decide +kernel
theorem dX4_init_34 : decode cX4_init 34 = .ok (.aload_n 0, 1) := by decide +kernel
theorem dX4_init_35 : decode cX4_init 35 = .ok (.bipush 16, 2) := by decide +kernel
theorem dX4_init_37 : decode cX4_init 37 = .ok (.newarray .int, 2) := by decide +kernel
theorem dX4_init_39 : decode cX4_init 39 = .ok (.putfield 26, 3) := by decide +kernel
theorem dX4_init_42 : decode cX4_init 42 = .ok (.aload_n 0, 1) := by decide +kernel
theorem dX4_init_43 : decode cX4_init 43 = .ok (.bipush 16, 2) := by decide +kernel
theorem dX4_init_45 : decode cX4_init 45 = .ok (.newarray .int, 2) := by decide +kernel
theorem dX4_init_47 : decode cX4_init 47 = .ok (.putfield 29, 3) := by decide +kernel
theorem dX4_init_50 : decode cX4_init 50 = .ok (.aload_n 0, 1) := by decide +kernel
theorem dX4_init_51 : decode cX4_init 51 = .ok (.bipush 8, 2) := by decide +kernel
theorem dX4_init_53 : decode cX4_init 53 = .ok (.anewarray 32, 3) := by decide +kernel
theorem dX4_init_56 : decode cX4_init 56 = .ok (.putfield 34, 3) := by decide +kernel
theorem dX4_init_59 : decode cX4_init 59 = .ok (.return_, 1) := by decide +kernel
theorem wX4_init {x : GX} {n0 sl0 : Nat} (X : Cx x cX4_init RX4 none n0 sl0 1 12) {out : Mm} (hE : Ends x n0 sl0 none out) (hn : xn x = 2) (hin : (xt x).name = "<init>") (fu : Nat)   (a0 : Nat) (a1 : Option Nat)  (M : Mm) (h : fX4_init fu  a0 a1 M = some out) : Gw x M 0 [(0, pR (some a0)), (1, pR a1)] [] := by
  unfold fX4_init at h
  refine g_aload_n X (pc := 0) 0 rfl rfl dX4_init_0 ?_
  refine g_objInit X (pc := 1) (o := (some a0)) ⟨_, rfl⟩ tb_95 tb_32 tb_33 ⟨by decide, Nat.le_of_ble_eq_true rfl⟩ dX4_init_1 ?_
  refine g_aload_n X (pc := 4) 0 rfl rfl dX4_init_4 ?_
  refine g_aload_n X (pc := 5) 1 rfl rfl dX4_init_5 ?_
  obtain ⟨M1, eM1, h⟩ := bd h
  refine g_putG X (pc := 6) fk_4_5 rfl rfl rfl eM1 tb_109 (Or.inr ⟨rfl, hin, rfl⟩) dX4_init_6 ?_
  refine g_aload_n X (pc := 9) 0 rfl rfl dX4_init_9 ?_
  refine g_sipush X (pc := 10) (v := 1514) dX4_init_10 (by decide) ?_
  obtain ⟨v2, M3, eM3, h⟩ := b2d h
  refine g_newarray X (pc := 13) (at9 := .byte) (k := 0) rfl (by decide) rfl (by decide) (fun _ _ q => q) tb_53 eM3 dX4_init_13 ?_
  obtain ⟨M4, eM4, h⟩ := bd h
  refine g_putG X (pc := 15) fk_4_0 rfl rfl rfl eM4 tb_97 (Or.inr ⟨rfl, hin, rfl⟩) dX4_init_15 ?_
  refine g_aload_n X (pc := 18) 0 rfl rfl dX4_init_18 ?_
  refine g_bipush X (pc := 19) (v := 16) dX4_init_19 (by decide) ?_
  obtain ⟨v5, M6, eM6, h⟩ := b2d h
  refine g_newarray X (pc := 21) (at9 := .int) (k := 1) rfl (by decide) rfl (by decide) (fun _ _ q => q) tb_89 eM6 dX4_init_21 ?_
  obtain ⟨M7, eM7, h⟩ := bd h
  refine g_putG X (pc := 23) fk_4_10 rfl rfl rfl eM7 tb_114 (Or.inr ⟨rfl, hin, rfl⟩) dX4_init_23 ?_
  refine g_aload_n X (pc := 26) 0 rfl rfl dX4_init_26 ?_
  refine g_bipush X (pc := 27) (v := 16) dX4_init_27 (by decide) ?_
  obtain ⟨v8, M9, eM9, h⟩ := b2d h
  refine g_newarray X (pc := 29) (at9 := .int) (k := 1) rfl (by decide) rfl (by decide) (fun _ _ q => q) tb_89 eM9 dX4_init_29 ?_
  obtain ⟨M10, eM10, h⟩ := bd h
  refine g_putG X (pc := 31) fk_4_11 rfl rfl rfl eM10 tb_115 (Or.inr ⟨rfl, hin, rfl⟩) dX4_init_31 ?_
  refine g_aload_n X (pc := 34) 0 rfl rfl dX4_init_34 ?_
  refine g_bipush X (pc := 35) (v := 16) dX4_init_35 (by decide) ?_
  obtain ⟨v11, M12, eM12, h⟩ := b2d h
  refine g_newarray X (pc := 37) (at9 := .int) (k := 1) rfl (by decide) rfl (by decide) (fun _ _ q => q) tb_89 eM12 dX4_init_37 ?_
  obtain ⟨M13, eM13, h⟩ := bd h
  refine g_putG X (pc := 39) fk_4_12 rfl rfl rfl eM13 tb_116 (Or.inr ⟨rfl, hin, rfl⟩) dX4_init_39 ?_
  refine g_aload_n X (pc := 42) 0 rfl rfl dX4_init_42 ?_
  refine g_bipush X (pc := 43) (v := 16) dX4_init_43 (by decide) ?_
  obtain ⟨v14, M15, eM15, h⟩ := b2d h
  refine g_newarray X (pc := 45) (at9 := .int) (k := 1) rfl (by decide) rfl (by decide) (fun _ _ q => q) tb_89 eM15 dX4_init_45 ?_
  obtain ⟨M16, eM16, h⟩ := bd h
  refine g_putG X (pc := 47) fk_4_13 rfl rfl rfl eM16 tb_117 (Or.inr ⟨rfl, hin, rfl⟩) dX4_init_47 ?_
  refine g_aload_n X (pc := 50) 0 rfl rfl dX4_init_50 ?_
  refine g_bipush X (pc := 51) (v := 8) dX4_init_51 (by decide) ?_
  obtain ⟨v17, M18, eM18, h⟩ := b2d h
  refine g_anewarray X (pc := 53) (k := 3) rfl (by decide) (by decide) tb_96 eM18 dX4_init_53 ?_
  obtain ⟨M19, eM19, h⟩ := bd h
  refine g_putG X (pc := 56) fk_4_14 rfl rfl rfl eM19 tb_118 (Or.inr ⟨rfl, hin, rfl⟩) dX4_init_56 ?_
  obtain rfl := Option.some.inj h
  exact g_return X hE dX4_init_59
theorem hyX4_init : yX4_init.cls ≠ "java/lang/invoke/MethodHandle" ∧ yX4_init.cls ≠ "java/lang/invoke/VarHandle" ∧ (parseMethodDescriptor yX4_init.desc).map (fun d => d.parameters.length) = some 1 := ⟨by decide +kernel, by decide +kernel, by decide +kernel⟩
theorem ctX4_init (l : Launch) (E : Nat → Nat) (D : va_G) (dA : Nat → ClassId) (lo : Nat) (H0 : Heap) (fu : Nat) (a0 : Nat) (a1 : Option Nat) (M : Mm) (out : Mm) (h : fX4_init fu a0 a1 M = some out) : Ct l E D dA lo H0 yX4_init cX4_init 2 none 1 12 [pR (some a0), pR a1] M none out := by
  refine ct_of (by decide +kernel) (Nat.le_of_ble_eq_true rfl) ?_
  intro x hl he hd ha ho hh hn hin X hE
  exact wX4_init X hE hn hin fu a0 a1 M h
/-! WebHost$Link.restart(IIIII)V -/
def fX4_restart (fu : Nat)  (a0 : Nat) (a1 : Int32) (a2 : Int32) (a3 : Int32) (a4 : Int32) (a5 : Int32)  (M : Mm) : Option (Mm) :=
    (pF M 4 257 (some a0) a1).bind fun M1 =>
    (pF M1 4 262 (some a0) a2).bind fun M2 =>
    (pF M2 4 263 (some a0) a3).bind fun M3 =>
    (pF M3 4 258 (some a0) a4).bind fun M4 =>
    (pF M4 4 259 (some a0) a5).bind fun M5 =>
    (pF M5 4 264 (some a0) (1 : Int32)).bind fun M6 =>
    (pF M6 4 265 (some a0) (0 : Int32)).bind fun M7 =>
    (pF M7 4 260 (some a0) (0 : Int32)).bind fun M8 =>
    some M8
theorem dX4_restart_0 : decode cX4_restart 0 = .ok (.aload_n 0, 1) := by decide +kernel
theorem dX4_restart_1 : decode cX4_restart 1 = .ok (.iload_n 1, 1) := by decide +kernel
theorem dX4_restart_2 : decode cX4_restart 2 = .ok (.putfield 38, 3) := by decide +kernel
theorem dX4_restart_5 : decode cX4_restart 5 = .ok (.aload_n 0, 1) := by decide +kernel
theorem dX4_restart_6 : decode cX4_restart 6 = .ok (.iload_n 2, 1) := by decide +kernel
theorem dX4_restart_7 : decode cX4_restart 7 = .ok (.putfield 42, 3) := by decide +kernel
theorem dX4_restart_10 : decode cX4_restart 10 = .ok (.aload_n 0, 1) := by decide +kernel
theorem dX4_restart_11 : decode cX4_restart 11 = .ok (.iload_n 3, 1) := by decide +kernel
theorem dX4_restart_12 : decode cX4_restart 12 = .ok (.putfield 45, 3) := by decide +kernel
theorem dX4_restart_15 : decode cX4_restart 15 = .ok (.aload_n 0, 1) := by decide +kernel
theorem dX4_restart_16 : decode cX4_restart 16 = .ok (.iload 4, 2) := by decide +kernel
theorem dX4_restart_18 : decode cX4_restart 18 = .ok (.putfield 48, 3) := by decide +kernel
theorem dX4_restart_21 : decode cX4_restart 21 = .ok (.aload_n 0, 1) := by decide +kernel
theorem dX4_restart_22 : decode cX4_restart 22 = .ok (.iload 5, 2) := by decide +kernel
theorem dX4_restart_24 : decode cX4_restart 24 = .ok (.putfield 51, 3) := by decide +kernel
theorem dX4_restart_27 : decode cX4_restart 27 = .ok (.aload_n 0, 1) := by decide +kernel
theorem dX4_restart_28 : decode cX4_restart 28 = .ok (.iconst 1, 1) := by decide +kernel
theorem dX4_restart_29 : decode cX4_restart 29 = .ok (.putfield 54, 3) := by decide +kernel
theorem dX4_restart_32 : decode cX4_restart 32 = .ok (.aload_n 0, 1) := by decide +kernel
theorem dX4_restart_33 : decode cX4_restart 33 = .ok (.iconst 0, 1) := by decide +kernel
theorem dX4_restart_34 : decode cX4_restart 34 = .ok (.putfield 57, 3) := by decide +kernel
theorem dX4_restart_37 : decode cX4_restart 37 = .ok (.aload_n 0, 1) := by decide +kernel
theorem dX4_restart_38 : decode cX4_restart 38 = .ok (.iconst 0, 1) := by decide +kernel
theorem dX4_restart_39 : decode cX4_restart 39 = .ok (.putfield 60, 3) := by decide +kernel
theorem dX4_restart_42 : decode cX4_restart 42 = .ok (.return_, 1) := by decide +kernel
theorem wX4_restart {x : GX} {n0 sl0 : Nat} (X : Cx x cX4_restart RX4 none n0 sl0 0 0) {out : Mm} (hE : Ends x n0 sl0 none out) (hn : xn x = 6) (fu : Nat)   (a0 : Nat) (a1 : Int32) (a2 : Int32) (a3 : Int32) (a4 : Int32) (a5 : Int32)  (M : Mm) (h : fX4_restart fu  a0 a1 a2 a3 a4 a5 M = some out) : Gw x M 0 [(0, pR (some a0)), (1, pI a1), (2, pI a2), (3, pI a3), (4, pI a4), (5, pI a5)] [] := by
  unfold fX4_restart at h
  refine g_aload_n X (pc := 0) 0 rfl rfl dX4_restart_0 ?_
  refine g_iload_n X (pc := 1) 1 rfl rfl dX4_restart_1 ?_
  obtain ⟨M1, eM1, h⟩ := bd h
  refine g_putI X (pc := 2) fk_4_1 rfl rfl rfl eM1 tb_100 (Or.inl rfl) dX4_restart_2 ?_
  refine g_aload_n X (pc := 5) 0 rfl rfl dX4_restart_5 ?_
  refine g_iload_n X (pc := 6) 2 rfl rfl dX4_restart_6 ?_
  obtain ⟨M2, eM2, h⟩ := bd h
  refine g_putI X (pc := 7) fk_4_6 rfl rfl rfl eM2 tb_110 (Or.inl rfl) dX4_restart_7 ?_
  refine g_aload_n X (pc := 10) 0 rfl rfl dX4_restart_10 ?_
  refine g_iload_n X (pc := 11) 3 rfl rfl dX4_restart_11 ?_
  obtain ⟨M3, eM3, h⟩ := bd h
  refine g_putI X (pc := 12) fk_4_7 rfl rfl rfl eM3 tb_111 (Or.inl rfl) dX4_restart_12 ?_
  refine g_aload_n X (pc := 15) 0 rfl rfl dX4_restart_15 ?_
  refine g_iload X (pc := 16) 4 rfl dX4_restart_16 ?_
  obtain ⟨M4, eM4, h⟩ := bd h
  refine g_putI X (pc := 18) fk_4_2 rfl rfl rfl eM4 tb_103 (Or.inl rfl) dX4_restart_18 ?_
  refine g_aload_n X (pc := 21) 0 rfl rfl dX4_restart_21 ?_
  refine g_iload X (pc := 22) 5 rfl dX4_restart_22 ?_
  obtain ⟨M5, eM5, h⟩ := bd h
  refine g_putI X (pc := 24) fk_4_3 rfl rfl rfl eM5 tb_105 (Or.inl rfl) dX4_restart_24 ?_
  refine g_aload_n X (pc := 27) 0 rfl rfl dX4_restart_27 ?_
  refine g_iconst X (pc := 28) (v := 1) dX4_restart_28 (by decide) ?_
  obtain ⟨M6, eM6, h⟩ := bd h
  refine g_putI X (pc := 29) fk_4_8 rfl rfl rfl eM6 tb_112 (Or.inl rfl) dX4_restart_29 ?_
  refine g_aload_n X (pc := 32) 0 rfl rfl dX4_restart_32 ?_
  refine g_iconst X (pc := 33) (v := 0) dX4_restart_33 (by decide) ?_
  obtain ⟨M7, eM7, h⟩ := bd h
  refine g_putI X (pc := 34) fk_4_9 rfl rfl rfl eM7 tb_113 (Or.inl rfl) dX4_restart_34 ?_
  refine g_aload_n X (pc := 37) 0 rfl rfl dX4_restart_37 ?_
  refine g_iconst X (pc := 38) (v := 0) dX4_restart_38 (by decide) ?_
  obtain ⟨M8, eM8, h⟩ := bd h
  refine g_putI X (pc := 39) fk_4_4 rfl rfl rfl eM8 tb_107 (Or.inl rfl) dX4_restart_39 ?_
  obtain rfl := Option.some.inj h
  exact g_return X hE dX4_restart_42
theorem hyX4_restart : yX4_restart.cls ≠ "java/lang/invoke/MethodHandle" ∧ yX4_restart.cls ≠ "java/lang/invoke/VarHandle" ∧ (parseMethodDescriptor yX4_restart.desc).map (fun d => d.parameters.length) = some 5 := ⟨by decide +kernel, by decide +kernel, by decide +kernel⟩
theorem ctX4_restart (l : Launch) (E : Nat → Nat) (D : va_G) (dA : Nat → ClassId) (lo : Nat) (H0 : Heap) (fu : Nat) (a0 : Nat) (a1 : Int32) (a2 : Int32) (a3 : Int32) (a4 : Int32) (a5 : Int32) (M : Mm) (out : Mm) (h : fX4_restart fu a0 a1 a2 a3 a4 a5 M = some out) : Ct l E D dA lo H0 yX4_restart cX4_restart 6 none 0 0 [pR (some a0), pI a1, pI a2, pI a3, pI a4, pI a5] M none out := by
  refine ct_of (by decide +kernel) (Nat.le_of_ble_eq_true rfl) ?_
  intro x hl he hd ha ho hh hn hin X hE
  exact wX4_restart X hE hn fu a0 a1 a2 a3 a4 a5 M h
/-! WebHost$Link.newEntry()I -/
def fX4_newEntry_L48 (fu : Nat) (k25 : Nat → Int32 → Int32 → Mm → Option (Int32 × Mm)) (a0 : Nat) (a1 : Int32) (a2 : Int32)  (M : Mm) : Option (Int32 × Mm) :=
    k25 a0 a1 (a2 + (1 : Int32)) M
def fX4_newEntry_L25 (fu : Nat)  : Nat → Nat → Int32 → Int32 → Mm → Option (Int32 × Mm)
  | 0, _, _, _, _ => none
  | n + 1, a0, a1, a2, M =>
    if (16 : Int32) ≤ a2 then (
    some (a1, M))
    else (
    (gR M 4 269 (some a0)).bind fun v1 =>
    (gA M 101 v1 a2).bind fun v2 =>
    (gR M 4 269 (some a0)).bind fun v3 =>
    (gA M 101 v3 a1).bind fun v4 =>
    if v4 ≤ v2 then (
    fX4_newEntry_L48 fu (fun b0 b1 b2 M => fX4_newEntry_L25 fu  n b0 b1 b2 M) a0 a1 a2 M)
    else (
    fX4_newEntry_L48 fu (fun b0 b1 b2 M => fX4_newEntry_L25 fu  n b0 b1 b2 M) a0 a2 a2 M))
def fX4_newEntry (fu : Nat)  (a0 : Nat)  (M : Mm) : Option (Int32 × Mm) :=
    (gI M 4 265 (some a0)).bind fun v1 =>
    if (16 : Int32) ≤ v1 then (
    fX4_newEntry_L25 fu  fu a0 (0 : Int32) (1 : Int32) M)
    else (
    (gI M 4 265 (some a0)).bind fun v2 =>
    (pF M 4 265 (some a0) (v2 + (1 : Int32))).bind fun M3 =>
    some (v2, M3))
theorem dX4_newEntry_0 : decode cX4_newEntry 0 = .ok (.aload_n 0, 1) := by decide +kernel
theorem dX4_newEntry_1 : decode cX4_newEntry 1 = .ok (.getfield 57, 3) := by decide +kernel
theorem dX4_newEntry_4 : decode cX4_newEntry 4 = .ok (.bipush 16, 2) := by decide +kernel
theorem dX4_newEntry_6 : decode cX4_newEntry 6 = .ok (.if_icmp .ge 15, 3) := by decide +kernel
theorem dX4_newEntry_9 : decode cX4_newEntry 9 = .ok (.aload_n 0, 1) := by decide +kernel
theorem dX4_newEntry_10 : decode cX4_newEntry 10 = .ok (.dup, 1) := by decide +kernel
theorem dX4_newEntry_11 : decode cX4_newEntry 11 = .ok (.getfield 57, 3) := by decide +kernel
theorem dX4_newEntry_14 : decode cX4_newEntry 14 = .ok (.dup_x1, 1) := by decide +kernel
theorem dX4_newEntry_15 : decode cX4_newEntry 15 = .ok (.iconst 1, 1) := by decide +kernel
theorem dX4_newEntry_16 : decode cX4_newEntry 16 = .ok (.iadd, 1) := by decide +kernel
theorem dX4_newEntry_17 : decode cX4_newEntry 17 = .ok (.putfield 57, 3) := by decide +kernel
theorem dX4_newEntry_20 : decode cX4_newEntry 20 = .ok (.ireturn, 1) := by decide +kernel
theorem dX4_newEntry_21 : decode cX4_newEntry 21 = .ok (.iconst 0, 1) := by decide +kernel
theorem dX4_newEntry_22 : decode cX4_newEntry 22 = .ok (.istore_n 1, 1) := by decide +kernel
theorem dX4_newEntry_23 : decode cX4_newEntry 23 = .ok (.iconst 1, 1) := by decide +kernel
theorem dX4_newEntry_24 : decode cX4_newEntry 24 = .ok (.istore_n 2, 1) := by decide +kernel
theorem dX4_newEntry_25 : decode cX4_newEntry 25 = .ok (.iload_n 2, 1) := by decide +kernel
theorem dX4_newEntry_26 : decode cX4_newEntry 26 = .ok (.bipush 16, 2) := by decide +kernel
theorem dX4_newEntry_28 : decode cX4_newEntry 28 = .ok (.if_icmp .ge 26, 3) := by decide +kernel
theorem dX4_newEntry_31 : decode cX4_newEntry 31 = .ok (.aload_n 0, 1) := by decide +kernel
theorem dX4_newEntry_32 : decode cX4_newEntry 32 = .ok (.getfield 29, 3) := by decide +kernel
theorem dX4_newEntry_35 : decode cX4_newEntry 35 = .ok (.iload_n 2, 1) := by decide +kernel
theorem dX4_newEntry_36 : decode cX4_newEntry 36 = .ok (.iaload, 1) := by decide +kernel
theorem dX4_newEntry_37 : decode cX4_newEntry 37 = .ok (.aload_n 0, 1) := by decide +kernel
theorem dX4_newEntry_38 : decode cX4_newEntry 38 = .ok (.getfield 29, 3) := by decide +kernel
theorem dX4_newEntry_41 : decode cX4_newEntry 41 = .ok (.iload_n 1, 1) := by decide +kernel
theorem dX4_newEntry_42 : decode cX4_newEntry 42 = .ok (.iaload, 1) := by decide +kernel
theorem dX4_newEntry_43 : decode cX4_newEntry 43 = .ok (.if_icmp .ge 5, 3) := by decide +kernel
theorem dX4_newEntry_46 : decode cX4_newEntry 46 = .ok (.iload_n 2, 1) := by decide +kernel
theorem dX4_newEntry_47 : decode cX4_newEntry 47 = .ok (.istore_n 1, 1) := by decide +kernel
theorem dX4_newEntry_48 : decode cX4_newEntry 48 = .ok (.iinc 2 1, 3) := by decide +kernel
theorem dX4_newEntry_51 : decode cX4_newEntry 51 = .ok (.goto (-26), 3) := by decide +kernel
theorem dX4_newEntry_54 : decode cX4_newEntry 54 = .ok (.iload_n 1, 1) := by decide +kernel
theorem dX4_newEntry_55 : decode cX4_newEntry 55 = .ok (.ireturn, 1) := by decide +kernel
theorem wX4_newEntry_L48 {x : GX} {n0 sl0 : Nat} (X : Cx x cX4_newEntry RX4 (some .int) n0 sl0 0 0) {out : Int32 × Mm} (hE : Ends x n0 sl0 (some (pI out.1)) out.2) (hn : xn x = 3) (fu : Nat) (k25 : Nat → Int32 → Int32 → Mm → Option (Int32 × Mm)) (hk25 : ∀ (b0 : Nat) (b1 : Int32) (b2 : Int32)  (M : Mm), k25 b0 b1 b2 M = some out → Gw x M 25 [(0, pR (some b0)), (1, pI b1), (2, pI b2)] []) (a0 : Nat) (a1 : Int32) (a2 : Int32)  (M : Mm) (h : fX4_newEntry_L48 fu k25 a0 a1 a2 M = some out) : Gw x M 48 [(0, pR (some a0)), (1, pI a1), (2, pI a2)] [] := by
  unfold fX4_newEntry_L48 at h
  refine g_iinc X (pc := 48) 2 [(2, pI (a2 + (1 : Int32))), (0, pR (some a0)), (1, pI a1)] rfl (iinc_e (by decide)) (lt_n hn (by decide)) rfl dX4_newEntry_48 ?_
  refine g_goto X (pc := 51) (tgt := 25) dX4_newEntry_51 (by decide) ?_
  refine g_sub [1, 2, 0] [(0, pR (some a0)), (1, pI a1), (2, pI (a2 + (1 : Int32)))] rfl ?_
  exact hk25 a0 a1 (a2 + (1 : Int32)) M h
theorem wX4_newEntry_L25 {x : GX} {n0 sl0 : Nat} (X : Cx x cX4_newEntry RX4 (some .int) n0 sl0 0 0) {out : Int32 × Mm} (hE : Ends x n0 sl0 (some (pI out.1)) out.2) (hn : xn x = 3) (fu : Nat)   : ∀ (n : Nat) (a0 : Nat) (a1 : Int32) (a2 : Int32)  (M : Mm), fX4_newEntry_L25 fu  n a0 a1 a2 M = some out → Gw x M 25 [(0, pR (some a0)), (1, pI a1), (2, pI a2)] [] := by
  intro n
  induction n with
  | zero =>
    intro a0 a1 a2 M h
    have h : (none : Option (Int32 × Mm)) = some out := h
    cases h
  | succ n ih =>
    intro a0 a1 a2 M h
    rw [fX4_newEntry_L25] at h
    refine g_iload_n X (pc := 25) 2 rfl rfl dX4_newEntry_25 ?_
    refine g_bipush X (pc := 26) (v := 16) dX4_newEntry_26 (by decide) ?_
    refine g_icmp_ge X (pc := 28) (tgt := 54) dX4_newEntry_28 (by decide) (fun hc => ?_) (fun hc => ?_)
    · have h := (if_pos hc).symm.trans h
      refine g_iload_n X (pc := 54) 1 rfl rfl dX4_newEntry_54 ?_
      obtain rfl := Option.some.inj h
      exact g_ireturn X hE dX4_newEntry_55
    · have h := (if_neg hc).symm.trans h
      refine g_aload_n X (pc := 31) 0 rfl rfl dX4_newEntry_31 ?_
      obtain ⟨v1, ev1, h⟩ := bd h
      refine g_getR X (pc := 32) fk_4_13 rfl rfl ev1 tb_117 dX4_newEntry_32 ?_
      refine g_iload_n X (pc := 35) 2 rfl rfl dX4_newEntry_35 ?_
      obtain ⟨v2, ev2, h⟩ := bd h
      refine g_iaload X (pc := 36) ev2 dX4_newEntry_36 ?_
      refine g_aload_n X (pc := 37) 0 rfl rfl dX4_newEntry_37 ?_
      obtain ⟨v3, ev3, h⟩ := bd h
      refine g_getR X (pc := 38) fk_4_13 rfl rfl ev3 tb_117 dX4_newEntry_38 ?_
      refine g_iload_n X (pc := 41) 1 rfl rfl dX4_newEntry_41 ?_
      obtain ⟨v4, ev4, h⟩ := bd h
      refine g_iaload X (pc := 42) ev4 dX4_newEntry_42 ?_
      refine g_icmp_ge X (pc := 43) (tgt := 48) dX4_newEntry_43 (by decide) (fun hc => ?_) (fun hc => ?_)
      · have h := (if_pos hc).symm.trans h
        exact wX4_newEntry_L48 X hE hn fu (fun b0 b1 b2 M => fX4_newEntry_L25 fu  n b0 b1 b2 M) ih a0 a1 a2 M h
      · have h := (if_neg hc).symm.trans h
        refine g_iload_n X (pc := 46) 2 rfl rfl dX4_newEntry_46 ?_
        refine g_istore_n X (pc := 47) [(1, pI a2), (0, pR (some a0)), (2, pI a2)] rfl (lt_n hn (by decide)) rfl dX4_newEntry_47 ?_
        refine g_sub [1, 0, 2] [(0, pR (some a0)), (1, pI a2), (2, pI a2)] rfl ?_
        exact wX4_newEntry_L48 X hE hn fu (fun b0 b1 b2 M => fX4_newEntry_L25 fu  n b0 b1 b2 M) ih a0 a2 a2 M h
theorem wX4_newEntry {x : GX} {n0 sl0 : Nat} (X : Cx x cX4_newEntry RX4 (some .int) n0 sl0 0 0) {out : Int32 × Mm} (hE : Ends x n0 sl0 (some (pI out.1)) out.2) (hn : xn x = 3) (fu : Nat)   (a0 : Nat)  (M : Mm) (h : fX4_newEntry fu  a0 M = some out) : Gw x M 0 [(0, pR (some a0))] [] := by
  unfold fX4_newEntry at h
  refine g_aload_n X (pc := 0) 0 rfl rfl dX4_newEntry_0 ?_
  obtain ⟨v1, ev1, h⟩ := bd h
  refine g_getI X (pc := 1) fk_4_9 rfl rfl ev1 tb_113 dX4_newEntry_1 ?_
  refine g_bipush X (pc := 4) (v := 16) dX4_newEntry_4 (by decide) ?_
  refine g_icmp_ge X (pc := 6) (tgt := 21) dX4_newEntry_6 (by decide) (fun hc => ?_) (fun hc => ?_)
  · have h := (if_pos hc).symm.trans h
    refine g_iconst X (pc := 21) (v := 0) dX4_newEntry_21 (by decide) ?_
    refine g_istore_n X (pc := 22) [(1, pI (0 : Int32)), (0, pR (some a0))] rfl (lt_n hn (by decide)) rfl dX4_newEntry_22 ?_
    refine g_iconst X (pc := 23) (v := 1) dX4_newEntry_23 (by decide) ?_
    refine g_istore_n X (pc := 24) [(2, pI (1 : Int32)), (1, pI (0 : Int32)), (0, pR (some a0))] rfl (lt_n hn (by decide)) rfl dX4_newEntry_24 ?_
    refine g_sub [2, 1, 0] [(0, pR (some a0)), (1, pI (0 : Int32)), (2, pI (1 : Int32))] rfl ?_
    exact wX4_newEntry_L25 X hE hn fu   fu a0 (0 : Int32) (1 : Int32) M h
  · have h := (if_neg hc).symm.trans h
    refine g_aload_n X (pc := 9) 0 rfl rfl dX4_newEntry_9 ?_
    refine g_dup X (pc := 10) rfl dX4_newEntry_10 ?_
    obtain ⟨v2, ev2, h⟩ := bd h
    refine g_getI X (pc := 11) fk_4_9 rfl rfl ev2 tb_113 dX4_newEntry_11 ?_
    refine g_dup_x1 X (pc := 14) rfl rfl dX4_newEntry_14 ?_
    refine g_iconst X (pc := 15) (v := 1) dX4_newEntry_15 (by decide) ?_
    refine g_iadd X (pc := 16) dX4_newEntry_16 ?_
    obtain ⟨M3, eM3, h⟩ := bd h
    refine g_putI X (pc := 17) fk_4_9 rfl rfl rfl eM3 tb_113 (Or.inl rfl) dX4_newEntry_17 ?_
    obtain rfl := Option.some.inj h
    exact g_ireturn X hE dX4_newEntry_20
theorem hyX4_newEntry : yX4_newEntry.cls ≠ "java/lang/invoke/MethodHandle" ∧ yX4_newEntry.cls ≠ "java/lang/invoke/VarHandle" ∧ (parseMethodDescriptor yX4_newEntry.desc).map (fun d => d.parameters.length) = some 0 := ⟨by decide +kernel, by decide +kernel, by decide +kernel⟩
theorem ctX4_newEntry (l : Launch) (E : Nat → Nat) (D : va_G) (dA : Nat → ClassId) (lo : Nat) (H0 : Heap) (fu : Nat) (a0 : Nat) (M : Mm) (out : Int32 × Mm) (h : fX4_newEntry fu a0 M = some out) : Ct l E D dA lo H0 yX4_newEntry cX4_newEntry 3 (some .int) 0 0 [pR (some a0)] M (some (pI out.1)) out.2 := by
  refine ct_of (by decide +kernel) (Nat.le_of_ble_eq_true rfl) ?_
  intro x hl he hd ha ho hh hn hin X hE
  exact wX4_newEntry X hE hn fu a0 M h
/-! WebHost$Link.dropWaiter(I)V -/
def fX4_dropWaiter_L60 (fu : Nat)  (a0 : Nat) (a2 : Option Nat)  (M : Mm) : Option (Mm) :=
    (gI M 4 260 (some a0)).bind fun v1 =>
    (pF M 4 260 (some a0) (v1 - (1 : Int32))).bind fun M2 =>
    (gR M2 4 270 (some a0)).bind fun v3 =>
    (gI M2 4 260 (some a0)).bind fun v4 =>
    (pB M2 6 v3 v4 a2).bind fun M5 =>
    some M5
def fX4_dropWaiter_L22 (fu : Nat)  : Nat → Nat → Option Nat → Int32 → Mm → Option (Mm)
  | 0, _, _, _, _ => none
  | n + 1, a0, a2, a3, M =>
    (gI M 4 260 (some a0)).bind fun v1 =>
    if v1 ≤ (a3 + (1 : Int32)) then (
    fX4_dropWaiter_L60 fu  a0 a2 M)
    else (
    if (8 : Int32) ≤ (a3 + (1 : Int32)) then (
    fX4_dropWaiter_L60 fu  a0 a2 M)
    else (
    (gR M 4 270 (some a0)).bind fun v2 =>
    (gR M 4 270 (some a0)).bind fun v3 =>
    (gB M 116 v3 (a3 + (1 : Int32))).bind fun v4 =>
    (pB M 6 v2 a3 v4).bind fun M5 =>
    fX4_dropWaiter_L22 fu  n a0 a2 (a3 + (1 : Int32)) M5))
def fX4_dropWaiter (fu : Nat)  (a0 : Nat) (a1 : Int32)  (M : Mm) : Option (Mm) :=
    if a1 < 0 then (
    some M)
    else (
    (gI M 4 260 (some a0)).bind fun v1 =>
    if a1 < v1 then (
    (gR M 4 270 (some a0)).bind fun v2 =>
    (gB M 116 v2 a1).bind fun v3 =>
    fX4_dropWaiter_L22 fu  fu a0 v3 a1 M)
    else (
    some M))
theorem dX4_dropWaiter_0 : decode cX4_dropWaiter 0 = .ok (.iload_n 1, 1) := by decide +kernel
theorem dX4_dropWaiter_1 : decode cX4_dropWaiter 1 = .ok (.ifCond .lt 11, 3) := by decide +kernel
theorem dX4_dropWaiter_4 : decode cX4_dropWaiter 4 = .ok (.iload_n 1, 1) := by decide +kernel
theorem dX4_dropWaiter_5 : decode cX4_dropWaiter 5 = .ok (.aload_n 0, 1) := by decide +kernel
theorem dX4_dropWaiter_6 : decode cX4_dropWaiter 6 = .ok (.getfield 60, 3) := by decide +kernel
theorem dX4_dropWaiter_9 : decode cX4_dropWaiter 9 = .ok (.if_icmp .lt 4, 3) := by decide +kernel
theorem dX4_dropWaiter_12 : decode cX4_dropWaiter 12 = .ok (.return_, 1) := by decide +kernel
theorem dX4_dropWaiter_13 : decode cX4_dropWaiter 13 = .ok (.aload_n 0, 1) := by decide +kernel
theorem dX4_dropWaiter_14 : decode cX4_dropWaiter 14 = .ok (.getfield 34, 3) := by decide +kernel
theorem dX4_dropWaiter_17 : decode cX4_dropWaiter 17 = .ok (.iload_n 1, 1) := by decide +kernel
theorem dX4_dropWaiter_18 : decode cX4_dropWaiter 18 = .ok (.aaload, 1) := by decide +kernel
theorem dX4_dropWaiter_19 : decode cX4_dropWaiter 19 = .ok (.astore_n 2, 1) := by decide +kernel
theorem dX4_dropWaiter_20 : decode cX4_dropWaiter 20 = .ok (.iload_n 1, 1) := by decide +kernel
theorem dX4_dropWaiter_21 : decode cX4_dropWaiter 21 = .ok (.istore_n 3, 1) := by decide +kernel
theorem dX4_dropWaiter_22 : decode cX4_dropWaiter 22 = .ok (.iload_n 3, 1) := by decide +kernel
theorem dX4_dropWaiter_23 : decode cX4_dropWaiter 23 = .ok (.iconst 1, 1) := by decide +kernel
theorem dX4_dropWaiter_24 : decode cX4_dropWaiter 24 = .ok (.iadd, 1) := by decide +kernel
theorem dX4_dropWaiter_25 : decode cX4_dropWaiter 25 = .ok (.aload_n 0, 1) := by decide +kernel
theorem dX4_dropWaiter_26 : decode cX4_dropWaiter 26 = .ok (.getfield 60, 3) := by decide +kernel
theorem dX4_dropWaiter_29 : decode cX4_dropWaiter 29 = .ok (.if_icmp .ge 31, 3) := by decide +kernel
theorem dX4_dropWaiter_32 : decode cX4_dropWaiter 32 = .ok (.iload_n 3, 1) := by decide +kernel
theorem dX4_dropWaiter_33 : decode cX4_dropWaiter 33 = .ok (.iconst 1, 1) := by decide +kernel
theorem dX4_dropWaiter_34 : decode cX4_dropWaiter 34 = .ok (.iadd, 1) := by decide +kernel
theorem dX4_dropWaiter_35 : decode cX4_dropWaiter 35 = .ok (.bipush 8, 2) := by decide +kernel
theorem dX4_dropWaiter_37 : decode cX4_dropWaiter 37 = .ok (.if_icmp .ge 23, 3) := by decide +kernel
theorem dX4_dropWaiter_40 : decode cX4_dropWaiter 40 = .ok (.aload_n 0, 1) := by decide +kernel
theorem dX4_dropWaiter_41 : decode cX4_dropWaiter 41 = .ok (.getfield 34, 3) := by decide +kernel
theorem dX4_dropWaiter_44 : decode cX4_dropWaiter 44 = .ok (.iload_n 3, 1) := by decide +kernel
theorem dX4_dropWaiter_45 : decode cX4_dropWaiter 45 = .ok (.aload_n 0, 1) := by decide +kernel
theorem dX4_dropWaiter_46 : decode cX4_dropWaiter 46 = .ok (.getfield 34, 3) := by decide +kernel
theorem dX4_dropWaiter_49 : decode cX4_dropWaiter 49 = .ok (.iload_n 3, 1) := by decide +kernel
theorem dX4_dropWaiter_50 : decode cX4_dropWaiter 50 = .ok (.iconst 1, 1) := by decide +kernel
theorem dX4_dropWaiter_51 : decode cX4_dropWaiter 51 = .ok (.iadd, 1) := by decide +kernel
theorem dX4_dropWaiter_52 : decode cX4_dropWaiter 52 = .ok (.aaload, 1) := by decide +kernel
theorem dX4_dropWaiter_53 : decode cX4_dropWaiter 53 = .ok (.aastore, 1) := by decide +kernel
theorem dX4_dropWaiter_54 : decode cX4_dropWaiter 54 = .ok (.iinc 3 1, 3) := by decide +kernel
theorem dX4_dropWaiter_57 : decode cX4_dropWaiter 57 = .ok (.goto (-35), 3) := by decide +kernel
theorem dX4_dropWaiter_60 : decode cX4_dropWaiter 60 = .ok (.aload_n 0, 1) := by decide +kernel
theorem dX4_dropWaiter_61 : decode cX4_dropWaiter 61 = .ok (.dup, 1) := by decide +kernel
theorem dX4_dropWaiter_62 : decode cX4_dropWaiter 62 = .ok (.getfield 60, 3) := by decide +kernel
theorem dX4_dropWaiter_65 : decode cX4_dropWaiter 65 = .ok (.iconst 1, 1) := by decide +kernel
theorem dX4_dropWaiter_66 : decode cX4_dropWaiter 66 = .ok (.isub, 1) := by decide +kernel
theorem dX4_dropWaiter_67 : decode cX4_dropWaiter 67 = .ok (.putfield 60, 3) := by decide +kernel
theorem dX4_dropWaiter_70 : decode cX4_dropWaiter 70 = .ok (.aload_n 0, 1) := by decide +kernel
theorem dX4_dropWaiter_71 : decode cX4_dropWaiter 71 = .ok (.getfield 34, 3) := by decide +kernel
theorem dX4_dropWaiter_74 : decode cX4_dropWaiter 74 = .ok (.aload_n 0, 1) := by decide +kernel
theorem dX4_dropWaiter_75 : decode cX4_dropWaiter 75 = .ok (.getfield 60, 3) := by decide +kernel
theorem dX4_dropWaiter_78 : decode cX4_dropWaiter 78 = .ok (.aload_n 2, 1) := by decide +kernel
theorem dX4_dropWaiter_79 : decode cX4_dropWaiter 79 = .ok (.aastore, 1) := by decide +kernel
theorem dX4_dropWaiter_80 : decode cX4_dropWaiter 80 = .ok (.return_, 1) := by decide +kernel
theorem wX4_dropWaiter_L60 {x : GX} {n0 sl0 : Nat} (X : Cx x cX4_dropWaiter RX4 none n0 sl0 0 0) {out : Mm} (hE : Ends x n0 sl0 none out) (hn : xn x = 4) (fu : Nat)   (a0 : Nat) (a2 : Option Nat)  (M : Mm) (h : fX4_dropWaiter_L60 fu  a0 a2 M = some out) : Gw x M 60 [(0, pR (some a0)), (2, pR a2)] [] := by
  unfold fX4_dropWaiter_L60 at h
  refine g_aload_n X (pc := 60) 0 rfl rfl dX4_dropWaiter_60 ?_
  refine g_dup X (pc := 61) rfl dX4_dropWaiter_61 ?_
  obtain ⟨v1, ev1, h⟩ := bd h
  refine g_getI X (pc := 62) fk_4_4 rfl rfl ev1 tb_107 dX4_dropWaiter_62 ?_
  refine g_iconst X (pc := 65) (v := 1) dX4_dropWaiter_65 (by decide) ?_
  refine g_isub X (pc := 66) dX4_dropWaiter_66 ?_
  obtain ⟨M2, eM2, h⟩ := bd h
  refine g_putI X (pc := 67) fk_4_4 rfl rfl rfl eM2 tb_107 (Or.inl rfl) dX4_dropWaiter_67 ?_
  refine g_aload_n X (pc := 70) 0 rfl rfl dX4_dropWaiter_70 ?_
  obtain ⟨v3, ev3, h⟩ := bd h
  refine g_getR X (pc := 71) fk_4_14 rfl rfl ev3 tb_118 dX4_dropWaiter_71 ?_
  refine g_aload_n X (pc := 74) 0 rfl rfl dX4_dropWaiter_74 ?_
  obtain ⟨v4, ev4, h⟩ := bd h
  refine g_getI X (pc := 75) fk_4_4 rfl rfl ev4 tb_107 dX4_dropWaiter_75 ?_
  refine g_aload_n X (pc := 78) 1 rfl rfl dX4_dropWaiter_78 ?_
  obtain ⟨M5, eM5, h⟩ := bd h
  refine g_aastore X (pc := 79) (c := 6) (k := 3) rfl (by decide) rfl eM5 dX4_dropWaiter_79 ?_
  obtain rfl := Option.some.inj h
  exact g_return X hE dX4_dropWaiter_80
theorem wX4_dropWaiter_L22 {x : GX} {n0 sl0 : Nat} (X : Cx x cX4_dropWaiter RX4 none n0 sl0 0 0) {out : Mm} (hE : Ends x n0 sl0 none out) (hn : xn x = 4) (fu : Nat)   : ∀ (n : Nat) (a0 : Nat) (a2 : Option Nat) (a3 : Int32)  (M : Mm), fX4_dropWaiter_L22 fu  n a0 a2 a3 M = some out → Gw x M 22 [(0, pR (some a0)), (2, pR a2), (3, pI a3)] [] := by
  intro n
  induction n with
  | zero =>
    intro a0 a2 a3 M h
    have h : (none : Option (Mm)) = some out := h
    cases h
  | succ n ih =>
    intro a0 a2 a3 M h
    rw [fX4_dropWaiter_L22] at h
    refine g_iload_n X (pc := 22) 2 rfl rfl dX4_dropWaiter_22 ?_
    refine g_iconst X (pc := 23) (v := 1) dX4_dropWaiter_23 (by decide) ?_
    refine g_iadd X (pc := 24) dX4_dropWaiter_24 ?_
    refine g_aload_n X (pc := 25) 0 rfl rfl dX4_dropWaiter_25 ?_
    obtain ⟨v1, ev1, h⟩ := bd h
    refine g_getI X (pc := 26) fk_4_4 rfl rfl ev1 tb_107 dX4_dropWaiter_26 ?_
    refine g_icmp_ge X (pc := 29) (tgt := 60) dX4_dropWaiter_29 (by decide) (fun hc => ?_) (fun hc => ?_)
    · have h := (if_pos hc).symm.trans h
      refine g_sub [0, 1] [(0, pR (some a0)), (2, pR a2)] rfl ?_
      exact wX4_dropWaiter_L60 X hE hn fu   a0 a2 M h
    · have h := (if_neg hc).symm.trans h
      refine g_iload_n X (pc := 32) 2 rfl rfl dX4_dropWaiter_32 ?_
      refine g_iconst X (pc := 33) (v := 1) dX4_dropWaiter_33 (by decide) ?_
      refine g_iadd X (pc := 34) dX4_dropWaiter_34 ?_
      refine g_bipush X (pc := 35) (v := 8) dX4_dropWaiter_35 (by decide) ?_
      refine g_icmp_ge X (pc := 37) (tgt := 60) dX4_dropWaiter_37 (by decide) (fun hc => ?_) (fun hc => ?_)
      · have h := (if_pos hc).symm.trans h
        refine g_sub [0, 1] [(0, pR (some a0)), (2, pR a2)] rfl ?_
        exact wX4_dropWaiter_L60 X hE hn fu   a0 a2 M h
      · have h := (if_neg hc).symm.trans h
        refine g_aload_n X (pc := 40) 0 rfl rfl dX4_dropWaiter_40 ?_
        obtain ⟨v2, ev2, h⟩ := bd h
        refine g_getR X (pc := 41) fk_4_14 rfl rfl ev2 tb_118 dX4_dropWaiter_41 ?_
        refine g_iload_n X (pc := 44) 2 rfl rfl dX4_dropWaiter_44 ?_
        refine g_aload_n X (pc := 45) 0 rfl rfl dX4_dropWaiter_45 ?_
        obtain ⟨v3, ev3, h⟩ := bd h
        refine g_getR X (pc := 46) fk_4_14 rfl rfl ev3 tb_118 dX4_dropWaiter_46 ?_
        refine g_iload_n X (pc := 49) 2 rfl rfl dX4_dropWaiter_49 ?_
        refine g_iconst X (pc := 50) (v := 1) dX4_dropWaiter_50 (by decide) ?_
        refine g_iadd X (pc := 51) dX4_dropWaiter_51 ?_
        obtain ⟨v4, ev4, h⟩ := bd h
        refine g_aaload X (pc := 52) (k := 3) rfl rfl (by decide) ev4 dX4_dropWaiter_52 ?_
        obtain ⟨M5, eM5, h⟩ := bd h
        refine g_aastore X (pc := 53) (c := 6) (k := 3) rfl (by decide) rfl eM5 dX4_dropWaiter_53 ?_
        refine g_iinc X (pc := 54) 2 [(3, pI (a3 + (1 : Int32))), (0, pR (some a0)), (2, pR a2)] rfl (iinc_e (by decide)) (lt_n hn (by decide)) rfl dX4_dropWaiter_54 ?_
        refine g_goto X (pc := 57) (tgt := 22) dX4_dropWaiter_57 (by decide) ?_
        refine g_sub [1, 2, 0] [(0, pR (some a0)), (2, pR a2), (3, pI (a3 + (1 : Int32)))] rfl ?_
        exact ih a0 a2 (a3 + (1 : Int32)) M5 h
theorem wX4_dropWaiter {x : GX} {n0 sl0 : Nat} (X : Cx x cX4_dropWaiter RX4 none n0 sl0 0 0) {out : Mm} (hE : Ends x n0 sl0 none out) (hn : xn x = 4) (fu : Nat)   (a0 : Nat) (a1 : Int32)  (M : Mm) (h : fX4_dropWaiter fu  a0 a1 M = some out) : Gw x M 0 [(0, pR (some a0)), (1, pI a1)] [] := by
  unfold fX4_dropWaiter at h
  refine g_iload_n X (pc := 0) 1 rfl rfl dX4_dropWaiter_0 ?_
  refine g_if_lt X (pc := 1) (tgt := 12) dX4_dropWaiter_1 (by decide) (fun hc => ?_) (fun hc => ?_)
  · have h := (if_pos hc).symm.trans h
    obtain rfl := Option.some.inj h
    exact g_return X hE dX4_dropWaiter_12
  · have h := (if_neg hc).symm.trans h
    refine g_iload_n X (pc := 4) 1 rfl rfl dX4_dropWaiter_4 ?_
    refine g_aload_n X (pc := 5) 0 rfl rfl dX4_dropWaiter_5 ?_
    obtain ⟨v1, ev1, h⟩ := bd h
    refine g_getI X (pc := 6) fk_4_4 rfl rfl ev1 tb_107 dX4_dropWaiter_6 ?_
    refine g_icmp_lt X (pc := 9) (tgt := 13) dX4_dropWaiter_9 (by decide) (fun hc => ?_) (fun hc => ?_)
    · have h := (if_pos hc).symm.trans h
      refine g_aload_n X (pc := 13) 0 rfl rfl dX4_dropWaiter_13 ?_
      obtain ⟨v2, ev2, h⟩ := bd h
      refine g_getR X (pc := 14) fk_4_14 rfl rfl ev2 tb_118 dX4_dropWaiter_14 ?_
      refine g_iload_n X (pc := 17) 1 rfl rfl dX4_dropWaiter_17 ?_
      obtain ⟨v3, ev3, h⟩ := bd h
      refine g_aaload X (pc := 18) (k := 3) rfl rfl (by decide) ev3 dX4_dropWaiter_18 ?_
      refine g_astore_n X (pc := 19) [(2, pR v3), (0, pR (some a0)), (1, pI a1)] rfl (lt_n hn (by decide)) rfl dX4_dropWaiter_19 ?_
      refine g_iload_n X (pc := 20) 2 rfl rfl dX4_dropWaiter_20 ?_
      refine g_istore_n X (pc := 21) [(3, pI a1), (2, pR v3), (0, pR (some a0)), (1, pI a1)] rfl (lt_n hn (by decide)) rfl dX4_dropWaiter_21 ?_
      refine g_sub [2, 1, 0] [(0, pR (some a0)), (2, pR v3), (3, pI a1)] rfl ?_
      exact wX4_dropWaiter_L22 X hE hn fu   fu a0 v3 a1 M h
    · have h := (if_neg hc).symm.trans h
      obtain rfl := Option.some.inj h
      exact g_return X hE dX4_dropWaiter_12
theorem hyX4_dropWaiter : yX4_dropWaiter.cls ≠ "java/lang/invoke/MethodHandle" ∧ yX4_dropWaiter.cls ≠ "java/lang/invoke/VarHandle" ∧ (parseMethodDescriptor yX4_dropWaiter.desc).map (fun d => d.parameters.length) = some 1 := ⟨by decide +kernel, by decide +kernel, by decide +kernel⟩
theorem ctX4_dropWaiter (l : Launch) (E : Nat → Nat) (D : va_G) (dA : Nat → ClassId) (lo : Nat) (H0 : Heap) (fu : Nat) (a0 : Nat) (a1 : Int32) (M : Mm) (out : Mm) (h : fX4_dropWaiter fu a0 a1 M = some out) : Ct l E D dA lo H0 yX4_dropWaiter cX4_dropWaiter 4 none 0 0 [pR (some a0), pI a1] M none out := by
  refine ct_of (by decide +kernel) (Nat.le_of_ble_eq_true rfl) ?_
  intro x hl he hd ha ho hh hn hin X hE
  exact wX4_dropWaiter X hE hn fu a0 a1 M h
/-! WebHost$Link.dueOf(LWebHost$Packet;)I -/
def fX4_dueOf (fu : Nat)  (a0 : Option Nat)  (M : Mm) : Option (Int32 × Mm) :=
    if a0 = none then (
    some ((2147483647 : Int32), M))
    else (
    (gI M 6 386 a0).bind fun v1 =>
    (gI M 6 388 a0).bind fun v2 =>
    some ((v1 + (v2 * (1000 : Int32))), M))
theorem dX4_dueOf_0 : decode cX4_dueOf 0 = .ok (.aload_n 0, 1) := by decide +kernel
theorem dX4_dueOf_1 : decode cX4_dueOf 1 = .ok (.ifnonnull 8, 3) := by decide +kernel
theorem dX4_dueOf_4 : decode cX4_dueOf 4 = .ok (.ldc 162, 2) := by decide +kernel
theorem dX4_dueOf_6 : decode cX4_dueOf 6 = .ok (.goto 16, 3) := by decide +kernel
theorem dX4_dueOf_9 : decode cX4_dueOf 9 = .ok (.aload_n 0, 1) := by decide +kernel
theorem dX4_dueOf_10 : decode cX4_dueOf 10 = .ok (.getfield 144, 3) := by decide +kernel
theorem dX4_dueOf_13 : decode cX4_dueOf 13 = .ok (.aload_n 0, 1) := by decide +kernel
theorem dX4_dueOf_14 : decode cX4_dueOf 14 = .ok (.getfield 147, 3) := by decide +kernel
theorem dX4_dueOf_17 : decode cX4_dueOf 17 = .ok (.sipush 1000, 3) := by decide +kernel
theorem dX4_dueOf_20 : decode cX4_dueOf 20 = .ok (.imul, 1) := by decide +kernel
theorem dX4_dueOf_21 : decode cX4_dueOf 21 = .ok (.iadd, 1) := by decide +kernel
theorem dX4_dueOf_22 : decode cX4_dueOf 22 = .ok (.ireturn, 1) := by decide +kernel
theorem wX4_dueOf {x : GX} {n0 sl0 : Nat} (X : Cx x cX4_dueOf RX4 (some .int) n0 sl0 0 0) {out : Int32 × Mm} (hE : Ends x n0 sl0 (some (pI out.1)) out.2) (hn : xn x = 1) (fu : Nat)   (a0 : Option Nat)  (M : Mm) (h : fX4_dueOf fu  a0 M = some out) : Gw x M 0 [(0, pR a0)] [] := by
  unfold fX4_dueOf at h
  refine g_aload_n X (pc := 0) 0 rfl rfl dX4_dueOf_0 ?_
  refine g_ifnonnull X (pc := 1) (tgt := 9) dX4_dueOf_1 (by decide) (fun hc => ?_) (fun hc => ?_)
  · have h := (if_neg hc).symm.trans h
    refine g_aload_n X (pc := 9) 0 rfl rfl dX4_dueOf_9 ?_
    obtain ⟨v1, ev1, h⟩ := bd h
    refine g_getI X (pc := 10) fk_6_2 rfl rfl ev1 tb_549 dX4_dueOf_10 ?_
    refine g_aload_n X (pc := 13) 0 rfl rfl dX4_dueOf_13 ?_
    obtain ⟨v2, ev2, h⟩ := bd h
    refine g_getI X (pc := 14) fk_6_4 rfl rfl ev2 tb_551 dX4_dueOf_14 ?_
    refine g_sipush X (pc := 17) (v := 1000) dX4_dueOf_17 (by decide) ?_
    refine g_imul X (pc := 20) dX4_dueOf_20 ?_
    refine g_iadd X (pc := 21) dX4_dueOf_21 ?_
    obtain rfl := Option.some.inj h
    exact g_ireturn X hE dX4_dueOf_22
  · have h := (if_pos hc).symm.trans h
    refine g_ldc X (pc := 4) tb_473 dX4_dueOf_4 ?_
    refine g_goto X (pc := 6) (tgt := 22) dX4_dueOf_6 (by decide) ?_
    obtain rfl := Option.some.inj h
    exact g_ireturn X hE dX4_dueOf_22
theorem hyX4_dueOf : yX4_dueOf.cls ≠ "java/lang/invoke/MethodHandle" ∧ yX4_dueOf.cls ≠ "java/lang/invoke/VarHandle" ∧ (parseMethodDescriptor yX4_dueOf.desc).map (fun d => d.parameters.length) = some 1 := ⟨by decide +kernel, by decide +kernel, by decide +kernel⟩
theorem ctX4_dueOf (l : Launch) (E : Nat → Nat) (D : va_G) (dA : Nat → ClassId) (lo : Nat) (H0 : Heap) (fu : Nat) (a0 : Option Nat) (M : Mm) (out : Int32 × Mm) (h : fX4_dueOf fu a0 M = some out) : Ct l E D dA lo H0 yX4_dueOf cX4_dueOf 1 (some .int) 0 0 [pR a0] M (some (pI out.1)) out.2 := by
  refine ct_of (by decide +kernel) (Nat.le_of_ble_eq_true rfl) ?_
  intro x hl he hd ha ho hh hn hin X hE
  exact wX4_dueOf X hE hn fu a0 M h
/-! WebHost$Link.earliest()I -/
def fX4_earliest_L5 (fu : Nat)  : Nat → Nat → Int32 → Int32 → Mm → Option (Int32 × Mm)
  | 0, _, _, _, _ => none
  | n + 1, a0, a1, a2, M =>
    (gI M 4 260 (some a0)).bind fun v1 =>
    if v1 ≤ a2 then (
    some (a1, M))
    else (
    if (8 : Int32) ≤ a2 then (
    some (a1, M))
    else (
    (gR M 4 270 (some a0)).bind fun v2 =>
    (gB M 116 v2 a2).bind fun v3 =>
    b2 (fX4_dueOf fu  v3 M) fun v5 M4 =>
    fX4_earliest_L5 fu  n a0 (jmin a1 v5) (a2 + (1 : Int32)) M4))
def fX4_earliest (fu : Nat)  (a0 : Nat)  (M : Mm) : Option (Int32 × Mm) :=
    fX4_earliest_L5 fu  fu a0 (2147483647 : Int32) (0 : Int32) M
theorem dX4_earliest_0 : decode cX4_earliest 0 = .ok (.ldc 162, 2) := by decide +kernel
theorem dX4_earliest_2 : decode cX4_earliest 2 = .ok (.istore_n 1, 1) := by decide +kernel
theorem dX4_earliest_3 : decode cX4_earliest 3 = .ok (.iconst 0, 1) := by decide +kernel
theorem dX4_earliest_4 : decode cX4_earliest 4 = .ok (.istore_n 2, 1) := by decide +kernel
theorem dX4_earliest_5 : decode cX4_earliest 5 = .ok (.iload_n 2, 1) := by decide +kernel
theorem dX4_earliest_6 : decode cX4_earliest 6 = .ok (.aload_n 0, 1) := by decide +kernel
theorem dX4_earliest_7 : decode cX4_earliest 7 = .ok (.getfield 60, 3) := by decide +kernel
theorem dX4_earliest_10 : decode cX4_earliest 10 = .ok (.if_icmp .ge 29, 3) := by decide +kernel
theorem dX4_earliest_13 : decode cX4_earliest 13 = .ok (.iload_n 2, 1) := by decide +kernel
theorem dX4_earliest_14 : decode cX4_earliest 14 = .ok (.bipush 8, 2) := by decide +kernel
theorem dX4_earliest_16 : decode cX4_earliest 16 = .ok (.if_icmp .ge 23, 3) := by decide +kernel
theorem dX4_earliest_19 : decode cX4_earliest 19 = .ok (.iload_n 1, 1) := by decide +kernel
theorem dX4_earliest_20 : decode cX4_earliest 20 = .ok (.aload_n 0, 1) := by decide +kernel
theorem dX4_earliest_21 : decode cX4_earliest 21 = .ok (.getfield 34, 3) := by decide +kernel
theorem dX4_earliest_24 : decode cX4_earliest 24 = .ok (.iload_n 2, 1) := by decide +kernel
theorem dX4_earliest_25 : decode cX4_earliest 25 = .ok (.aaload, 1) := by decide +kernel
theorem dX4_earliest_26 : decode cX4_earliest 26 = .ok (.invokestatic 163, 3) := by decide +kernel
theorem dX4_earliest_29 : decode cX4_earliest 29 = .ok (.invokestatic 150, 3) := by decide +kernel
theorem dX4_earliest_32 : decode cX4_earliest 32 = .ok (.istore_n 1, 1) := by decide +kernel
theorem dX4_earliest_33 : decode cX4_earliest 33 = .ok (.iinc 2 1, 3) := by decide +kernel
theorem dX4_earliest_36 : decode cX4_earliest 36 = .ok (.goto (-31), 3) := by decide +kernel
theorem dX4_earliest_39 : decode cX4_earliest 39 = .ok (.iload_n 1, 1) := by decide +kernel
theorem dX4_earliest_40 : decode cX4_earliest 40 = .ok (.ireturn, 1) := by decide +kernel
theorem wX4_earliest_L5 {x : GX} {n0 sl0 : Nat} (X : Cx x cX4_earliest RX4 (some .int) n0 sl0 1 20) {out : Int32 × Mm} (hE : Ends x n0 sl0 (some (pI out.1)) out.2) (hn : xn x = 3) (fu : Nat)   : ∀ (n : Nat) (a0 : Nat) (a1 : Int32) (a2 : Int32)  (M : Mm), fX4_earliest_L5 fu  n a0 a1 a2 M = some out → Gw x M 5 [(0, pR (some a0)), (1, pI a1), (2, pI a2)] [] := by
  intro n
  induction n with
  | zero =>
    intro a0 a1 a2 M h
    have h : (none : Option (Int32 × Mm)) = some out := h
    cases h
  | succ n ih =>
    intro a0 a1 a2 M h
    rw [fX4_earliest_L5] at h
    refine g_iload_n X (pc := 5) 2 rfl rfl dX4_earliest_5 ?_
    refine g_aload_n X (pc := 6) 0 rfl rfl dX4_earliest_6 ?_
    obtain ⟨v1, ev1, h⟩ := bd h
    refine g_getI X (pc := 7) fk_4_4 rfl rfl ev1 tb_107 dX4_earliest_7 ?_
    refine g_icmp_ge X (pc := 10) (tgt := 39) dX4_earliest_10 (by decide) (fun hc => ?_) (fun hc => ?_)
    · have h := (if_pos hc).symm.trans h
      refine g_iload_n X (pc := 39) 1 rfl rfl dX4_earliest_39 ?_
      obtain rfl := Option.some.inj h
      exact g_ireturn X hE dX4_earliest_40
    · have h := (if_neg hc).symm.trans h
      refine g_iload_n X (pc := 13) 2 rfl rfl dX4_earliest_13 ?_
      refine g_bipush X (pc := 14) (v := 8) dX4_earliest_14 (by decide) ?_
      refine g_icmp_ge X (pc := 16) (tgt := 39) dX4_earliest_16 (by decide) (fun hc => ?_) (fun hc => ?_)
      · have h := (if_pos hc).symm.trans h
        refine g_iload_n X (pc := 39) 1 rfl rfl dX4_earliest_39 ?_
        obtain rfl := Option.some.inj h
        exact g_ireturn X hE dX4_earliest_40
      · have h := (if_neg hc).symm.trans h
        refine g_iload_n X (pc := 19) 1 rfl rfl dX4_earliest_19 ?_
        refine g_aload_n X (pc := 20) 0 rfl rfl dX4_earliest_20 ?_
        obtain ⟨v2, ev2, h⟩ := bd h
        refine g_getR X (pc := 21) fk_4_14 rfl rfl ev2 tb_118 dX4_earliest_21 ?_
        refine g_iload_n X (pc := 24) 2 rfl rfl dX4_earliest_24 ?_
        obtain ⟨v3, ev3, h⟩ := bd h
        refine g_aaload X (pc := 25) (k := 3) rfl rfl (by decide) ev3 dX4_earliest_25 ?_
        obtain ⟨v5, M4, eM4, h⟩ := b2d h
        refine g_callS X (pc := 26) (M' := M4) (ro := some (pI v5)) (as := [pR v3]) (as' := [pR v3]) (st := [pI a1]) (ctX4_dueOf _ _ _ _ _ _ fu  v3 M _ eM4) tb_476 tb_474 tb_475 tb_4 hyX4_dueOf rfl rfl ⟨by decide, by decide⟩ (Nat.le_of_ble_eq_true rfl) dX4_earliest_26 ?_
        refine g_mmin X (pc := 29) tb_477 tb_348 tb_13 tb_349 ⟨by decide, Nat.le_of_ble_eq_true rfl⟩ dX4_earliest_29 ?_
        refine g_istore_n X (pc := 32) [(1, pI (jmin a1 v5)), (0, pR (some a0)), (2, pI a2)] rfl (lt_n hn (by decide)) rfl dX4_earliest_32 ?_
        refine g_iinc X (pc := 33) 2 [(2, pI (a2 + (1 : Int32))), (1, pI (jmin a1 v5)), (0, pR (some a0))] rfl (iinc_e (by decide)) (lt_n hn (by decide)) rfl dX4_earliest_33 ?_
        refine g_goto X (pc := 36) (tgt := 5) dX4_earliest_36 (by decide) ?_
        refine g_sub [2, 1, 0] [(0, pR (some a0)), (1, pI (jmin a1 v5)), (2, pI (a2 + (1 : Int32)))] rfl ?_
        exact ih a0 (jmin a1 v5) (a2 + (1 : Int32)) M4 h
theorem wX4_earliest {x : GX} {n0 sl0 : Nat} (X : Cx x cX4_earliest RX4 (some .int) n0 sl0 1 20) {out : Int32 × Mm} (hE : Ends x n0 sl0 (some (pI out.1)) out.2) (hn : xn x = 3) (fu : Nat)   (a0 : Nat)  (M : Mm) (h : fX4_earliest fu  a0 M = some out) : Gw x M 0 [(0, pR (some a0))] [] := by
  unfold fX4_earliest at h
  refine g_ldc X (pc := 0) tb_473 dX4_earliest_0 ?_
  refine g_istore_n X (pc := 2) [(1, pI (2147483647 : Int32)), (0, pR (some a0))] rfl (lt_n hn (by decide)) rfl dX4_earliest_2 ?_
  refine g_iconst X (pc := 3) (v := 0) dX4_earliest_3 (by decide) ?_
  refine g_istore_n X (pc := 4) [(2, pI (0 : Int32)), (1, pI (2147483647 : Int32)), (0, pR (some a0))] rfl (lt_n hn (by decide)) rfl dX4_earliest_4 ?_
  refine g_sub [2, 1, 0] [(0, pR (some a0)), (1, pI (2147483647 : Int32)), (2, pI (0 : Int32))] rfl ?_
  exact wX4_earliest_L5 X hE hn fu   fu a0 (2147483647 : Int32) (0 : Int32) M h
theorem hyX4_earliest : yX4_earliest.cls ≠ "java/lang/invoke/MethodHandle" ∧ yX4_earliest.cls ≠ "java/lang/invoke/VarHandle" ∧ (parseMethodDescriptor yX4_earliest.desc).map (fun d => d.parameters.length) = some 0 := ⟨by decide +kernel, by decide +kernel, by decide +kernel⟩
theorem ctX4_earliest (l : Launch) (E : Nat → Nat) (D : va_G) (dA : Nat → ClassId) (lo : Nat) (H0 : Heap) (fu : Nat) (a0 : Nat) (M : Mm) (out : Int32 × Mm) (h : fX4_earliest fu a0 M = some out) : Ct l E D dA lo H0 yX4_earliest cX4_earliest 3 (some .int) 1 20 [pR (some a0)] M (some (pI out.1)) out.2 := by
  refine ct_of (by decide +kernel) (Nat.le_of_ble_eq_true rfl) ?_
  intro x hl he hd ha ho hh hn hin X hE
  exact wX4_earliest X hE hn fu a0 M h
/-! WebHost$Pace.startTiming(II)V -/
def fX5_startTiming (fu : Nat)  (a0 : Nat) (a1 : Int32) (a2 : Int32)  (M : Mm) : Option (Mm) :=
    (gI M 5 328 (some a0)).bind fun v1 =>
    if v1 = 0 then (
    (pZ M 5 328 (some a0) (1 : Int32)).bind fun M2 =>
    (pF M2 5 329 (some a0) a1).bind fun M3 =>
    (pF M3 5 330 (some a0) a2).bind fun M4 =>
    some M4)
    else (
    some M)
theorem dX5_startTiming_0 : decode cX5_startTiming 0 = .ok (.aload_n 0, 1) := by decide +kernel
theorem dX5_startTiming_1 : decode cX5_startTiming 1 = .ok (.getfield 39, 3) := by decide +kernel
theorem dX5_startTiming_4 : decode cX5_startTiming 4 = .ok (.ifCond .ne 18, 3) := by decide +kernel
theorem dX5_startTiming_7 : decode cX5_startTiming 7 = .ok (.aload_n 0, 1) := by decide +kernel
theorem dX5_startTiming_8 : decode cX5_startTiming 8 = .ok (.iconst 1, 1) := by decide +kernel
theorem dX5_startTiming_9 : decode cX5_startTiming 9 = .ok (.putfield 39, 3) := by decide +kernel
theorem dX5_startTiming_12 : decode cX5_startTiming 12 = .ok (.aload_n 0, 1) := by decide +kernel
theorem dX5_startTiming_13 : decode cX5_startTiming 13 = .ok (.iload_n 1, 1) := by decide +kernel
theorem dX5_startTiming_14 : decode cX5_startTiming 14 = .ok (.putfield 51, 3) := by decide +kernel
theorem dX5_startTiming_17 : decode cX5_startTiming 17 = .ok (.aload_n 0, 1) := by decide +kernel
theorem dX5_startTiming_18 : decode cX5_startTiming 18 = .ok (.iload_n 2, 1) := by decide +kernel
theorem dX5_startTiming_19 : decode cX5_startTiming 19 = .ok (.putfield 54, 3) := by decide +kernel
theorem dX5_startTiming_22 : decode cX5_startTiming 22 = .ok (.return_, 1) := by decide +kernel
theorem wX5_startTiming {x : GX} {n0 sl0 : Nat} (X : Cx x cX5_startTiming RX5 none n0 sl0 0 0) {out : Mm} (hE : Ends x n0 sl0 none out) (hn : xn x = 3) (fu : Nat)   (a0 : Nat) (a1 : Int32) (a2 : Int32)  (M : Mm) (h : fX5_startTiming fu  a0 a1 a2 M = some out) : Gw x M 0 [(0, pR (some a0)), (1, pI a1), (2, pI a2)] [] := by
  unfold fX5_startTiming at h
  refine g_aload_n X (pc := 0) 0 rfl rfl dX5_startTiming_0 ?_
  obtain ⟨v1, ev1, h⟩ := bd h
  refine g_getI X (pc := 1) fk_5_8 rfl rfl ev1 tb_921 dX5_startTiming_1 ?_
  refine g_if_ne X (pc := 4) (tgt := 22) dX5_startTiming_4 (by decide) (fun hc => ?_) (fun hc => ?_)
  · have h := (if_neg hc).symm.trans h
    obtain rfl := Option.some.inj h
    exact g_return X hE dX5_startTiming_22
  · have h := (if_pos hc).symm.trans h
    refine g_aload_n X (pc := 7) 0 rfl rfl dX5_startTiming_7 ?_
    refine g_iconst X (pc := 8) (v := 1) dX5_startTiming_8 (by decide) ?_
    obtain ⟨M2, eM2, h⟩ := bd h
    refine g_putZ X (pc := 9) fk_5_8 rfl rfl rfl eM2 tb_921 (Or.inl rfl) dX5_startTiming_9 ?_
    refine g_aload_n X (pc := 12) 0 rfl rfl dX5_startTiming_12 ?_
    refine g_iload_n X (pc := 13) 1 rfl rfl dX5_startTiming_13 ?_
    obtain ⟨M3, eM3, h⟩ := bd h
    refine g_putI X (pc := 14) fk_5_9 rfl rfl rfl eM3 tb_923 (Or.inl rfl) dX5_startTiming_14 ?_
    refine g_aload_n X (pc := 17) 0 rfl rfl dX5_startTiming_17 ?_
    refine g_iload_n X (pc := 18) 2 rfl rfl dX5_startTiming_18 ?_
    obtain ⟨M4, eM4, h⟩ := bd h
    refine g_putI X (pc := 19) fk_5_10 rfl rfl rfl eM4 tb_924 (Or.inl rfl) dX5_startTiming_19 ?_
    obtain rfl := Option.some.inj h
    exact g_return X hE dX5_startTiming_22
theorem hyX5_startTiming : yX5_startTiming.cls ≠ "java/lang/invoke/MethodHandle" ∧ yX5_startTiming.cls ≠ "java/lang/invoke/VarHandle" ∧ (parseMethodDescriptor yX5_startTiming.desc).map (fun d => d.parameters.length) = some 2 := ⟨by decide +kernel, by decide +kernel, by decide +kernel⟩
theorem ctX5_startTiming (l : Launch) (E : Nat → Nat) (D : va_G) (dA : Nat → ClassId) (lo : Nat) (H0 : Heap) (fu : Nat) (a0 : Nat) (a1 : Int32) (a2 : Int32) (M : Mm) (out : Mm) (h : fX5_startTiming fu a0 a1 a2 M = some out) : Ct l E D dA lo H0 yX5_startTiming cX5_startTiming 3 none 0 0 [pR (some a0), pI a1, pI a2] M none out := by
  refine ct_of (by decide +kernel) (Nat.le_of_ble_eq_true rfl) ?_
  intro x hl he hd ha ho hh hn hin X hE
  exact wX5_startTiming X hE hn fu a0 a1 a2 M h
/-! WebHost$Pace.endTiming(II)V -/
def fX5_endTiming_L94 (fu : Nat)  (a0 : Nat)  (M : Mm) : Option (Mm) :=
    (gI M 5 332 (some a0)).bind fun v1 =>
    (gI M 5 333 (some a0)).bind fun v2 =>
    (pF M 5 323 (some a0) (jmax (1000 : Int32) (jmin (60000 : Int32) (v1 + (jmax (10 : Int32) ((4 : Int32) * v2)))))).bind fun M3 =>
    some M3
def fX5_endTiming (fu : Nat)  (a0 : Nat) (a1 : Int32) (a2 : Int32)  (M : Mm) : Option (Mm) :=
    (gI M 5 328 (some a0)).bind fun v1 =>
    if v1 = 0 then (
    some M)
    else (
    (gI M 5 329 (some a0)).bind fun v2 =>
    if 0 < (a1 - v2) then (
    (pZ M 5 328 (some a0) (0 : Int32)).bind fun M3 =>
    (gI M3 5 330 (some a0)).bind fun v4 =>
    (gI M3 5 331 (some a0)).bind fun v5 =>
    if v5 = 0 then (
    (pZ M3 5 331 (some a0) (1 : Int32)).bind fun M6 =>
    (pF M6 5 332 (some a0) (a2 - v4)).bind fun M7 =>
    (pF M7 5 333 (some a0) ((a2 - v4) / (2 : Int32))).bind fun M8 =>
    fX5_endTiming_L94 fu  a0 M8)
    else (
    (gI M3 5 333 (some a0)).bind fun v9 =>
    (gI M3 5 332 (some a0)).bind fun v10 =>
    (pF M3 5 333 (some a0) ((((3 : Int32) * v9) + (jabs (v10 - (a2 - v4)))) / (4 : Int32))).bind fun M11 =>
    (gI M11 5 332 (some a0)).bind fun v12 =>
    (pF M11 5 332 (some a0) ((((7 : Int32) * v12) + (a2 - v4)) / (8 : Int32))).bind fun M13 =>
    fX5_endTiming_L94 fu  a0 M13))
    else (
    some M))
theorem dX5_endTiming_0 : decode cX5_endTiming 0 = .ok (.aload_n 0, 1) := by decide +kernel
theorem dX5_endTiming_1 : decode cX5_endTiming 1 = .ok (.getfield 39, 3) := by decide +kernel
theorem dX5_endTiming_4 : decode cX5_endTiming 4 = .ok (.ifCond .eq 12, 3) := by decide +kernel
theorem dX5_endTiming_7 : decode cX5_endTiming 7 = .ok (.iload_n 1, 1) := by decide +kernel
theorem dX5_endTiming_8 : decode cX5_endTiming 8 = .ok (.aload_n 0, 1) := by decide +kernel
theorem dX5_endTiming_9 : decode cX5_endTiming 9 = .ok (.getfield 51, 3) := by decide +kernel
theorem dX5_endTiming_12 : decode cX5_endTiming 12 = .ok (.isub, 1) := by decide +kernel
theorem dX5_endTiming_13 : decode cX5_endTiming 13 = .ok (.ifCond .gt 4, 3) := by decide +kernel
theorem dX5_endTiming_16 : decode cX5_endTiming 16 = .ok (.return_, 1) := by decide +kernel
theorem dX5_endTiming_17 : decode cX5_endTiming 17 = .ok (.aload_n 0, 1) := by decide +kernel
theorem dX5_endTiming_18 : decode cX5_endTiming 18 = .ok (.iconst 0, 1) := by decide +kernel
theorem dX5_endTiming_19 : decode cX5_endTiming 19 = .ok (.putfield 39, 3) := by decide +kernel
theorem dX5_endTiming_22 : decode cX5_endTiming 22 = .ok (.iload_n 2, 1) := by decide +kernel
theorem dX5_endTiming_23 : decode cX5_endTiming 23 = .ok (.aload_n 0, 1) := by decide +kernel
theorem dX5_endTiming_24 : decode cX5_endTiming 24 = .ok (.getfield 54, 3) := by decide +kernel
theorem dX5_endTiming_27 : decode cX5_endTiming 27 = .ok (.isub, 1) := by decide +kernel
theorem dX5_endTiming_28 : decode cX5_endTiming 28 = .ok (.istore_n 3, 1) := by decide +kernel
theorem dX5_endTiming_29 : decode cX5_endTiming 29 = .ok (.aload_n 0, 1) := by decide +kernel
theorem dX5_endTiming_30 : decode cX5_endTiming 30 = .ok (.getfield 42, 3) := by decide +kernel
theorem dX5_endTiming_33 : decode cX5_endTiming 33 = .ok (.ifCond .eq 44, 3) := by decide +kernel
theorem dX5_endTiming_36 : decode cX5_endTiming 36 = .ok (.aload_n 0, 1) := by decide +kernel
theorem dX5_endTiming_37 : decode cX5_endTiming 37 = .ok (.iconst 3, 1) := by decide +kernel
theorem dX5_endTiming_38 : decode cX5_endTiming 38 = .ok (.aload_n 0, 1) := by decide +kernel
theorem dX5_endTiming_39 : decode cX5_endTiming 39 = .ok (.getfield 48, 3) := by decide +kernel
theorem dX5_endTiming_42 : decode cX5_endTiming 42 = .ok (.imul, 1) := by decide +kernel
theorem dX5_endTiming_43 : decode cX5_endTiming 43 = .ok (.aload_n 0, 1) := by decide +kernel
theorem dX5_endTiming_44 : decode cX5_endTiming 44 = .ok (.getfield 45, 3) := by decide +kernel
theorem dX5_endTiming_47 : decode cX5_endTiming 47 = .ok (.iload_n 3, 1) := by decide +kernel
theorem dX5_endTiming_48 : decode cX5_endTiming 48 = .ok (.isub, 1) := by decide +kernel
theorem dX5_endTiming_49 : decode cX5_endTiming 49 = .ok (.invokestatic 57, 3) := by decide +kernel
theorem dX5_endTiming_52 : decode cX5_endTiming 52 = .ok (.iadd, 1) := by decide +kernel
theorem dX5_endTiming_53 : decode cX5_endTiming 53 = .ok (.iconst 4, 1) := by decide +kernel
theorem dX5_endTiming_54 : decode cX5_endTiming 54 = .ok (.idiv, 1) := by decide +kernel
theorem dX5_endTiming_55 : decode cX5_endTiming 55 = .ok (.putfield 48, 3) := by decide +kernel
theorem dX5_endTiming_58 : decode cX5_endTiming 58 = .ok (.aload_n 0, 1) := by decide +kernel
theorem dX5_endTiming_59 : decode cX5_endTiming 59 = .ok (.bipush 7, 2) := by decide +kernel
theorem dX5_endTiming_61 : decode cX5_endTiming 61 = .ok (.aload_n 0, 1) := by decide +kernel
theorem dX5_endTiming_62 : decode cX5_endTiming 62 = .ok (.getfield 45, 3) := by decide +kernel
theorem dX5_endTiming_65 : decode cX5_endTiming 65 = .ok (.imul, 1) := by decide +kernel
theorem dX5_endTiming_66 : decode cX5_endTiming 66 = .ok (.iload_n 3, 1) := by decide +kernel
theorem dX5_endTiming_67 : decode cX5_endTiming 67 = .ok (.iadd, 1) := by decide +kernel
theorem dX5_endTiming_68 : decode cX5_endTiming 68 = .ok (.bipush 8, 2) := by decide +kernel
theorem dX5_endTiming_70 : decode cX5_endTiming 70 = .ok (.idiv, 1) := by decide +kernel
theorem dX5_endTiming_71 : decode cX5_endTiming 71 = .ok (.putfield 45, 3) := by decide +kernel
theorem dX5_endTiming_74 : decode cX5_endTiming 74 = .ok (.goto 20, 3) := by decide +kernel
theorem dX5_endTiming_77 : decode cX5_endTiming 77 = .ok (.aload_n 0, 1) := by decide +kernel
theorem dX5_endTiming_78 : decode cX5_endTiming 78 = .ok (.iconst 1, 1) := by decide +kernel
theorem dX5_endTiming_79 : decode cX5_endTiming 79 = .ok (.putfield 42, 3) := by decide +kernel
theorem dX5_endTiming_82 : decode cX5_endTiming 82 = .ok (.aload_n 0, 1) := by decide +kernel
theorem dX5_endTiming_83 : decode cX5_endTiming 83 = .ok (.iload_n 3, 1) := by decide +kernel
theorem dX5_endTiming_84 : decode cX5_endTiming 84 = .ok (.putfield 45, 3) := by decide +kernel
theorem dX5_endTiming_87 : decode cX5_endTiming 87 = .ok (.aload_n 0, 1) := by decide +kernel
theorem dX5_endTiming_88 : decode cX5_endTiming 88 = .ok (.iload_n 3, 1) := by decide +kernel
theorem dX5_endTiming_89 : decode cX5_endTiming 89 = .ok (.iconst 2, 1) := by decide +kernel
theorem dX5_endTiming_90 : decode cX5_endTiming 90 = .ok (.idiv, 1) := by decide +kernel
theorem dX5_endTiming_91 : decode cX5_endTiming 91 = .ok (.putfield 48, 3) := by decide +kernel
theorem dX5_endTiming_94 : decode cX5_endTiming 94 = .ok (.aload_n 0, 1) := by decide +kernel
theorem dX5_endTiming_95 : decode cX5_endTiming 95 = .ok (.sipush 1000, 3) := by decide +kernel
theorem dX5_endTiming_98 : decode cX5_endTiming 98 = .ok (.ldc 63, 2) := by decide +kernel
theorem dX5_endTiming_100 : decode cX5_endTiming 100 = .ok (.aload_n 0, 1) := by decide +kernel
theorem dX5_endTiming_101 : decode cX5_endTiming 101 = .ok (.getfield 45, 3) := by decide +kernel
theorem dX5_endTiming_104 : decode cX5_endTiming 104 = .ok (.bipush 10, 2) := by decide +kernel
theorem dX5_endTiming_106 : decode cX5_endTiming 106 = .ok (.iconst 4, 1) := by decide +kernel
theorem dX5_endTiming_107 : decode cX5_endTiming 107 = .ok (.aload_n 0, 1) := by decide +kernel
theorem dX5_endTiming_108 : decode cX5_endTiming 108 = .ok (.getfield 48, 3) := by decide +kernel
theorem dX5_endTiming_111 : decode cX5_endTiming 111 = .ok (.imul, 1) := by decide +kernel
theorem dX5_endTiming_112 : decode cX5_endTiming 112 = .ok (.invokestatic 64, 3) := by decide +kernel
theorem dX5_endTiming_115 : decode cX5_endTiming 115 = .ok (.iadd, 1) := by decide +kernel
theorem dX5_endTiming_116 : decode cX5_endTiming 116 = .ok (.invokestatic 68, 3) := by decide +kernel
theorem dX5_endTiming_119 : decode cX5_endTiming 119 = .ok (.invokestatic 64, 3) := by decide +kernel
theorem dX5_endTiming_122 : decode cX5_endTiming 122 = .ok (.putfield 22, 3) := by decide +kernel
theorem dX5_endTiming_125 : decode cX5_endTiming 125 = .ok (.return_, 1) := by decide +kernel
theorem wX5_endTiming_L94 {x : GX} {n0 sl0 : Nat} (X : Cx x cX5_endTiming RX5 none n0 sl0 1 17) {out : Mm} (hE : Ends x n0 sl0 none out) (hn : xn x = 4) (fu : Nat)   (a0 : Nat)  (M : Mm) (h : fX5_endTiming_L94 fu  a0 M = some out) : Gw x M 94 [(0, pR (some a0))] [] := by
  unfold fX5_endTiming_L94 at h
  refine g_aload_n X (pc := 94) 0 rfl rfl dX5_endTiming_94 ?_
  refine g_sipush X (pc := 95) (v := 1000) dX5_endTiming_95 (by decide) ?_
  refine g_ldc X (pc := 98) tb_661 dX5_endTiming_98 ?_
  refine g_aload_n X (pc := 100) 0 rfl rfl dX5_endTiming_100 ?_
  obtain ⟨v1, ev1, h⟩ := bd h
  refine g_getI X (pc := 101) fk_5_12 rfl rfl ev1 tb_926 dX5_endTiming_101 ?_
  refine g_bipush X (pc := 104) (v := 10) dX5_endTiming_104 (by decide) ?_
  refine g_iconst X (pc := 106) (v := 4) dX5_endTiming_106 (by decide) ?_
  refine g_aload_n X (pc := 107) 0 rfl rfl dX5_endTiming_107 ?_
  obtain ⟨v2, ev2, h⟩ := bd h
  refine g_getI X (pc := 108) fk_5_13 rfl rfl ev2 tb_927 dX5_endTiming_108 ?_
  refine g_imul X (pc := 111) dX5_endTiming_111 ?_
  refine g_mmax X (pc := 112) tb_656 tb_405 tb_13 tb_406 ⟨by decide, Nat.le_of_ble_eq_true rfl⟩ dX5_endTiming_112 ?_
  refine g_iadd X (pc := 115) dX5_endTiming_115 ?_
  refine g_mmin X (pc := 116) tb_662 tb_348 tb_13 tb_349 ⟨by decide, Nat.le_of_ble_eq_true rfl⟩ dX5_endTiming_116 ?_
  refine g_mmax X (pc := 119) tb_656 tb_405 tb_13 tb_406 ⟨by decide, Nat.le_of_ble_eq_true rfl⟩ dX5_endTiming_119 ?_
  obtain ⟨M3, eM3, h⟩ := bd h
  refine g_putI X (pc := 122) fk_5_3 rfl rfl rfl eM3 tb_907 (Or.inl rfl) dX5_endTiming_122 ?_
  obtain rfl := Option.some.inj h
  exact g_return X hE dX5_endTiming_125
theorem wX5_endTiming {x : GX} {n0 sl0 : Nat} (X : Cx x cX5_endTiming RX5 none n0 sl0 1 17) {out : Mm} (hE : Ends x n0 sl0 none out) (hn : xn x = 4) (fu : Nat)   (a0 : Nat) (a1 : Int32) (a2 : Int32)  (M : Mm) (h : fX5_endTiming fu  a0 a1 a2 M = some out) : Gw x M 0 [(0, pR (some a0)), (1, pI a1), (2, pI a2)] [] := by
  unfold fX5_endTiming at h
  refine g_aload_n X (pc := 0) 0 rfl rfl dX5_endTiming_0 ?_
  obtain ⟨v1, ev1, h⟩ := bd h
  refine g_getI X (pc := 1) fk_5_8 rfl rfl ev1 tb_921 dX5_endTiming_1 ?_
  refine g_if_eq X (pc := 4) (tgt := 16) dX5_endTiming_4 (by decide) (fun hc => ?_) (fun hc => ?_)
  · have h := (if_pos hc).symm.trans h
    obtain rfl := Option.some.inj h
    exact g_return X hE dX5_endTiming_16
  · have h := (if_neg hc).symm.trans h
    refine g_iload_n X (pc := 7) 1 rfl rfl dX5_endTiming_7 ?_
    refine g_aload_n X (pc := 8) 0 rfl rfl dX5_endTiming_8 ?_
    obtain ⟨v2, ev2, h⟩ := bd h
    refine g_getI X (pc := 9) fk_5_9 rfl rfl ev2 tb_923 dX5_endTiming_9 ?_
    refine g_isub X (pc := 12) dX5_endTiming_12 ?_
    refine g_if_gt X (pc := 13) (tgt := 17) dX5_endTiming_13 (by decide) (fun hc => ?_) (fun hc => ?_)
    · have h := (if_pos hc).symm.trans h
      refine g_aload_n X (pc := 17) 0 rfl rfl dX5_endTiming_17 ?_
      refine g_iconst X (pc := 18) (v := 0) dX5_endTiming_18 (by decide) ?_
      obtain ⟨M3, eM3, h⟩ := bd h
      refine g_putZ X (pc := 19) fk_5_8 rfl rfl rfl eM3 tb_921 (Or.inl rfl) dX5_endTiming_19 ?_
      refine g_iload_n X (pc := 22) 2 rfl rfl dX5_endTiming_22 ?_
      refine g_aload_n X (pc := 23) 0 rfl rfl dX5_endTiming_23 ?_
      obtain ⟨v4, ev4, h⟩ := bd h
      refine g_getI X (pc := 24) fk_5_10 rfl rfl ev4 tb_924 dX5_endTiming_24 ?_
      refine g_isub X (pc := 27) dX5_endTiming_27 ?_
      refine g_istore_n X (pc := 28) [(3, pI (a2 - v4)), (0, pR (some a0)), (1, pI a1), (2, pI a2)] rfl (lt_n hn (by decide)) rfl dX5_endTiming_28 ?_
      refine g_aload_n X (pc := 29) 1 rfl rfl dX5_endTiming_29 ?_
      obtain ⟨v5, ev5, h⟩ := bd h
      refine g_getI X (pc := 30) fk_5_11 rfl rfl ev5 tb_925 dX5_endTiming_30 ?_
      refine g_if_eq X (pc := 33) (tgt := 77) dX5_endTiming_33 (by decide) (fun hc => ?_) (fun hc => ?_)
      · have h := (if_pos hc).symm.trans h
        refine g_aload_n X (pc := 77) 1 rfl rfl dX5_endTiming_77 ?_
        refine g_iconst X (pc := 78) (v := 1) dX5_endTiming_78 (by decide) ?_
        obtain ⟨M6, eM6, h⟩ := bd h
        refine g_putZ X (pc := 79) fk_5_11 rfl rfl rfl eM6 tb_925 (Or.inl rfl) dX5_endTiming_79 ?_
        refine g_aload_n X (pc := 82) 1 rfl rfl dX5_endTiming_82 ?_
        refine g_iload_n X (pc := 83) 0 rfl rfl dX5_endTiming_83 ?_
        obtain ⟨M7, eM7, h⟩ := bd h
        refine g_putI X (pc := 84) fk_5_12 rfl rfl rfl eM7 tb_926 (Or.inl rfl) dX5_endTiming_84 ?_
        refine g_aload_n X (pc := 87) 1 rfl rfl dX5_endTiming_87 ?_
        refine g_iload_n X (pc := 88) 0 rfl rfl dX5_endTiming_88 ?_
        refine g_iconst X (pc := 89) (v := 2) dX5_endTiming_89 (by decide) ?_
        refine g_idiv X (pc := 90) (by decide) dX5_endTiming_90 ?_
        obtain ⟨M8, eM8, h⟩ := bd h
        refine g_putI X (pc := 91) fk_5_13 rfl rfl rfl eM8 tb_927 (Or.inl rfl) dX5_endTiming_91 ?_
        refine g_sub [1] [(0, pR (some a0))] rfl ?_
        exact wX5_endTiming_L94 X hE hn fu   a0 M8 h
      · have h := (if_neg hc).symm.trans h
        refine g_aload_n X (pc := 36) 1 rfl rfl dX5_endTiming_36 ?_
        refine g_iconst X (pc := 37) (v := 3) dX5_endTiming_37 (by decide) ?_
        refine g_aload_n X (pc := 38) 1 rfl rfl dX5_endTiming_38 ?_
        obtain ⟨v9, ev9, h⟩ := bd h
        refine g_getI X (pc := 39) fk_5_13 rfl rfl ev9 tb_927 dX5_endTiming_39 ?_
        refine g_imul X (pc := 42) dX5_endTiming_42 ?_
        refine g_aload_n X (pc := 43) 1 rfl rfl dX5_endTiming_43 ?_
        obtain ⟨v10, ev10, h⟩ := bd h
        refine g_getI X (pc := 44) fk_5_12 rfl rfl ev10 tb_926 dX5_endTiming_44 ?_
        refine g_iload_n X (pc := 47) 0 rfl rfl dX5_endTiming_47 ?_
        refine g_isub X (pc := 48) dX5_endTiming_48 ?_
        refine g_mabs X (pc := 49) tb_1099 tb_1100 tb_13 tb_1101 ⟨by decide, Nat.le_of_ble_eq_true rfl⟩ dX5_endTiming_49 ?_
        refine g_iadd X (pc := 52) dX5_endTiming_52 ?_
        refine g_iconst X (pc := 53) (v := 4) dX5_endTiming_53 (by decide) ?_
        refine g_idiv X (pc := 54) (by decide) dX5_endTiming_54 ?_
        obtain ⟨M11, eM11, h⟩ := bd h
        refine g_putI X (pc := 55) fk_5_13 rfl rfl rfl eM11 tb_927 (Or.inl rfl) dX5_endTiming_55 ?_
        refine g_aload_n X (pc := 58) 1 rfl rfl dX5_endTiming_58 ?_
        refine g_bipush X (pc := 59) (v := 7) dX5_endTiming_59 (by decide) ?_
        refine g_aload_n X (pc := 61) 1 rfl rfl dX5_endTiming_61 ?_
        obtain ⟨v12, ev12, h⟩ := bd h
        refine g_getI X (pc := 62) fk_5_12 rfl rfl ev12 tb_926 dX5_endTiming_62 ?_
        refine g_imul X (pc := 65) dX5_endTiming_65 ?_
        refine g_iload_n X (pc := 66) 0 rfl rfl dX5_endTiming_66 ?_
        refine g_iadd X (pc := 67) dX5_endTiming_67 ?_
        refine g_bipush X (pc := 68) (v := 8) dX5_endTiming_68 (by decide) ?_
        refine g_idiv X (pc := 70) (by decide) dX5_endTiming_70 ?_
        obtain ⟨M13, eM13, h⟩ := bd h
        refine g_putI X (pc := 71) fk_5_12 rfl rfl rfl eM13 tb_926 (Or.inl rfl) dX5_endTiming_71 ?_
        refine g_goto X (pc := 74) (tgt := 94) dX5_endTiming_74 (by decide) ?_
        refine g_sub [1] [(0, pR (some a0))] rfl ?_
        exact wX5_endTiming_L94 X hE hn fu   a0 M13 h
    · have h := (if_neg hc).symm.trans h
      obtain rfl := Option.some.inj h
      exact g_return X hE dX5_endTiming_16
theorem hyX5_endTiming : yX5_endTiming.cls ≠ "java/lang/invoke/MethodHandle" ∧ yX5_endTiming.cls ≠ "java/lang/invoke/VarHandle" ∧ (parseMethodDescriptor yX5_endTiming.desc).map (fun d => d.parameters.length) = some 2 := ⟨by decide +kernel, by decide +kernel, by decide +kernel⟩
theorem ctX5_endTiming (l : Launch) (E : Nat → Nat) (D : va_G) (dA : Nat → ClassId) (lo : Nat) (H0 : Heap) (fu : Nat) (a0 : Nat) (a1 : Int32) (a2 : Int32) (M : Mm) (out : Mm) (h : fX5_endTiming fu a0 a1 a2 M = some out) : Ct l E D dA lo H0 yX5_endTiming cX5_endTiming 4 none 1 17 [pR (some a0), pI a1, pI a2] M none out := by
  refine ct_of (by decide +kernel) (Nat.le_of_ble_eq_true rfl) ?_
  intro x hl he hd ha ho hh hn hin X hE
  exact wX5_endTiming X hE hn fu a0 a1 a2 M h
/-! WebHost$Pace.grow(I)V -/
def fX5_grow (fu : Nat)  (a0 : Nat) (a1 : Int32)  (M : Mm) : Option (Mm) :=
    (gI M 5 327 (some a0)).bind fun v1 =>
    if v1 = 0 then (
    (gI M 5 321 (some a0)).bind fun v2 =>
    (gI M 5 322 (some a0)).bind fun v3 =>
    if v3 ≤ v2 then (
    (gI M 5 321 (some a0)).bind fun v4 =>
    (gI M 5 320 (some a0)).bind fun v5 =>
    (gI M 5 320 (some a0)).bind fun v6 =>
    (gI M 5 321 (some a0)).bind fun v7 =>
    if (jmax (1 : Int32) v7) = 0 then none else
    (pF M 5 321 (some a0) (jmin (65535 : Int32) (v4 + (jmax (1 : Int32) ((v5 * v6) / (jmax (1 : Int32) v7)))))).bind fun M8 =>
    some M8)
    else (
    (gI M 5 321 (some a0)).bind fun v9 =>
    (gI M 5 320 (some a0)).bind fun v10 =>
    (pF M 5 321 (some a0) (jmin (65535 : Int32) (v9 + (jmin a1 v10)))).bind fun M11 =>
    some M11))
    else (
    (pZ M 5 327 (some a0) (0 : Int32)).bind fun M12 =>
    (gI M12 5 322 (some a0)).bind fun v13 =>
    (pF M12 5 321 (some a0) v13).bind fun M14 =>
    some M14)
theorem dX5_grow_0 : decode cX5_grow 0 = .ok (.aload_n 0, 1) := by decide +kernel
theorem dX5_grow_1 : decode cX5_grow 1 = .ok (.getfield 35, 3) := by decide +kernel
theorem dX5_grow_4 : decode cX5_grow 4 = .ok (.ifCond .eq 19, 3) := by decide +kernel
theorem dX5_grow_7 : decode cX5_grow 7 = .ok (.aload_n 0, 1) := by decide +kernel
theorem dX5_grow_8 : decode cX5_grow 8 = .ok (.iconst 0, 1) := by decide +kernel
theorem dX5_grow_9 : decode cX5_grow 9 = .ok (.putfield 35, 3) := by decide +kernel
theorem dX5_grow_12 : decode cX5_grow 12 = .ok (.aload_n 0, 1) := by decide +kernel
theorem dX5_grow_13 : decode cX5_grow 13 = .ok (.aload_n 0, 1) := by decide +kernel
theorem dX5_grow_14 : decode cX5_grow 14 = .ok (.getfield 19, 3) := by decide +kernel
theorem dX5_grow_17 : decode cX5_grow 17 = .ok (.putfield 15, 3) := by decide +kernel
theorem dX5_grow_20 : decode cX5_grow 20 = .ok (.goto 75, 3) := by decide +kernel
theorem dX5_grow_23 : decode cX5_grow 23 = .ok (.aload_n 0, 1) := by decide +kernel
theorem dX5_grow_24 : decode cX5_grow 24 = .ok (.getfield 15, 3) := by decide +kernel
theorem dX5_grow_27 : decode cX5_grow 27 = .ok (.aload_n 0, 1) := by decide +kernel
theorem dX5_grow_28 : decode cX5_grow 28 = .ok (.getfield 19, 3) := by decide +kernel
theorem dX5_grow_31 : decode cX5_grow 31 = .ok (.if_icmp .ge 28, 3) := by decide +kernel
theorem dX5_grow_34 : decode cX5_grow 34 = .ok (.aload_n 0, 1) := by decide +kernel
theorem dX5_grow_35 : decode cX5_grow 35 = .ok (.ldc 18, 2) := by decide +kernel
theorem dX5_grow_37 : decode cX5_grow 37 = .ok (.aload_n 0, 1) := by decide +kernel
theorem dX5_grow_38 : decode cX5_grow 38 = .ok (.getfield 15, 3) := by decide +kernel
theorem dX5_grow_41 : decode cX5_grow 41 = .ok (.iload_n 1, 1) := by decide +kernel
theorem dX5_grow_42 : decode cX5_grow 42 = .ok (.aload_n 0, 1) := by decide +kernel
theorem dX5_grow_43 : decode cX5_grow 43 = .ok (.getfield 9, 3) := by decide +kernel
theorem dX5_grow_46 : decode cX5_grow 46 = .ok (.invokestatic 68, 3) := by decide +kernel
theorem dX5_grow_49 : decode cX5_grow 49 = .ok (.iadd, 1) := by decide +kernel
theorem dX5_grow_50 : decode cX5_grow 50 = .ok (.invokestatic 68, 3) := by decide +kernel
theorem dX5_grow_53 : decode cX5_grow 53 = .ok (.putfield 15, 3) := by decide +kernel
theorem dX5_grow_56 : decode cX5_grow 56 = .ok (.goto 39, 3) := by decide +kernel
theorem dX5_grow_59 : decode cX5_grow 59 = .ok (.aload_n 0, 1) := by decide +kernel
theorem dX5_grow_60 : decode cX5_grow 60 = .ok (.ldc 18, 2) := by decide +kernel
theorem dX5_grow_62 : decode cX5_grow 62 = .ok (.aload_n 0, 1) := by decide +kernel
theorem dX5_grow_63 : decode cX5_grow 63 = .ok (.getfield 15, 3) := by decide +kernel
theorem dX5_grow_66 : decode cX5_grow 66 = .ok (.iconst 1, 1) := by decide +kernel
theorem dX5_grow_67 : decode cX5_grow 67 = .ok (.aload_n 0, 1) := by decide +kernel
theorem dX5_grow_68 : decode cX5_grow 68 = .ok (.getfield 9, 3) := by decide +kernel
theorem dX5_grow_71 : decode cX5_grow 71 = .ok (.aload_n 0, 1) := by decide +kernel
theorem dX5_grow_72 : decode cX5_grow 72 = .ok (.getfield 9, 3) := by decide +kernel
theorem dX5_grow_75 : decode cX5_grow 75 = .ok (.imul, 1) := by decide +kernel
theorem dX5_grow_76 : decode cX5_grow 76 = .ok (.iconst 1, 1) := by decide +kernel
theorem dX5_grow_77 : decode cX5_grow 77 = .ok (.aload_n 0, 1) := by decide +kernel
theorem dX5_grow_78 : decode cX5_grow 78 = .ok (.getfield 15, 3) := by decide +kernel
theorem dX5_grow_81 : decode cX5_grow 81 = .ok (.invokestatic 64, 3) := by decide +kernel
theorem dX5_grow_84 : decode cX5_grow 84 = .ok (.idiv, 1) := by decide +kernel
theorem dX5_grow_85 : decode cX5_grow 85 = .ok (.invokestatic 64, 3) := by decide +kernel
theorem dX5_grow_88 : decode cX5_grow 88 = .ok (.iadd, 1) := by decide +kernel
theorem dX5_grow_89 : decode cX5_grow 89 = .ok (.invokestatic 68, 3) := by decide +kernel
theorem dX5_grow_92 : decode cX5_grow 92 = .ok (.putfield 15, 3) := by decide +kernel
theorem dX5_grow_95 : decode cX5_grow 95 = .ok (.return_, 1) := by decide +kernel
theorem wX5_grow {x : GX} {n0 sl0 : Nat} (X : Cx x cX5_grow RX5 none n0 sl0 1 18) {out : Mm} (hE : Ends x n0 sl0 none out) (hn : xn x = 2) (fu : Nat)   (a0 : Nat) (a1 : Int32)  (M : Mm) (h : fX5_grow fu  a0 a1 M = some out) : Gw x M 0 [(0, pR (some a0)), (1, pI a1)] [] := by
  unfold fX5_grow at h
  refine g_aload_n X (pc := 0) 0 rfl rfl dX5_grow_0 ?_
  obtain ⟨v1, ev1, h⟩ := bd h
  refine g_getI X (pc := 1) fk_5_7 rfl rfl ev1 tb_920 dX5_grow_1 ?_
  refine g_if_eq X (pc := 4) (tgt := 23) dX5_grow_4 (by decide) (fun hc => ?_) (fun hc => ?_)
  · have h := (if_pos hc).symm.trans h
    refine g_aload_n X (pc := 23) 0 rfl rfl dX5_grow_23 ?_
    obtain ⟨v2, ev2, h⟩ := bd h
    refine g_getI X (pc := 24) fk_5_1 rfl rfl ev2 tb_903 dX5_grow_24 ?_
    refine g_aload_n X (pc := 27) 0 rfl rfl dX5_grow_27 ?_
    obtain ⟨v3, ev3, h⟩ := bd h
    refine g_getI X (pc := 28) fk_5_2 rfl rfl ev3 tb_905 dX5_grow_28 ?_
    refine g_icmp_ge X (pc := 31) (tgt := 59) dX5_grow_31 (by decide) (fun hc => ?_) (fun hc => ?_)
    · have h := (if_pos hc).symm.trans h
      refine g_aload_n X (pc := 59) 0 rfl rfl dX5_grow_59 ?_
      refine g_ldc X (pc := 60) tb_1066 dX5_grow_60 ?_
      refine g_aload_n X (pc := 62) 0 rfl rfl dX5_grow_62 ?_
      obtain ⟨v4, ev4, h⟩ := bd h
      refine g_getI X (pc := 63) fk_5_1 rfl rfl ev4 tb_903 dX5_grow_63 ?_
      refine g_iconst X (pc := 66) (v := 1) dX5_grow_66 (by decide) ?_
      refine g_aload_n X (pc := 67) 0 rfl rfl dX5_grow_67 ?_
      obtain ⟨v5, ev5, h⟩ := bd h
      refine g_getI X (pc := 68) fk_5_0 rfl rfl ev5 tb_901 dX5_grow_68 ?_
      refine g_aload_n X (pc := 71) 0 rfl rfl dX5_grow_71 ?_
      obtain ⟨v6, ev6, h⟩ := bd h
      refine g_getI X (pc := 72) fk_5_0 rfl rfl ev6 tb_901 dX5_grow_72 ?_
      refine g_imul X (pc := 75) dX5_grow_75 ?_
      refine g_iconst X (pc := 76) (v := 1) dX5_grow_76 (by decide) ?_
      refine g_aload_n X (pc := 77) 0 rfl rfl dX5_grow_77 ?_
      obtain ⟨v7, ev7, h⟩ := bd h
      refine g_getI X (pc := 78) fk_5_1 rfl rfl ev7 tb_903 dX5_grow_78 ?_
      refine g_mmax X (pc := 81) tb_656 tb_405 tb_13 tb_406 ⟨by decide, Nat.le_of_ble_eq_true rfl⟩ dX5_grow_81 ?_
      by_cases hz : (jmax (1 : Int32) v7) = 0
      · rw [if_pos hz] at h; cases h
      have h := (if_neg hz).symm.trans h
      refine g_idiv X (pc := 84) hz dX5_grow_84 ?_
      refine g_mmax X (pc := 85) tb_656 tb_405 tb_13 tb_406 ⟨by decide, Nat.le_of_ble_eq_true rfl⟩ dX5_grow_85 ?_
      refine g_iadd X (pc := 88) dX5_grow_88 ?_
      refine g_mmin X (pc := 89) tb_662 tb_348 tb_13 tb_349 ⟨by decide, Nat.le_of_ble_eq_true rfl⟩ dX5_grow_89 ?_
      obtain ⟨M8, eM8, h⟩ := bd h
      refine g_putI X (pc := 92) fk_5_1 rfl rfl rfl eM8 tb_903 (Or.inl rfl) dX5_grow_92 ?_
      obtain rfl := Option.some.inj h
      exact g_return X hE dX5_grow_95
    · have h := (if_neg hc).symm.trans h
      refine g_aload_n X (pc := 34) 0 rfl rfl dX5_grow_34 ?_
      refine g_ldc X (pc := 35) tb_1066 dX5_grow_35 ?_
      refine g_aload_n X (pc := 37) 0 rfl rfl dX5_grow_37 ?_
      obtain ⟨v9, ev9, h⟩ := bd h
      refine g_getI X (pc := 38) fk_5_1 rfl rfl ev9 tb_903 dX5_grow_38 ?_
      refine g_iload_n X (pc := 41) 1 rfl rfl dX5_grow_41 ?_
      refine g_aload_n X (pc := 42) 0 rfl rfl dX5_grow_42 ?_
      obtain ⟨v10, ev10, h⟩ := bd h
      refine g_getI X (pc := 43) fk_5_0 rfl rfl ev10 tb_901 dX5_grow_43 ?_
      refine g_mmin X (pc := 46) tb_662 tb_348 tb_13 tb_349 ⟨by decide, Nat.le_of_ble_eq_true rfl⟩ dX5_grow_46 ?_
      refine g_iadd X (pc := 49) dX5_grow_49 ?_
      refine g_mmin X (pc := 50) tb_662 tb_348 tb_13 tb_349 ⟨by decide, Nat.le_of_ble_eq_true rfl⟩ dX5_grow_50 ?_
      obtain ⟨M11, eM11, h⟩ := bd h
      refine g_putI X (pc := 53) fk_5_1 rfl rfl rfl eM11 tb_903 (Or.inl rfl) dX5_grow_53 ?_
      refine g_goto X (pc := 56) (tgt := 95) dX5_grow_56 (by decide) ?_
      obtain rfl := Option.some.inj h
      exact g_return X hE dX5_grow_95
  · have h := (if_neg hc).symm.trans h
    refine g_aload_n X (pc := 7) 0 rfl rfl dX5_grow_7 ?_
    refine g_iconst X (pc := 8) (v := 0) dX5_grow_8 (by decide) ?_
    obtain ⟨M12, eM12, h⟩ := bd h
    refine g_putZ X (pc := 9) fk_5_7 rfl rfl rfl eM12 tb_920 (Or.inl rfl) dX5_grow_9 ?_
    refine g_aload_n X (pc := 12) 0 rfl rfl dX5_grow_12 ?_
    refine g_aload_n X (pc := 13) 0 rfl rfl dX5_grow_13 ?_
    obtain ⟨v13, ev13, h⟩ := bd h
    refine g_getI X (pc := 14) fk_5_2 rfl rfl ev13 tb_905 dX5_grow_14 ?_
    obtain ⟨M14, eM14, h⟩ := bd h
    refine g_putI X (pc := 17) fk_5_1 rfl rfl rfl eM14 tb_903 (Or.inl rfl) dX5_grow_17 ?_
    refine g_goto X (pc := 20) (tgt := 95) dX5_grow_20 (by decide) ?_
    obtain rfl := Option.some.inj h
    exact g_return X hE dX5_grow_95
theorem hyX5_grow : yX5_grow.cls ≠ "java/lang/invoke/MethodHandle" ∧ yX5_grow.cls ≠ "java/lang/invoke/VarHandle" ∧ (parseMethodDescriptor yX5_grow.desc).map (fun d => d.parameters.length) = some 1 := ⟨by decide +kernel, by decide +kernel, by decide +kernel⟩
theorem ctX5_grow (l : Launch) (E : Nat → Nat) (D : va_G) (dA : Nat → ClassId) (lo : Nat) (H0 : Heap) (fu : Nat) (a0 : Nat) (a1 : Int32) (M : Mm) (out : Mm) (h : fX5_grow fu a0 a1 M = some out) : Ct l E D dA lo H0 yX5_grow cX5_grow 2 none 1 18 [pR (some a0), pI a1] M none out := by
  refine ct_of (by decide +kernel) (Nat.le_of_ble_eq_true rfl) ?_
  intro x hl he hd ha ho hh hn hin X hE
  exact wX5_grow X hE hn fu a0 a1 M h
/-! WebHost$Pace.lowerThreshold(I)V -/
def fX5_lowerThreshold (fu : Nat)  (a0 : Nat) (a1 : Int32)  (M : Mm) : Option (Mm) :=
    (gI M 5 320 (some a0)).bind fun v1 =>
    (pF M 5 322 (some a0) (jmax (a1 / (2 : Int32)) ((2 : Int32) * v1))).bind fun M2 =>
    some M2
theorem dX5_lowerThreshold_0 : decode cX5_lowerThreshold 0 = .ok (.aload_n 0, 1) := by decide +kernel
theorem dX5_lowerThreshold_1 : decode cX5_lowerThreshold 1 = .ok (.iload_n 1, 1) := by decide +kernel
theorem dX5_lowerThreshold_2 : decode cX5_lowerThreshold 2 = .ok (.iconst 2, 1) := by decide +kernel
theorem dX5_lowerThreshold_3 : decode cX5_lowerThreshold 3 = .ok (.idiv, 1) := by decide +kernel
theorem dX5_lowerThreshold_4 : decode cX5_lowerThreshold 4 = .ok (.iconst 2, 1) := by decide +kernel
theorem dX5_lowerThreshold_5 : decode cX5_lowerThreshold 5 = .ok (.aload_n 0, 1) := by decide +kernel
theorem dX5_lowerThreshold_6 : decode cX5_lowerThreshold 6 = .ok (.getfield 9, 3) := by decide +kernel
theorem dX5_lowerThreshold_9 : decode cX5_lowerThreshold 9 = .ok (.imul, 1) := by decide +kernel
theorem dX5_lowerThreshold_10 : decode cX5_lowerThreshold 10 = .ok (.invokestatic 64, 3) := by decide +kernel
theorem dX5_lowerThreshold_13 : decode cX5_lowerThreshold 13 = .ok (.putfield 19, 3) := by decide +kernel
theorem dX5_lowerThreshold_16 : decode cX5_lowerThreshold 16 = .ok (.return_, 1) := by decide +kernel
theorem wX5_lowerThreshold {x : GX} {n0 sl0 : Nat} (X : Cx x cX5_lowerThreshold RX5 none n0 sl0 1 14) {out : Mm} (hE : Ends x n0 sl0 none out) (hn : xn x = 2) (fu : Nat)   (a0 : Nat) (a1 : Int32)  (M : Mm) (h : fX5_lowerThreshold fu  a0 a1 M = some out) : Gw x M 0 [(0, pR (some a0)), (1, pI a1)] [] := by
  unfold fX5_lowerThreshold at h
  refine g_aload_n X (pc := 0) 0 rfl rfl dX5_lowerThreshold_0 ?_
  refine g_iload_n X (pc := 1) 1 rfl rfl dX5_lowerThreshold_1 ?_
  refine g_iconst X (pc := 2) (v := 2) dX5_lowerThreshold_2 (by decide) ?_
  refine g_idiv X (pc := 3) (by decide) dX5_lowerThreshold_3 ?_
  refine g_iconst X (pc := 4) (v := 2) dX5_lowerThreshold_4 (by decide) ?_
  refine g_aload_n X (pc := 5) 0 rfl rfl dX5_lowerThreshold_5 ?_
  obtain ⟨v1, ev1, h⟩ := bd h
  refine g_getI X (pc := 6) fk_5_0 rfl rfl ev1 tb_901 dX5_lowerThreshold_6 ?_
  refine g_imul X (pc := 9) dX5_lowerThreshold_9 ?_
  refine g_mmax X (pc := 10) tb_656 tb_405 tb_13 tb_406 ⟨by decide, Nat.le_of_ble_eq_true rfl⟩ dX5_lowerThreshold_10 ?_
  obtain ⟨M2, eM2, h⟩ := bd h
  refine g_putI X (pc := 13) fk_5_2 rfl rfl rfl eM2 tb_905 (Or.inl rfl) dX5_lowerThreshold_13 ?_
  obtain rfl := Option.some.inj h
  exact g_return X hE dX5_lowerThreshold_16
theorem hyX5_lowerThreshold : yX5_lowerThreshold.cls ≠ "java/lang/invoke/MethodHandle" ∧ yX5_lowerThreshold.cls ≠ "java/lang/invoke/VarHandle" ∧ (parseMethodDescriptor yX5_lowerThreshold.desc).map (fun d => d.parameters.length) = some 1 := ⟨by decide +kernel, by decide +kernel, by decide +kernel⟩
theorem ctX5_lowerThreshold (l : Launch) (E : Nat → Nat) (D : va_G) (dA : Nat → ClassId) (lo : Nat) (H0 : Heap) (fu : Nat) (a0 : Nat) (a1 : Int32) (M : Mm) (out : Mm) (h : fX5_lowerThreshold fu a0 a1 M = some out) : Ct l E D dA lo H0 yX5_lowerThreshold cX5_lowerThreshold 2 none 1 14 [pR (some a0), pI a1] M none out := by
  refine ct_of (by decide +kernel) (Nat.le_of_ble_eq_true rfl) ?_
  intro x hl he hd ha ho hh hn hin X hE
  exact wX5_lowerThreshold X hE hn fu a0 a1 M h
/-! WebHost$Pace.countDuplicate(I)Z -/
def fX5_countDuplicate_L36 (fu : Nat)  (a0 : Nat) (a1 : Int32)  (M : Mm) : Option (Int32 × Mm) :=
    (gI M 5 326 (some a0)).bind fun v1 =>
    if v1 = (3 : Int32) then (
    (rc M 5 (some a0)).bind fun q2 =>
    (fX5_lowerThreshold fu q2 a1 M).bind fun M3 =>
    (gI M3 5 322 (some a0)).bind fun v4 =>
    (gI M3 5 320 (some a0)).bind fun v5 =>
    (pF M3 5 321 (some a0) (v4 + ((3 : Int32) * v5))).bind fun M6 =>
    (pZ M6 5 327 (some a0) (1 : Int32)).bind fun M7 =>
    rN .boolean (1 : Int32) M7)
    else (
    rN .boolean (0 : Int32) M)
def fX5_countDuplicate (fu : Nat)  (a0 : Nat) (a1 : Int32)  (M : Mm) : Option (Int32 × Mm) :=
    (gI M 5 326 (some a0)).bind fun v1 =>
    (pF M 5 326 (some a0) (v1 + (1 : Int32))).bind fun M2 =>
    (gI M2 5 326 (some a0)).bind fun v3 =>
    if v3 ≤ (3 : Int32) then (
    fX5_countDuplicate_L36 fu  a0 a1 M2)
    else (
    (gI M2 5 321 (some a0)).bind fun v4 =>
    (gI M2 5 320 (some a0)).bind fun v5 =>
    (pF M2 5 321 (some a0) (jmin (65535 : Int32) (v4 + v5))).bind fun M6 =>
    fX5_countDuplicate_L36 fu  a0 a1 M6)
theorem dX5_countDuplicate_0 : decode cX5_countDuplicate 0 = .ok (.aload_n 0, 1) := by decide +kernel
theorem dX5_countDuplicate_1 : decode cX5_countDuplicate 1 = .ok (.dup, 1) := by decide +kernel
theorem dX5_countDuplicate_2 : decode cX5_countDuplicate 2 = .ok (.getfield 32, 3) := by decide +kernel
theorem dX5_countDuplicate_5 : decode cX5_countDuplicate 5 = .ok (.iconst 1, 1) := by decide +kernel
theorem dX5_countDuplicate_6 : decode cX5_countDuplicate 6 = .ok (.iadd, 1) := by decide +kernel
theorem dX5_countDuplicate_7 : decode cX5_countDuplicate 7 = .ok (.putfield 32, 3) := by decide +kernel
theorem dX5_countDuplicate_10 : decode cX5_countDuplicate 10 = .ok (.aload_n 0, 1) := by decide +kernel
theorem dX5_countDuplicate_11 : decode cX5_countDuplicate 11 = .ok (.getfield 32, 3) := by decide +kernel
theorem dX5_countDuplicate_14 : decode cX5_countDuplicate 14 = .ok (.iconst 3, 1) := by decide +kernel
theorem dX5_countDuplicate_15 : decode cX5_countDuplicate 15 = .ok (.if_icmp .le 21, 3) := by decide +kernel
theorem dX5_countDuplicate_18 : decode cX5_countDuplicate 18 = .ok (.aload_n 0, 1) := by decide +kernel
theorem dX5_countDuplicate_19 : decode cX5_countDuplicate 19 = .ok (.ldc 18, 2) := by decide +kernel
theorem dX5_countDuplicate_21 : decode cX5_countDuplicate 21 = .ok (.aload_n 0, 1) := by decide +kernel
theorem dX5_countDuplicate_22 : decode cX5_countDuplicate 22 = .ok (.getfield 15, 3) := by decide +kernel
theorem dX5_countDuplicate_25 : decode cX5_countDuplicate 25 = .ok (.aload_n 0, 1) := by decide +kernel
theorem dX5_countDuplicate_26 : decode cX5_countDuplicate 26 = .ok (.getfield 9, 3) := by decide +kernel
theorem dX5_countDuplicate_29 : decode cX5_countDuplicate 29 = .ok (.iadd, 1) := by decide +kernel
theorem dX5_countDuplicate_30 : decode cX5_countDuplicate 30 = .ok (.invokestatic 68, 3) := by decide +kernel
theorem dX5_countDuplicate_33 : decode cX5_countDuplicate 33 = .ok (.putfield 15, 3) := by decide +kernel
theorem dX5_countDuplicate_36 : decode cX5_countDuplicate 36 = .ok (.aload_n 0, 1) := by decide +kernel
theorem dX5_countDuplicate_37 : decode cX5_countDuplicate 37 = .ok (.getfield 32, 3) := by decide +kernel
theorem dX5_countDuplicate_40 : decode cX5_countDuplicate 40 = .ok (.iconst 3, 1) := by decide +kernel
theorem dX5_countDuplicate_41 : decode cX5_countDuplicate 41 = .ok (.if_icmp .eq 5, 3) := by decide +kernel
theorem dX5_countDuplicate_44 : decode cX5_countDuplicate 44 = .ok (.iconst 0, 1) := by decide +kernel
theorem dX5_countDuplicate_45 : decode cX5_countDuplicate 45 = .ok (.ireturn, 1) := by decide +kernel
theorem dX5_countDuplicate_46 : decode cX5_countDuplicate 46 = .ok (.aload_n 0, 1) := by decide +kernel
theorem dX5_countDuplicate_47 : decode cX5_countDuplicate 47 = .ok (.iload_n 1, 1) := by decide +kernel
theorem dX5_countDuplicate_48 : decode cX5_countDuplicate 48 = .ok (.invokevirtual 71, 3) := by decide +kernel
theorem dX5_countDuplicate_51 : decode cX5_countDuplicate 51 = .ok (.aload_n 0, 1) := by decide +kernel
theorem dX5_countDuplicate_52 : decode cX5_countDuplicate 52 = .ok (.aload_n 0, 1) := by decide +kernel
theorem dX5_countDuplicate_53 : decode cX5_countDuplicate 53 = .ok (.getfield 19, 3) := by decide +kernel
theorem dX5_countDuplicate_56 : decode cX5_countDuplicate 56 = .ok (.iconst 3, 1) := by decide +kernel
theorem dX5_countDuplicate_57 : decode cX5_countDuplicate 57 = .ok (.aload_n 0, 1) := by decide +kernel
theorem dX5_countDuplicate_58 : decode cX5_countDuplicate 58 = .ok (.getfield 9, 3) := by decide +kernel
theorem dX5_countDuplicate_61 : decode cX5_countDuplicate 61 = .ok (.imul, 1) := by decide +kernel
theorem dX5_countDuplicate_62 : decode cX5_countDuplicate 62 = .ok (.iadd, 1) := by decide +kernel
theorem dX5_countDuplicate_63 : decode cX5_countDuplicate 63 = .ok (.putfield 15, 3) := by decide +kernel
theorem dX5_countDuplicate_66 : decode cX5_countDuplicate 66 = .ok (.aload_n 0, 1) := by decide +kernel
theorem dX5_countDuplicate_67 : decode cX5_countDuplicate 67 = .ok (.iconst 1, 1) := by decide +kernel
theorem dX5_countDuplicate_68 : decode cX5_countDuplicate 68 = .ok (.putfield 35, 3) := by decide +kernel
theorem dX5_countDuplicate_71 : decode cX5_countDuplicate 71 = .ok (.iconst 1, 1) := by decide +kernel
theorem dX5_countDuplicate_72 : decode cX5_countDuplicate 72 = .ok (.ireturn, 1) := by decide +kernel
theorem wX5_countDuplicate_L36 {x : GX} {n0 sl0 : Nat} (X : Cx x cX5_countDuplicate RX5 (some .boolean) n0 sl0 2 35) {out : Int32 × Mm} (hE : Ends x n0 sl0 (some (pI out.1)) out.2) (hn : xn x = 2) (fu : Nat)   (a0 : Nat) (a1 : Int32)  (M : Mm) (h : fX5_countDuplicate_L36 fu  a0 a1 M = some out) : Gw x M 36 [(0, pR (some a0)), (1, pI a1)] [] := by
  unfold fX5_countDuplicate_L36 at h
  refine g_aload_n X (pc := 36) 0 rfl rfl dX5_countDuplicate_36 ?_
  obtain ⟨v1, ev1, h⟩ := bd h
  refine g_getI X (pc := 37) fk_5_6 rfl rfl ev1 tb_917 dX5_countDuplicate_37 ?_
  refine g_iconst X (pc := 40) (v := 3) dX5_countDuplicate_40 (by decide) ?_
  refine g_icmp_eq X (pc := 41) (tgt := 46) dX5_countDuplicate_41 (by decide) (fun hc => ?_) (fun hc => ?_)
  · have h := (if_pos hc).symm.trans h
    refine g_aload_n X (pc := 46) 0 rfl rfl dX5_countDuplicate_46 ?_
    refine g_iload_n X (pc := 47) 1 rfl rfl dX5_countDuplicate_47 ?_
    obtain ⟨q2, eq2, h⟩ := bd h
    obtain ⟨M3, eM3, h⟩ := bd h
    refine g_callV X (pc := 48) (M' := M3) (ro := none) (c := 5) rfl (by decide) (as := [pI a1]) (as' := [pI a1]) (st := []) eq2 (ctX5_lowerThreshold _ _ _ _ _ _ fu q2 a1 M _ eM3) tb_655 tb_1122 tb_653 tb_654 tb_20 ⟨rfl, hyX5_lowerThreshold⟩ rfl rfl ⟨by decide, by decide⟩ (Nat.le_of_ble_eq_true rfl) dX5_countDuplicate_48 ?_
    refine g_aload_n X (pc := 51) 0 rfl rfl dX5_countDuplicate_51 ?_
    refine g_aload_n X (pc := 52) 0 rfl rfl dX5_countDuplicate_52 ?_
    obtain ⟨v4, ev4, h⟩ := bd h
    refine g_getI X (pc := 53) fk_5_2 rfl rfl ev4 tb_905 dX5_countDuplicate_53 ?_
    refine g_iconst X (pc := 56) (v := 3) dX5_countDuplicate_56 (by decide) ?_
    refine g_aload_n X (pc := 57) 0 rfl rfl dX5_countDuplicate_57 ?_
    obtain ⟨v5, ev5, h⟩ := bd h
    refine g_getI X (pc := 58) fk_5_0 rfl rfl ev5 tb_901 dX5_countDuplicate_58 ?_
    refine g_imul X (pc := 61) dX5_countDuplicate_61 ?_
    refine g_iadd X (pc := 62) dX5_countDuplicate_62 ?_
    obtain ⟨M6, eM6, h⟩ := bd h
    refine g_putI X (pc := 63) fk_5_1 rfl rfl rfl eM6 tb_903 (Or.inl rfl) dX5_countDuplicate_63 ?_
    refine g_aload_n X (pc := 66) 0 rfl rfl dX5_countDuplicate_66 ?_
    refine g_iconst X (pc := 67) (v := 1) dX5_countDuplicate_67 (by decide) ?_
    obtain ⟨M7, eM7, h⟩ := bd h
    refine g_putZ X (pc := 68) fk_5_7 rfl rfl rfl eM7 tb_920 (Or.inl rfl) dX5_countDuplicate_68 ?_
    refine g_iconst X (pc := 71) (v := 1) dX5_countDuplicate_71 (by decide) ?_
    obtain ⟨hz, rfl⟩ := rN_some h
    exact g_nreturn X rfl hz hE dX5_countDuplicate_72
  · have h := (if_neg hc).symm.trans h
    refine g_iconst X (pc := 44) (v := 0) dX5_countDuplicate_44 (by decide) ?_
    obtain ⟨hz, rfl⟩ := rN_some h
    exact g_nreturn X rfl hz hE dX5_countDuplicate_45
theorem wX5_countDuplicate {x : GX} {n0 sl0 : Nat} (X : Cx x cX5_countDuplicate RX5 (some .boolean) n0 sl0 2 35) {out : Int32 × Mm} (hE : Ends x n0 sl0 (some (pI out.1)) out.2) (hn : xn x = 2) (fu : Nat)   (a0 : Nat) (a1 : Int32)  (M : Mm) (h : fX5_countDuplicate fu  a0 a1 M = some out) : Gw x M 0 [(0, pR (some a0)), (1, pI a1)] [] := by
  unfold fX5_countDuplicate at h
  refine g_aload_n X (pc := 0) 0 rfl rfl dX5_countDuplicate_0 ?_
  refine g_dup X (pc := 1) rfl dX5_countDuplicate_1 ?_
  obtain ⟨v1, ev1, h⟩ := bd h
  refine g_getI X (pc := 2) fk_5_6 rfl rfl ev1 tb_917 dX5_countDuplicate_2 ?_
  refine g_iconst X (pc := 5) (v := 1) dX5_countDuplicate_5 (by decide) ?_
  refine g_iadd X (pc := 6) dX5_countDuplicate_6 ?_
  obtain ⟨M2, eM2, h⟩ := bd h
  refine g_putI X (pc := 7) fk_5_6 rfl rfl rfl eM2 tb_917 (Or.inl rfl) dX5_countDuplicate_7 ?_
  refine g_aload_n X (pc := 10) 0 rfl rfl dX5_countDuplicate_10 ?_
  obtain ⟨v3, ev3, h⟩ := bd h
  refine g_getI X (pc := 11) fk_5_6 rfl rfl ev3 tb_917 dX5_countDuplicate_11 ?_
  refine g_iconst X (pc := 14) (v := 3) dX5_countDuplicate_14 (by decide) ?_
  refine g_icmp_le X (pc := 15) (tgt := 36) dX5_countDuplicate_15 (by decide) (fun hc => ?_) (fun hc => ?_)
  · have h := (if_pos hc).symm.trans h
    exact wX5_countDuplicate_L36 X hE hn fu   a0 a1 M2 h
  · have h := (if_neg hc).symm.trans h
    refine g_aload_n X (pc := 18) 0 rfl rfl dX5_countDuplicate_18 ?_
    refine g_ldc X (pc := 19) tb_1066 dX5_countDuplicate_19 ?_
    refine g_aload_n X (pc := 21) 0 rfl rfl dX5_countDuplicate_21 ?_
    obtain ⟨v4, ev4, h⟩ := bd h
    refine g_getI X (pc := 22) fk_5_1 rfl rfl ev4 tb_903 dX5_countDuplicate_22 ?_
    refine g_aload_n X (pc := 25) 0 rfl rfl dX5_countDuplicate_25 ?_
    obtain ⟨v5, ev5, h⟩ := bd h
    refine g_getI X (pc := 26) fk_5_0 rfl rfl ev5 tb_901 dX5_countDuplicate_26 ?_
    refine g_iadd X (pc := 29) dX5_countDuplicate_29 ?_
    refine g_mmin X (pc := 30) tb_662 tb_348 tb_13 tb_349 ⟨by decide, Nat.le_of_ble_eq_true rfl⟩ dX5_countDuplicate_30 ?_
    obtain ⟨M6, eM6, h⟩ := bd h
    refine g_putI X (pc := 33) fk_5_1 rfl rfl rfl eM6 tb_903 (Or.inl rfl) dX5_countDuplicate_33 ?_
    exact wX5_countDuplicate_L36 X hE hn fu   a0 a1 M6 h
theorem hyX5_countDuplicate : yX5_countDuplicate.cls ≠ "java/lang/invoke/MethodHandle" ∧ yX5_countDuplicate.cls ≠ "java/lang/invoke/VarHandle" ∧ (parseMethodDescriptor yX5_countDuplicate.desc).map (fun d => d.parameters.length) = some 1 := ⟨by decide +kernel, by decide +kernel, by decide +kernel⟩
theorem ctX5_countDuplicate (l : Launch) (E : Nat → Nat) (D : va_G) (dA : Nat → ClassId) (lo : Nat) (H0 : Heap) (fu : Nat) (a0 : Nat) (a1 : Int32) (M : Mm) (out : Int32 × Mm) (h : fX5_countDuplicate fu a0 a1 M = some out) : Ct l E D dA lo H0 yX5_countDuplicate cX5_countDuplicate 2 (some .boolean) 2 35 [pR (some a0), pI a1] M (some (pI out.1)) out.2 := by
  refine ct_of (by decide +kernel) (Nat.le_of_ble_eq_true rfl) ?_
  intro x hl he hd ha ho hh hn hin X hE
  exact wX5_countDuplicate X hE hn fu a0 a1 M h
/-! WebHost$Pace.backOff()V -/
def fX5_backOff (fu : Nat)  (a0 : Nat)  (M : Mm) : Option (Mm) :=
    (gI M 5 320 (some a0)).bind fun v1 =>
    (pF M 5 321 (some a0) v1).bind fun M2 =>
    (pZ M2 5 327 (some a0) (0 : Int32)).bind fun M3 =>
    (pF M3 5 326 (some a0) (0 : Int32)).bind fun M4 =>
    (gI M4 5 323 (some a0)).bind fun v5 =>
    (pF M4 5 323 (some a0) (jmin (60000 : Int32) ((2 : Int32) * v5))).bind fun M6 =>
    some M6
theorem dX5_backOff_0 : decode cX5_backOff 0 = .ok (.aload_n 0, 1) := by decide +kernel
theorem dX5_backOff_1 : decode cX5_backOff 1 = .ok (.aload_n 0, 1) := by decide +kernel
theorem dX5_backOff_2 : decode cX5_backOff 2 = .ok (.getfield 9, 3) := by decide +kernel
theorem dX5_backOff_5 : decode cX5_backOff 5 = .ok (.putfield 15, 3) := by decide +kernel
theorem dX5_backOff_8 : decode cX5_backOff 8 = .ok (.aload_n 0, 1) := by decide +kernel
theorem dX5_backOff_9 : decode cX5_backOff 9 = .ok (.iconst 0, 1) := by decide +kernel
theorem dX5_backOff_10 : decode cX5_backOff 10 = .ok (.putfield 35, 3) := by decide +kernel
theorem dX5_backOff_13 : decode cX5_backOff 13 = .ok (.aload_n 0, 1) := by decide +kernel
theorem dX5_backOff_14 : decode cX5_backOff 14 = .ok (.iconst 0, 1) := by decide +kernel
theorem dX5_backOff_15 : decode cX5_backOff 15 = .ok (.putfield 32, 3) := by decide +kernel
theorem dX5_backOff_18 : decode cX5_backOff 18 = .ok (.aload_n 0, 1) := by decide +kernel
theorem dX5_backOff_19 : decode cX5_backOff 19 = .ok (.ldc 63, 2) := by decide +kernel
theorem dX5_backOff_21 : decode cX5_backOff 21 = .ok (.iconst 2, 1) := by decide +kernel
theorem dX5_backOff_22 : decode cX5_backOff 22 = .ok (.aload_n 0, 1) := by decide +kernel
theorem dX5_backOff_23 : decode cX5_backOff 23 = .ok (.getfield 22, 3) := by decide +kernel
theorem dX5_backOff_26 : decode cX5_backOff 26 = .ok (.imul, 1) := by decide +kernel
theorem dX5_backOff_27 : decode cX5_backOff 27 = .ok (.invokestatic 68, 3) := by decide +kernel
theorem dX5_backOff_30 : decode cX5_backOff 30 = .ok (.putfield 22, 3) := by decide +kernel
theorem dX5_backOff_33 : decode cX5_backOff 33 = .ok (.return_, 1) := by decide +kernel
theorem wX5_backOff {x : GX} {n0 sl0 : Nat} (X : Cx x cX5_backOff RX5 none n0 sl0 1 14) {out : Mm} (hE : Ends x n0 sl0 none out) (hn : xn x = 1) (fu : Nat)   (a0 : Nat)  (M : Mm) (h : fX5_backOff fu  a0 M = some out) : Gw x M 0 [(0, pR (some a0))] [] := by
  unfold fX5_backOff at h
  refine g_aload_n X (pc := 0) 0 rfl rfl dX5_backOff_0 ?_
  refine g_aload_n X (pc := 1) 0 rfl rfl dX5_backOff_1 ?_
  obtain ⟨v1, ev1, h⟩ := bd h
  refine g_getI X (pc := 2) fk_5_0 rfl rfl ev1 tb_901 dX5_backOff_2 ?_
  obtain ⟨M2, eM2, h⟩ := bd h
  refine g_putI X (pc := 5) fk_5_1 rfl rfl rfl eM2 tb_903 (Or.inl rfl) dX5_backOff_5 ?_
  refine g_aload_n X (pc := 8) 0 rfl rfl dX5_backOff_8 ?_
  refine g_iconst X (pc := 9) (v := 0) dX5_backOff_9 (by decide) ?_
  obtain ⟨M3, eM3, h⟩ := bd h
  refine g_putZ X (pc := 10) fk_5_7 rfl rfl rfl eM3 tb_920 (Or.inl rfl) dX5_backOff_10 ?_
  refine g_aload_n X (pc := 13) 0 rfl rfl dX5_backOff_13 ?_
  refine g_iconst X (pc := 14) (v := 0) dX5_backOff_14 (by decide) ?_
  obtain ⟨M4, eM4, h⟩ := bd h
  refine g_putI X (pc := 15) fk_5_6 rfl rfl rfl eM4 tb_917 (Or.inl rfl) dX5_backOff_15 ?_
  refine g_aload_n X (pc := 18) 0 rfl rfl dX5_backOff_18 ?_
  refine g_ldc X (pc := 19) tb_661 dX5_backOff_19 ?_
  refine g_iconst X (pc := 21) (v := 2) dX5_backOff_21 (by decide) ?_
  refine g_aload_n X (pc := 22) 0 rfl rfl dX5_backOff_22 ?_
  obtain ⟨v5, ev5, h⟩ := bd h
  refine g_getI X (pc := 23) fk_5_3 rfl rfl ev5 tb_907 dX5_backOff_23 ?_
  refine g_imul X (pc := 26) dX5_backOff_26 ?_
  refine g_mmin X (pc := 27) tb_662 tb_348 tb_13 tb_349 ⟨by decide, Nat.le_of_ble_eq_true rfl⟩ dX5_backOff_27 ?_
  obtain ⟨M6, eM6, h⟩ := bd h
  refine g_putI X (pc := 30) fk_5_3 rfl rfl rfl eM6 tb_907 (Or.inl rfl) dX5_backOff_30 ?_
  obtain rfl := Option.some.inj h
  exact g_return X hE dX5_backOff_33
theorem hyX5_backOff : yX5_backOff.cls ≠ "java/lang/invoke/MethodHandle" ∧ yX5_backOff.cls ≠ "java/lang/invoke/VarHandle" ∧ (parseMethodDescriptor yX5_backOff.desc).map (fun d => d.parameters.length) = some 0 := ⟨by decide +kernel, by decide +kernel, by decide +kernel⟩
theorem ctX5_backOff (l : Launch) (E : Nat → Nat) (D : va_G) (dA : Nat → ClassId) (lo : Nat) (H0 : Heap) (fu : Nat) (a0 : Nat) (M : Mm) (out : Mm) (h : fX5_backOff fu a0 M = some out) : Ct l E D dA lo H0 yX5_backOff cX5_backOff 1 none 1 14 [pR (some a0)] M none out := by
  refine ct_of (by decide +kernel) (Nat.le_of_ble_eq_true rfl) ?_
  intro x hl he hd ha ho hh hn hin X hE
  exact wX5_backOff X hE hn fu a0 M h
