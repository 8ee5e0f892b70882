/-! ===== walks of methods, printed by a program of ours ===== -/
/-! WebHost$Tcp.fillHeader(IIIIII)V -/
def fX9_fillHeader (fu : Nat)  (a0 : Nat) (a1 : Int32) (a2 : Int32) (a3 : Int32) (a4 : Int32) (a5 : Int32) (a6 : Int32)  (M : Mm) : Option (Mm) :=
    (gR M 9 577 (some a0)).bind fun v1 =>
    (gR M 4 256 v1).bind fun v2 =>
    (fX11_putTwo fu  v2 (34 : Int32) a1 M).bind fun M3 =>
    (fX11_putTwo fu  v2 (36 : Int32) a2 M3).bind fun M4 =>
    (fX11_putFour fu  v2 (38 : Int32) a3 M4).bind fun M5 =>
    (fX11_putFour fu  v2 (42 : Int32) a4 M5).bind fun M6 =>
    (fX11_putTwo fu  v2 (46 : Int32) ((20480 : Int32) ||| a5) M6).bind fun M7 =>
    (fX11_putTwo fu  v2 (48 : Int32) a6 M7).bind fun M8 =>
    (fX11_putFour fu  v2 (50 : Int32) (0 : Int32) M8).bind fun M9 =>
    some M9
theorem dX9_fillHeader_0 : decode cX9_fillHeader 0 = .ok (.aload_n 0, 1) := by decide +kernel
theorem dX9_fillHeader_1 : decode cX9_fillHeader 1 = .ok (.getfield 15, 3) := by decide +kernel
theorem dX9_fillHeader_4 : decode cX9_fillHeader 4 = .ok (.getfield 283, 3) := by decide +kernel
theorem dX9_fillHeader_7 : decode cX9_fillHeader 7 = .ok (.astore 7, 2) := by decide +kernel
theorem dX9_fillHeader_9 : decode cX9_fillHeader 9 = .ok (.aload 7, 2) := by decide +kernel
theorem dX9_fillHeader_11 : decode cX9_fillHeader 11 = .ok (.bipush 34, 2) := by decide +kernel
theorem dX9_fillHeader_13 : decode cX9_fillHeader 13 = .ok (.iload_n 1, 1) := by decide +kernel
theorem dX9_fillHeader_14 : decode cX9_fillHeader 14 = .ok (.invokestatic 335, 3) := by decide +kernel
theorem dX9_fillHeader_17 : decode cX9_fillHeader 17 = .ok (.aload 7, 2) := by decide +kernel
theorem dX9_fillHeader_19 : decode cX9_fillHeader 19 = .ok (.bipush 36, 2) := by decide +kernel
theorem dX9_fillHeader_21 : decode cX9_fillHeader 21 = .ok (.iload_n 2, 1) := by decide +kernel
theorem dX9_fillHeader_22 : decode cX9_fillHeader 22 = .ok (.invokestatic 335, 3) := by decide +kernel
theorem dX9_fillHeader_25 : decode cX9_fillHeader 25 = .ok (.aload 7, 2) := by decide +kernel
theorem dX9_fillHeader_27 : decode cX9_fillHeader 27 = .ok (.bipush 38, 2) := by decide +kernel
theorem dX9_fillHeader_29 : decode cX9_fillHeader 29 = .ok (.iload_n 3, 1) := by decide +kernel
theorem dX9_fillHeader_30 : decode cX9_fillHeader 30 = .ok (.invokestatic 325, 3) := by decide +kernel
theorem dX9_fillHeader_33 : decode cX9_fillHeader 33 = .ok (.aload 7, 2) := by decide +kernel
theorem dX9_fillHeader_35 : decode cX9_fillHeader 35 = .ok (.bipush 42, 2) := by decide +kernel
theorem dX9_fillHeader_37 : decode cX9_fillHeader 37 = .ok (.iload 4, 2) := by decide +kernel
theorem dX9_fillHeader_39 : decode cX9_fillHeader 39 = .ok (.invokestatic 325, 3) := by decide +kernel
theorem dX9_fillHeader_42 : decode cX9_fillHeader 42 = .ok (.aload 7, 2) := by decide +kernel
theorem dX9_fillHeader_44 : decode cX9_fillHeader 44 = .ok (.bipush 46, 2) := by decide +kernel
theorem dX9_fillHeader_46 : decode cX9_fillHeader 46 = .ok (.sipush 20480, 3) := by decide +kernel
theorem dX9_fillHeader_49 : decode cX9_fillHeader 49 = .ok (.iload 5, 2) := by decide +kernel
theorem dX9_fillHeader_51 : decode cX9_fillHeader 51 = .ok (.ior, 1) := by decide +kernel
theorem dX9_fillHeader_52 : decode cX9_fillHeader 52 = .ok (.invokestatic 335, 3) := by decide +kernel
theorem dX9_fillHeader_55 : decode cX9_fillHeader 55 = .ok (.aload 7, 2) := by decide +kernel
theorem dX9_fillHeader_57 : decode cX9_fillHeader 57 = .ok (.bipush 48, 2) := by decide +kernel
theorem dX9_fillHeader_59 : decode cX9_fillHeader 59 = .ok (.iload 6, 2) := by decide +kernel
theorem dX9_fillHeader_61 : decode cX9_fillHeader 61 = .ok (.invokestatic 335, 3) := by decide +kernel
theorem dX9_fillHeader_64 : decode cX9_fillHeader 64 = .ok (.aload 7, 2) := by decide +kernel
theorem dX9_fillHeader_66 : decode cX9_fillHeader 66 = .ok (.bipush 50, 2) := by decide +kernel
theorem dX9_fillHeader_68 : decode cX9_fillHeader 68 = .ok (.iconst 0, 1) := by decide +kernel
theorem dX9_fillHeader_69 : decode cX9_fillHeader 69 = .ok (.invokestatic 325, 3) := by decide +kernel
theorem dX9_fillHeader_72 : decode cX9_fillHeader 72 = .ok (.return_, 1) := by decide +kernel
theorem wX9_fillHeader {x : GX} {n0 sl0 : Nat} (X : Cx x cX9_fillHeader RX9 none n0 sl0 1 22) {out : Mm} (hE : Ends x n0 sl0 none out) (hn : xn x = 8) (fu : Nat)   (a0 : Nat) (a1 : Int32) (a2 : Int32) (a3 : Int32) (a4 : Int32) (a5 : Int32) (a6 : Int32)  (M : Mm) (h : fX9_fillHeader fu  a0 a1 a2 a3 a4 a5 a6 M = some out) : Gw x M 0 [(0, pR (some a0)), (1, pI a1), (2, pI a2), (3, pI a3), (4, pI a4), (5, pI a5), (6, pI a6)] [] := by
  unfold fX9_fillHeader at h
  refine g_aload_n X (pc := 0) 0 rfl rfl dX9_fillHeader_0 ?_
  obtain ⟨v1, ev1, h⟩ := bd h
  refine g_getR X (pc := 1) fk_9_1 rfl rfl ev1 tb_235 dX9_fillHeader_1 ?_
  obtain ⟨v2, ev2, h⟩ := bd h
  refine g_getR X (pc := 4) fk_4_0 rfl rfl ev2 tb_99 dX9_fillHeader_4 ?_
  refine g_astore X (pc := 7) [(7, pR v2), (0, pR (some a0)), (1, pI a1), (2, pI a2), (3, pI a3), (4, pI a4), (5, pI a5), (6, pI a6)] (lt_n hn (by decide)) rfl dX9_fillHeader_7 ?_
  refine g_aload X (pc := 9) 0 rfl dX9_fillHeader_9 ?_
  refine g_bipush X (pc := 11) (v := 34) dX9_fillHeader_11 (by decide) ?_
  refine g_iload_n X (pc := 13) 2 rfl rfl dX9_fillHeader_13 ?_
  obtain ⟨M3, eM3, h⟩ := bd h
  refine g_callSN X (pc := 14) (M' := M3) (ro := none) (as := [pR v2, pI (34 : Int32), pI a1]) (as' := [pI a1, pI (34 : Int32), pR v2]) (st := []) (ctX11_putTwo _ _ _ _ _ _ fu  v2 (34 : Int32) a1 M _ eM3) tb_525 (List.mem_of_getElem? (i := 5) rfl) tb_524 tb_1 hyX11_putTwo rfl rfl ⟨by decide, by decide⟩ (Nat.le_of_ble_eq_true rfl) dX9_fillHeader_14 ?_
  refine g_aload X (pc := 17) 0 rfl dX9_fillHeader_17 ?_
  refine g_bipush X (pc := 19) (v := 36) dX9_fillHeader_19 (by decide) ?_
  refine g_iload_n X (pc := 21) 3 rfl rfl dX9_fillHeader_21 ?_
  obtain ⟨M4, eM4, h⟩ := bd h
  refine g_callSN X (pc := 22) (M' := M4) (ro := none) (as := [pR v2, pI (36 : Int32), pI a2]) (as' := [pI a2, pI (36 : Int32), pR v2]) (st := []) (ctX11_putTwo _ _ _ _ _ _ fu  v2 (36 : Int32) a2 M3 _ eM4) tb_525 (List.mem_of_getElem? (i := 5) rfl) tb_524 tb_1 hyX11_putTwo rfl rfl ⟨by decide, by decide⟩ (Nat.le_of_ble_eq_true rfl) dX9_fillHeader_22 ?_
  refine g_aload X (pc := 25) 0 rfl dX9_fillHeader_25 ?_
  refine g_bipush X (pc := 27) (v := 38) dX9_fillHeader_27 (by decide) ?_
  refine g_iload_n X (pc := 29) 4 rfl rfl dX9_fillHeader_29 ?_
  obtain ⟨M5, eM5, h⟩ := bd h
  refine g_callSN X (pc := 30) (M' := M5) (ro := none) (as := [pR v2, pI (38 : Int32), pI a3]) (as' := [pI a3, pI (38 : Int32), pR v2]) (st := []) (ctX11_putFour _ _ _ _ _ _ fu  v2 (38 : Int32) a3 M4 _ eM5) tb_366 (List.mem_of_getElem? (i := 6) rfl) tb_365 tb_1 hyX11_putFour rfl rfl ⟨by decide, by decide⟩ (Nat.le_of_ble_eq_true rfl) dX9_fillHeader_30 ?_
  refine g_aload X (pc := 33) 0 rfl dX9_fillHeader_33 ?_
  refine g_bipush X (pc := 35) (v := 42) dX9_fillHeader_35 (by decide) ?_
  refine g_iload X (pc := 37) 5 rfl dX9_fillHeader_37 ?_
  obtain ⟨M6, eM6, h⟩ := bd h
  refine g_callSN X (pc := 39) (M' := M6) (ro := none) (as := [pR v2, pI (42 : Int32), pI a4]) (as' := [pI a4, pI (42 : Int32), pR v2]) (st := []) (ctX11_putFour _ _ _ _ _ _ fu  v2 (42 : Int32) a4 M5 _ eM6) tb_366 (List.mem_of_getElem? (i := 6) rfl) tb_365 tb_1 hyX11_putFour rfl rfl ⟨by decide, by decide⟩ (Nat.le_of_ble_eq_true rfl) dX9_fillHeader_39 ?_
  refine g_aload X (pc := 42) 0 rfl dX9_fillHeader_42 ?_
  refine g_bipush X (pc := 44) (v := 46) dX9_fillHeader_44 (by decide) ?_
  refine g_sipush X (pc := 46) (v := 20480) dX9_fillHeader_46 (by decide) ?_
  refine g_iload X (pc := 49) 6 rfl dX9_fillHeader_49 ?_
  refine g_ior X (pc := 51) dX9_fillHeader_51 ?_
  obtain ⟨M7, eM7, h⟩ := bd h
  refine g_callSN X (pc := 52) (M' := M7) (ro := none) (as := [pR v2, pI (46 : Int32), pI ((20480 : Int32) ||| a5)]) (as' := [pI ((20480 : Int32) ||| a5), pI (46 : Int32), pR v2]) (st := []) (ctX11_putTwo _ _ _ _ _ _ fu  v2 (46 : Int32) ((20480 : Int32) ||| a5) M6 _ eM7) tb_525 (List.mem_of_getElem? (i := 5) rfl) tb_524 tb_1 hyX11_putTwo rfl rfl ⟨by decide, by decide⟩ (Nat.le_of_ble_eq_true rfl) dX9_fillHeader_52 ?_
  refine g_aload X (pc := 55) 0 rfl dX9_fillHeader_55 ?_
  refine g_bipush X (pc := 57) (v := 48) dX9_fillHeader_57 (by decide) ?_
  refine g_iload X (pc := 59) 7 rfl dX9_fillHeader_59 ?_
  obtain ⟨M8, eM8, h⟩ := bd h
  refine g_callSN X (pc := 61) (M' := M8) (ro := none) (as := [pR v2, pI (48 : Int32), pI a6]) (as' := [pI a6, pI (48 : Int32), pR v2]) (st := []) (ctX11_putTwo _ _ _ _ _ _ fu  v2 (48 : Int32) a6 M7 _ eM8) tb_525 (List.mem_of_getElem? (i := 5) rfl) tb_524 tb_1 hyX11_putTwo rfl rfl ⟨by decide, by decide⟩ (Nat.le_of_ble_eq_true rfl) dX9_fillHeader_61 ?_
  refine g_aload X (pc := 64) 0 rfl dX9_fillHeader_64 ?_
  refine g_bipush X (pc := 66) (v := 50) dX9_fillHeader_66 (by decide) ?_
  refine g_iconst X (pc := 68) (v := 0) dX9_fillHeader_68 (by decide) ?_
  obtain ⟨M9, eM9, h⟩ := bd h
  refine g_callSN X (pc := 69) (M' := M9) (ro := none) (as := [pR v2, pI (50 : Int32), pI (0 : Int32)]) (as' := [pI (0 : Int32), pI (50 : Int32), pR v2]) (st := []) (ctX11_putFour _ _ _ _ _ _ fu  v2 (50 : Int32) (0 : Int32) M8 _ eM9) tb_366 (List.mem_of_getElem? (i := 6) rfl) tb_365 tb_1 hyX11_putFour rfl rfl ⟨by decide, by decide⟩ (Nat.le_of_ble_eq_true rfl) dX9_fillHeader_69 ?_
  obtain rfl := Option.some.inj h
  exact g_return X hE dX9_fillHeader_72
theorem hyX9_fillHeader : yX9_fillHeader.cls ≠ "java/lang/invoke/MethodHandle" ∧ yX9_fillHeader.cls ≠ "java/lang/invoke/VarHandle" ∧ (parseMethodDescriptor yX9_fillHeader.desc).map (fun d => d.parameters.length) = some 6 := ⟨by decide +kernel, by decide +kernel, by decide +kernel⟩
theorem ctX9_fillHeader (l : Launch) (E : Nat → Nat) (D : va_G) (dA : Nat → ClassId) (lo : Nat) (H0 : Heap) (fu : Nat) (a0 : Nat) (a1 : Int32) (a2 : Int32) (a3 : Int32) (a4 : Int32) (a5 : Int32) (a6 : Int32) (M : Mm) (out : Mm) (h : fX9_fillHeader fu a0 a1 a2 a3 a4 a5 a6 M = some out) : Ct l E D dA lo H0 yX9_fillHeader cX9_fillHeader 8 none 1 22 [pR (some a0), pI a1, pI a2, pI a3, pI a4, pI a5, pI a6] M none out := by
  refine ct_of (by decide +kernel) (Nat.le_of_ble_eq_true rfl) ?_
  intro x hl he hd ha ho hh hn hin X hE
  exact wX9_fillHeader X hE hn fu a0 a1 a2 a3 a4 a5 a6 M h
/-! WebHost$Tcp.sumUp(II)V -/
def fX9_sumUp (fu : Nat)  (a0 : Nat) (a1 : Int32) (a2 : Int32)  (M : Mm) : Option (Mm) :=
    (gR M 9 577 (some a0)).bind fun v1 =>
    (gR M 4 256 v1).bind fun v2 =>
    (gR M 9 577 (some a0)).bind fun v3 =>
    (gI M 4 257 v3).bind fun v4 =>
    b2 (fX11_pseudoSum fu  v4 a1 a2 M) fun v6 M5 =>
    b2 (fX11_added fu  v2 (34 : Int32) a2 v6 M5) fun v8 M7 =>
    (gR M7 9 577 (some a0)).bind fun v9 =>
    (gR M7 4 256 v9).bind fun v10 =>
    (fX11_putTwo fu  v10 (50 : Int32) (v8 ^^^ (-1 : Int32)) M7).bind fun M11 =>
    some M11
theorem dX9_sumUp_0 : decode cX9_sumUp 0 = .ok (.aload_n 0, 1) := by decide +kernel
theorem dX9_sumUp_1 : decode cX9_sumUp 1 = .ok (.getfield 15, 3) := by decide +kernel
theorem dX9_sumUp_4 : decode cX9_sumUp 4 = .ok (.getfield 283, 3) := by decide +kernel
theorem dX9_sumUp_7 : decode cX9_sumUp 7 = .ok (.bipush 34, 2) := by decide +kernel
theorem dX9_sumUp_9 : decode cX9_sumUp 9 = .ok (.iload_n 2, 1) := by decide +kernel
theorem dX9_sumUp_10 : decode cX9_sumUp 10 = .ok (.aload_n 0, 1) := by decide +kernel
theorem dX9_sumUp_11 : decode cX9_sumUp 11 = .ok (.getfield 15, 3) := by decide +kernel
theorem dX9_sumUp_14 : decode cX9_sumUp 14 = .ok (.getfield 338, 3) := by decide +kernel
theorem dX9_sumUp_17 : decode cX9_sumUp 17 = .ok (.iload_n 1, 1) := by decide +kernel
theorem dX9_sumUp_18 : decode cX9_sumUp 18 = .ok (.iload_n 2, 1) := by decide +kernel
theorem dX9_sumUp_19 : decode cX9_sumUp 19 = .ok (.invokestatic 339, 3) := by decide +kernel
theorem dX9_sumUp_22 : decode cX9_sumUp 22 = .ok (.invokestatic 343, 3) := by decide +kernel
theorem dX9_sumUp_25 : decode cX9_sumUp 25 = .ok (.istore_n 3, 1) := by decide +kernel
theorem dX9_sumUp_26 : decode cX9_sumUp 26 = .ok (.aload_n 0, 1) := by decide +kernel
theorem dX9_sumUp_27 : decode cX9_sumUp 27 = .ok (.getfield 15, 3) := by decide +kernel
theorem dX9_sumUp_30 : decode cX9_sumUp 30 = .ok (.getfield 283, 3) := by decide +kernel
theorem dX9_sumUp_33 : decode cX9_sumUp 33 = .ok (.bipush 50, 2) := by decide +kernel
theorem dX9_sumUp_35 : decode cX9_sumUp 35 = .ok (.iload_n 3, 1) := by decide +kernel
theorem dX9_sumUp_36 : decode cX9_sumUp 36 = .ok (.iconst (-1), 1) := by decide +kernel
theorem dX9_sumUp_37 : decode cX9_sumUp 37 = .ok (.ixor, 1) := by decide +kernel
theorem dX9_sumUp_38 : decode cX9_sumUp 38 = .ok (.invokestatic 335, 3) := by decide +kernel
theorem dX9_sumUp_41 : decode cX9_sumUp 41 = .ok (.return_, 1) := by decide +kernel
theorem wX9_sumUp {x : GX} {n0 sl0 : Nat} (X : Cx x cX9_sumUp RX9 none n0 sl0 2 39) {out : Mm} (hE : Ends x n0 sl0 none out) (hn : xn x = 4) (fu : Nat)   (a0 : Nat) (a1 : Int32) (a2 : Int32)  (M : Mm) (h : fX9_sumUp fu  a0 a1 a2 M = some out) : Gw x M 0 [(0, pR (some a0)), (1, pI a1), (2, pI a2)] [] := by
  unfold fX9_sumUp at h
  refine g_aload_n X (pc := 0) 0 rfl rfl dX9_sumUp_0 ?_
  obtain ⟨v1, ev1, h⟩ := bd h
  refine g_getR X (pc := 1) fk_9_1 rfl rfl ev1 tb_235 dX9_sumUp_1 ?_
  obtain ⟨v2, ev2, h⟩ := bd h
  refine g_getR X (pc := 4) fk_4_0 rfl rfl ev2 tb_99 dX9_sumUp_4 ?_
  refine g_bipush X (pc := 7) (v := 34) dX9_sumUp_7 (by decide) ?_
  refine g_iload_n X (pc := 9) 2 rfl rfl dX9_sumUp_9 ?_
  refine g_aload_n X (pc := 10) 0 rfl rfl dX9_sumUp_10 ?_
  obtain ⟨v3, ev3, h⟩ := bd h
  refine g_getR X (pc := 11) fk_9_1 rfl rfl ev3 tb_235 dX9_sumUp_11 ?_
  obtain ⟨v4, ev4, h⟩ := bd h
  refine g_getI X (pc := 14) fk_4_1 rfl rfl ev4 tb_102 dX9_sumUp_14 ?_
  refine g_iload_n X (pc := 17) 1 rfl rfl dX9_sumUp_17 ?_
  refine g_iload_n X (pc := 18) 2 rfl rfl dX9_sumUp_18 ?_
  obtain ⟨v6, M5, eM5, h⟩ := b2d h
  refine g_callSN X (pc := 19) (M' := M5) (ro := some (pI v6)) (as := [pI v4, pI a1, pI a2]) (as' := [pI a2, pI a1, pI v4]) (st := [pI a2, pI (34 : Int32), pR v2]) (ctX11_pseudoSum _ _ _ _ _ _ fu  v4 a1 a2 M _ eM5) tb_619 (List.mem_of_getElem? (i := 7) rfl) tb_618 tb_1 hyX11_pseudoSum rfl rfl ⟨by decide, by decide⟩ (Nat.le_of_ble_eq_true rfl) dX9_sumUp_19 ?_
  obtain ⟨v8, M7, eM7, h⟩ := b2d h
  refine g_callSN X (pc := 22) (M' := M7) (ro := some (pI v8)) (as := [pR v2, pI (34 : Int32), pI a2, pI v6]) (as' := [pI v6, pI a2, pI (34 : Int32), pR v2]) (st := []) (ctX11_added _ _ _ _ _ _ fu  v2 (34 : Int32) a2 v6 M5 _ eM7) tb_622 (List.mem_of_getElem? (i := 8) rfl) tb_621 tb_1 hyX11_added rfl rfl ⟨by decide, by decide⟩ (Nat.le_of_ble_eq_true rfl) dX9_sumUp_22 ?_
  refine g_istore_n X (pc := 25) [(3, pI v8), (0, pR (some a0)), (1, pI a1), (2, pI a2)] rfl (lt_n hn (by decide)) rfl dX9_sumUp_25 ?_
  refine g_aload_n X (pc := 26) 1 rfl rfl dX9_sumUp_26 ?_
  obtain ⟨v9, ev9, h⟩ := bd h
  refine g_getR X (pc := 27) fk_9_1 rfl rfl ev9 tb_235 dX9_sumUp_27 ?_
  obtain ⟨v10, ev10, h⟩ := bd h
  refine g_getR X (pc := 30) fk_4_0 rfl rfl ev10 tb_99 dX9_sumUp_30 ?_
  refine g_bipush X (pc := 33) (v := 50) dX9_sumUp_33 (by decide) ?_
  refine g_iload_n X (pc := 35) 0 rfl rfl dX9_sumUp_35 ?_
  refine g_iconst X (pc := 36) (v := (-1)) dX9_sumUp_36 (by decide) ?_
  refine g_ixor X (pc := 37) dX9_sumUp_37 ?_
  obtain ⟨M11, eM11, h⟩ := bd h
  refine g_callSN X (pc := 38) (M' := M11) (ro := none) (as := [pR v10, pI (50 : Int32), pI (v8 ^^^ (-1 : Int32))]) (as' := [pI (v8 ^^^ (-1 : Int32)), pI (50 : Int32), pR v10]) (st := []) (ctX11_putTwo _ _ _ _ _ _ fu  v10 (50 : Int32) (v8 ^^^ (-1 : Int32)) M7 _ eM11) tb_525 (List.mem_of_getElem? (i := 5) rfl) tb_524 tb_1 hyX11_putTwo rfl rfl ⟨by decide, by decide⟩ (Nat.le_of_ble_eq_true rfl) dX9_sumUp_38 ?_
  obtain rfl := Option.some.inj h
  exact g_return X hE dX9_sumUp_41
theorem hyX9_sumUp : yX9_sumUp.cls ≠ "java/lang/invoke/MethodHandle" ∧ yX9_sumUp.cls ≠ "java/lang/invoke/VarHandle" ∧ (parseMethodDescriptor yX9_sumUp.desc).map (fun d => d.parameters.length) = some 2 := ⟨by decide +kernel, by decide +kernel, by decide +kernel⟩
theorem ctX9_sumUp (l : Launch) (E : Nat → Nat) (D : va_G) (dA : Nat → ClassId) (lo : Nat) (H0 : Heap) (fu : Nat) (a0 : Nat) (a1 : Int32) (a2 : Int32) (M : Mm) (out : Mm) (h : fX9_sumUp fu a0 a1 a2 M = some out) : Ct l E D dA lo H0 yX9_sumUp cX9_sumUp 4 none 2 39 [pR (some a0), pI a1, pI a2] M none out := by
  refine ct_of (by decide +kernel) (Nat.le_of_ble_eq_true rfl) ?_
  intro x hl he hd ha ho hh hn hin X hE
  exact wX9_sumUp X hE hn fu a0 a1 a2 M h
/-! WebHost$Tcp.reset()V -/
def fX9_reset_L93 (fu : Nat)  (a0 : Nat)  (M : Mm) : Option (Mm) :=
    (gR M 9 579 (some a0)).bind fun v1 =>
    (gI M 3 193 v1).bind fun v2 =>
    (rc M 9 (some a0)).bind fun q3 =>
    (fX9_sumUp fu q3 v2 (20 : Int32) M).bind fun M4 =>
    (gR M4 9 577 (some a0)).bind fun v5 =>
    (gR M4 9 579 (some a0)).bind fun v6 =>
    (gI M4 3 193 v6).bind fun v7 =>
    (rc M4 4 v5).bind fun q8 =>
    (fX4_send fu q8 v7 (6 : Int32) (20 : Int32) M4).bind fun M9 =>
    some M9
def fX9_reset (fu : Nat)  (a0 : Nat)  (M : Mm) : Option (Mm) :=
    (gR M 9 576 (some a0)).bind fun v1 =>
    (gR M 10 640 v1).bind fun v2 =>
    (gA M 101 v2 (2 : Int32)).bind fun v3 =>
    (pA M 101 v2 (2 : Int32) (v3 + (1 : Int32))).bind fun M4 =>
    (gR M4 9 579 (some a0)).bind fun v5 =>
    (rc M4 3 v5).bind fun q6 =>
    b2 (fX3_has fu q6 (16 : Int32) M4) fun v8 M7 =>
    if v8 = 0 then (
    (gR M7 9 579 (some a0)).bind fun v9 =>
    (gI M7 3 195 v9).bind fun v10 =>
    (gR M7 9 579 (some a0)).bind fun v11 =>
    (gI M7 3 194 v11).bind fun v12 =>
    (gR M7 9 579 (some a0)).bind fun v13 =>
    (gI M7 3 196 v13).bind fun v14 =>
    (gR M7 9 579 (some a0)).bind fun v15 =>
    (rc M7 3 v15).bind fun q16 =>
    b2 (fX3_span fu q16  M7) fun v18 M17 =>
    (rc M17 9 (some a0)).bind fun q19 =>
    (fX9_fillHeader fu q19 v10 v12 (0 : Int32) (v14 + v18) (20 : Int32) (0 : Int32) M17).bind fun M20 =>
    fX9_reset_L93 fu  a0 M20)
    else (
    (gR M7 9 579 (some a0)).bind fun v21 =>
    (gI M7 3 195 v21).bind fun v22 =>
    (gR M7 9 579 (some a0)).bind fun v23 =>
    (gI M7 3 194 v23).bind fun v24 =>
    (gR M7 9 579 (some a0)).bind fun v25 =>
    (gI M7 3 197 v25).bind fun v26 =>
    (rc M7 9 (some a0)).bind fun q27 =>
    (fX9_fillHeader fu q27 v22 v24 v26 (0 : Int32) (4 : Int32) (0 : Int32) M7).bind fun M28 =>
    fX9_reset_L93 fu  a0 M28)
theorem dX9_reset_0 : decode cX9_reset 0 = .ok (.aload_n 0, 1) := by decide +kernel
theorem dX9_reset_1 : decode cX9_reset 1 = .ok (.getfield 9, 3) := by decide +kernel
theorem dX9_reset_4 : decode cX9_reset 4 = .ok (.getfield 140, 3) := by decide +kernel
theorem dX9_reset_7 : decode cX9_reset 7 = .ok (.iconst 2, 1) := by decide +kernel
theorem dX9_reset_8 : decode cX9_reset 8 = .ok (.dup2, 1) := by decide +kernel
theorem dX9_reset_9 : decode cX9_reset 9 = .ok (.iaload, 1) := by decide +kernel
theorem dX9_reset_10 : decode cX9_reset 10 = .ok (.iconst 1, 1) := by decide +kernel
theorem dX9_reset_11 : decode cX9_reset 11 = .ok (.iadd, 1) := by decide +kernel
theorem dX9_reset_12 : decode cX9_reset 12 = .ok (.iastore, 1) := by decide +kernel
theorem dX9_reset_13 : decode cX9_reset 13 = .ok (.aload_n 0, 1) := by decide +kernel
theorem dX9_reset_14 : decode cX9_reset 14 = .ok (.getfield 23, 3) := by decide +kernel
theorem dX9_reset_17 : decode cX9_reset 17 = .ok (.bipush 16, 2) := by decide +kernel
theorem dX9_reset_19 : decode cX9_reset 19 = .ok (.invokevirtual 89, 3) := by decide +kernel
theorem dX9_reset_22 : decode cX9_reset 22 = .ok (.ifCond .eq 34, 3) := by decide +kernel
theorem dX9_reset_25 : decode cX9_reset 25 = .ok (.aload_n 0, 1) := by decide +kernel
theorem dX9_reset_26 : decode cX9_reset 26 = .ok (.aload_n 0, 1) := by decide +kernel
theorem dX9_reset_27 : decode cX9_reset 27 = .ok (.getfield 23, 3) := by decide +kernel
theorem dX9_reset_30 : decode cX9_reset 30 = .ok (.getfield 122, 3) := by decide +kernel
theorem dX9_reset_33 : decode cX9_reset 33 = .ok (.aload_n 0, 1) := by decide +kernel
theorem dX9_reset_34 : decode cX9_reset 34 = .ok (.getfield 23, 3) := by decide +kernel
theorem dX9_reset_37 : decode cX9_reset 37 = .ok (.getfield 134, 3) := by decide +kernel
theorem dX9_reset_40 : decode cX9_reset 40 = .ok (.aload_n 0, 1) := by decide +kernel
theorem dX9_reset_41 : decode cX9_reset 41 = .ok (.getfield 23, 3) := by decide +kernel
theorem dX9_reset_44 : decode cX9_reset 44 = .ok (.getfield 181, 3) := by decide +kernel
theorem dX9_reset_47 : decode cX9_reset 47 = .ok (.iconst 0, 1) := by decide +kernel
theorem dX9_reset_48 : decode cX9_reset 48 = .ok (.iconst 4, 1) := by decide +kernel
theorem dX9_reset_49 : decode cX9_reset 49 = .ok (.iconst 0, 1) := by decide +kernel
theorem dX9_reset_50 : decode cX9_reset 50 = .ok (.invokevirtual 320, 3) := by decide +kernel
theorem dX9_reset_53 : decode cX9_reset 53 = .ok (.goto 40, 3) := by decide +kernel
theorem dX9_reset_56 : decode cX9_reset 56 = .ok (.aload_n 0, 1) := by decide +kernel
theorem dX9_reset_57 : decode cX9_reset 57 = .ok (.aload_n 0, 1) := by decide +kernel
theorem dX9_reset_58 : decode cX9_reset 58 = .ok (.getfield 23, 3) := by decide +kernel
theorem dX9_reset_61 : decode cX9_reset 61 = .ok (.getfield 122, 3) := by decide +kernel
theorem dX9_reset_64 : decode cX9_reset 64 = .ok (.aload_n 0, 1) := by decide +kernel
theorem dX9_reset_65 : decode cX9_reset 65 = .ok (.getfield 23, 3) := by decide +kernel
theorem dX9_reset_68 : decode cX9_reset 68 = .ok (.getfield 134, 3) := by decide +kernel
theorem dX9_reset_71 : decode cX9_reset 71 = .ok (.iconst 0, 1) := by decide +kernel
theorem dX9_reset_72 : decode cX9_reset 72 = .ok (.aload_n 0, 1) := by decide +kernel
theorem dX9_reset_73 : decode cX9_reset 73 = .ok (.getfield 23, 3) := by decide +kernel
theorem dX9_reset_76 : decode cX9_reset 76 = .ok (.getfield 347, 3) := by decide +kernel
theorem dX9_reset_79 : decode cX9_reset 79 = .ok (.aload_n 0, 1) := by decide +kernel
theorem dX9_reset_80 : decode cX9_reset 80 = .ok (.getfield 23, 3) := by decide +kernel
theorem dX9_reset_83 : decode cX9_reset 83 = .ok (.invokevirtual 227, 3) := by decide +kernel
theorem dX9_reset_86 : decode cX9_reset 86 = .ok (.iadd, 1) := by decide +kernel
theorem dX9_reset_87 : decode cX9_reset 87 = .ok (.bipush 20, 2) := by decide +kernel
theorem dX9_reset_89 : decode cX9_reset 89 = .ok (.iconst 0, 1) := by decide +kernel
theorem dX9_reset_90 : decode cX9_reset 90 = .ok (.invokevirtual 320, 3) := by decide +kernel
theorem dX9_reset_93 : decode cX9_reset 93 = .ok (.aload_n 0, 1) := by decide +kernel
theorem dX9_reset_94 : decode cX9_reset 94 = .ok (.aload_n 0, 1) := by decide +kernel
theorem dX9_reset_95 : decode cX9_reset 95 = .ok (.getfield 23, 3) := by decide +kernel
theorem dX9_reset_98 : decode cX9_reset 98 = .ok (.getfield 128, 3) := by decide +kernel
theorem dX9_reset_101 : decode cX9_reset 101 = .ok (.bipush 20, 2) := by decide +kernel
theorem dX9_reset_103 : decode cX9_reset 103 = .ok (.invokevirtual 332, 3) := by decide +kernel
theorem dX9_reset_106 : decode cX9_reset 106 = .ok (.aload_n 0, 1) := by decide +kernel
theorem dX9_reset_107 : decode cX9_reset 107 = .ok (.getfield 15, 3) := by decide +kernel
theorem dX9_reset_110 : decode cX9_reset 110 = .ok (.aload_n 0, 1) := by decide +kernel
theorem dX9_reset_111 : decode cX9_reset 111 = .ok (.getfield 23, 3) := by decide +kernel
theorem dX9_reset_114 : decode cX9_reset 114 = .ok (.getfield 128, 3) := by decide +kernel
theorem dX9_reset_117 : decode cX9_reset 117 = .ok (.bipush 6, 2) := by decide +kernel
theorem dX9_reset_119 : decode cX9_reset 119 = .ok (.bipush 20, 2) := by decide +kernel
theorem dX9_reset_121 : decode cX9_reset 121 = .ok (.invokevirtual 272, 3) := by decide +kernel
theorem dX9_reset_124 : decode cX9_reset 124 = .ok (.return_, 1) := by decide +kernel
theorem wX9_reset_L93 {x : GX} {n0 sl0 : Nat} (X : Cx x cX9_reset RX9 none n0 sl0 4 92) {out : Mm} (hE : Ends x n0 sl0 none out) (hn : xn x = 1) (fu : Nat)   (a0 : Nat)  (M : Mm) (h : fX9_reset_L93 fu  a0 M = some out) : Gw x M 93 [(0, pR (some a0))] [] := by
  unfold fX9_reset_L93 at h
  refine g_aload_n X (pc := 93) 0 rfl rfl dX9_reset_93 ?_
  refine g_aload_n X (pc := 94) 0 rfl rfl dX9_reset_94 ?_
  obtain ⟨v1, ev1, h⟩ := bd h
  refine g_getR X (pc := 95) fk_9_3 rfl rfl ev1 tb_237 dX9_reset_95 ?_
  obtain ⟨v2, ev2, h⟩ := bd h
  refine g_getI X (pc := 98) fk_3_1 rfl rfl ev2 tb_162 dX9_reset_98 ?_
  refine g_bipush X (pc := 101) (v := 20) dX9_reset_101 (by decide) ?_
  obtain ⟨q3, eq3, h⟩ := bd h
  obtain ⟨M4, eM4, h⟩ := bd h
  refine g_callV X (pc := 103) (M' := M4) (ro := none) (c := 9) rfl (by decide) (as := [pI v2, pI (20 : Int32)]) (as' := [pI (20 : Int32), pI v2]) (st := []) eq3 (ctX9_sumUp _ _ _ _ _ _ fu q3 v2 (20 : Int32) M _ eM4) tb_616 tb_613 tb_615 ts_14 tb_6 ⟨rfl, hyX9_sumUp⟩ rfl rfl ⟨by decide, by decide⟩ (Nat.le_of_ble_eq_true rfl) dX9_reset_103 ?_
  refine g_aload_n X (pc := 106) 0 rfl rfl dX9_reset_106 ?_
  obtain ⟨v5, ev5, h⟩ := bd h
  refine g_getR X (pc := 107) fk_9_1 rfl rfl ev5 tb_235 dX9_reset_107 ?_
  refine g_aload_n X (pc := 110) 0 rfl rfl dX9_reset_110 ?_
  obtain ⟨v6, ev6, h⟩ := bd h
  refine g_getR X (pc := 111) fk_9_3 rfl rfl ev6 tb_237 dX9_reset_111 ?_
  obtain ⟨v7, ev7, h⟩ := bd h
  refine g_getI X (pc := 114) fk_3_1 rfl rfl ev7 tb_162 dX9_reset_114 ?_
  refine g_bipush X (pc := 117) (v := 6) dX9_reset_117 (by decide) ?_
  refine g_bipush X (pc := 119) (v := 20) dX9_reset_119 (by decide) ?_
  obtain ⟨q8, eq8, h⟩ := bd h
  obtain ⟨M9, eM9, h⟩ := bd h
  refine g_callV X (pc := 121) (M' := M9) (ro := none) (c := 4) rfl (by decide) (as := [pI v7, pI (6 : Int32), pI (20 : Int32)]) (as' := [pI (20 : Int32), pI (6 : Int32), pI v7]) (st := []) eq8 (ctX4_send _ _ _ _ _ _ fu q8 v7 (6 : Int32) (20 : Int32) M4 _ eM9) tb_627 tb_624 tb_625 tb_626 tb_4 ⟨rfl, hyX4_send⟩ rfl rfl ⟨by decide, by decide⟩ (Nat.le_of_ble_eq_true rfl) dX9_reset_121 ?_
  obtain rfl := Option.some.inj h
  exact g_return X hE dX9_reset_124
theorem wX9_reset {x : GX} {n0 sl0 : Nat} (X : Cx x cX9_reset RX9 none n0 sl0 4 92) {out : Mm} (hE : Ends x n0 sl0 none out) (hn : xn x = 1) (fu : Nat)   (a0 : Nat)  (M : Mm) (h : fX9_reset fu  a0 M = some out) : Gw x M 0 [(0, pR (some a0))] [] := by
  unfold fX9_reset at h
  refine g_aload_n X (pc := 0) 0 rfl rfl dX9_reset_0 ?_
  obtain ⟨v1, ev1, h⟩ := bd h
  refine g_getR X (pc := 1) fk_9_0 rfl rfl ev1 tb_234 dX9_reset_1 ?_
  obtain ⟨v2, ev2, h⟩ := bd h
  refine g_getR X (pc := 4) fk_10_0 rfl rfl ev2 tb_65 dX9_reset_4 ?_
  refine g_iconst X (pc := 7) (v := 2) dX9_reset_7 (by decide) ?_
  refine g_dup2 X (pc := 8) rfl rfl dX9_reset_8 ?_
  obtain ⟨v3, ev3, h⟩ := bd h
  refine g_iaload X (pc := 9) ev3 dX9_reset_9 ?_
  refine g_iconst X (pc := 10) (v := 1) dX9_reset_10 (by decide) ?_
  refine g_iadd X (pc := 11) dX9_reset_11 ?_
  obtain ⟨M4, eM4, h⟩ := bd h
  refine g_iastore X (pc := 12) eM4 dX9_reset_12 ?_
  refine g_aload_n X (pc := 13) 0 rfl rfl dX9_reset_13 ?_
  obtain ⟨v5, ev5, h⟩ := bd h
  refine g_getR X (pc := 14) fk_9_3 rfl rfl ev5 tb_237 dX9_reset_14 ?_
  refine g_bipush X (pc := 17) (v := 16) dX9_reset_17 (by decide) ?_
  obtain ⟨q6, eq6, h⟩ := bd h
  obtain ⟨v8, M7, eM7, h⟩ := b2d h
  refine g_callV X (pc := 19) (M' := M7) (ro := some (pI v8)) (c := 3) rfl (by decide) (as := [pI (16 : Int32)]) (as' := [pI (16 : Int32)]) (st := []) eq6 (ctX3_has _ _ _ _ _ _ fu q6 (16 : Int32) M4 _ eM7) tb_835 tb_832 tb_833 tb_834 tb_5 ⟨rfl, hyX3_has⟩ rfl rfl ⟨by decide, by decide⟩ (Nat.le_of_ble_eq_true rfl) dX9_reset_19 ?_
  refine g_if_eq X (pc := 22) (tgt := 56) dX9_reset_22 (by decide) (fun hc => ?_) (fun hc => ?_)
  · have h := (if_pos hc).symm.trans h
    refine g_aload_n X (pc := 56) 0 rfl rfl dX9_reset_56 ?_
    refine g_aload_n X (pc := 57) 0 rfl rfl dX9_reset_57 ?_
    obtain ⟨v9, ev9, h⟩ := bd h
    refine g_getR X (pc := 58) fk_9_3 rfl rfl ev9 tb_237 dX9_reset_58 ?_
    obtain ⟨v10, ev10, h⟩ := bd h
    refine g_getI X (pc := 61) fk_3_3 rfl rfl ev10 tb_166 dX9_reset_61 ?_
    refine g_aload_n X (pc := 64) 0 rfl rfl dX9_reset_64 ?_
    obtain ⟨v11, ev11, h⟩ := bd h
    refine g_getR X (pc := 65) fk_9_3 rfl rfl ev11 tb_237 dX9_reset_65 ?_
    obtain ⟨v12, ev12, h⟩ := bd h
    refine g_getI X (pc := 68) fk_3_2 rfl rfl ev12 tb_164 dX9_reset_68 ?_
    refine g_iconst X (pc := 71) (v := 0) dX9_reset_71 (by decide) ?_
    refine g_aload_n X (pc := 72) 0 rfl rfl dX9_reset_72 ?_
    obtain ⟨v13, ev13, h⟩ := bd h
    refine g_getR X (pc := 73) fk_9_3 rfl rfl ev13 tb_237 dX9_reset_73 ?_
    obtain ⟨v14, ev14, h⟩ := bd h
    refine g_getI X (pc := 76) fk_3_4 rfl rfl ev14 tb_171 dX9_reset_76 ?_
    refine g_aload_n X (pc := 79) 0 rfl rfl dX9_reset_79 ?_
    obtain ⟨v15, ev15, h⟩ := bd h
    refine g_getR X (pc := 80) fk_9_3 rfl rfl ev15 tb_237 dX9_reset_80 ?_
    obtain ⟨q16, eq16, h⟩ := bd h
    obtain ⟨v18, M17, eM17, h⟩ := b2d h
    refine g_callV X (pc := 83) (M' := M17) (ro := some (pI v18)) (c := 3) rfl (by decide) (as := []) (as' := []) (st := [pI v14, pI (0 : Int32), pI v12, pI v10, pR (some a0)]) eq16 (ctX3_span _ _ _ _ _ _ fu q16  M7 _ eM17) tb_843 tb_840 tb_841 tb_842 tb_5 ⟨rfl, hyX3_span⟩ rfl rfl ⟨by decide, by decide⟩ (Nat.le_of_ble_eq_true rfl) dX9_reset_83 ?_
    refine g_iadd X (pc := 86) dX9_reset_86 ?_
    refine g_bipush X (pc := 87) (v := 20) dX9_reset_87 (by decide) ?_
    refine g_iconst X (pc := 89) (v := 0) dX9_reset_89 (by decide) ?_
    obtain ⟨q19, eq19, h⟩ := bd h
    obtain ⟨M20, eM20, h⟩ := bd h
    refine g_callV X (pc := 90) (M' := M20) (ro := none) (c := 9) rfl (by decide) (as := [pI v10, pI v12, pI (0 : Int32), pI (v14 + v18), pI (20 : Int32), pI (0 : Int32)]) (as' := [pI (0 : Int32), pI (20 : Int32), pI (v14 + v18), pI (0 : Int32), pI v12, pI v10]) (st := []) eq19 (ctX9_fillHeader _ _ _ _ _ _ fu q19 v10 v12 (0 : Int32) (v14 + v18) (20 : Int32) (0 : Int32) M17 _ eM20) tb_609 tb_606 tb_608 ts_13 tb_6 ⟨rfl, hyX9_fillHeader⟩ rfl rfl ⟨by decide, by decide⟩ (Nat.le_of_ble_eq_true rfl) dX9_reset_90 ?_
    exact wX9_reset_L93 X hE hn fu   a0 M20 h
  · have h := (if_neg hc).symm.trans h
    refine g_aload_n X (pc := 25) 0 rfl rfl dX9_reset_25 ?_
    refine g_aload_n X (pc := 26) 0 rfl rfl dX9_reset_26 ?_
    obtain ⟨v21, ev21, h⟩ := bd h
    refine g_getR X (pc := 27) fk_9_3 rfl rfl ev21 tb_237 dX9_reset_27 ?_
    obtain ⟨v22, ev22, h⟩ := bd h
    refine g_getI X (pc := 30) fk_3_3 rfl rfl ev22 tb_166 dX9_reset_30 ?_
    refine g_aload_n X (pc := 33) 0 rfl rfl dX9_reset_33 ?_
    obtain ⟨v23, ev23, h⟩ := bd h
    refine g_getR X (pc := 34) fk_9_3 rfl rfl ev23 tb_237 dX9_reset_34 ?_
    obtain ⟨v24, ev24, h⟩ := bd h
    refine g_getI X (pc := 37) fk_3_2 rfl rfl ev24 tb_164 dX9_reset_37 ?_
    refine g_aload_n X (pc := 40) 0 rfl rfl dX9_reset_40 ?_
    obtain ⟨v25, ev25, h⟩ := bd h
    refine g_getR X (pc := 41) fk_9_3 rfl rfl ev25 tb_237 dX9_reset_41 ?_
    obtain ⟨v26, ev26, h⟩ := bd h
    refine g_getI X (pc := 44) fk_3_5 rfl rfl ev26 tb_173 dX9_reset_44 ?_
    refine g_iconst X (pc := 47) (v := 0) dX9_reset_47 (by decide) ?_
    refine g_iconst X (pc := 48) (v := 4) dX9_reset_48 (by decide) ?_
    refine g_iconst X (pc := 49) (v := 0) dX9_reset_49 (by decide) ?_
    obtain ⟨q27, eq27, h⟩ := bd h
    obtain ⟨M28, eM28, h⟩ := bd h
    refine g_callV X (pc := 50) (M' := M28) (ro := none) (c := 9) rfl (by decide) (as := [pI v22, pI v24, pI v26, pI (0 : Int32), pI (4 : Int32), pI (0 : Int32)]) (as' := [pI (0 : Int32), pI (4 : Int32), pI (0 : Int32), pI v26, pI v24, pI v22]) (st := []) eq27 (ctX9_fillHeader _ _ _ _ _ _ fu q27 v22 v24 v26 (0 : Int32) (4 : Int32) (0 : Int32) M7 _ eM28) tb_609 tb_606 tb_608 ts_13 tb_6 ⟨rfl, hyX9_fillHeader⟩ rfl rfl ⟨by decide, by decide⟩ (Nat.le_of_ble_eq_true rfl) dX9_reset_50 ?_
    refine g_goto X (pc := 53) (tgt := 93) dX9_reset_53 (by decide) ?_
    exact wX9_reset_L93 X hE hn fu   a0 M28 h
theorem hyX9_reset : yX9_reset.cls ≠ "java/lang/invoke/MethodHandle" ∧ yX9_reset.cls ≠ "java/lang/invoke/VarHandle" ∧ (parseMethodDescriptor yX9_reset.desc).map (fun d => d.parameters.length) = some 0 := ⟨by decide +kernel, by decide +kernel, by decide +kernel⟩
theorem ctX9_reset (l : Launch) (E : Nat → Nat) (D : va_G) (dA : Nat → ClassId) (lo : Nat) (H0 : Heap) (fu : Nat) (a0 : Nat) (M : Mm) (out : Mm) (h : fX9_reset fu a0 M = some out) : Ct l E D dA lo H0 yX9_reset cX9_reset 1 none 4 92 [pR (some a0)] M none out := by
  refine ct_of (by decide +kernel) (Nat.le_of_ble_eq_true rfl) ?_
  intro x hl he hd ha ho hh hn hin X hE
  exact wX9_reset X hE hn fu a0 M h
/-! WebHost$Tcp.freeConnection()LWebHost$Connection; -/
def fX9_freeConnection_L34 (fu : Nat) (k2 : Nat → Int32 → Mm → Option (Option Nat × Mm)) (a0 : Nat) (a1 : Int32) (a2 : Option Nat)  (M : Mm) : Option (Option Nat × Mm) :=
    (gI M 1 64 a2).bind fun v1 =>
    if v1 = 0 then (
    some (a2, M))
    else (
    k2 a0 (a1 + (1 : Int32)) M)
def fX9_freeConnection_L2 (fu : Nat)  : Nat → Nat → Int32 → Mm → Option (Option Nat × Mm)
  | 0, _, _, _ => none
  | n + 1, a0, a1, M =>
    if (16 : Int32) ≤ a1 then (
    some (none, M))
    else (
    (gR M 9 580 (some a0)).bind fun v1 =>
    (gB M 111 v1 a1).bind fun v2 =>
    if v2 = none then (
    b2 (mkO M 1) fun v3 M4 =>
    (fX1_init fu v3  M4).bind fun M5 =>
    (gR M5 9 580 (some a0)).bind fun v6 =>
    (pB M5 1 v6 a1 (some v3)).bind fun M7 =>
    fX9_freeConnection_L34 fu (fun b0 b1 M => fX9_freeConnection_L2 fu  n b0 b1 M) a0 a1 (some v3) M7)
    else (
    fX9_freeConnection_L34 fu (fun b0 b1 M => fX9_freeConnection_L2 fu  n b0 b1 M) a0 a1 v2 M))
def fX9_freeConnection (fu : Nat)  (a0 : Nat)  (M : Mm) : Option (Option Nat × Mm) :=
    fX9_freeConnection_L2 fu  fu a0 (0 : Int32) M
theorem dX9_freeConnection_0 : decode cX9_freeConnection 0 = .ok (.iconst 0, 1) := by decide +kernel
theorem dX9_freeConnection_1 : decode cX9_freeConnection 1 = .ok (.istore_n 1, 1) := by decide +kernel
theorem dX9_freeConnection_2 : decode cX9_freeConnection 2 = .ok (.iload_n 1, 1) := by decide +kernel
theorem dX9_freeConnection_3 : decode cX9_freeConnection 3 = .ok (.bipush 16, 2) := by decide +kernel
theorem dX9_freeConnection_5 : decode cX9_freeConnection 5 = .ok (.if_icmp .ge 44, 3) := by decide +kernel
theorem dX9_freeConnection_8 : decode cX9_freeConnection 8 = .ok (.aload_n 0, 1) := by decide +kernel
theorem dX9_freeConnection_9 : decode cX9_freeConnection 9 = .ok (.getfield 29, 3) := by decide +kernel
theorem dX9_freeConnection_12 : decode cX9_freeConnection 12 = .ok (.iload_n 1, 1) := by decide +kernel
theorem dX9_freeConnection_13 : decode cX9_freeConnection 13 = .ok (.aaload, 1) := by decide +kernel
theorem dX9_freeConnection_14 : decode cX9_freeConnection 14 = .ok (.astore_n 2, 1) := by decide +kernel
theorem dX9_freeConnection_15 : decode cX9_freeConnection 15 = .ok (.aload_n 2, 1) := by decide +kernel
theorem dX9_freeConnection_16 : decode cX9_freeConnection 16 = .ok (.ifnonnull 18, 3) := by decide +kernel
theorem dX9_freeConnection_19 : decode cX9_freeConnection 19 = .ok (.new 27, 3) := by decide +kernel
theorem dX9_freeConnection_22 : decode cX9_freeConnection 22 = .ok (.dup, 1) := by decide +kernel
theorem dX9_freeConnection_23 : decode cX9_freeConnection 23 = .ok (.invokespecial 164, 3) := by decide +kernel
theorem dX9_freeConnection_26 : decode cX9_freeConnection 26 = .ok (.astore_n 2, 1) := by decide +kernel
theorem dX9_freeConnection_27 : decode cX9_freeConnection 27 = .ok (.aload_n 0, 1) := by decide +kernel
theorem dX9_freeConnection_28 : decode cX9_freeConnection 28 = .ok (.getfield 29, 3) := by decide +kernel
theorem dX9_freeConnection_31 : decode cX9_freeConnection 31 = .ok (.iload_n 1, 1) := by decide +kernel
theorem dX9_freeConnection_32 : decode cX9_freeConnection 32 = .ok (.aload_n 2, 1) := by decide +kernel
theorem dX9_freeConnection_33 : decode cX9_freeConnection 33 = .ok (.aastore, 1) := by decide +kernel
theorem dX9_freeConnection_34 : decode cX9_freeConnection 34 = .ok (.aload_n 2, 1) := by decide +kernel
theorem dX9_freeConnection_35 : decode cX9_freeConnection 35 = .ok (.getfield 36, 3) := by decide +kernel
theorem dX9_freeConnection_38 : decode cX9_freeConnection 38 = .ok (.ifCond .ne 5, 3) := by decide +kernel
theorem dX9_freeConnection_41 : decode cX9_freeConnection 41 = .ok (.aload_n 2, 1) := by decide +kernel
theorem dX9_freeConnection_42 : decode cX9_freeConnection 42 = .ok (.areturn, 1) := by decide +kernel
theorem dX9_freeConnection_43 : decode cX9_freeConnection 43 = .ok (.iinc 1 1, 3) := by decide +kernel
theorem dX9_freeConnection_46 : decode cX9_freeConnection 46 = .ok (.goto (-44), 3) := by decide +kernel
theorem dX9_freeConnection_49 : decode cX9_freeConnection 49 = .ok (.aconst_null, 1) := by decide +kernel
theorem dX9_freeConnection_50 : decode cX9_freeConnection 50 = .ok (.areturn, 1) := by decide +kernel
theorem wX9_freeConnection_L34 {x : GX} {n0 sl0 : Nat} (X : Cx x cX9_freeConnection RX9 (some (.object "WebHost$Connection")) n0 sl0 3 52) {out : Option Nat × Mm} (hE : Ends x n0 sl0 (some (pR out.1)) out.2) (hn : xn x = 3) (fu : Nat) (k2 : Nat → Int32 → Mm → Option (Option Nat × Mm)) (hk2 : ∀ (b0 : Nat) (b1 : Int32)  (M : Mm), k2 b0 b1 M = some out → Gw x M 2 [(0, pR (some b0)), (1, pI b1)] []) (a0 : Nat) (a1 : Int32) (a2 : Option Nat)  (M : Mm) (h : fX9_freeConnection_L34 fu k2 a0 a1 a2 M = some out) : Gw x M 34 [(0, pR (some a0)), (1, pI a1), (2, pR a2)] [] := by
  unfold fX9_freeConnection_L34 at h
  refine g_aload_n X (pc := 34) 2 rfl rfl dX9_freeConnection_34 ?_
  obtain ⟨v1, ev1, h⟩ := bd h
  refine g_getI X (pc := 35) fk_1_0 rfl rfl ev1 tb_959 dX9_freeConnection_35 ?_
  refine g_if_ne X (pc := 38) (tgt := 43) dX9_freeConnection_38 (by decide) (fun hc => ?_) (fun hc => ?_)
  · have h := (if_neg hc).symm.trans h
    refine g_iinc X (pc := 43) 1 [(1, pI (a1 + (1 : Int32))), (0, pR (some a0)), (2, pR a2)] rfl (iinc_e (by decide)) (lt_n hn (by decide)) rfl dX9_freeConnection_43 ?_
    refine g_goto X (pc := 46) (tgt := 2) dX9_freeConnection_46 (by decide) ?_
    refine g_sub [1, 0] [(0, pR (some a0)), (1, pI (a1 + (1 : Int32)))] rfl ?_
    exact hk2 a0 (a1 + (1 : Int32)) M h
  · have h := (if_pos hc).symm.trans h
    refine g_aload_n X (pc := 41) 2 rfl rfl dX9_freeConnection_41 ?_
    obtain rfl := Option.some.inj h
    exact g_areturn X rfl (Or.inl ⟨_, rfl⟩) hE dX9_freeConnection_42
theorem wX9_freeConnection_L2 {x : GX} {n0 sl0 : Nat} (X : Cx x cX9_freeConnection RX9 (some (.object "WebHost$Connection")) n0 sl0 3 52) {out : Option Nat × Mm} (hE : Ends x n0 sl0 (some (pR out.1)) out.2) (hn : xn x = 3) (fu : Nat)   : ∀ (n : Nat) (a0 : Nat) (a1 : Int32)  (M : Mm), fX9_freeConnection_L2 fu  n a0 a1 M = some out → Gw x M 2 [(0, pR (some a0)), (1, pI a1)] [] := by
  intro n
  induction n with
  | zero =>
    intro a0 a1 M h
    have h : (none : Option (Option Nat × Mm)) = some out := h
    cases h
  | succ n ih =>
    intro a0 a1 M h
    rw [fX9_freeConnection_L2] at h
    refine g_iload_n X (pc := 2) 1 rfl rfl dX9_freeConnection_2 ?_
    refine g_bipush X (pc := 3) (v := 16) dX9_freeConnection_3 (by decide) ?_
    refine g_icmp_ge X (pc := 5) (tgt := 49) dX9_freeConnection_5 (by decide) (fun hc => ?_) (fun hc => ?_)
    · have h := (if_pos hc).symm.trans h
      refine g_null X (pc := 49) dX9_freeConnection_49 ?_
      obtain rfl := Option.some.inj h
      exact g_areturn X rfl (Or.inl ⟨_, rfl⟩) hE dX9_freeConnection_50
    · have h := (if_neg hc).symm.trans h
      refine g_aload_n X (pc := 8) 0 rfl rfl dX9_freeConnection_8 ?_
      obtain ⟨v1, ev1, h⟩ := bd h
      refine g_getR X (pc := 9) fk_9_4 rfl rfl ev1 tb_238 dX9_freeConnection_9 ?_
      refine g_iload_n X (pc := 12) 1 rfl rfl dX9_freeConnection_12 ?_
      obtain ⟨v2, ev2, h⟩ := bd h
      refine g_aaload X (pc := 13) (k := 5) rfl rfl (by decide) ev2 dX9_freeConnection_13 ?_
      refine g_astore_n X (pc := 14) [(2, pR v2), (0, pR (some a0)), (1, pI a1)] rfl (lt_n hn (by decide)) rfl dX9_freeConnection_14 ?_
      refine g_aload_n X (pc := 15) 0 rfl rfl dX9_freeConnection_15 ?_
      refine g_ifnonnull X (pc := 16) (tgt := 34) dX9_freeConnection_16 (by decide) (fun hc => ?_) (fun hc => ?_)
      · have h := (if_neg hc).symm.trans h
        refine g_sub [1, 2, 0] [(0, pR (some a0)), (1, pI a1), (2, pR v2)] rfl ?_
        exact wX9_freeConnection_L34 X hE hn fu (fun b0 b1 M => fX9_freeConnection_L2 fu  n b0 b1 M) ih a0 a1 v2 M h
      · have h := (if_pos hc).symm.trans h
        obtain ⟨v3, M4, eM4, h⟩ := b2d h
        refine g_new X (pc := 19) fk_1_0 dvX1 eM4 tb_232 tb_670 tb_18 dX9_freeConnection_19 ?_
        refine g_dup X (pc := 22) rfl dX9_freeConnection_22 ?_
        obtain ⟨M5, eM5, h⟩ := bd h
        refine g_callI X (pc := 23) (M' := M5) (as := []) (as' := []) (st := [pR (some v3)]) (ctX1_init _ _ _ _ _ _ fu v3  M4 _ eM5) tb_851 tb_849 tb_850 tb_18 rfl hyX1_init rfl rfl ⟨by decide, by decide⟩ (Nat.le_of_ble_eq_true rfl) dX9_freeConnection_23 ?_
        refine g_astore_n X (pc := 26) [(2, pR (some v3)), (0, pR (some a0)), (1, pI a1)] rfl (lt_n hn (by decide)) rfl dX9_freeConnection_26 ?_
        refine g_aload_n X (pc := 27) 1 rfl rfl dX9_freeConnection_27 ?_
        obtain ⟨v6, ev6, h⟩ := bd h
        refine g_getR X (pc := 28) fk_9_4 rfl rfl ev6 tb_238 dX9_freeConnection_28 ?_
        refine g_iload_n X (pc := 31) 2 rfl rfl dX9_freeConnection_31 ?_
        refine g_aload_n X (pc := 32) 0 rfl rfl dX9_freeConnection_32 ?_
        obtain ⟨M7, eM7, h⟩ := bd h
        refine g_aastore X (pc := 33) (c := 1) (k := 5) rfl (by decide) rfl eM7 dX9_freeConnection_33 ?_
        refine g_sub [1, 2, 0] [(0, pR (some a0)), (1, pI a1), (2, pR (some v3))] rfl ?_
        exact wX9_freeConnection_L34 X hE hn fu (fun b0 b1 M => fX9_freeConnection_L2 fu  n b0 b1 M) ih a0 a1 (some v3) M7 h
theorem wX9_freeConnection {x : GX} {n0 sl0 : Nat} (X : Cx x cX9_freeConnection RX9 (some (.object "WebHost$Connection")) n0 sl0 3 52) {out : Option Nat × Mm} (hE : Ends x n0 sl0 (some (pR out.1)) out.2) (hn : xn x = 3) (fu : Nat)   (a0 : Nat)  (M : Mm) (h : fX9_freeConnection fu  a0 M = some out) : Gw x M 0 [(0, pR (some a0))] [] := by
  unfold fX9_freeConnection at h
  refine g_iconst X (pc := 0) (v := 0) dX9_freeConnection_0 (by decide) ?_
  refine g_istore_n X (pc := 1) [(1, pI (0 : Int32)), (0, pR (some a0))] rfl (lt_n hn (by decide)) rfl dX9_freeConnection_1 ?_
  refine g_sub [1, 0] [(0, pR (some a0)), (1, pI (0 : Int32))] rfl ?_
  exact wX9_freeConnection_L2 X hE hn fu   fu a0 (0 : Int32) M h
theorem hyX9_freeConnection : yX9_freeConnection.cls ≠ "java/lang/invoke/MethodHandle" ∧ yX9_freeConnection.cls ≠ "java/lang/invoke/VarHandle" ∧ (parseMethodDescriptor yX9_freeConnection.desc).map (fun d => d.parameters.length) = some 0 := ⟨by decide +kernel, by decide +kernel, by decide +kernel⟩
theorem ctX9_freeConnection (l : Launch) (E : Nat → Nat) (D : va_G) (dA : Nat → ClassId) (lo : Nat) (H0 : Heap) (fu : Nat) (a0 : Nat) (M : Mm) (out : Option Nat × Mm) (h : fX9_freeConnection fu a0 M = some out) : Ct l E D dA lo H0 yX9_freeConnection cX9_freeConnection 3 (some (.object "WebHost$Connection")) 3 52 [pR (some a0)] M (some (pR out.1)) out.2 := by
  refine ct_of (by decide +kernel) (Nat.le_of_ble_eq_true rfl) ?_
  intro x hl he hd ha ho hh hn hin X hE
  exact wX9_freeConnection X hE hn fu a0 M h
/-! WebHost$Tcp.fill(LWebHost$Connection;III)I -/
def fX9_fill_L121 (fu : Nat)  (a0 : Nat) (a1 : Option Nat) (a5 : Int32)  (M : Mm) : Option (Int32 × Mm) :=
    (gI M 1 65 a1).bind fun v1 =>
    (rc M 9 (some a0)).bind fun q2 =>
    (fX9_sumUp fu q2 v1 a5 M).bind fun M3 =>
    some (a5, M3)
def fX9_fill_L93 (fu : Nat)  (a0 : Nat) (a1 : Option Nat) (a3 : Int32) (a5 : Int32)  (M : Mm) : Option (Int32 × Mm) :=
    if (a3 &&& (4 : Int32)) = 0 then (
    (gR M 1 80 a1).bind fun v1 =>
    (gR M 1 80 a1).bind fun v2 =>
    (rc M 0 v2).bind fun q3 =>
    b2 (fX0_window fu q3  M) fun v5 M4 =>
    (pF M4 0 2 v1 v5).bind fun M6 =>
    (gR M6 1 80 a1).bind fun v7 =>
    (pZ M6 0 4 v7 (0 : Int32)).bind fun M8 =>
    fX9_fill_L121 fu  a0 a1 a5 M8)
    else (
    fX9_fill_L121 fu  a0 a1 a5 M)
def fX9_fill_L23 (fu : Nat)  (a0 : Nat) (a1 : Option Nat) (a2 : Int32) (a3 : Int32) (a4 : Int32)  (M : Mm) : Option (Int32 × Mm) :=
    (gI M 1 66 a1).bind fun v1 =>
    (gR M 1 80 a1).bind fun v2 =>
    (gI M 0 1 v2).bind fun v3 =>
    (gR M 1 80 a1).bind fun v4 =>
    (rc M 0 v4).bind fun q5 =>
    b2 (fX0_window fu q5  M) fun v7 M6 =>
    (rc M6 9 (some a0)).bind fun q8 =>
    (fX9_fillHeader fu q8 (80 : Int32) v1 a2 v3 a3 v7 M6).bind fun M9 =>
    if (a3 &&& (2 : Int32)) = 0 then (
    fX9_fill_L93 fu  a0 a1 a3 ((20 : Int32) + a4) M9)
    else (
    (gR M9 9 577 (some a0)).bind fun v10 =>
    (gR M9 4 256 v10).bind fun v11 =>
    (pA M9 100 v11 (46 : Int32) (Int8.toInt32 (Int32.toInt8 (96 : Int32)))).bind fun M12 =>
    (gR M12 9 577 (some a0)).bind fun v13 =>
    (gR M12 4 256 v13).bind fun v14 =>
    (fX11_putFour fu  v14 (54 : Int32) (33818036 : Int32) M12).bind fun M15 =>
    fX9_fill_L93 fu  a0 a1 a3 (24 : Int32) M15)
def fX9_fill (fu : Nat)  (a0 : Nat) (a1 : Option Nat) (a2 : Int32) (a3 : Int32) (a4 : Int32)  (M : Mm) : Option (Int32 × Mm) :=
    (rc M 1 a1).bind fun q1 =>
    b2 (fX1_allows fu q1 a3 a4 M) fun v3 M2 =>
    if v3 = 0 then (
    (gR M2 9 576 (some a0)).bind fun v4 =>
    (gI M2 10 643 v4).bind fun v5 =>
    (pF M2 10 643 v4 (v5 + (1 : Int32))).bind fun M6 =>
    fX9_fill_L23 fu  a0 a1 a2 a3 a4 M6)
    else (
    fX9_fill_L23 fu  a0 a1 a2 a3 a4 M2)
theorem dX9_fill_0 : decode cX9_fill 0 = .ok (.aload_n 1, 1) := by decide +kernel
theorem dX9_fill_1 : decode cX9_fill 1 = .ok (.iload_n 3, 1) := by decide +kernel
theorem dX9_fill_2 : decode cX9_fill 2 = .ok (.iload 4, 2) := by decide +kernel
theorem dX9_fill_4 : decode cX9_fill 4 = .ok (.invokevirtual 308, 3) := by decide +kernel
theorem dX9_fill_7 : decode cX9_fill 7 = .ok (.ifCond .ne 16, 3) := by decide +kernel
theorem dX9_fill_10 : decode cX9_fill 10 = .ok (.aload_n 0, 1) := by decide +kernel
theorem dX9_fill_11 : decode cX9_fill 11 = .ok (.getfield 9, 3) := by decide +kernel
theorem dX9_fill_14 : decode cX9_fill 14 = .ok (.dup, 1) := by decide +kernel
theorem dX9_fill_15 : decode cX9_fill 15 = .ok (.getfield 312, 3) := by decide +kernel
theorem dX9_fill_18 : decode cX9_fill 18 = .ok (.iconst 1, 1) := by decide +kernel
theorem dX9_fill_19 : decode cX9_fill 19 = .ok (.iadd, 1) := by decide +kernel
theorem dX9_fill_20 : decode cX9_fill 20 = .ok (.putfield 312, 3) := by decide +kernel
theorem dX9_fill_23 : decode cX9_fill 23 = .ok (.bipush 20, 2) := by decide +kernel
theorem dX9_fill_25 : decode cX9_fill 25 = .ok (.iload 4, 2) := by decide +kernel
theorem dX9_fill_27 : decode cX9_fill 27 = .ok (.iadd, 1) := by decide +kernel
theorem dX9_fill_28 : decode cX9_fill 28 = .ok (.istore 5, 2) := by decide +kernel
theorem dX9_fill_30 : decode cX9_fill 30 = .ok (.aload_n 0, 1) := by decide +kernel
theorem dX9_fill_31 : decode cX9_fill 31 = .ok (.bipush 80, 2) := by decide +kernel
theorem dX9_fill_33 : decode cX9_fill 33 = .ok (.aload_n 1, 1) := by decide +kernel
theorem dX9_fill_34 : decode cX9_fill 34 = .ok (.getfield 131, 3) := by decide +kernel
theorem dX9_fill_37 : decode cX9_fill 37 = .ok (.iload_n 2, 1) := by decide +kernel
theorem dX9_fill_38 : decode cX9_fill 38 = .ok (.aload_n 1, 1) := by decide +kernel
theorem dX9_fill_39 : decode cX9_fill 39 = .ok (.getfield 75, 3) := by decide +kernel
theorem dX9_fill_42 : decode cX9_fill 42 = .ok (.getfield 315, 3) := by decide +kernel
theorem dX9_fill_45 : decode cX9_fill 45 = .ok (.iload_n 3, 1) := by decide +kernel
theorem dX9_fill_46 : decode cX9_fill 46 = .ok (.aload_n 1, 1) := by decide +kernel
theorem dX9_fill_47 : decode cX9_fill 47 = .ok (.getfield 75, 3) := by decide +kernel
theorem dX9_fill_50 : decode cX9_fill 50 = .ok (.invokevirtual 318, 3) := by decide +kernel
theorem dX9_fill_53 : decode cX9_fill 53 = .ok (.invokevirtual 320, 3) := by decide +kernel
theorem dX9_fill_56 : decode cX9_fill 56 = .ok (.iload_n 3, 1) := by decide +kernel
theorem dX9_fill_57 : decode cX9_fill 57 = .ok (.iconst 2, 1) := by decide +kernel
theorem dX9_fill_58 : decode cX9_fill 58 = .ok (.iand, 1) := by decide +kernel
theorem dX9_fill_59 : decode cX9_fill 59 = .ok (.ifCond .eq 34, 3) := by decide +kernel
theorem dX9_fill_62 : decode cX9_fill 62 = .ok (.aload_n 0, 1) := by decide +kernel
theorem dX9_fill_63 : decode cX9_fill 63 = .ok (.getfield 15, 3) := by decide +kernel
theorem dX9_fill_66 : decode cX9_fill 66 = .ok (.getfield 283, 3) := by decide +kernel
theorem dX9_fill_69 : decode cX9_fill 69 = .ok (.bipush 46, 2) := by decide +kernel
theorem dX9_fill_71 : decode cX9_fill 71 = .ok (.bipush 96, 2) := by decide +kernel
theorem dX9_fill_73 : decode cX9_fill 73 = .ok (.bastore, 1) := by decide +kernel
theorem dX9_fill_74 : decode cX9_fill 74 = .ok (.aload_n 0, 1) := by decide +kernel
theorem dX9_fill_75 : decode cX9_fill 75 = .ok (.getfield 15, 3) := by decide +kernel
theorem dX9_fill_78 : decode cX9_fill 78 = .ok (.getfield 283, 3) := by decide +kernel
theorem dX9_fill_81 : decode cX9_fill 81 = .ok (.bipush 54, 2) := by decide +kernel
theorem dX9_fill_83 : decode cX9_fill 83 = .ok (.ldc_w 324, 3) := by decide +kernel
theorem dX9_fill_86 : decode cX9_fill 86 = .ok (.invokestatic 325, 3) := by decide +kernel
theorem dX9_fill_89 : decode cX9_fill 89 = .ok (.bipush 24, 2) := by decide +kernel
theorem dX9_fill_91 : decode cX9_fill 91 = .ok (.istore 5, 2) := by decide +kernel
theorem dX9_fill_93 : decode cX9_fill 93 = .ok (.iload_n 3, 1) := by decide +kernel
theorem dX9_fill_94 : decode cX9_fill 94 = .ok (.iconst 4, 1) := by decide +kernel
theorem dX9_fill_95 : decode cX9_fill 95 = .ok (.iand, 1) := by decide +kernel
theorem dX9_fill_96 : decode cX9_fill 96 = .ok (.ifCond .ne 25, 3) := by decide +kernel
theorem dX9_fill_99 : decode cX9_fill 99 = .ok (.aload_n 1, 1) := by decide +kernel
theorem dX9_fill_100 : decode cX9_fill 100 = .ok (.getfield 75, 3) := by decide +kernel
theorem dX9_fill_103 : decode cX9_fill 103 = .ok (.aload_n 1, 1) := by decide +kernel
theorem dX9_fill_104 : decode cX9_fill 104 = .ok (.getfield 75, 3) := by decide +kernel
theorem dX9_fill_107 : decode cX9_fill 107 = .ok (.invokevirtual 318, 3) := by decide +kernel
theorem dX9_fill_110 : decode cX9_fill 110 = .ok (.putfield 329, 3) := by decide +kernel
theorem dX9_fill_113 : decode cX9_fill 113 = .ok (.aload_n 1, 1) := by decide +kernel
theorem dX9_fill_114 : decode cX9_fill 114 = .ok (.getfield 75, 3) := by decide +kernel
theorem dX9_fill_117 : decode cX9_fill 117 = .ok (.iconst 0, 1) := by decide +kernel
theorem dX9_fill_118 : decode cX9_fill 118 = .ok (.putfield 111, 3) := by decide +kernel
theorem dX9_fill_121 : decode cX9_fill 121 = .ok (.aload_n 0, 1) := by decide +kernel
theorem dX9_fill_122 : decode cX9_fill 122 = .ok (.aload_n 1, 1) := by decide +kernel
theorem dX9_fill_123 : decode cX9_fill 123 = .ok (.getfield 125, 3) := by decide +kernel
theorem dX9_fill_126 : decode cX9_fill 126 = .ok (.iload 5, 2) := by decide +kernel
theorem dX9_fill_128 : decode cX9_fill 128 = .ok (.invokevirtual 332, 3) := by decide +kernel
theorem dX9_fill_131 : decode cX9_fill 131 = .ok (.iload 5, 2) := by decide +kernel
theorem dX9_fill_133 : decode cX9_fill 133 = .ok (.ireturn, 1) := by decide +kernel
theorem wX9_fill_L121 {x : GX} {n0 sl0 : Nat} (X : Cx x cX9_fill RX9 (some .int) n0 sl0 3 62) {out : Int32 × Mm} (hE : Ends x n0 sl0 (some (pI out.1)) out.2) (hn : xn x = 6) (fu : Nat)   (a0 : Nat) (a1 : Option Nat) (a5 : Int32)  (M : Mm) (h : fX9_fill_L121 fu  a0 a1 a5 M = some out) : Gw x M 121 [(0, pR (some a0)), (1, pR a1), (5, pI a5)] [] := by
  unfold fX9_fill_L121 at h
  refine g_aload_n X (pc := 121) 0 rfl rfl dX9_fill_121 ?_
  refine g_aload_n X (pc := 122) 1 rfl rfl dX9_fill_122 ?_
  obtain ⟨v1, ev1, h⟩ := bd h
  refine g_getI X (pc := 123) fk_1_1 rfl rfl ev1 tb_962 dX9_fill_123 ?_
  refine g_iload X (pc := 126) 2 rfl dX9_fill_126 ?_
  obtain ⟨q2, eq2, h⟩ := bd h
  obtain ⟨M3, eM3, h⟩ := bd h
  refine g_callV X (pc := 128) (M' := M3) (ro := none) (c := 9) rfl (by decide) (as := [pI v1, pI a5]) (as' := [pI a5, pI v1]) (st := []) eq2 (ctX9_sumUp _ _ _ _ _ _ fu q2 v1 a5 M _ eM3) tb_616 tb_613 tb_615 ts_14 tb_6 ⟨rfl, hyX9_sumUp⟩ rfl rfl ⟨by decide, by decide⟩ (Nat.le_of_ble_eq_true rfl) dX9_fill_128 ?_
  refine g_iload X (pc := 131) 2 rfl dX9_fill_131 ?_
  obtain rfl := Option.some.inj h
  exact g_ireturn X hE dX9_fill_133
theorem wX9_fill_L93 {x : GX} {n0 sl0 : Nat} (X : Cx x cX9_fill RX9 (some .int) n0 sl0 3 62) {out : Int32 × Mm} (hE : Ends x n0 sl0 (some (pI out.1)) out.2) (hn : xn x = 6) (fu : Nat)   (a0 : Nat) (a1 : Option Nat) (a3 : Int32) (a5 : Int32)  (M : Mm) (h : fX9_fill_L93 fu  a0 a1 a3 a5 M = some out) : Gw x M 93 [(0, pR (some a0)), (1, pR a1), (3, pI a3), (5, pI a5)] [] := by
  unfold fX9_fill_L93 at h
  refine g_iload_n X (pc := 93) 2 rfl rfl dX9_fill_93 ?_
  refine g_iconst X (pc := 94) (v := 4) dX9_fill_94 (by decide) ?_
  refine g_iand X (pc := 95) dX9_fill_95 ?_
  refine g_if_ne X (pc := 96) (tgt := 121) dX9_fill_96 (by decide) (fun hc => ?_) (fun hc => ?_)
  · have h := (if_neg hc).symm.trans h
    refine g_sub [0, 1, 3] [(0, pR (some a0)), (1, pR a1), (5, pI a5)] rfl ?_
    exact wX9_fill_L121 X hE hn fu   a0 a1 a5 M h
  · have h := (if_pos hc).symm.trans h
    refine g_aload_n X (pc := 99) 1 rfl rfl dX9_fill_99 ?_
    obtain ⟨v1, ev1, h⟩ := bd h
    refine g_getR X (pc := 100) fk_1_16 rfl rfl ev1 tb_995 dX9_fill_100 ?_
    refine g_aload_n X (pc := 103) 1 rfl rfl dX9_fill_103 ?_
    obtain ⟨v2, ev2, h⟩ := bd h
    refine g_getR X (pc := 104) fk_1_16 rfl rfl ev2 tb_995 dX9_fill_104 ?_
    obtain ⟨q3, eq3, h⟩ := bd h
    obtain ⟨v5, M4, eM4, h⟩ := b2d h
    refine g_callV X (pc := 107) (M' := M4) (ro := some (pI v5)) (c := 0) rfl (by decide) (as := []) (as' := []) (st := [pR v1]) eq3 (ctX0_window _ _ _ _ _ _ fu q3  M _ eM4) tb_601 tb_598 tb_599 tb_600 tb_19 ⟨rfl, hyX0_window⟩ rfl rfl ⟨by decide, by decide⟩ (Nat.le_of_ble_eq_true rfl) dX9_fill_107 ?_
    obtain ⟨M6, eM6, h⟩ := bd h
    refine g_putI X (pc := 110) fk_0_2 rfl rfl rfl eM6 tb_864 (Or.inl rfl) dX9_fill_110 ?_
    refine g_aload_n X (pc := 113) 1 rfl rfl dX9_fill_113 ?_
    obtain ⟨v7, ev7, h⟩ := bd h
    refine g_getR X (pc := 114) fk_1_16 rfl rfl ev7 tb_995 dX9_fill_114 ?_
    refine g_iconst X (pc := 117) (v := 0) dX9_fill_117 (by decide) ?_
    obtain ⟨M8, eM8, h⟩ := bd h
    refine g_putZ X (pc := 118) fk_0_4 rfl rfl rfl eM8 tb_868 (Or.inl rfl) dX9_fill_118 ?_
    refine g_sub [0, 1, 3] [(0, pR (some a0)), (1, pR a1), (5, pI a5)] rfl ?_
    exact wX9_fill_L121 X hE hn fu   a0 a1 a5 M8 h
theorem wX9_fill_L23 {x : GX} {n0 sl0 : Nat} (X : Cx x cX9_fill RX9 (some .int) n0 sl0 3 62) {out : Int32 × Mm} (hE : Ends x n0 sl0 (some (pI out.1)) out.2) (hn : xn x = 6) (fu : Nat)   (a0 : Nat) (a1 : Option Nat) (a2 : Int32) (a3 : Int32) (a4 : Int32)  (M : Mm) (h : fX9_fill_L23 fu  a0 a1 a2 a3 a4 M = some out) : Gw x M 23 [(0, pR (some a0)), (1, pR a1), (2, pI a2), (3, pI a3), (4, pI a4)] [] := by
  unfold fX9_fill_L23 at h
  refine g_bipush X (pc := 23) (v := 20) dX9_fill_23 (by decide) ?_
  refine g_iload X (pc := 25) 4 rfl dX9_fill_25 ?_
  refine g_iadd X (pc := 27) dX9_fill_27 ?_
  refine g_istore X (pc := 28) [(5, pI ((20 : Int32) + a4)), (0, pR (some a0)), (1, pR a1), (2, pI a2), (3, pI a3), (4, pI a4)] (lt_n hn (by decide)) rfl dX9_fill_28 ?_
  refine g_aload_n X (pc := 30) 1 rfl rfl dX9_fill_30 ?_
  refine g_bipush X (pc := 31) (v := 80) dX9_fill_31 (by decide) ?_
  refine g_aload_n X (pc := 33) 2 rfl rfl dX9_fill_33 ?_
  obtain ⟨v1, ev1, h⟩ := bd h
  refine g_getI X (pc := 34) fk_1_2 rfl rfl ev1 tb_964 dX9_fill_34 ?_
  refine g_iload_n X (pc := 37) 3 rfl rfl dX9_fill_37 ?_
  refine g_aload_n X (pc := 38) 2 rfl rfl dX9_fill_38 ?_
  obtain ⟨v2, ev2, h⟩ := bd h
  refine g_getR X (pc := 39) fk_1_16 rfl rfl ev2 tb_995 dX9_fill_39 ?_
  obtain ⟨v3, ev3, h⟩ := bd h
  refine g_getI X (pc := 42) fk_0_1 rfl rfl ev3 tb_861 dX9_fill_42 ?_
  refine g_iload_n X (pc := 45) 4 rfl rfl dX9_fill_45 ?_
  refine g_aload_n X (pc := 46) 2 rfl rfl dX9_fill_46 ?_
  obtain ⟨v4, ev4, h⟩ := bd h
  refine g_getR X (pc := 47) fk_1_16 rfl rfl ev4 tb_995 dX9_fill_47 ?_
  obtain ⟨q5, eq5, h⟩ := bd h
  obtain ⟨v7, M6, eM6, h⟩ := b2d h
  refine g_callV X (pc := 50) (M' := M6) (ro := some (pI v7)) (c := 0) rfl (by decide) (as := []) (as' := []) (st := [pI a3, pI v3, pI a2, pI v1, pI (80 : Int32), pR (some a0)]) eq5 (ctX0_window _ _ _ _ _ _ fu q5  M _ eM6) tb_601 tb_598 tb_599 tb_600 tb_19 ⟨rfl, hyX0_window⟩ rfl rfl ⟨by decide, by decide⟩ (Nat.le_of_ble_eq_true rfl) dX9_fill_50 ?_
  obtain ⟨q8, eq8, h⟩ := bd h
  obtain ⟨M9, eM9, h⟩ := bd h
  refine g_callV X (pc := 53) (M' := M9) (ro := none) (c := 9) rfl (by decide) (as := [pI (80 : Int32), pI v1, pI a2, pI v3, pI a3, pI v7]) (as' := [pI v7, pI a3, pI v3, pI a2, pI v1, pI (80 : Int32)]) (st := []) eq8 (ctX9_fillHeader _ _ _ _ _ _ fu q8 (80 : Int32) v1 a2 v3 a3 v7 M6 _ eM9) tb_609 tb_606 tb_608 ts_13 tb_6 ⟨rfl, hyX9_fillHeader⟩ rfl rfl ⟨by decide, by decide⟩ (Nat.le_of_ble_eq_true rfl) dX9_fill_53 ?_
  refine g_iload_n X (pc := 56) 4 rfl rfl dX9_fill_56 ?_
  refine g_iconst X (pc := 57) (v := 2) dX9_fill_57 (by decide) ?_
  refine g_iand X (pc := 58) dX9_fill_58 ?_
  refine g_if_eq X (pc := 59) (tgt := 93) dX9_fill_59 (by decide) (fun hc => ?_) (fun hc => ?_)
  · have h := (if_pos hc).symm.trans h
    refine g_sub [1, 2, 4, 0] [(0, pR (some a0)), (1, pR a1), (3, pI a3), (5, pI ((20 : Int32) + a4))] rfl ?_
    exact wX9_fill_L93 X hE hn fu   a0 a1 a3 ((20 : Int32) + a4) M9 h
  · have h := (if_neg hc).symm.trans h
    refine g_aload_n X (pc := 62) 1 rfl rfl dX9_fill_62 ?_
    obtain ⟨v10, ev10, h⟩ := bd h
    refine g_getR X (pc := 63) fk_9_1 rfl rfl ev10 tb_235 dX9_fill_63 ?_
    obtain ⟨v11, ev11, h⟩ := bd h
    refine g_getR X (pc := 66) fk_4_0 rfl rfl ev11 tb_99 dX9_fill_66 ?_
    refine g_bipush X (pc := 69) (v := 46) dX9_fill_69 (by decide) ?_
    refine g_bipush X (pc := 71) (v := 96) dX9_fill_71 (by decide) ?_
    obtain ⟨M12, eM12, h⟩ := bd h
    refine g_bastore X (pc := 73) eM12 dX9_fill_73 ?_
    refine g_aload_n X (pc := 74) 1 rfl rfl dX9_fill_74 ?_
    obtain ⟨v13, ev13, h⟩ := bd h
    refine g_getR X (pc := 75) fk_9_1 rfl rfl ev13 tb_235 dX9_fill_75 ?_
    obtain ⟨v14, ev14, h⟩ := bd h
    refine g_getR X (pc := 78) fk_4_0 rfl rfl ev14 tb_99 dX9_fill_78 ?_
    refine g_bipush X (pc := 81) (v := 54) dX9_fill_81 (by decide) ?_
    refine g_ldcw X (pc := 83) tb_612 dX9_fill_83 ?_
    obtain ⟨M15, eM15, h⟩ := bd h
    refine g_callSN X (pc := 86) (M' := M15) (ro := none) (as := [pR v14, pI (54 : Int32), pI (33818036 : Int32)]) (as' := [pI (33818036 : Int32), pI (54 : Int32), pR v14]) (st := []) (ctX11_putFour _ _ _ _ _ _ fu  v14 (54 : Int32) (33818036 : Int32) M12 _ eM15) tb_366 (List.mem_of_getElem? (i := 6) rfl) tb_365 tb_1 hyX11_putFour rfl rfl ⟨by decide, by decide⟩ (Nat.le_of_ble_eq_true rfl) dX9_fill_86 ?_
    refine g_bipush X (pc := 89) (v := 24) dX9_fill_89 (by decide) ?_
    refine g_istore X (pc := 91) [(5, pI (24 : Int32)), (0, pR (some a0)), (1, pR a1), (2, pI a2), (3, pI a3), (4, pI a4)] (lt_n hn (by decide)) rfl dX9_fill_91 ?_
    refine g_sub [1, 2, 4, 0] [(0, pR (some a0)), (1, pR a1), (3, pI a3), (5, pI (24 : Int32))] rfl ?_
    exact wX9_fill_L93 X hE hn fu   a0 a1 a3 (24 : Int32) M15 h
theorem wX9_fill {x : GX} {n0 sl0 : Nat} (X : Cx x cX9_fill RX9 (some .int) n0 sl0 3 62) {out : Int32 × Mm} (hE : Ends x n0 sl0 (some (pI out.1)) out.2) (hn : xn x = 6) (fu : Nat)   (a0 : Nat) (a1 : Option Nat) (a2 : Int32) (a3 : Int32) (a4 : Int32)  (M : Mm) (h : fX9_fill fu  a0 a1 a2 a3 a4 M = some out) : Gw x M 0 [(0, pR (some a0)), (1, pR a1), (2, pI a2), (3, pI a3), (4, pI a4)] [] := by
  unfold fX9_fill at h
  refine g_aload_n X (pc := 0) 1 rfl rfl dX9_fill_0 ?_
  refine g_iload_n X (pc := 1) 3 rfl rfl dX9_fill_1 ?_
  refine g_iload X (pc := 2) 4 rfl dX9_fill_2 ?_
  obtain ⟨q1, eq1, h⟩ := bd h
  obtain ⟨v3, M2, eM2, h⟩ := b2d h
  refine g_callV X (pc := 4) (M' := M2) (ro := some (pI v3)) (c := 1) rfl (by decide) (as := [pI a3, pI a4]) (as' := [pI a4, pI a3]) (st := []) eq1 (ctX1_allows _ _ _ _ _ _ fu q1 a3 a4 M _ eM2) tb_597 tb_594 tb_595 tb_596 tb_18 ⟨rfl, hyX1_allows⟩ rfl rfl ⟨by decide, by decide⟩ (Nat.le_of_ble_eq_true rfl) dX9_fill_4 ?_
  refine g_if_ne X (pc := 7) (tgt := 23) dX9_fill_7 (by decide) (fun hc => ?_) (fun hc => ?_)
  · have h := (if_neg hc).symm.trans h
    exact wX9_fill_L23 X hE hn fu   a0 a1 a2 a3 a4 M2 h
  · have h := (if_pos hc).symm.trans h
    refine g_aload_n X (pc := 10) 0 rfl rfl dX9_fill_10 ?_
    obtain ⟨v4, ev4, h⟩ := bd h
    refine g_getR X (pc := 11) fk_9_0 rfl rfl ev4 tb_234 dX9_fill_11 ?_
    refine g_dup X (pc := 14) rfl dX9_fill_14 ?_
    obtain ⟨v5, ev5, h⟩ := bd h
    refine g_getI X (pc := 15) fk_10_3 rfl rfl ev5 tb_76 dX9_fill_15 ?_
    refine g_iconst X (pc := 18) (v := 1) dX9_fill_18 (by decide) ?_
    refine g_iadd X (pc := 19) dX9_fill_19 ?_
    obtain ⟨M6, eM6, h⟩ := bd h
    refine g_putI X (pc := 20) fk_10_3 rfl rfl rfl eM6 tb_76 (Or.inl rfl) dX9_fill_20 ?_
    exact wX9_fill_L23 X hE hn fu   a0 a1 a2 a3 a4 M6 h
theorem hyX9_fill : yX9_fill.cls ≠ "java/lang/invoke/MethodHandle" ∧ yX9_fill.cls ≠ "java/lang/invoke/VarHandle" ∧ (parseMethodDescriptor yX9_fill.desc).map (fun d => d.parameters.length) = some 4 := ⟨by decide +kernel, by decide +kernel, by decide +kernel⟩
theorem ctX9_fill (l : Launch) (E : Nat → Nat) (D : va_G) (dA : Nat → ClassId) (lo : Nat) (H0 : Heap) (fu : Nat) (a0 : Nat) (a1 : Option Nat) (a2 : Int32) (a3 : Int32) (a4 : Int32) (M : Mm) (out : Int32 × Mm) (h : fX9_fill fu a0 a1 a2 a3 a4 M = some out) : Ct l E D dA lo H0 yX9_fill cX9_fill 6 (some .int) 3 62 [pR (some a0), pR a1, pI a2, pI a3, pI a4] M (some (pI out.1)) out.2 := by
  refine ct_of (by decide +kernel) (Nat.le_of_ble_eq_true rfl) ?_
  intro x hl he hd ha ho hh hn hin X hE
  exact wX9_fill X hE hn fu a0 a1 a2 a3 a4 M h
/-! WebHost$Tcp.sendPlain(LWebHost$Connection;II)V -/
def fX9_sendPlain (fu : Nat)  (a0 : Nat) (a1 : Option Nat) (a2 : Int32) (a3 : Int32)  (M : Mm) : Option (Mm) :=
    (gR M 9 577 (some a0)).bind fun v1 =>
    (gI M 1 65 a1).bind fun v2 =>
    (rc M 9 (some a0)).bind fun q3 =>
    b2 (fX9_fill fu q3 a1 a2 a3 (0 : Int32) M) fun v5 M4 =>
    (rc M4 4 v1).bind fun q6 =>
    (fX4_send fu q6 v2 (6 : Int32) v5 M4).bind fun M7 =>
    some M7
theorem dX9_sendPlain_0 : decode cX9_sendPlain 0 = .ok (.aload_n 0, 1) := by decide +kernel
theorem dX9_sendPlain_1 : decode cX9_sendPlain 1 = .ok (.getfield 15, 3) := by decide +kernel
theorem dX9_sendPlain_4 : decode cX9_sendPlain 4 = .ok (.aload_n 1, 1) := by decide +kernel
theorem dX9_sendPlain_5 : decode cX9_sendPlain 5 = .ok (.getfield 125, 3) := by decide +kernel
theorem dX9_sendPlain_8 : decode cX9_sendPlain 8 = .ok (.bipush 6, 2) := by decide +kernel
theorem dX9_sendPlain_10 : decode cX9_sendPlain 10 = .ok (.aload_n 0, 1) := by decide +kernel
theorem dX9_sendPlain_11 : decode cX9_sendPlain 11 = .ok (.aload_n 1, 1) := by decide +kernel
theorem dX9_sendPlain_12 : decode cX9_sendPlain 12 = .ok (.iload_n 2, 1) := by decide +kernel
theorem dX9_sendPlain_13 : decode cX9_sendPlain 13 = .ok (.iload_n 3, 1) := by decide +kernel
theorem dX9_sendPlain_14 : decode cX9_sendPlain 14 = .ok (.iconst 0, 1) := by decide +kernel
theorem dX9_sendPlain_15 : decode cX9_sendPlain 15 = .ok (.invokevirtual 268, 3) := by decide +kernel
theorem dX9_sendPlain_18 : decode cX9_sendPlain 18 = .ok (.invokevirtual 272, 3) := by decide +kernel
theorem dX9_sendPlain_21 : decode cX9_sendPlain 21 = .ok (.return_, 1) := by decide +kernel
theorem wX9_sendPlain {x : GX} {n0 sl0 : Nat} (X : Cx x cX9_sendPlain RX9 none n0 sl0 4 92) {out : Mm} (hE : Ends x n0 sl0 none out) (hn : xn x = 4) (fu : Nat)   (a0 : Nat) (a1 : Option Nat) (a2 : Int32) (a3 : Int32)  (M : Mm) (h : fX9_sendPlain fu  a0 a1 a2 a3 M = some out) : Gw x M 0 [(0, pR (some a0)), (1, pR a1), (2, pI a2), (3, pI a3)] [] := by
  unfold fX9_sendPlain at h
  refine g_aload_n X (pc := 0) 0 rfl rfl dX9_sendPlain_0 ?_
  obtain ⟨v1, ev1, h⟩ := bd h
  refine g_getR X (pc := 1) fk_9_1 rfl rfl ev1 tb_235 dX9_sendPlain_1 ?_
  refine g_aload_n X (pc := 4) 1 rfl rfl dX9_sendPlain_4 ?_
  obtain ⟨v2, ev2, h⟩ := bd h
  refine g_getI X (pc := 5) fk_1_1 rfl rfl ev2 tb_962 dX9_sendPlain_5 ?_
  refine g_bipush X (pc := 8) (v := 6) dX9_sendPlain_8 (by decide) ?_
  refine g_aload_n X (pc := 10) 0 rfl rfl dX9_sendPlain_10 ?_
  refine g_aload_n X (pc := 11) 1 rfl rfl dX9_sendPlain_11 ?_
  refine g_iload_n X (pc := 12) 2 rfl rfl dX9_sendPlain_12 ?_
  refine g_iload_n X (pc := 13) 3 rfl rfl dX9_sendPlain_13 ?_
  refine g_iconst X (pc := 14) (v := 0) dX9_sendPlain_14 (by decide) ?_
  obtain ⟨q3, eq3, h⟩ := bd h
  obtain ⟨v5, M4, eM4, h⟩ := b2d h
  refine g_callV X (pc := 15) (M' := M4) (ro := some (pI v5)) (c := 9) rfl (by decide) (as := [pR a1, pI a2, pI a3, pI (0 : Int32)]) (as' := [pI (0 : Int32), pI a3, pI a2, pR a1]) (st := [pI (6 : Int32), pI v2, pR v1]) eq3 (ctX9_fill _ _ _ _ _ _ fu q3 a1 a2 a3 (0 : Int32) M _ eM4) tb_593 tb_590 tb_592 ts_12 tb_6 ⟨rfl, hyX9_fill⟩ rfl rfl ⟨by decide, by decide⟩ (Nat.le_of_ble_eq_true rfl) dX9_sendPlain_15 ?_
  obtain ⟨q6, eq6, h⟩ := bd h
  obtain ⟨M7, eM7, h⟩ := bd h
  refine g_callV X (pc := 18) (M' := M7) (ro := none) (c := 4) rfl (by decide) (as := [pI v2, pI (6 : Int32), pI v5]) (as' := [pI v5, pI (6 : Int32), pI v2]) (st := []) eq6 (ctX4_send _ _ _ _ _ _ fu q6 v2 (6 : Int32) v5 M4 _ eM7) tb_627 tb_624 tb_625 tb_626 tb_4 ⟨rfl, hyX4_send⟩ rfl rfl ⟨by decide, by decide⟩ (Nat.le_of_ble_eq_true rfl) dX9_sendPlain_18 ?_
  obtain rfl := Option.some.inj h
  exact g_return X hE dX9_sendPlain_21
theorem hyX9_sendPlain : yX9_sendPlain.cls ≠ "java/lang/invoke/MethodHandle" ∧ yX9_sendPlain.cls ≠ "java/lang/invoke/VarHandle" ∧ (parseMethodDescriptor yX9_sendPlain.desc).map (fun d => d.parameters.length) = some 3 := ⟨by decide +kernel, by decide +kernel, by decide +kernel⟩
theorem ctX9_sendPlain (l : Launch) (E : Nat → Nat) (D : va_G) (dA : Nat → ClassId) (lo : Nat) (H0 : Heap) (fu : Nat) (a0 : Nat) (a1 : Option Nat) (a2 : Int32) (a3 : Int32) (M : Mm) (out : Mm) (h : fX9_sendPlain fu a0 a1 a2 a3 M = some out) : Ct l E D dA lo H0 yX9_sendPlain cX9_sendPlain 4 none 4 92 [pR (some a0), pR a1, pI a2, pI a3] M none out := by
  refine ct_of (by decide +kernel) (Nat.le_of_ble_eq_true rfl) ?_
  intro x hl he hd ha ho hh hn hin X hE
  exact wX9_sendPlain X hE hn fu a0 a1 a2 a3 M h
/-! WebHost$Tcp.takeWithoutConnection()V -/
def fX9_takeWithoutConnection_L36 (fu : Nat)  (a0 : Nat)  (M : Mm) : Option (Mm) :=
    (rc M 9 (some a0)).bind fun q1 =>
    (fX9_reset fu q1  M).bind fun M2 =>
    some M2
def fX9_takeWithoutConnection_L71 (fu : Nat)  (a0 : Nat) (s0 : Option Nat) (M : Mm) : Option (Mm) :=
    if s0 = none then (
    some M)
    else (
    (gR M 9 576 (some a0)).bind fun v1 =>
    (gR M 10 640 v1).bind fun v2 =>
    (gA M 101 v2 (5 : Int32)).bind fun v3 =>
    (pA M 101 v2 (5 : Int32) (v3 + (1 : Int32))).bind fun M4 =>
    (gR M4 9 579 (some a0)).bind fun v5 =>
    (gR M4 9 576 (some a0)).bind fun v6 =>
    (gR M4 10 640 v6).bind fun v7 =>
    (gA M4 101 v7 (5 : Int32)).bind fun v8 =>
    (gR M4 9 576 (some a0)).bind fun v9 =>
    (gI M4 10 641 v9).bind fun v10 =>
    (rc M4 1 s0).bind fun q11 =>
    (fX1_begin fu q11 v5 (((64000 : Int32) * v8) + ((250 : Int32) * v10)) M4).bind fun M12 =>
    (gR M12 1 81 s0).bind fun v13 =>
    (gI M12 1 67 s0).bind fun v14 =>
    (gR M12 9 576 (some a0)).bind fun v15 =>
    (gI M12 10 641 v15).bind fun v16 =>
    (rc M12 5 v13).bind fun q17 =>
    (fX5_startTiming fu q17 v14 v16 M12).bind fun M18 =>
    (gR M18 1 81 s0).bind fun v19 =>
    (gR M18 9 576 (some a0)).bind fun v20 =>
    (gI M18 10 641 v20).bind fun v21 =>
    (gR M18 1 81 s0).bind fun v22 =>
    (gI M18 5 323 v22).bind fun v23 =>
    (pF M18 5 324 v19 (v21 + v23)).bind fun M24 =>
    (gI M24 1 67 s0).bind fun v25 =>
    (rc M24 9 (some a0)).bind fun q26 =>
    (fX9_sendPlain fu q26 s0 v25 (18 : Int32) M24).bind fun M27 =>
    some M27)
def fX9_takeWithoutConnection_L70 (fu : Nat)  (a0 : Nat)  (M : Mm) : Option (Mm) :=
    fX9_takeWithoutConnection_L71 fu  a0 none M
def fX9_takeWithoutConnection (fu : Nat)  (a0 : Nat)  (M : Mm) : Option (Mm) :=
    (gR M 9 579 (some a0)).bind fun v1 =>
    (rc M 3 v1).bind fun q2 =>
    b2 (fX3_has fu q2 (4 : Int32) M) fun v4 M3 =>
    if v4 = 0 then (
    (gR M3 9 579 (some a0)).bind fun v5 =>
    (gI M3 3 195 v5).bind fun v6 =>
    if v6 = (80 : Int32) then (
    (gR M3 9 579 (some a0)).bind fun v7 =>
    (rc M3 3 v7).bind fun q8 =>
    b2 (fX3_has fu q8 (16 : Int32) M3) fun v10 M9 =>
    if v10 = 0 then (
    (gR M9 9 579 (some a0)).bind fun v11 =>
    (rc M9 3 v11).bind fun q12 =>
    b2 (fX3_has fu q12 (2 : Int32) M9) fun v14 M13 =>
    if v14 = 0 then (
    fX9_takeWithoutConnection_L70 fu  a0 M13)
    else (
    (gR M13 9 579 (some a0)).bind fun v15 =>
    (rc M13 3 v15).bind fun q16 =>
    b2 (fX3_has fu q16 (1 : Int32) M13) fun v18 M17 =>
    if v18 = 0 then (
    (rc M17 9 (some a0)).bind fun q19 =>
    b2 (fX9_freeConnection fu q19  M17) fun v21 M20 =>
    fX9_takeWithoutConnection_L71 fu  a0 v21 M20)
    else (
    fX9_takeWithoutConnection_L70 fu  a0 M17)))
    else (
    fX9_takeWithoutConnection_L36 fu  a0 M9))
    else (
    fX9_takeWithoutConnection_L36 fu  a0 M3))
    else (
    some M3)
theorem dX9_takeWithoutConnection_0 : decode cX9_takeWithoutConnection 0 = .ok (.aload_n 0, 1) := by decide +kernel
theorem dX9_takeWithoutConnection_1 : decode cX9_takeWithoutConnection 1 = .ok (.getfield 23, 3) := by decide +kernel
theorem dX9_takeWithoutConnection_4 : decode cX9_takeWithoutConnection 4 = .ok (.iconst 4, 1) := by decide +kernel
theorem dX9_takeWithoutConnection_5 : decode cX9_takeWithoutConnection 5 = .ok (.invokevirtual 89, 3) := by decide +kernel
theorem dX9_takeWithoutConnection_8 : decode cX9_takeWithoutConnection 8 = .ok (.ifCond .eq 4, 3) := by decide +kernel
theorem dX9_takeWithoutConnection_11 : decode cX9_takeWithoutConnection 11 = .ok (.return_, 1) := by decide +kernel
theorem dX9_takeWithoutConnection_12 : decode cX9_takeWithoutConnection 12 = .ok (.aload_n 0, 1) := by decide +kernel
theorem dX9_takeWithoutConnection_13 : decode cX9_takeWithoutConnection 13 = .ok (.getfield 23, 3) := by decide +kernel
theorem dX9_takeWithoutConnection_16 : decode cX9_takeWithoutConnection 16 = .ok (.getfield 122, 3) := by decide +kernel
theorem dX9_takeWithoutConnection_19 : decode cX9_takeWithoutConnection 19 = .ok (.bipush 80, 2) := by decide +kernel
theorem dX9_takeWithoutConnection_21 : decode cX9_takeWithoutConnection 21 = .ok (.if_icmp .ne 15, 3) := by decide +kernel
theorem dX9_takeWithoutConnection_24 : decode cX9_takeWithoutConnection 24 = .ok (.aload_n 0, 1) := by decide +kernel
theorem dX9_takeWithoutConnection_25 : decode cX9_takeWithoutConnection 25 = .ok (.getfield 23, 3) := by decide +kernel
theorem dX9_takeWithoutConnection_28 : decode cX9_takeWithoutConnection 28 = .ok (.bipush 16, 2) := by decide +kernel
theorem dX9_takeWithoutConnection_30 : decode cX9_takeWithoutConnection 30 = .ok (.invokevirtual 89, 3) := by decide +kernel
theorem dX9_takeWithoutConnection_33 : decode cX9_takeWithoutConnection 33 = .ok (.ifCond .eq 8, 3) := by decide +kernel
theorem dX9_takeWithoutConnection_36 : decode cX9_takeWithoutConnection 36 = .ok (.aload_n 0, 1) := by decide +kernel
theorem dX9_takeWithoutConnection_37 : decode cX9_takeWithoutConnection 37 = .ok (.invokevirtual 95, 3) := by decide +kernel
theorem dX9_takeWithoutConnection_40 : decode cX9_takeWithoutConnection 40 = .ok (.return_, 1) := by decide +kernel
theorem dX9_takeWithoutConnection_41 : decode cX9_takeWithoutConnection 41 = .ok (.aload_n 0, 1) := by decide +kernel
theorem dX9_takeWithoutConnection_42 : decode cX9_takeWithoutConnection 42 = .ok (.getfield 23, 3) := by decide +kernel
theorem dX9_takeWithoutConnection_45 : decode cX9_takeWithoutConnection 45 = .ok (.iconst 2, 1) := by decide +kernel
theorem dX9_takeWithoutConnection_46 : decode cX9_takeWithoutConnection 46 = .ok (.invokevirtual 89, 3) := by decide +kernel
theorem dX9_takeWithoutConnection_49 : decode cX9_takeWithoutConnection 49 = .ok (.ifCond .eq 21, 3) := by decide +kernel
theorem dX9_takeWithoutConnection_52 : decode cX9_takeWithoutConnection 52 = .ok (.aload_n 0, 1) := by decide +kernel
theorem dX9_takeWithoutConnection_53 : decode cX9_takeWithoutConnection 53 = .ok (.getfield 23, 3) := by decide +kernel
theorem dX9_takeWithoutConnection_56 : decode cX9_takeWithoutConnection 56 = .ok (.iconst 1, 1) := by decide +kernel
theorem dX9_takeWithoutConnection_57 : decode cX9_takeWithoutConnection 57 = .ok (.invokevirtual 89, 3) := by decide +kernel
theorem dX9_takeWithoutConnection_60 : decode cX9_takeWithoutConnection 60 = .ok (.ifCond .ne 10, 3) := by decide +kernel
theorem dX9_takeWithoutConnection_63 : decode cX9_takeWithoutConnection 63 = .ok (.aload_n 0, 1) := by decide +kernel
theorem dX9_takeWithoutConnection_64 : decode cX9_takeWithoutConnection 64 = .ok (.invokevirtual 137, 3) := by decide +kernel
theorem dX9_takeWithoutConnection_67 : decode cX9_takeWithoutConnection 67 = .ok (.goto 4, 3) := by decide +kernel
theorem dX9_takeWithoutConnection_70 : decode cX9_takeWithoutConnection 70 = .ok (.aconst_null, 1) := by decide +kernel
theorem dX9_takeWithoutConnection_71 : decode cX9_takeWithoutConnection 71 = .ok (.astore_n 1, 1) := by decide +kernel
theorem dX9_takeWithoutConnection_72 : decode cX9_takeWithoutConnection 72 = .ok (.aload_n 1, 1) := by decide +kernel
theorem dX9_takeWithoutConnection_73 : decode cX9_takeWithoutConnection 73 = .ok (.ifnonnull 4, 3) := by decide +kernel
theorem dX9_takeWithoutConnection_76 : decode cX9_takeWithoutConnection 76 = .ok (.return_, 1) := by decide +kernel
theorem dX9_takeWithoutConnection_77 : decode cX9_takeWithoutConnection 77 = .ok (.aload_n 0, 1) := by decide +kernel
theorem dX9_takeWithoutConnection_78 : decode cX9_takeWithoutConnection 78 = .ok (.getfield 9, 3) := by decide +kernel
theorem dX9_takeWithoutConnection_81 : decode cX9_takeWithoutConnection 81 = .ok (.getfield 140, 3) := by decide +kernel
theorem dX9_takeWithoutConnection_84 : decode cX9_takeWithoutConnection 84 = .ok (.iconst 5, 1) := by decide +kernel
theorem dX9_takeWithoutConnection_85 : decode cX9_takeWithoutConnection 85 = .ok (.dup2, 1) := by decide +kernel
theorem dX9_takeWithoutConnection_86 : decode cX9_takeWithoutConnection 86 = .ok (.iaload, 1) := by decide +kernel
theorem dX9_takeWithoutConnection_87 : decode cX9_takeWithoutConnection 87 = .ok (.iconst 1, 1) := by decide +kernel
theorem dX9_takeWithoutConnection_88 : decode cX9_takeWithoutConnection 88 = .ok (.iadd, 1) := by decide +kernel
theorem dX9_takeWithoutConnection_89 : decode cX9_takeWithoutConnection 89 = .ok (.iastore, 1) := by decide +kernel
theorem dX9_takeWithoutConnection_90 : decode cX9_takeWithoutConnection 90 = .ok (.aload_n 1, 1) := by decide +kernel
theorem dX9_takeWithoutConnection_91 : decode cX9_takeWithoutConnection 91 = .ok (.aload_n 0, 1) := by decide +kernel
theorem dX9_takeWithoutConnection_92 : decode cX9_takeWithoutConnection 92 = .ok (.getfield 23, 3) := by decide +kernel
theorem dX9_takeWithoutConnection_95 : decode cX9_takeWithoutConnection 95 = .ok (.ldc 146, 2) := by decide +kernel
theorem dX9_takeWithoutConnection_97 : decode cX9_takeWithoutConnection 97 = .ok (.aload_n 0, 1) := by decide +kernel
theorem dX9_takeWithoutConnection_98 : decode cX9_takeWithoutConnection 98 = .ok (.getfield 9, 3) := by decide +kernel
theorem dX9_takeWithoutConnection_101 : decode cX9_takeWithoutConnection 101 = .ok (.getfield 140, 3) := by decide +kernel
theorem dX9_takeWithoutConnection_104 : decode cX9_takeWithoutConnection 104 = .ok (.iconst 5, 1) := by decide +kernel
theorem dX9_takeWithoutConnection_105 : decode cX9_takeWithoutConnection 105 = .ok (.iaload, 1) := by decide +kernel
theorem dX9_takeWithoutConnection_106 : decode cX9_takeWithoutConnection 106 = .ok (.imul, 1) := by decide +kernel
theorem dX9_takeWithoutConnection_107 : decode cX9_takeWithoutConnection 107 = .ok (.sipush 250, 3) := by decide +kernel
theorem dX9_takeWithoutConnection_110 : decode cX9_takeWithoutConnection 110 = .ok (.aload_n 0, 1) := by decide +kernel
theorem dX9_takeWithoutConnection_111 : decode cX9_takeWithoutConnection 111 = .ok (.getfield 9, 3) := by decide +kernel
theorem dX9_takeWithoutConnection_114 : decode cX9_takeWithoutConnection 114 = .ok (.getfield 147, 3) := by decide +kernel
theorem dX9_takeWithoutConnection_117 : decode cX9_takeWithoutConnection 117 = .ok (.imul, 1) := by decide +kernel
theorem dX9_takeWithoutConnection_118 : decode cX9_takeWithoutConnection 118 = .ok (.iadd, 1) := by decide +kernel
theorem dX9_takeWithoutConnection_119 : decode cX9_takeWithoutConnection 119 = .ok (.invokevirtual 150, 3) := by decide +kernel
theorem dX9_takeWithoutConnection_122 : decode cX9_takeWithoutConnection 122 = .ok (.aload_n 1, 1) := by decide +kernel
theorem dX9_takeWithoutConnection_123 : decode cX9_takeWithoutConnection 123 = .ok (.getfield 49, 3) := by decide +kernel
theorem dX9_takeWithoutConnection_126 : decode cX9_takeWithoutConnection 126 = .ok (.aload_n 1, 1) := by decide +kernel
theorem dX9_takeWithoutConnection_127 : decode cX9_takeWithoutConnection 127 = .ok (.getfield 154, 3) := by decide +kernel
theorem dX9_takeWithoutConnection_130 : decode cX9_takeWithoutConnection 130 = .ok (.aload_n 0, 1) := by decide +kernel
theorem dX9_takeWithoutConnection_131 : decode cX9_takeWithoutConnection 131 = .ok (.getfield 9, 3) := by decide +kernel
theorem dX9_takeWithoutConnection_134 : decode cX9_takeWithoutConnection 134 = .ok (.getfield 147, 3) := by decide +kernel
theorem dX9_takeWithoutConnection_137 : decode cX9_takeWithoutConnection 137 = .ok (.invokevirtual 157, 3) := by decide +kernel
theorem dX9_takeWithoutConnection_140 : decode cX9_takeWithoutConnection 140 = .ok (.aload_n 1, 1) := by decide +kernel
theorem dX9_takeWithoutConnection_141 : decode cX9_takeWithoutConnection 141 = .ok (.getfield 49, 3) := by decide +kernel
theorem dX9_takeWithoutConnection_144 : decode cX9_takeWithoutConnection 144 = .ok (.aload_n 0, 1) := by decide +kernel
theorem dX9_takeWithoutConnection_145 : decode cX9_takeWithoutConnection 145 = .ok (.getfield 9, 3) := by decide +kernel
theorem dX9_takeWithoutConnection_148 : decode cX9_takeWithoutConnection 148 = .ok (.getfield 147, 3) := by decide +kernel
theorem dX9_takeWithoutConnection_151 : decode cX9_takeWithoutConnection 151 = .ok (.aload_n 1, 1) := by decide +kernel
theorem dX9_takeWithoutConnection_152 : decode cX9_takeWithoutConnection 152 = .ok (.getfield 49, 3) := by decide +kernel
theorem dX9_takeWithoutConnection_155 : decode cX9_takeWithoutConnection 155 = .ok (.getfield 161, 3) := by decide +kernel
theorem dX9_takeWithoutConnection_158 : decode cX9_takeWithoutConnection 158 = .ok (.iadd, 1) := by decide +kernel
theorem dX9_takeWithoutConnection_159 : decode cX9_takeWithoutConnection 159 = .ok (.putfield 53, 3) := by decide +kernel
theorem dX9_takeWithoutConnection_162 : decode cX9_takeWithoutConnection 162 = .ok (.aload_n 0, 1) := by decide +kernel
theorem dX9_takeWithoutConnection_163 : decode cX9_takeWithoutConnection 163 = .ok (.aload_n 1, 1) := by decide +kernel
theorem dX9_takeWithoutConnection_164 : decode cX9_takeWithoutConnection 164 = .ok (.aload_n 1, 1) := by decide +kernel
theorem dX9_takeWithoutConnection_165 : decode cX9_takeWithoutConnection 165 = .ok (.getfield 154, 3) := by decide +kernel
theorem dX9_takeWithoutConnection_168 : decode cX9_takeWithoutConnection 168 = .ok (.bipush 18, 2) := by decide +kernel
theorem dX9_takeWithoutConnection_170 : decode cX9_takeWithoutConnection 170 = .ok (.invokevirtual 118, 3) := by decide +kernel
theorem dX9_takeWithoutConnection_173 : decode cX9_takeWithoutConnection 173 = .ok (.return_, 1) := by decide +kernel
theorem wX9_takeWithoutConnection_L36 {x : GX} {n0 sl0 : Nat} (X : Cx x cX9_takeWithoutConnection RX9 none n0 sl0 5 115) {out : Mm} (hE : Ends x n0 sl0 none out) (hn : xn x = 2) (fu : Nat)   (a0 : Nat)  (M : Mm) (h : fX9_takeWithoutConnection_L36 fu  a0 M = some out) : Gw x M 36 [(0, pR (some a0))] [] := by
  unfold fX9_takeWithoutConnection_L36 at h
  refine g_aload_n X (pc := 36) 0 rfl rfl dX9_takeWithoutConnection_36 ?_
  obtain ⟨q1, eq1, h⟩ := bd h
  obtain ⟨M2, eM2, h⟩ := bd h
  refine g_callV X (pc := 37) (M' := M2) (ro := none) (c := 9) rfl (by decide) (as := []) (as' := []) (st := []) eq1 (ctX9_reset _ _ _ _ _ _ fu q1  M _ eM2) tb_839 tb_836 tb_838 ts_30 tb_6 ⟨rfl, hyX9_reset⟩ rfl rfl ⟨by decide, by decide⟩ (Nat.le_of_ble_eq_true rfl) dX9_takeWithoutConnection_37 ?_
  obtain rfl := Option.some.inj h
  exact g_return X hE dX9_takeWithoutConnection_40
theorem wX9_takeWithoutConnection_L71 {x : GX} {n0 sl0 : Nat} (X : Cx x cX9_takeWithoutConnection RX9 none n0 sl0 5 115) {out : Mm} (hE : Ends x n0 sl0 none out) (hn : xn x = 2) (fu : Nat)   (a0 : Nat) (s0 : Option Nat) (M : Mm) (h : fX9_takeWithoutConnection_L71 fu  a0 s0 M = some out) : Gw x M 71 [(0, pR (some a0))] [pR s0] := by
  unfold fX9_takeWithoutConnection_L71 at h
  refine g_astore_n X (pc := 71) [(1, pR s0), (0, pR (some a0))] rfl (lt_n hn (by decide)) rfl dX9_takeWithoutConnection_71 ?_
  refine g_aload_n X (pc := 72) 0 rfl rfl dX9_takeWithoutConnection_72 ?_
  refine g_ifnonnull X (pc := 73) (tgt := 77) dX9_takeWithoutConnection_73 (by decide) (fun hc => ?_) (fun hc => ?_)
  · have h := (if_neg hc).symm.trans h
    refine g_aload_n X (pc := 77) 1 rfl rfl dX9_takeWithoutConnection_77 ?_
    obtain ⟨v1, ev1, h⟩ := bd h
    refine g_getR X (pc := 78) fk_9_0 rfl rfl ev1 tb_234 dX9_takeWithoutConnection_78 ?_
    obtain ⟨v2, ev2, h⟩ := bd h
    refine g_getR X (pc := 81) fk_10_0 rfl rfl ev2 tb_65 dX9_takeWithoutConnection_81 ?_
    refine g_iconst X (pc := 84) (v := 5) dX9_takeWithoutConnection_84 (by decide) ?_
    refine g_dup2 X (pc := 85) rfl rfl dX9_takeWithoutConnection_85 ?_
    obtain ⟨v3, ev3, h⟩ := bd h
    refine g_iaload X (pc := 86) ev3 dX9_takeWithoutConnection_86 ?_
    refine g_iconst X (pc := 87) (v := 1) dX9_takeWithoutConnection_87 (by decide) ?_
    refine g_iadd X (pc := 88) dX9_takeWithoutConnection_88 ?_
    obtain ⟨M4, eM4, h⟩ := bd h
    refine g_iastore X (pc := 89) eM4 dX9_takeWithoutConnection_89 ?_
    refine g_aload_n X (pc := 90) 0 rfl rfl dX9_takeWithoutConnection_90 ?_
    refine g_aload_n X (pc := 91) 1 rfl rfl dX9_takeWithoutConnection_91 ?_
    obtain ⟨v5, ev5, h⟩ := bd h
    refine g_getR X (pc := 92) fk_9_3 rfl rfl ev5 tb_237 dX9_takeWithoutConnection_92 ?_
    refine g_ldc X (pc := 95) tb_1042 dX9_takeWithoutConnection_95 ?_
    refine g_aload_n X (pc := 97) 1 rfl rfl dX9_takeWithoutConnection_97 ?_
    obtain ⟨v6, ev6, h⟩ := bd h
    refine g_getR X (pc := 98) fk_9_0 rfl rfl ev6 tb_234 dX9_takeWithoutConnection_98 ?_
    obtain ⟨v7, ev7, h⟩ := bd h
    refine g_getR X (pc := 101) fk_10_0 rfl rfl ev7 tb_65 dX9_takeWithoutConnection_101 ?_
    refine g_iconst X (pc := 104) (v := 5) dX9_takeWithoutConnection_104 (by decide) ?_
    obtain ⟨v8, ev8, h⟩ := bd h
    refine g_iaload X (pc := 105) ev8 dX9_takeWithoutConnection_105 ?_
    refine g_imul X (pc := 106) dX9_takeWithoutConnection_106 ?_
    refine g_sipush X (pc := 107) (v := 250) dX9_takeWithoutConnection_107 (by decide) ?_
    refine g_aload_n X (pc := 110) 1 rfl rfl dX9_takeWithoutConnection_110 ?_
    obtain ⟨v9, ev9, h⟩ := bd h
    refine g_getR X (pc := 111) fk_9_0 rfl rfl ev9 tb_234 dX9_takeWithoutConnection_111 ?_
    obtain ⟨v10, ev10, h⟩ := bd h
    refine g_getI X (pc := 114) fk_10_1 rfl rfl ev10 tb_71 dX9_takeWithoutConnection_114 ?_
    refine g_imul X (pc := 117) dX9_takeWithoutConnection_117 ?_
    refine g_iadd X (pc := 118) dX9_takeWithoutConnection_118 ?_
    obtain ⟨q11, eq11, h⟩ := bd h
    obtain ⟨M12, eM12, h⟩ := bd h
    refine g_callV X (pc := 119) (M' := M12) (ro := none) (c := 1) rfl (by decide) (as := [pR v5, pI (((64000 : Int32) * v8) + ((250 : Int32) * v10))]) (as' := [pI (((64000 : Int32) * v8) + ((250 : Int32) * v10)), pR v5]) (st := []) eq11 (ctX1_begin _ _ _ _ _ _ fu q11 v5 (((64000 : Int32) * v8) + ((250 : Int32) * v10)) M4 _ eM12) tb_1046 tb_1043 tb_1044 tb_1045 tb_18 ⟨rfl, hyX1_begin⟩ rfl rfl ⟨by decide, by decide⟩ (Nat.le_of_ble_eq_true rfl) dX9_takeWithoutConnection_119 ?_
    refine g_aload_n X (pc := 122) 0 rfl rfl dX9_takeWithoutConnection_122 ?_
    obtain ⟨v13, ev13, h⟩ := bd h
    refine g_getR X (pc := 123) fk_1_17 rfl rfl ev13 tb_997 dX9_takeWithoutConnection_123 ?_
    refine g_aload_n X (pc := 126) 0 rfl rfl dX9_takeWithoutConnection_126 ?_
    obtain ⟨v14, ev14, h⟩ := bd h
    refine g_getI X (pc := 127) fk_1_3 rfl rfl ev14 tb_966 dX9_takeWithoutConnection_127 ?_
    refine g_aload_n X (pc := 130) 1 rfl rfl dX9_takeWithoutConnection_130 ?_
    obtain ⟨v15, ev15, h⟩ := bd h
    refine g_getR X (pc := 131) fk_9_0 rfl rfl ev15 tb_234 dX9_takeWithoutConnection_131 ?_
    obtain ⟨v16, ev16, h⟩ := bd h
    refine g_getI X (pc := 134) fk_10_1 rfl rfl ev16 tb_71 dX9_takeWithoutConnection_134 ?_
    obtain ⟨q17, eq17, h⟩ := bd h
    obtain ⟨M18, eM18, h⟩ := bd h
    refine g_callV X (pc := 137) (M' := M18) (ro := none) (c := 5) rfl (by decide) (as := [pI v14, pI v16]) (as' := [pI v16, pI v14]) (st := []) eq17 (ctX5_startTiming _ _ _ _ _ _ fu q17 v14 v16 M12 _ eM18) tb_685 tb_682 tb_683 tb_684 tb_20 ⟨rfl, hyX5_startTiming⟩ rfl rfl ⟨by decide, by decide⟩ (Nat.le_of_ble_eq_true rfl) dX9_takeWithoutConnection_137 ?_
    refine g_aload_n X (pc := 140) 0 rfl rfl dX9_takeWithoutConnection_140 ?_
    obtain ⟨v19, ev19, h⟩ := bd h
    refine g_getR X (pc := 141) fk_1_17 rfl rfl ev19 tb_997 dX9_takeWithoutConnection_141 ?_
    refine g_aload_n X (pc := 144) 1 rfl rfl dX9_takeWithoutConnection_144 ?_
    obtain ⟨v20, ev20, h⟩ := bd h
    refine g_getR X (pc := 145) fk_9_0 rfl rfl ev20 tb_234 dX9_takeWithoutConnection_145 ?_
    obtain ⟨v21, ev21, h⟩ := bd h
    refine g_getI X (pc := 148) fk_10_1 rfl rfl ev21 tb_71 dX9_takeWithoutConnection_148 ?_
    refine g_aload_n X (pc := 151) 0 rfl rfl dX9_takeWithoutConnection_151 ?_
    obtain ⟨v22, ev22, h⟩ := bd h
    refine g_getR X (pc := 152) fk_1_17 rfl rfl ev22 tb_997 dX9_takeWithoutConnection_152 ?_
    obtain ⟨v23, ev23, h⟩ := bd h
    refine g_getI X (pc := 155) fk_5_3 rfl rfl ev23 tb_908 dX9_takeWithoutConnection_155 ?_
    refine g_iadd X (pc := 158) dX9_takeWithoutConnection_158 ?_
    obtain ⟨M24, eM24, h⟩ := bd h
    refine g_putI X (pc := 159) fk_5_4 rfl rfl rfl eM24 tb_912 (Or.inl rfl) dX9_takeWithoutConnection_159 ?_
    refine g_aload_n X (pc := 162) 1 rfl rfl dX9_takeWithoutConnection_162 ?_
    refine g_aload_n X (pc := 163) 0 rfl rfl dX9_takeWithoutConnection_163 ?_
    refine g_aload_n X (pc := 164) 0 rfl rfl dX9_takeWithoutConnection_164 ?_
    obtain ⟨v25, ev25, h⟩ := bd h
    refine g_getI X (pc := 165) fk_1_3 rfl rfl ev25 tb_966 dX9_takeWithoutConnection_165 ?_
    refine g_bipush X (pc := 168) (v := 18) dX9_takeWithoutConnection_168 (by decide) ?_
    obtain ⟨q26, eq26, h⟩ := bd h
    obtain ⟨M27, eM27, h⟩ := bd h
    refine g_callV X (pc := 170) (M' := M27) (ro := none) (c := 9) rfl (by decide) (as := [pR s0, pI v25, pI (18 : Int32)]) (as' := [pI (18 : Int32), pI v25, pR s0]) (st := []) eq26 (ctX9_sendPlain _ _ _ _ _ _ fu q26 s0 v25 (18 : Int32) M24 _ eM27) tb_589 tb_586 tb_588 ts_11 tb_6 ⟨rfl, hyX9_sendPlain⟩ rfl rfl ⟨by decide, by decide⟩ (Nat.le_of_ble_eq_true rfl) dX9_takeWithoutConnection_170 ?_
    obtain rfl := Option.some.inj h
    exact g_return X hE dX9_takeWithoutConnection_173
  · have h := (if_pos hc).symm.trans h
    obtain rfl := Option.some.inj h
    exact g_return X hE dX9_takeWithoutConnection_76
theorem wX9_takeWithoutConnection_L70 {x : GX} {n0 sl0 : Nat} (X : Cx x cX9_takeWithoutConnection RX9 none n0 sl0 5 115) {out : Mm} (hE : Ends x n0 sl0 none out) (hn : xn x = 2) (fu : Nat)   (a0 : Nat)  (M : Mm) (h : fX9_takeWithoutConnection_L70 fu  a0 M = some out) : Gw x M 70 [(0, pR (some a0))] [] := by
  unfold fX9_takeWithoutConnection_L70 at h
  refine g_null X (pc := 70) dX9_takeWithoutConnection_70 ?_
  exact wX9_takeWithoutConnection_L71 X hE hn fu   a0 none M h
theorem wX9_takeWithoutConnection {x : GX} {n0 sl0 : Nat} (X : Cx x cX9_takeWithoutConnection RX9 none n0 sl0 5 115) {out : Mm} (hE : Ends x n0 sl0 none out) (hn : xn x = 2) (fu : Nat)   (a0 : Nat)  (M : Mm) (h : fX9_takeWithoutConnection fu  a0 M = some out) : Gw x M 0 [(0, pR (some a0))] [] := by
  unfold fX9_takeWithoutConnection at h
  refine g_aload_n X (pc := 0) 0 rfl rfl dX9_takeWithoutConnection_0 ?_
  obtain ⟨v1, ev1, h⟩ := bd h
  refine g_getR X (pc := 1) fk_9_3 rfl rfl ev1 tb_237 dX9_takeWithoutConnection_1 ?_
  refine g_iconst X (pc := 4) (v := 4) dX9_takeWithoutConnection_4 (by decide) ?_
  obtain ⟨q2, eq2, h⟩ := bd h
  obtain ⟨v4, M3, eM3, h⟩ := b2d h
  refine g_callV X (pc := 5) (M' := M3) (ro := some (pI v4)) (c := 3) rfl (by decide) (as := [pI (4 : Int32)]) (as' := [pI (4 : Int32)]) (st := []) eq2 (ctX3_has _ _ _ _ _ _ fu q2 (4 : Int32) M _ eM3) tb_835 tb_832 tb_833 tb_834 tb_5 ⟨rfl, hyX3_has⟩ rfl rfl ⟨by decide, by decide⟩ (Nat.le_of_ble_eq_true rfl) dX9_takeWithoutConnection_5 ?_
  refine g_if_eq X (pc := 8) (tgt := 12) dX9_takeWithoutConnection_8 (by decide) (fun hc => ?_) (fun hc => ?_)
  · have h := (if_pos hc).symm.trans h
    refine g_aload_n X (pc := 12) 0 rfl rfl dX9_takeWithoutConnection_12 ?_
    obtain ⟨v5, ev5, h⟩ := bd h
    refine g_getR X (pc := 13) fk_9_3 rfl rfl ev5 tb_237 dX9_takeWithoutConnection_13 ?_
    obtain ⟨v6, ev6, h⟩ := bd h
    refine g_getI X (pc := 16) fk_3_3 rfl rfl ev6 tb_166 dX9_takeWithoutConnection_16 ?_
    refine g_bipush X (pc := 19) (v := 80) dX9_takeWithoutConnection_19 (by decide) ?_
    refine g_icmp_ne X (pc := 21) (tgt := 36) dX9_takeWithoutConnection_21 (by decide) (fun hc => ?_) (fun hc => ?_)
    · have h := (if_neg hc).symm.trans h
      exact wX9_takeWithoutConnection_L36 X hE hn fu   a0 M3 h
    · have h := (if_pos hc).symm.trans h
      refine g_aload_n X (pc := 24) 0 rfl rfl dX9_takeWithoutConnection_24 ?_
      obtain ⟨v7, ev7, h⟩ := bd h
      refine g_getR X (pc := 25) fk_9_3 rfl rfl ev7 tb_237 dX9_takeWithoutConnection_25 ?_
      refine g_bipush X (pc := 28) (v := 16) dX9_takeWithoutConnection_28 (by decide) ?_
      obtain ⟨q8, eq8, h⟩ := bd h
      obtain ⟨v10, M9, eM9, h⟩ := b2d h
      refine g_callV X (pc := 30) (M' := M9) (ro := some (pI v10)) (c := 3) rfl (by decide) (as := [pI (16 : Int32)]) (as' := [pI (16 : Int32)]) (st := []) eq8 (ctX3_has _ _ _ _ _ _ fu q8 (16 : Int32) M3 _ eM9) tb_835 tb_832 tb_833 tb_834 tb_5 ⟨rfl, hyX3_has⟩ rfl rfl ⟨by decide, by decide⟩ (Nat.le_of_ble_eq_true rfl) dX9_takeWithoutConnection_30 ?_
      refine g_if_eq X (pc := 33) (tgt := 41) dX9_takeWithoutConnection_33 (by decide) (fun hc => ?_) (fun hc => ?_)
      · have h := (if_pos hc).symm.trans h
        refine g_aload_n X (pc := 41) 0 rfl rfl dX9_takeWithoutConnection_41 ?_
        obtain ⟨v11, ev11, h⟩ := bd h
        refine g_getR X (pc := 42) fk_9_3 rfl rfl ev11 tb_237 dX9_takeWithoutConnection_42 ?_
        refine g_iconst X (pc := 45) (v := 2) dX9_takeWithoutConnection_45 (by decide) ?_
        obtain ⟨q12, eq12, h⟩ := bd h
        obtain ⟨v14, M13, eM13, h⟩ := b2d h
        refine g_callV X (pc := 46) (M' := M13) (ro := some (pI v14)) (c := 3) rfl (by decide) (as := [pI (2 : Int32)]) (as' := [pI (2 : Int32)]) (st := []) eq12 (ctX3_has _ _ _ _ _ _ fu q12 (2 : Int32) M9 _ eM13) tb_835 tb_832 tb_833 tb_834 tb_5 ⟨rfl, hyX3_has⟩ rfl rfl ⟨by decide, by decide⟩ (Nat.le_of_ble_eq_true rfl) dX9_takeWithoutConnection_46 ?_
        refine g_if_eq X (pc := 49) (tgt := 70) dX9_takeWithoutConnection_49 (by decide) (fun hc => ?_) (fun hc => ?_)
        · have h := (if_pos hc).symm.trans h
          exact wX9_takeWithoutConnection_L70 X hE hn fu   a0 M13 h
        · have h := (if_neg hc).symm.trans h
          refine g_aload_n X (pc := 52) 0 rfl rfl dX9_takeWithoutConnection_52 ?_
          obtain ⟨v15, ev15, h⟩ := bd h
          refine g_getR X (pc := 53) fk_9_3 rfl rfl ev15 tb_237 dX9_takeWithoutConnection_53 ?_
          refine g_iconst X (pc := 56) (v := 1) dX9_takeWithoutConnection_56 (by decide) ?_
          obtain ⟨q16, eq16, h⟩ := bd h
          obtain ⟨v18, M17, eM17, h⟩ := b2d h
          refine g_callV X (pc := 57) (M' := M17) (ro := some (pI v18)) (c := 3) rfl (by decide) (as := [pI (1 : Int32)]) (as' := [pI (1 : Int32)]) (st := []) eq16 (ctX3_has _ _ _ _ _ _ fu q16 (1 : Int32) M13 _ eM17) tb_835 tb_832 tb_833 tb_834 tb_5 ⟨rfl, hyX3_has⟩ rfl rfl ⟨by decide, by decide⟩ (Nat.le_of_ble_eq_true rfl) dX9_takeWithoutConnection_57 ?_
          refine g_if_ne X (pc := 60) (tgt := 70) dX9_takeWithoutConnection_60 (by decide) (fun hc => ?_) (fun hc => ?_)
          · have h := (if_neg hc).symm.trans h
            exact wX9_takeWithoutConnection_L70 X hE hn fu   a0 M17 h
          · have h := (if_pos hc).symm.trans h
            refine g_aload_n X (pc := 63) 0 rfl rfl dX9_takeWithoutConnection_63 ?_
            obtain ⟨q19, eq19, h⟩ := bd h
            obtain ⟨v21, M20, eM20, h⟩ := b2d h
            refine g_callV X (pc := 64) (M' := M20) (ro := some (pR v21)) (c := 9) rfl (by decide) (as := []) (as' := []) (st := []) eq19 (ctX9_freeConnection _ _ _ _ _ _ fu q19  M17 _ eM20) tb_848 tb_845 tb_847 ts_31 tb_6 ⟨rfl, hyX9_freeConnection⟩ rfl rfl ⟨by decide, by decide⟩ (Nat.le_of_ble_eq_true rfl) dX9_takeWithoutConnection_64 ?_
            refine g_goto X (pc := 67) (tgt := 71) dX9_takeWithoutConnection_67 (by decide) ?_
            exact wX9_takeWithoutConnection_L71 X hE hn fu   a0 v21 M20 h
      · have h := (if_neg hc).symm.trans h
        exact wX9_takeWithoutConnection_L36 X hE hn fu   a0 M9 h
  · have h := (if_neg hc).symm.trans h
    obtain rfl := Option.some.inj h
    exact g_return X hE dX9_takeWithoutConnection_11
theorem hyX9_takeWithoutConnection : yX9_takeWithoutConnection.cls ≠ "java/lang/invoke/MethodHandle" ∧ yX9_takeWithoutConnection.cls ≠ "java/lang/invoke/VarHandle" ∧ (parseMethodDescriptor yX9_takeWithoutConnection.desc).map (fun d => d.parameters.length) = some 0 := ⟨by decide +kernel, by decide +kernel, by decide +kernel⟩
theorem ctX9_takeWithoutConnection (l : Launch) (E : Nat → Nat) (D : va_G) (dA : Nat → ClassId) (lo : Nat) (H0 : Heap) (fu : Nat) (a0 : Nat) (M : Mm) (out : Mm) (h : fX9_takeWithoutConnection fu a0 M = some out) : Ct l E D dA lo H0 yX9_takeWithoutConnection cX9_takeWithoutConnection 2 none 5 115 [pR (some a0)] M none out := by
  refine ct_of (by decide +kernel) (Nat.le_of_ble_eq_true rfl) ?_
  intro x hl he hd ha ho hh hn hin X hE
  exact wX9_takeWithoutConnection X hE hn fu a0 M h
/-! WebHost$Tcp.refuse(LWebHost$Connection;)V -/
def fX9_refuse (fu : Nat)  (a0 : Nat) (a1 : Option Nat)  (M : Mm) : Option (Mm) :=
    (gR M 9 579 (some a0)).bind fun v1 =>
    (rc M 3 v1).bind fun q2 =>
    b2 (fX3_has fu q2 (4 : Int32) M) fun v4 M3 =>
    if v4 = 0 then (
    (gI M3 1 69 a1).bind fun v5 =>
    (rc M3 9 (some a0)).bind fun q6 =>
    (fX9_sendPlain fu q6 a1 v5 (16 : Int32) M3).bind fun M7 =>
    (gI M7 1 64 a1).bind fun v8 =>
    if v8 = (6 : Int32) then (
    (gR M7 9 579 (some a0)).bind fun v9 =>
    (rc M7 3 v9).bind fun q10 =>
    b2 (fX3_has fu q10 (1 : Int32) M7) fun v12 M11 =>
    if v12 = 0 then (
    some M11)
    else (
    (gR M11 9 576 (some a0)).bind fun v13 =>
    (gI M11 10 641 v13).bind fun v14 =>
    (rc M11 1 a1).bind fun q15 =>
    (fX1_linger fu q15 v14 M11).bind fun M16 =>
    some M16))
    else (
    some M7))
    else (
    some M3)
theorem dX9_refuse_0 : decode cX9_refuse 0 = .ok (.aload_n 0, 1) := by decide +kernel
theorem dX9_refuse_1 : decode cX9_refuse 1 = .ok (.getfield 23, 3) := by decide +kernel
theorem dX9_refuse_4 : decode cX9_refuse 4 = .ok (.iconst 4, 1) := by decide +kernel
theorem dX9_refuse_5 : decode cX9_refuse 5 = .ok (.invokevirtual 89, 3) := by decide +kernel
theorem dX9_refuse_8 : decode cX9_refuse 8 = .ok (.ifCond .eq 4, 3) := by decide +kernel
theorem dX9_refuse_11 : decode cX9_refuse 11 = .ok (.return_, 1) := by decide +kernel
theorem dX9_refuse_12 : decode cX9_refuse 12 = .ok (.aload_n 0, 1) := by decide +kernel
theorem dX9_refuse_13 : decode cX9_refuse 13 = .ok (.aload_n 1, 1) := by decide +kernel
theorem dX9_refuse_14 : decode cX9_refuse 14 = .ok (.aload_n 1, 1) := by decide +kernel
theorem dX9_refuse_15 : decode cX9_refuse 15 = .ok (.getfield 115, 3) := by decide +kernel
theorem dX9_refuse_18 : decode cX9_refuse 18 = .ok (.bipush 16, 2) := by decide +kernel
theorem dX9_refuse_20 : decode cX9_refuse 20 = .ok (.invokevirtual 118, 3) := by decide +kernel
theorem dX9_refuse_23 : decode cX9_refuse 23 = .ok (.aload_n 1, 1) := by decide +kernel
theorem dX9_refuse_24 : decode cX9_refuse 24 = .ok (.getfield 36, 3) := by decide +kernel
theorem dX9_refuse_27 : decode cX9_refuse 27 = .ok (.bipush 6, 2) := by decide +kernel
theorem dX9_refuse_29 : decode cX9_refuse 29 = .ok (.if_icmp .ne 25, 3) := by decide +kernel
theorem dX9_refuse_32 : decode cX9_refuse 32 = .ok (.aload_n 0, 1) := by decide +kernel
theorem dX9_refuse_33 : decode cX9_refuse 33 = .ok (.getfield 23, 3) := by decide +kernel
theorem dX9_refuse_36 : decode cX9_refuse 36 = .ok (.iconst 1, 1) := by decide +kernel
theorem dX9_refuse_37 : decode cX9_refuse 37 = .ok (.invokevirtual 89, 3) := by decide +kernel
theorem dX9_refuse_40 : decode cX9_refuse 40 = .ok (.ifCond .eq 14, 3) := by decide +kernel
theorem dX9_refuse_43 : decode cX9_refuse 43 = .ok (.aload_n 1, 1) := by decide +kernel
theorem dX9_refuse_44 : decode cX9_refuse 44 = .ok (.aload_n 0, 1) := by decide +kernel
theorem dX9_refuse_45 : decode cX9_refuse 45 = .ok (.getfield 9, 3) := by decide +kernel
theorem dX9_refuse_48 : decode cX9_refuse 48 = .ok (.getfield 147, 3) := by decide +kernel
theorem dX9_refuse_51 : decode cX9_refuse 51 = .ok (.invokevirtual 165, 3) := by decide +kernel
theorem dX9_refuse_54 : decode cX9_refuse 54 = .ok (.return_, 1) := by decide +kernel
theorem wX9_refuse {x : GX} {n0 sl0 : Nat} (X : Cx x cX9_refuse RX9 none n0 sl0 5 115) {out : Mm} (hE : Ends x n0 sl0 none out) (hn : xn x = 2) (fu : Nat)   (a0 : Nat) (a1 : Option Nat)  (M : Mm) (h : fX9_refuse fu  a0 a1 M = some out) : Gw x M 0 [(0, pR (some a0)), (1, pR a1)] [] := by
  unfold fX9_refuse at h
  refine g_aload_n X (pc := 0) 0 rfl rfl dX9_refuse_0 ?_
  obtain ⟨v1, ev1, h⟩ := bd h
  refine g_getR X (pc := 1) fk_9_3 rfl rfl ev1 tb_237 dX9_refuse_1 ?_
  refine g_iconst X (pc := 4) (v := 4) dX9_refuse_4 (by decide) ?_
  obtain ⟨q2, eq2, h⟩ := bd h
  obtain ⟨v4, M3, eM3, h⟩ := b2d h
  refine g_callV X (pc := 5) (M' := M3) (ro := some (pI v4)) (c := 3) rfl (by decide) (as := [pI (4 : Int32)]) (as' := [pI (4 : Int32)]) (st := []) eq2 (ctX3_has _ _ _ _ _ _ fu q2 (4 : Int32) M _ eM3) tb_835 tb_832 tb_833 tb_834 tb_5 ⟨rfl, hyX3_has⟩ rfl rfl ⟨by decide, by decide⟩ (Nat.le_of_ble_eq_true rfl) dX9_refuse_5 ?_
  refine g_if_eq X (pc := 8) (tgt := 12) dX9_refuse_8 (by decide) (fun hc => ?_) (fun hc => ?_)
  · have h := (if_pos hc).symm.trans h
    refine g_aload_n X (pc := 12) 0 rfl rfl dX9_refuse_12 ?_
    refine g_aload_n X (pc := 13) 1 rfl rfl dX9_refuse_13 ?_
    refine g_aload_n X (pc := 14) 1 rfl rfl dX9_refuse_14 ?_
    obtain ⟨v5, ev5, h⟩ := bd h
    refine g_getI X (pc := 15) fk_1_5 rfl rfl ev5 tb_970 dX9_refuse_15 ?_
    refine g_bipush X (pc := 18) (v := 16) dX9_refuse_18 (by decide) ?_
    obtain ⟨q6, eq6, h⟩ := bd h
    obtain ⟨M7, eM7, h⟩ := bd h
    refine g_callV X (pc := 20) (M' := M7) (ro := none) (c := 9) rfl (by decide) (as := [pR a1, pI v5, pI (16 : Int32)]) (as' := [pI (16 : Int32), pI v5, pR a1]) (st := []) eq6 (ctX9_sendPlain _ _ _ _ _ _ fu q6 a1 v5 (16 : Int32) M3 _ eM7) tb_589 tb_586 tb_588 ts_11 tb_6 ⟨rfl, hyX9_sendPlain⟩ rfl rfl ⟨by decide, by decide⟩ (Nat.le_of_ble_eq_true rfl) dX9_refuse_20 ?_
    refine g_aload_n X (pc := 23) 1 rfl rfl dX9_refuse_23 ?_
    obtain ⟨v8, ev8, h⟩ := bd h
    refine g_getI X (pc := 24) fk_1_0 rfl rfl ev8 tb_959 dX9_refuse_24 ?_
    refine g_bipush X (pc := 27) (v := 6) dX9_refuse_27 (by decide) ?_
    refine g_icmp_ne X (pc := 29) (tgt := 54) dX9_refuse_29 (by decide) (fun hc => ?_) (fun hc => ?_)
    · have h := (if_neg hc).symm.trans h
      obtain rfl := Option.some.inj h
      exact g_return X hE dX9_refuse_54
    · have h := (if_pos hc).symm.trans h
      refine g_aload_n X (pc := 32) 0 rfl rfl dX9_refuse_32 ?_
      obtain ⟨v9, ev9, h⟩ := bd h
      refine g_getR X (pc := 33) fk_9_3 rfl rfl ev9 tb_237 dX9_refuse_33 ?_
      refine g_iconst X (pc := 36) (v := 1) dX9_refuse_36 (by decide) ?_
      obtain ⟨q10, eq10, h⟩ := bd h
      obtain ⟨v12, M11, eM11, h⟩ := b2d h
      refine g_callV X (pc := 37) (M' := M11) (ro := some (pI v12)) (c := 3) rfl (by decide) (as := [pI (1 : Int32)]) (as' := [pI (1 : Int32)]) (st := []) eq10 (ctX3_has _ _ _ _ _ _ fu q10 (1 : Int32) M7 _ eM11) tb_835 tb_832 tb_833 tb_834 tb_5 ⟨rfl, hyX3_has⟩ rfl rfl ⟨by decide, by decide⟩ (Nat.le_of_ble_eq_true rfl) dX9_refuse_37 ?_
      refine g_if_eq X (pc := 40) (tgt := 54) dX9_refuse_40 (by decide) (fun hc => ?_) (fun hc => ?_)
      · have h := (if_pos hc).symm.trans h
        obtain rfl := Option.some.inj h
        exact g_return X hE dX9_refuse_54
      · have h := (if_neg hc).symm.trans h
        refine g_aload_n X (pc := 43) 1 rfl rfl dX9_refuse_43 ?_
        refine g_aload_n X (pc := 44) 0 rfl rfl dX9_refuse_44 ?_
        obtain ⟨v13, ev13, h⟩ := bd h
        refine g_getR X (pc := 45) fk_9_0 rfl rfl ev13 tb_234 dX9_refuse_45 ?_
        obtain ⟨v14, ev14, h⟩ := bd h
        refine g_getI X (pc := 48) fk_10_1 rfl rfl ev14 tb_71 dX9_refuse_48 ?_
        obtain ⟨q15, eq15, h⟩ := bd h
        obtain ⟨M16, eM16, h⟩ := bd h
        refine g_callV X (pc := 51) (M' := M16) (ro := none) (c := 1) rfl (by decide) (as := [pI v14]) (as' := [pI v14]) (st := []) eq15 (ctX1_linger _ _ _ _ _ _ fu q15 v14 M11 _ eM16) tb_1085 tb_1082 tb_1083 tb_1084 tb_18 ⟨rfl, hyX1_linger⟩ rfl rfl ⟨by decide, by decide⟩ (Nat.le_of_ble_eq_true rfl) dX9_refuse_51 ?_
        obtain rfl := Option.some.inj h
        exact g_return X hE dX9_refuse_54
  · have h := (if_neg hc).symm.trans h
    obtain rfl := Option.some.inj h
    exact g_return X hE dX9_refuse_11
theorem hyX9_refuse : yX9_refuse.cls ≠ "java/lang/invoke/MethodHandle" ∧ yX9_refuse.cls ≠ "java/lang/invoke/VarHandle" ∧ (parseMethodDescriptor yX9_refuse.desc).map (fun d => d.parameters.length) = some 1 := ⟨by decide +kernel, by decide +kernel, by decide +kernel⟩
theorem ctX9_refuse (l : Launch) (E : Nat → Nat) (D : va_G) (dA : Nat → ClassId) (lo : Nat) (H0 : Heap) (fu : Nat) (a0 : Nat) (a1 : Option Nat) (M : Mm) (out : Mm) (h : fX9_refuse fu a0 a1 M = some out) : Ct l E D dA lo H0 yX9_refuse cX9_refuse 2 none 5 115 [pR (some a0), pR a1] M none out := by
  refine ct_of (by decide +kernel) (Nat.le_of_ble_eq_true rfl) ?_
  intro x hl he hd ha ho hh hn hin X hE
  exact wX9_refuse X hE hn fu a0 a1 M h
/-! WebHost$Tcp.takeNew(LWebHost$Connection;)V -/
def fX9_takeNew_L161 (fu : Nat)  (a0 : Nat) (a1 : Option Nat) (s0 : Option Nat) (s1 : Int32) (M : Mm) : Option (Mm) :=
    (pF M 5 324 s0 s1).bind fun M1 =>
    (gR M1 9 576 (some a0)).bind fun v2 =>
    (gI M1 10 641 v2).bind fun v3 =>
    (pF M1 1 73 a1 v3).bind fun M4 =>
    some M4
def fX9_takeNew_L125 (fu : Nat)  (a0 : Nat) (a1 : Option Nat)  (M : Mm) : Option (Mm) :=
    (gR M 1 81 a1).bind fun v1 =>
    (gI M 1 68 a1).bind fun v2 =>
    (gI M 1 70 a1).bind fun v3 =>
    if 0 ≤ (v2 - v3) then (
    fX9_takeNew_L161 fu  a0 a1 v1 (2147483647 : Int32) M)
    else (
    (gR M 9 576 (some a0)).bind fun v4 =>
    (gI M 10 641 v4).bind fun v5 =>
    (gR M 1 81 a1).bind fun v6 =>
    (gI M 5 323 v6).bind fun v7 =>
    fX9_takeNew_L161 fu  a0 a1 v1 (v5 + v7) M)
def fX9_takeNew_L78 (fu : Nat)  (a0 : Nat) (a1 : Option Nat)  (M : Mm) : Option (Mm) :=
    (gR M 1 81 a1).bind fun v1 =>
    (pF M 5 325 v1 (0 : Int32)).bind fun M2 =>
    (gR M2 1 81 a1).bind fun v3 =>
    (pF M2 5 326 v3 (0 : Int32)).bind fun M4 =>
    (gR M4 9 579 (some a0)).bind fun v5 =>
    (gI M4 3 197 v5).bind fun v6 =>
    (pF M4 1 68 a1 v6).bind fun M7 =>
    (gI M7 1 69 a1).bind fun v8 =>
    (gI M7 1 68 a1).bind fun v9 =>
    if 0 ≤ (v8 - v9) then (
    fX9_takeNew_L125 fu  a0 a1 M7)
    else (
    (gI M7 1 68 a1).bind fun v10 =>
    (pF M7 1 69 a1 v10).bind fun M11 =>
    fX9_takeNew_L125 fu  a0 a1 M11)
def fX9_takeNew (fu : Nat)  (a0 : Nat) (a1 : Option Nat)  (M : Mm) : Option (Mm) :=
    (gR M 9 579 (some a0)).bind fun v1 =>
    (gI M 3 197 v1).bind fun v2 =>
    (gI M 1 68 a1).bind fun v3 =>
    (gR M 9 576 (some a0)).bind fun v4 =>
    (gR M 10 640 v4).bind fun v5 =>
    (gA M 101 v5 (6 : Int32)).bind fun v6 =>
    (pA M 101 v5 (6 : Int32) (v6 + (1 : Int32))).bind fun M7 =>
    (gR M7 9 576 (some a0)).bind fun v8 =>
    (gR M7 10 640 v8).bind fun v9 =>
    (gA M7 101 v9 (7 : Int32)).bind fun v10 =>
    (pA M7 101 v9 (7 : Int32) (v10 + (v2 - v3))).bind fun M11 =>
    (gR M11 1 81 a1).bind fun v12 =>
    (gR M11 9 579 (some a0)).bind fun v13 =>
    (gI M11 3 197 v13).bind fun v14 =>
    (gR M11 9 576 (some a0)).bind fun v15 =>
    (gI M11 10 641 v15).bind fun v16 =>
    (rc M11 5 v12).bind fun q17 =>
    (fX5_endTiming fu q17 v14 v16 M11).bind fun M18 =>
    (gI M18 1 64 a1).bind fun v19 =>
    if v19 = (1 : Int32) then (
    fX9_takeNew_L78 fu  a0 a1 M18)
    else (
    (gR M18 1 81 a1).bind fun v20 =>
    (rc M18 5 v20).bind fun q21 =>
    (fX5_grow fu q21 (v2 - v3) M18).bind fun M22 =>
    fX9_takeNew_L78 fu  a0 a1 M22)
theorem dX9_takeNew_0 : decode cX9_takeNew 0 = .ok (.aload_n 0, 1) := by decide +kernel
theorem dX9_takeNew_1 : decode cX9_takeNew 1 = .ok (.getfield 23, 3) := by decide +kernel
theorem dX9_takeNew_4 : decode cX9_takeNew 4 = .ok (.getfield 181, 3) := by decide +kernel
theorem dX9_takeNew_7 : decode cX9_takeNew 7 = .ok (.aload_n 1, 1) := by decide +kernel
theorem dX9_takeNew_8 : decode cX9_takeNew 8 = .ok (.getfield 194, 3) := by decide +kernel
theorem dX9_takeNew_11 : decode cX9_takeNew 11 = .ok (.isub, 1) := by decide +kernel
theorem dX9_takeNew_12 : decode cX9_takeNew 12 = .ok (.istore_n 2, 1) := by decide +kernel
theorem dX9_takeNew_13 : decode cX9_takeNew 13 = .ok (.aload_n 0, 1) := by decide +kernel
theorem dX9_takeNew_14 : decode cX9_takeNew 14 = .ok (.getfield 9, 3) := by decide +kernel
theorem dX9_takeNew_17 : decode cX9_takeNew 17 = .ok (.getfield 140, 3) := by decide +kernel
theorem dX9_takeNew_20 : decode cX9_takeNew 20 = .ok (.bipush 6, 2) := by decide +kernel
theorem dX9_takeNew_22 : decode cX9_takeNew 22 = .ok (.dup2, 1) := by decide +kernel
theorem dX9_takeNew_23 : decode cX9_takeNew 23 = .ok (.iaload, 1) := by decide +kernel
theorem dX9_takeNew_24 : decode cX9_takeNew 24 = .ok (.iconst 1, 1) := by decide +kernel
theorem dX9_takeNew_25 : decode cX9_takeNew 25 = .ok (.iadd, 1) := by decide +kernel
theorem dX9_takeNew_26 : decode cX9_takeNew 26 = .ok (.iastore, 1) := by decide +kernel
theorem dX9_takeNew_27 : decode cX9_takeNew 27 = .ok (.aload_n 0, 1) := by decide +kernel
theorem dX9_takeNew_28 : decode cX9_takeNew 28 = .ok (.getfield 9, 3) := by decide +kernel
theorem dX9_takeNew_31 : decode cX9_takeNew 31 = .ok (.getfield 140, 3) := by decide +kernel
theorem dX9_takeNew_34 : decode cX9_takeNew 34 = .ok (.bipush 7, 2) := by decide +kernel
theorem dX9_takeNew_36 : decode cX9_takeNew 36 = .ok (.dup2, 1) := by decide +kernel
theorem dX9_takeNew_37 : decode cX9_takeNew 37 = .ok (.iaload, 1) := by decide +kernel
theorem dX9_takeNew_38 : decode cX9_takeNew 38 = .ok (.iload_n 2, 1) := by decide +kernel
theorem dX9_takeNew_39 : decode cX9_takeNew 39 = .ok (.iadd, 1) := by decide +kernel
theorem dX9_takeNew_40 : decode cX9_takeNew 40 = .ok (.iastore, 1) := by decide +kernel
theorem dX9_takeNew_41 : decode cX9_takeNew 41 = .ok (.aload_n 1, 1) := by decide +kernel
theorem dX9_takeNew_42 : decode cX9_takeNew 42 = .ok (.getfield 49, 3) := by decide +kernel
theorem dX9_takeNew_45 : decode cX9_takeNew 45 = .ok (.aload_n 0, 1) := by decide +kernel
theorem dX9_takeNew_46 : decode cX9_takeNew 46 = .ok (.getfield 23, 3) := by decide +kernel
theorem dX9_takeNew_49 : decode cX9_takeNew 49 = .ok (.getfield 181, 3) := by decide +kernel
theorem dX9_takeNew_52 : decode cX9_takeNew 52 = .ok (.aload_n 0, 1) := by decide +kernel
theorem dX9_takeNew_53 : decode cX9_takeNew 53 = .ok (.getfield 9, 3) := by decide +kernel
theorem dX9_takeNew_56 : decode cX9_takeNew 56 = .ok (.getfield 147, 3) := by decide +kernel
theorem dX9_takeNew_59 : decode cX9_takeNew 59 = .ok (.invokevirtual 231, 3) := by decide +kernel
theorem dX9_takeNew_62 : decode cX9_takeNew 62 = .ok (.aload_n 1, 1) := by decide +kernel
theorem dX9_takeNew_63 : decode cX9_takeNew 63 = .ok (.getfield 36, 3) := by decide +kernel
theorem dX9_takeNew_66 : decode cX9_takeNew 66 = .ok (.iconst 1, 1) := by decide +kernel
theorem dX9_takeNew_67 : decode cX9_takeNew 67 = .ok (.if_icmp .eq 11, 3) := by decide +kernel
theorem dX9_takeNew_70 : decode cX9_takeNew 70 = .ok (.aload_n 1, 1) := by decide +kernel
theorem dX9_takeNew_71 : decode cX9_takeNew 71 = .ok (.getfield 49, 3) := by decide +kernel
theorem dX9_takeNew_74 : decode cX9_takeNew 74 = .ok (.iload_n 2, 1) := by decide +kernel
theorem dX9_takeNew_75 : decode cX9_takeNew 75 = .ok (.invokevirtual 234, 3) := by decide +kernel
theorem dX9_takeNew_78 : decode cX9_takeNew 78 = .ok (.aload_n 1, 1) := by decide +kernel
theorem dX9_takeNew_79 : decode cX9_takeNew 79 = .ok (.getfield 49, 3) := by decide +kernel
theorem dX9_takeNew_82 : decode cX9_takeNew 82 = .ok (.iconst 0, 1) := by decide +kernel
theorem dX9_takeNew_83 : decode cX9_takeNew 83 = .ok (.putfield 215, 3) := by decide +kernel
theorem dX9_takeNew_86 : decode cX9_takeNew 86 = .ok (.aload_n 1, 1) := by decide +kernel
theorem dX9_takeNew_87 : decode cX9_takeNew 87 = .ok (.getfield 49, 3) := by decide +kernel
theorem dX9_takeNew_90 : decode cX9_takeNew 90 = .ok (.iconst 0, 1) := by decide +kernel
theorem dX9_takeNew_91 : decode cX9_takeNew 91 = .ok (.putfield 237, 3) := by decide +kernel
theorem dX9_takeNew_94 : decode cX9_takeNew 94 = .ok (.aload_n 1, 1) := by decide +kernel
theorem dX9_takeNew_95 : decode cX9_takeNew 95 = .ok (.aload_n 0, 1) := by decide +kernel
theorem dX9_takeNew_96 : decode cX9_takeNew 96 = .ok (.getfield 23, 3) := by decide +kernel
theorem dX9_takeNew_99 : decode cX9_takeNew 99 = .ok (.getfield 181, 3) := by decide +kernel
theorem dX9_takeNew_102 : decode cX9_takeNew 102 = .ok (.putfield 194, 3) := by decide +kernel
theorem dX9_takeNew_105 : decode cX9_takeNew 105 = .ok (.aload_n 1, 1) := by decide +kernel
theorem dX9_takeNew_106 : decode cX9_takeNew 106 = .ok (.getfield 115, 3) := by decide +kernel
theorem dX9_takeNew_109 : decode cX9_takeNew 109 = .ok (.aload_n 1, 1) := by decide +kernel
theorem dX9_takeNew_110 : decode cX9_takeNew 110 = .ok (.getfield 194, 3) := by decide +kernel
theorem dX9_takeNew_113 : decode cX9_takeNew 113 = .ok (.isub, 1) := by decide +kernel
theorem dX9_takeNew_114 : decode cX9_takeNew 114 = .ok (.ifCond .ge 11, 3) := by decide +kernel
theorem dX9_takeNew_117 : decode cX9_takeNew 117 = .ok (.aload_n 1, 1) := by decide +kernel
theorem dX9_takeNew_118 : decode cX9_takeNew 118 = .ok (.aload_n 1, 1) := by decide +kernel
theorem dX9_takeNew_119 : decode cX9_takeNew 119 = .ok (.getfield 194, 3) := by decide +kernel
theorem dX9_takeNew_122 : decode cX9_takeNew 122 = .ok (.putfield 115, 3) := by decide +kernel
theorem dX9_takeNew_125 : decode cX9_takeNew 125 = .ok (.aload_n 1, 1) := by decide +kernel
theorem dX9_takeNew_126 : decode cX9_takeNew 126 = .ok (.getfield 49, 3) := by decide +kernel
theorem dX9_takeNew_129 : decode cX9_takeNew 129 = .ok (.aload_n 1, 1) := by decide +kernel
theorem dX9_takeNew_130 : decode cX9_takeNew 130 = .ok (.getfield 194, 3) := by decide +kernel
theorem dX9_takeNew_133 : decode cX9_takeNew 133 = .ok (.aload_n 1, 1) := by decide +kernel
theorem dX9_takeNew_134 : decode cX9_takeNew 134 = .ok (.getfield 191, 3) := by decide +kernel
theorem dX9_takeNew_137 : decode cX9_takeNew 137 = .ok (.isub, 1) := by decide +kernel
theorem dX9_takeNew_138 : decode cX9_takeNew 138 = .ok (.ifCond .ge 21, 3) := by decide +kernel
theorem dX9_takeNew_141 : decode cX9_takeNew 141 = .ok (.aload_n 0, 1) := by decide +kernel
theorem dX9_takeNew_142 : decode cX9_takeNew 142 = .ok (.getfield 9, 3) := by decide +kernel
theorem dX9_takeNew_145 : decode cX9_takeNew 145 = .ok (.getfield 147, 3) := by decide +kernel
theorem dX9_takeNew_148 : decode cX9_takeNew 148 = .ok (.aload_n 1, 1) := by decide +kernel
theorem dX9_takeNew_149 : decode cX9_takeNew 149 = .ok (.getfield 49, 3) := by decide +kernel
theorem dX9_takeNew_152 : decode cX9_takeNew 152 = .ok (.getfield 161, 3) := by decide +kernel
theorem dX9_takeNew_155 : decode cX9_takeNew 155 = .ok (.iadd, 1) := by decide +kernel
theorem dX9_takeNew_156 : decode cX9_takeNew 156 = .ok (.goto 5, 3) := by decide +kernel
theorem dX9_takeNew_159 : decode cX9_takeNew 159 = .ok (.ldc 48, 2) := by decide +kernel
theorem dX9_takeNew_161 : decode cX9_takeNew 161 = .ok (.putfield 53, 3) := by decide +kernel
theorem dX9_takeNew_164 : decode cX9_takeNew 164 = .ok (.aload_n 1, 1) := by decide +kernel
theorem dX9_takeNew_165 : decode cX9_takeNew 165 = .ok (.aload_n 0, 1) := by decide +kernel
theorem dX9_takeNew_166 : decode cX9_takeNew 166 = .ok (.getfield 9, 3) := by decide +kernel
theorem dX9_takeNew_169 : decode cX9_takeNew 169 = .ok (.getfield 147, 3) := by decide +kernel
theorem dX9_takeNew_172 : decode cX9_takeNew 172 = .ok (.putfield 172, 3) := by decide +kernel
theorem dX9_takeNew_175 : decode cX9_takeNew 175 = .ok (.return_, 1) := by decide +kernel
theorem wX9_takeNew_L161 {x : GX} {n0 sl0 : Nat} (X : Cx x cX9_takeNew RX9 none n0 sl0 2 40) {out : Mm} (hE : Ends x n0 sl0 none out) (hn : xn x = 3) (fu : Nat)   (a0 : Nat) (a1 : Option Nat) (s0 : Option Nat) (s1 : Int32) (M : Mm) (h : fX9_takeNew_L161 fu  a0 a1 s0 s1 M = some out) : Gw x M 161 [(0, pR (some a0)), (1, pR a1)] [pI s1, pR s0] := by
  unfold fX9_takeNew_L161 at h
  obtain ⟨M1, eM1, h⟩ := bd h
  refine g_putI X (pc := 161) fk_5_4 rfl rfl rfl eM1 tb_912 (Or.inl rfl) dX9_takeNew_161 ?_
  refine g_aload_n X (pc := 164) 1 rfl rfl dX9_takeNew_164 ?_
  refine g_aload_n X (pc := 165) 0 rfl rfl dX9_takeNew_165 ?_
  obtain ⟨v2, ev2, h⟩ := bd h
  refine g_getR X (pc := 166) fk_9_0 rfl rfl ev2 tb_234 dX9_takeNew_166 ?_
  obtain ⟨v3, ev3, h⟩ := bd h
  refine g_getI X (pc := 169) fk_10_1 rfl rfl ev3 tb_71 dX9_takeNew_169 ?_
  obtain ⟨M4, eM4, h⟩ := bd h
  refine g_putI X (pc := 172) fk_1_9 rfl rfl rfl eM4 tb_977 (Or.inl rfl) dX9_takeNew_172 ?_
  obtain rfl := Option.some.inj h
  exact g_return X hE dX9_takeNew_175
theorem wX9_takeNew_L125 {x : GX} {n0 sl0 : Nat} (X : Cx x cX9_takeNew RX9 none n0 sl0 2 40) {out : Mm} (hE : Ends x n0 sl0 none out) (hn : xn x = 3) (fu : Nat)   (a0 : Nat) (a1 : Option Nat)  (M : Mm) (h : fX9_takeNew_L125 fu  a0 a1 M = some out) : Gw x M 125 [(0, pR (some a0)), (1, pR a1)] [] := by
  unfold fX9_takeNew_L125 at h
  refine g_aload_n X (pc := 125) 1 rfl rfl dX9_takeNew_125 ?_
  obtain ⟨v1, ev1, h⟩ := bd h
  refine g_getR X (pc := 126) fk_1_17 rfl rfl ev1 tb_997 dX9_takeNew_126 ?_
  refine g_aload_n X (pc := 129) 1 rfl rfl dX9_takeNew_129 ?_
  obtain ⟨v2, ev2, h⟩ := bd h
  refine g_getI X (pc := 130) fk_1_4 rfl rfl ev2 tb_968 dX9_takeNew_130 ?_
  refine g_aload_n X (pc := 133) 1 rfl rfl dX9_takeNew_133 ?_
  obtain ⟨v3, ev3, h⟩ := bd h
  refine g_getI X (pc := 134) fk_1_6 rfl rfl ev3 tb_973 dX9_takeNew_134 ?_
  refine g_isub X (pc := 137) dX9_takeNew_137 ?_
  refine g_if_ge X (pc := 138) (tgt := 159) dX9_takeNew_138 (by decide) (fun hc => ?_) (fun hc => ?_)
  · have h := (if_pos hc).symm.trans h
    refine g_ldc X (pc := 159) tb_487 dX9_takeNew_159 ?_
    exact wX9_takeNew_L161 X hE hn fu   a0 a1 v1 (2147483647 : Int32) M h
  · have h := (if_neg hc).symm.trans h
    refine g_aload_n X (pc := 141) 0 rfl rfl dX9_takeNew_141 ?_
    obtain ⟨v4, ev4, h⟩ := bd h
    refine g_getR X (pc := 142) fk_9_0 rfl rfl ev4 tb_234 dX9_takeNew_142 ?_
    obtain ⟨v5, ev5, h⟩ := bd h
    refine g_getI X (pc := 145) fk_10_1 rfl rfl ev5 tb_71 dX9_takeNew_145 ?_
    refine g_aload_n X (pc := 148) 1 rfl rfl dX9_takeNew_148 ?_
    obtain ⟨v6, ev6, h⟩ := bd h
    refine g_getR X (pc := 149) fk_1_17 rfl rfl ev6 tb_997 dX9_takeNew_149 ?_
    obtain ⟨v7, ev7, h⟩ := bd h
    refine g_getI X (pc := 152) fk_5_3 rfl rfl ev7 tb_908 dX9_takeNew_152 ?_
    refine g_iadd X (pc := 155) dX9_takeNew_155 ?_
    refine g_goto X (pc := 156) (tgt := 161) dX9_takeNew_156 (by decide) ?_
    exact wX9_takeNew_L161 X hE hn fu   a0 a1 v1 (v5 + v7) M h
theorem wX9_takeNew_L78 {x : GX} {n0 sl0 : Nat} (X : Cx x cX9_takeNew RX9 none n0 sl0 2 40) {out : Mm} (hE : Ends x n0 sl0 none out) (hn : xn x = 3) (fu : Nat)   (a0 : Nat) (a1 : Option Nat)  (M : Mm) (h : fX9_takeNew_L78 fu  a0 a1 M = some out) : Gw x M 78 [(0, pR (some a0)), (1, pR a1)] [] := by
  unfold fX9_takeNew_L78 at h
  refine g_aload_n X (pc := 78) 1 rfl rfl dX9_takeNew_78 ?_
  obtain ⟨v1, ev1, h⟩ := bd h
  refine g_getR X (pc := 79) fk_1_17 rfl rfl ev1 tb_997 dX9_takeNew_79 ?_
  refine g_iconst X (pc := 82) (v := 0) dX9_takeNew_82 (by decide) ?_
  obtain ⟨M2, eM2, h⟩ := bd h
  refine g_putI X (pc := 83) fk_5_5 rfl rfl rfl eM2 tb_915 (Or.inl rfl) dX9_takeNew_83 ?_
  refine g_aload_n X (pc := 86) 1 rfl rfl dX9_takeNew_86 ?_
  obtain ⟨v3, ev3, h⟩ := bd h
  refine g_getR X (pc := 87) fk_1_17 rfl rfl ev3 tb_997 dX9_takeNew_87 ?_
  refine g_iconst X (pc := 90) (v := 0) dX9_takeNew_90 (by decide) ?_
  obtain ⟨M4, eM4, h⟩ := bd h
  refine g_putI X (pc := 91) fk_5_6 rfl rfl rfl eM4 tb_918 (Or.inl rfl) dX9_takeNew_91 ?_
  refine g_aload_n X (pc := 94) 1 rfl rfl dX9_takeNew_94 ?_
  refine g_aload_n X (pc := 95) 0 rfl rfl dX9_takeNew_95 ?_
  obtain ⟨v5, ev5, h⟩ := bd h
  refine g_getR X (pc := 96) fk_9_3 rfl rfl ev5 tb_237 dX9_takeNew_96 ?_
  obtain ⟨v6, ev6, h⟩ := bd h
  refine g_getI X (pc := 99) fk_3_5 rfl rfl ev6 tb_173 dX9_takeNew_99 ?_
  obtain ⟨M7, eM7, h⟩ := bd h
  refine g_putI X (pc := 102) fk_1_4 rfl rfl rfl eM7 tb_968 (Or.inl rfl) dX9_takeNew_102 ?_
  refine g_aload_n X (pc := 105) 1 rfl rfl dX9_takeNew_105 ?_
  obtain ⟨v8, ev8, h⟩ := bd h
  refine g_getI X (pc := 106) fk_1_5 rfl rfl ev8 tb_970 dX9_takeNew_106 ?_
  refine g_aload_n X (pc := 109) 1 rfl rfl dX9_takeNew_109 ?_
  obtain ⟨v9, ev9, h⟩ := bd h
  refine g_getI X (pc := 110) fk_1_4 rfl rfl ev9 tb_968 dX9_takeNew_110 ?_
  refine g_isub X (pc := 113) dX9_takeNew_113 ?_
  refine g_if_ge X (pc := 114) (tgt := 125) dX9_takeNew_114 (by decide) (fun hc => ?_) (fun hc => ?_)
  · have h := (if_pos hc).symm.trans h
    exact wX9_takeNew_L125 X hE hn fu   a0 a1 M7 h
  · have h := (if_neg hc).symm.trans h
    refine g_aload_n X (pc := 117) 1 rfl rfl dX9_takeNew_117 ?_
    refine g_aload_n X (pc := 118) 1 rfl rfl dX9_takeNew_118 ?_
    obtain ⟨v10, ev10, h⟩ := bd h
    refine g_getI X (pc := 119) fk_1_4 rfl rfl ev10 tb_968 dX9_takeNew_119 ?_
    obtain ⟨M11, eM11, h⟩ := bd h
    refine g_putI X (pc := 122) fk_1_5 rfl rfl rfl eM11 tb_970 (Or.inl rfl) dX9_takeNew_122 ?_
    exact wX9_takeNew_L125 X hE hn fu   a0 a1 M11 h
theorem wX9_takeNew {x : GX} {n0 sl0 : Nat} (X : Cx x cX9_takeNew RX9 none n0 sl0 2 40) {out : Mm} (hE : Ends x n0 sl0 none out) (hn : xn x = 3) (fu : Nat)   (a0 : Nat) (a1 : Option Nat)  (M : Mm) (h : fX9_takeNew fu  a0 a1 M = some out) : Gw x M 0 [(0, pR (some a0)), (1, pR a1)] [] := by
  unfold fX9_takeNew at h
  refine g_aload_n X (pc := 0) 0 rfl rfl dX9_takeNew_0 ?_
  obtain ⟨v1, ev1, h⟩ := bd h
  refine g_getR X (pc := 1) fk_9_3 rfl rfl ev1 tb_237 dX9_takeNew_1 ?_
  obtain ⟨v2, ev2, h⟩ := bd h
  refine g_getI X (pc := 4) fk_3_5 rfl rfl ev2 tb_173 dX9_takeNew_4 ?_
  refine g_aload_n X (pc := 7) 1 rfl rfl dX9_takeNew_7 ?_
  obtain ⟨v3, ev3, h⟩ := bd h
  refine g_getI X (pc := 8) fk_1_4 rfl rfl ev3 tb_968 dX9_takeNew_8 ?_
  refine g_isub X (pc := 11) dX9_takeNew_11 ?_
  refine g_istore_n X (pc := 12) [(2, pI (v2 - v3)), (0, pR (some a0)), (1, pR a1)] rfl (lt_n hn (by decide)) rfl dX9_takeNew_12 ?_
  refine g_aload_n X (pc := 13) 1 rfl rfl dX9_takeNew_13 ?_
  obtain ⟨v4, ev4, h⟩ := bd h
  refine g_getR X (pc := 14) fk_9_0 rfl rfl ev4 tb_234 dX9_takeNew_14 ?_
  obtain ⟨v5, ev5, h⟩ := bd h
  refine g_getR X (pc := 17) fk_10_0 rfl rfl ev5 tb_65 dX9_takeNew_17 ?_
  refine g_bipush X (pc := 20) (v := 6) dX9_takeNew_20 (by decide) ?_
  refine g_dup2 X (pc := 22) rfl rfl dX9_takeNew_22 ?_
  obtain ⟨v6, ev6, h⟩ := bd h
  refine g_iaload X (pc := 23) ev6 dX9_takeNew_23 ?_
  refine g_iconst X (pc := 24) (v := 1) dX9_takeNew_24 (by decide) ?_
  refine g_iadd X (pc := 25) dX9_takeNew_25 ?_
  obtain ⟨M7, eM7, h⟩ := bd h
  refine g_iastore X (pc := 26) eM7 dX9_takeNew_26 ?_
  refine g_aload_n X (pc := 27) 1 rfl rfl dX9_takeNew_27 ?_
  obtain ⟨v8, ev8, h⟩ := bd h
  refine g_getR X (pc := 28) fk_9_0 rfl rfl ev8 tb_234 dX9_takeNew_28 ?_
  obtain ⟨v9, ev9, h⟩ := bd h
  refine g_getR X (pc := 31) fk_10_0 rfl rfl ev9 tb_65 dX9_takeNew_31 ?_
  refine g_bipush X (pc := 34) (v := 7) dX9_takeNew_34 (by decide) ?_
  refine g_dup2 X (pc := 36) rfl rfl dX9_takeNew_36 ?_
  obtain ⟨v10, ev10, h⟩ := bd h
  refine g_iaload X (pc := 37) ev10 dX9_takeNew_37 ?_
  refine g_iload_n X (pc := 38) 0 rfl rfl dX9_takeNew_38 ?_
  refine g_iadd X (pc := 39) dX9_takeNew_39 ?_
  obtain ⟨M11, eM11, h⟩ := bd h
  refine g_iastore X (pc := 40) eM11 dX9_takeNew_40 ?_
  refine g_aload_n X (pc := 41) 2 rfl rfl dX9_takeNew_41 ?_
  obtain ⟨v12, ev12, h⟩ := bd h
  refine g_getR X (pc := 42) fk_1_17 rfl rfl ev12 tb_997 dX9_takeNew_42 ?_
  refine g_aload_n X (pc := 45) 1 rfl rfl dX9_takeNew_45 ?_
  obtain ⟨v13, ev13, h⟩ := bd h
  refine g_getR X (pc := 46) fk_9_3 rfl rfl ev13 tb_237 dX9_takeNew_46 ?_
  obtain ⟨v14, ev14, h⟩ := bd h
  refine g_getI X (pc := 49) fk_3_5 rfl rfl ev14 tb_173 dX9_takeNew_49 ?_
  refine g_aload_n X (pc := 52) 1 rfl rfl dX9_takeNew_52 ?_
  obtain ⟨v15, ev15, h⟩ := bd h
  refine g_getR X (pc := 53) fk_9_0 rfl rfl ev15 tb_234 dX9_takeNew_53 ?_
  obtain ⟨v16, ev16, h⟩ := bd h
  refine g_getI X (pc := 56) fk_10_1 rfl rfl ev16 tb_71 dX9_takeNew_56 ?_
  obtain ⟨q17, eq17, h⟩ := bd h
  obtain ⟨M18, eM18, h⟩ := bd h
  refine g_callV X (pc := 59) (M' := M18) (ro := none) (c := 5) rfl (by decide) (as := [pI v14, pI v16]) (as' := [pI v16, pI v14]) (st := []) eq17 (ctX5_endTiming _ _ _ _ _ _ fu q17 v14 v16 M11 _ eM18) tb_1098 tb_1095 tb_1096 tb_1097 tb_20 ⟨rfl, hyX5_endTiming⟩ rfl rfl ⟨by decide, by decide⟩ (Nat.le_of_ble_eq_true rfl) dX9_takeNew_59 ?_
  refine g_aload_n X (pc := 62) 2 rfl rfl dX9_takeNew_62 ?_
  obtain ⟨v19, ev19, h⟩ := bd h
  refine g_getI X (pc := 63) fk_1_0 rfl rfl ev19 tb_959 dX9_takeNew_63 ?_
  refine g_iconst X (pc := 66) (v := 1) dX9_takeNew_66 (by decide) ?_
  refine g_icmp_eq X (pc := 67) (tgt := 78) dX9_takeNew_67 (by decide) (fun hc => ?_) (fun hc => ?_)
  · have h := (if_pos hc).symm.trans h
    refine g_sub [1, 2] [(0, pR (some a0)), (1, pR a1)] rfl ?_
    exact wX9_takeNew_L78 X hE hn fu   a0 a1 M18 h
  · have h := (if_neg hc).symm.trans h
    refine g_aload_n X (pc := 70) 2 rfl rfl dX9_takeNew_70 ?_
    obtain ⟨v20, ev20, h⟩ := bd h
    refine g_getR X (pc := 71) fk_1_17 rfl rfl ev20 tb_997 dX9_takeNew_71 ?_
    refine g_iload_n X (pc := 74) 0 rfl rfl dX9_takeNew_74 ?_
    obtain ⟨q21, eq21, h⟩ := bd h
    obtain ⟨M22, eM22, h⟩ := bd h
    refine g_callV X (pc := 75) (M' := M22) (ro := none) (c := 5) rfl (by decide) (as := [pI (v2 - v3)]) (as' := [pI (v2 - v3)]) (st := []) eq21 (ctX5_grow _ _ _ _ _ _ fu q21 (v2 - v3) M18 _ eM22) tb_1105 tb_1102 tb_1103 tb_1104 tb_20 ⟨rfl, hyX5_grow⟩ rfl rfl ⟨by decide, by decide⟩ (Nat.le_of_ble_eq_true rfl) dX9_takeNew_75 ?_
    refine g_sub [1, 2] [(0, pR (some a0)), (1, pR a1)] rfl ?_
    exact wX9_takeNew_L78 X hE hn fu   a0 a1 M22 h
theorem hyX9_takeNew : yX9_takeNew.cls ≠ "java/lang/invoke/MethodHandle" ∧ yX9_takeNew.cls ≠ "java/lang/invoke/VarHandle" ∧ (parseMethodDescriptor yX9_takeNew.desc).map (fun d => d.parameters.length) = some 1 := ⟨by decide +kernel, by decide +kernel, by decide +kernel⟩
theorem ctX9_takeNew (l : Launch) (E : Nat → Nat) (D : va_G) (dA : Nat → ClassId) (lo : Nat) (H0 : Heap) (fu : Nat) (a0 : Nat) (a1 : Option Nat) (M : Mm) (out : Mm) (h : fX9_takeNew fu a0 a1 M = some out) : Ct l E D dA lo H0 yX9_takeNew cX9_takeNew 3 none 2 40 [pR (some a0), pR a1] M none out := by
  refine ct_of (by decide +kernel) (Nat.le_of_ble_eq_true rfl) ?_
  intro x hl he hd ha ho hh hn hin X hE
  exact wX9_takeNew X hE hn fu a0 a1 M h
/-! WebHost$Tcp.isOpened(LWebHost$Connection;)Z -/
def fX9_isOpened (fu : Nat)  (a0 : Nat) (a1 : Option Nat)  (M : Mm) : Option (Int32 × Mm) :=
    (gR M 9 579 (some a0)).bind fun v1 =>
    (gI M 3 197 v1).bind fun v2 =>
    (gI M 1 67 a1).bind fun v3 =>
    if v2 = (v3 + (1 : Int32)) then (
    (rc M 9 (some a0)).bind fun q4 =>
    (fX9_takeNew fu q4 a1 M).bind fun M5 =>
    (gR M5 9 579 (some a0)).bind fun v6 =>
    (rc M5 1 a1).bind fun q7 =>
    (fX1_takeWindow fu q7 v6 M5).bind fun M8 =>
    (pF M8 1 64 a1 (2 : Int32)).bind fun M9 =>
    rN .boolean (1 : Int32) M9)
    else (
    (rc M 9 (some a0)).bind fun q10 =>
    (fX9_reset fu q10  M).bind fun M11 =>
    rN .boolean (0 : Int32) M11)
theorem dX9_isOpened_0 : decode cX9_isOpened 0 = .ok (.aload_n 0, 1) := by decide +kernel
theorem dX9_isOpened_1 : decode cX9_isOpened 1 = .ok (.getfield 23, 3) := by decide +kernel
theorem dX9_isOpened_4 : decode cX9_isOpened 4 = .ok (.getfield 181, 3) := by decide +kernel
theorem dX9_isOpened_7 : decode cX9_isOpened 7 = .ok (.aload_n 1, 1) := by decide +kernel
theorem dX9_isOpened_8 : decode cX9_isOpened 8 = .ok (.getfield 154, 3) := by decide +kernel
theorem dX9_isOpened_11 : decode cX9_isOpened 11 = .ok (.iconst 1, 1) := by decide +kernel
theorem dX9_isOpened_12 : decode cX9_isOpened 12 = .ok (.iadd, 1) := by decide +kernel
theorem dX9_isOpened_13 : decode cX9_isOpened 13 = .ok (.if_icmp .eq 9, 3) := by decide +kernel
theorem dX9_isOpened_16 : decode cX9_isOpened 16 = .ok (.aload_n 0, 1) := by decide +kernel
theorem dX9_isOpened_17 : decode cX9_isOpened 17 = .ok (.invokevirtual 95, 3) := by decide +kernel
theorem dX9_isOpened_20 : decode cX9_isOpened 20 = .ok (.iconst 0, 1) := by decide +kernel
theorem dX9_isOpened_21 : decode cX9_isOpened 21 = .ok (.ireturn, 1) := by decide +kernel
theorem dX9_isOpened_22 : decode cX9_isOpened 22 = .ok (.aload_n 0, 1) := by decide +kernel
theorem dX9_isOpened_23 : decode cX9_isOpened 23 = .ok (.aload_n 1, 1) := by decide +kernel
theorem dX9_isOpened_24 : decode cX9_isOpened 24 = .ok (.invokevirtual 184, 3) := by decide +kernel
theorem dX9_isOpened_27 : decode cX9_isOpened 27 = .ok (.aload_n 1, 1) := by decide +kernel
theorem dX9_isOpened_28 : decode cX9_isOpened 28 = .ok (.aload_n 0, 1) := by decide +kernel
theorem dX9_isOpened_29 : decode cX9_isOpened 29 = .ok (.getfield 23, 3) := by decide +kernel
theorem dX9_isOpened_32 : decode cX9_isOpened 32 = .ok (.invokevirtual 187, 3) := by decide +kernel
theorem dX9_isOpened_35 : decode cX9_isOpened 35 = .ok (.aload_n 1, 1) := by decide +kernel
theorem dX9_isOpened_36 : decode cX9_isOpened 36 = .ok (.iconst 2, 1) := by decide +kernel
theorem dX9_isOpened_37 : decode cX9_isOpened 37 = .ok (.putfield 36, 3) := by decide +kernel
theorem dX9_isOpened_40 : decode cX9_isOpened 40 = .ok (.iconst 1, 1) := by decide +kernel
theorem dX9_isOpened_41 : decode cX9_isOpened 41 = .ok (.ireturn, 1) := by decide +kernel
theorem wX9_isOpened {x : GX} {n0 sl0 : Nat} (X : Cx x cX9_isOpened RX9 (some .boolean) n0 sl0 5 112) {out : Int32 × Mm} (hE : Ends x n0 sl0 (some (pI out.1)) out.2) (hn : xn x = 2) (fu : Nat)   (a0 : Nat) (a1 : Option Nat)  (M : Mm) (h : fX9_isOpened fu  a0 a1 M = some out) : Gw x M 0 [(0, pR (some a0)), (1, pR a1)] [] := by
  unfold fX9_isOpened at h
  refine g_aload_n X (pc := 0) 0 rfl rfl dX9_isOpened_0 ?_
  obtain ⟨v1, ev1, h⟩ := bd h
  refine g_getR X (pc := 1) fk_9_3 rfl rfl ev1 tb_237 dX9_isOpened_1 ?_
  obtain ⟨v2, ev2, h⟩ := bd h
  refine g_getI X (pc := 4) fk_3_5 rfl rfl ev2 tb_173 dX9_isOpened_4 ?_
  refine g_aload_n X (pc := 7) 1 rfl rfl dX9_isOpened_7 ?_
  obtain ⟨v3, ev3, h⟩ := bd h
  refine g_getI X (pc := 8) fk_1_3 rfl rfl ev3 tb_966 dX9_isOpened_8 ?_
  refine g_iconst X (pc := 11) (v := 1) dX9_isOpened_11 (by decide) ?_
  refine g_iadd X (pc := 12) dX9_isOpened_12 ?_
  refine g_icmp_eq X (pc := 13) (tgt := 22) dX9_isOpened_13 (by decide) (fun hc => ?_) (fun hc => ?_)
  · have h := (if_pos hc).symm.trans h
    refine g_aload_n X (pc := 22) 0 rfl rfl dX9_isOpened_22 ?_
    refine g_aload_n X (pc := 23) 1 rfl rfl dX9_isOpened_23 ?_
    obtain ⟨q4, eq4, h⟩ := bd h
    obtain ⟨M5, eM5, h⟩ := bd h
    refine g_callV X (pc := 24) (M' := M5) (ro := none) (c := 9) rfl (by decide) (as := [pR a1]) (as' := [pR a1]) (st := []) eq4 (ctX9_takeNew _ _ _ _ _ _ fu q4 a1 M _ eM5) tb_1094 tb_1091 tb_1093 ts_34 tb_6 ⟨rfl, hyX9_takeNew⟩ rfl rfl ⟨by decide, by decide⟩ (Nat.le_of_ble_eq_true rfl) dX9_isOpened_24 ?_
    refine g_aload_n X (pc := 27) 1 rfl rfl dX9_isOpened_27 ?_
    refine g_aload_n X (pc := 28) 0 rfl rfl dX9_isOpened_28 ?_
    obtain ⟨v6, ev6, h⟩ := bd h
    refine g_getR X (pc := 29) fk_9_3 rfl rfl ev6 tb_237 dX9_isOpened_29 ?_
    obtain ⟨q7, eq7, h⟩ := bd h
    obtain ⟨M8, eM8, h⟩ := bd h
    refine g_callV X (pc := 32) (M' := M8) (ro := none) (c := 1) rfl (by decide) (as := [pR v6]) (as' := [pR v6]) (st := []) eq7 (ctX1_takeWindow _ _ _ _ _ _ fu q7 v6 M5 _ eM8) tb_1109 tb_1106 tb_1107 tb_1108 tb_18 ⟨rfl, hyX1_takeWindow⟩ rfl rfl ⟨by decide, by decide⟩ (Nat.le_of_ble_eq_true rfl) dX9_isOpened_32 ?_
    refine g_aload_n X (pc := 35) 1 rfl rfl dX9_isOpened_35 ?_
    refine g_iconst X (pc := 36) (v := 2) dX9_isOpened_36 (by decide) ?_
    obtain ⟨M9, eM9, h⟩ := bd h
    refine g_putI X (pc := 37) fk_1_0 rfl rfl rfl eM9 tb_959 (Or.inl rfl) dX9_isOpened_37 ?_
    refine g_iconst X (pc := 40) (v := 1) dX9_isOpened_40 (by decide) ?_
    obtain ⟨hz, rfl⟩ := rN_some h
    exact g_nreturn X rfl hz hE dX9_isOpened_41
  · have h := (if_neg hc).symm.trans h
    refine g_aload_n X (pc := 16) 0 rfl rfl dX9_isOpened_16 ?_
    obtain ⟨q10, eq10, h⟩ := bd h
    obtain ⟨M11, eM11, h⟩ := bd h
    refine g_callV X (pc := 17) (M' := M11) (ro := none) (c := 9) rfl (by decide) (as := []) (as' := []) (st := []) eq10 (ctX9_reset _ _ _ _ _ _ fu q10  M _ eM11) tb_839 tb_836 tb_838 ts_30 tb_6 ⟨rfl, hyX9_reset⟩ rfl rfl ⟨by decide, by decide⟩ (Nat.le_of_ble_eq_true rfl) dX9_isOpened_17 ?_
    refine g_iconst X (pc := 20) (v := 0) dX9_isOpened_20 (by decide) ?_
    obtain ⟨hz, rfl⟩ := rN_some h
    exact g_nreturn X rfl hz hE dX9_isOpened_21
theorem hyX9_isOpened : yX9_isOpened.cls ≠ "java/lang/invoke/MethodHandle" ∧ yX9_isOpened.cls ≠ "java/lang/invoke/VarHandle" ∧ (parseMethodDescriptor yX9_isOpened.desc).map (fun d => d.parameters.length) = some 1 := ⟨by decide +kernel, by decide +kernel, by decide +kernel⟩
theorem ctX9_isOpened (l : Launch) (E : Nat → Nat) (D : va_G) (dA : Nat → ClassId) (lo : Nat) (H0 : Heap) (fu : Nat) (a0 : Nat) (a1 : Option Nat) (M : Mm) (out : Int32 × Mm) (h : fX9_isOpened fu a0 a1 M = some out) : Ct l E D dA lo H0 yX9_isOpened cX9_isOpened 2 (some .boolean) 5 112 [pR (some a0), pR a1] M (some (pI out.1)) out.2 := by
  refine ct_of (by decide +kernel) (Nat.le_of_ble_eq_true rfl) ?_
  intro x hl he hd ha ho hh hn hin X hE
  exact wX9_isOpened X hE hn fu a0 a1 M h
/-! WebHost$Tcp.isDuplicate(LWebHost$Connection;)Z -/
def fX9_isDuplicate (fu : Nat)  (a0 : Nat) (a1 : Option Nat)  (M : Mm) : Option (Int32 × Mm) :=
    (gR M 9 579 (some a0)).bind fun v1 =>
    (gI M 3 197 v1).bind fun v2 =>
    (gI M 1 68 a1).bind fun v3 =>
    if v2 = v3 then (
    (gR M 9 579 (some a0)).bind fun v4 =>
    (rc M 3 v4).bind fun q5 =>
    b2 (fX3_span fu q5  M) fun v7 M6 =>
    if v7 = 0 then (
    (gR M6 9 579 (some a0)).bind fun v8 =>
    (gI M6 3 199 v8).bind fun v9 =>
    (gI M6 1 71 a1).bind fun v10 =>
    if v9 = v10 then (
    (gI M6 1 68 a1).bind fun v11 =>
    (gI M6 1 70 a1).bind fun v12 =>
    if 0 ≤ (v11 - v12) then (
    rN .boolean (0 : Int32) M6)
    else (
    rN .boolean (1 : Int32) M6))
    else (
    rN .boolean (0 : Int32) M6))
    else (
    rN .boolean (0 : Int32) M6))
    else (
    rN .boolean (0 : Int32) M)
theorem dX9_isDuplicate_0 : decode cX9_isDuplicate 0 = .ok (.aload_n 0, 1) := by decide +kernel
theorem dX9_isDuplicate_1 : decode cX9_isDuplicate 1 = .ok (.getfield 23, 3) := by decide +kernel
theorem dX9_isDuplicate_4 : decode cX9_isDuplicate 4 = .ok (.getfield 181, 3) := by decide +kernel
theorem dX9_isDuplicate_7 : decode cX9_isDuplicate 7 = .ok (.aload_n 1, 1) := by decide +kernel
theorem dX9_isDuplicate_8 : decode cX9_isDuplicate 8 = .ok (.getfield 194, 3) := by decide +kernel
theorem dX9_isDuplicate_11 : decode cX9_isDuplicate 11 = .ok (.if_icmp .ne 43, 3) := by decide +kernel
theorem dX9_isDuplicate_14 : decode cX9_isDuplicate 14 = .ok (.aload_n 0, 1) := by decide +kernel
theorem dX9_isDuplicate_15 : decode cX9_isDuplicate 15 = .ok (.getfield 23, 3) := by decide +kernel
theorem dX9_isDuplicate_18 : decode cX9_isDuplicate 18 = .ok (.invokevirtual 227, 3) := by decide +kernel
theorem dX9_isDuplicate_21 : decode cX9_isDuplicate 21 = .ok (.ifCond .ne 33, 3) := by decide +kernel
theorem dX9_isDuplicate_24 : decode cX9_isDuplicate 24 = .ok (.aload_n 0, 1) := by decide +kernel
theorem dX9_isDuplicate_25 : decode cX9_isDuplicate 25 = .ok (.getfield 23, 3) := by decide +kernel
theorem dX9_isDuplicate_28 : decode cX9_isDuplicate 28 = .ok (.getfield 230, 3) := by decide +kernel
theorem dX9_isDuplicate_31 : decode cX9_isDuplicate 31 = .ok (.aload_n 1, 1) := by decide +kernel
theorem dX9_isDuplicate_32 : decode cX9_isDuplicate 32 = .ok (.getfield 212, 3) := by decide +kernel
theorem dX9_isDuplicate_35 : decode cX9_isDuplicate 35 = .ok (.if_icmp .ne 19, 3) := by decide +kernel
theorem dX9_isDuplicate_38 : decode cX9_isDuplicate 38 = .ok (.aload_n 1, 1) := by decide +kernel
theorem dX9_isDuplicate_39 : decode cX9_isDuplicate 39 = .ok (.getfield 194, 3) := by decide +kernel
theorem dX9_isDuplicate_42 : decode cX9_isDuplicate 42 = .ok (.aload_n 1, 1) := by decide +kernel
theorem dX9_isDuplicate_43 : decode cX9_isDuplicate 43 = .ok (.getfield 191, 3) := by decide +kernel
theorem dX9_isDuplicate_46 : decode cX9_isDuplicate 46 = .ok (.isub, 1) := by decide +kernel
theorem dX9_isDuplicate_47 : decode cX9_isDuplicate 47 = .ok (.ifCond .ge 7, 3) := by decide +kernel
theorem dX9_isDuplicate_50 : decode cX9_isDuplicate 50 = .ok (.iconst 1, 1) := by decide +kernel
theorem dX9_isDuplicate_51 : decode cX9_isDuplicate 51 = .ok (.goto 4, 3) := by decide +kernel
theorem dX9_isDuplicate_54 : decode cX9_isDuplicate 54 = .ok (.iconst 0, 1) := by decide +kernel
theorem dX9_isDuplicate_55 : decode cX9_isDuplicate 55 = .ok (.ireturn, 1) := by decide +kernel
theorem wX9_isDuplicate {x : GX} {n0 sl0 : Nat} (X : Cx x cX9_isDuplicate RX9 (some .boolean) n0 sl0 2 41) {out : Int32 × Mm} (hE : Ends x n0 sl0 (some (pI out.1)) out.2) (hn : xn x = 2) (fu : Nat)   (a0 : Nat) (a1 : Option Nat)  (M : Mm) (h : fX9_isDuplicate fu  a0 a1 M = some out) : Gw x M 0 [(0, pR (some a0)), (1, pR a1)] [] := by
  unfold fX9_isDuplicate at h
  refine g_aload_n X (pc := 0) 0 rfl rfl dX9_isDuplicate_0 ?_
  obtain ⟨v1, ev1, h⟩ := bd h
  refine g_getR X (pc := 1) fk_9_3 rfl rfl ev1 tb_237 dX9_isDuplicate_1 ?_
  obtain ⟨v2, ev2, h⟩ := bd h
  refine g_getI X (pc := 4) fk_3_5 rfl rfl ev2 tb_173 dX9_isDuplicate_4 ?_
  refine g_aload_n X (pc := 7) 1 rfl rfl dX9_isDuplicate_7 ?_
  obtain ⟨v3, ev3, h⟩ := bd h
  refine g_getI X (pc := 8) fk_1_4 rfl rfl ev3 tb_968 dX9_isDuplicate_8 ?_
  refine g_icmp_ne X (pc := 11) (tgt := 54) dX9_isDuplicate_11 (by decide) (fun hc => ?_) (fun hc => ?_)
  · have h := (if_neg hc).symm.trans h
    refine g_iconst X (pc := 54) (v := 0) dX9_isDuplicate_54 (by decide) ?_
    obtain ⟨hz, rfl⟩ := rN_some h
    exact g_nreturn X rfl hz hE dX9_isDuplicate_55
  · have h := (if_pos hc).symm.trans h
    refine g_aload_n X (pc := 14) 0 rfl rfl dX9_isDuplicate_14 ?_
    obtain ⟨v4, ev4, h⟩ := bd h
    refine g_getR X (pc := 15) fk_9_3 rfl rfl ev4 tb_237 dX9_isDuplicate_15 ?_
    obtain ⟨q5, eq5, h⟩ := bd h
    obtain ⟨v7, M6, eM6, h⟩ := b2d h
    refine g_callV X (pc := 18) (M' := M6) (ro := some (pI v7)) (c := 3) rfl (by decide) (as := []) (as' := []) (st := []) eq5 (ctX3_span _ _ _ _ _ _ fu q5  M _ eM6) tb_843 tb_840 tb_841 tb_842 tb_5 ⟨rfl, hyX3_span⟩ rfl rfl ⟨by decide, by decide⟩ (Nat.le_of_ble_eq_true rfl) dX9_isDuplicate_18 ?_
    refine g_if_ne X (pc := 21) (tgt := 54) dX9_isDuplicate_21 (by decide) (fun hc => ?_) (fun hc => ?_)
    · have h := (if_neg hc).symm.trans h
      refine g_iconst X (pc := 54) (v := 0) dX9_isDuplicate_54 (by decide) ?_
      obtain ⟨hz, rfl⟩ := rN_some h
      exact g_nreturn X rfl hz hE dX9_isDuplicate_55
    · have h := (if_pos hc).symm.trans h
      refine g_aload_n X (pc := 24) 0 rfl rfl dX9_isDuplicate_24 ?_
      obtain ⟨v8, ev8, h⟩ := bd h
      refine g_getR X (pc := 25) fk_9_3 rfl rfl ev8 tb_237 dX9_isDuplicate_25 ?_
      obtain ⟨v9, ev9, h⟩ := bd h
      refine g_getI X (pc := 28) fk_3_7 rfl rfl ev9 tb_178 dX9_isDuplicate_28 ?_
      refine g_aload_n X (pc := 31) 1 rfl rfl dX9_isDuplicate_31 ?_
      obtain ⟨v10, ev10, h⟩ := bd h
      refine g_getI X (pc := 32) fk_1_7 rfl rfl ev10 tb_975 dX9_isDuplicate_32 ?_
      refine g_icmp_ne X (pc := 35) (tgt := 54) dX9_isDuplicate_35 (by decide) (fun hc => ?_) (fun hc => ?_)
      · have h := (if_neg hc).symm.trans h
        refine g_iconst X (pc := 54) (v := 0) dX9_isDuplicate_54 (by decide) ?_
        obtain ⟨hz, rfl⟩ := rN_some h
        exact g_nreturn X rfl hz hE dX9_isDuplicate_55
      · have h := (if_pos hc).symm.trans h
        refine g_aload_n X (pc := 38) 1 rfl rfl dX9_isDuplicate_38 ?_
        obtain ⟨v11, ev11, h⟩ := bd h
        refine g_getI X (pc := 39) fk_1_4 rfl rfl ev11 tb_968 dX9_isDuplicate_39 ?_
        refine g_aload_n X (pc := 42) 1 rfl rfl dX9_isDuplicate_42 ?_
        obtain ⟨v12, ev12, h⟩ := bd h
        refine g_getI X (pc := 43) fk_1_6 rfl rfl ev12 tb_973 dX9_isDuplicate_43 ?_
        refine g_isub X (pc := 46) dX9_isDuplicate_46 ?_
        refine g_if_ge X (pc := 47) (tgt := 54) dX9_isDuplicate_47 (by decide) (fun hc => ?_) (fun hc => ?_)
        · have h := (if_pos hc).symm.trans h
          refine g_iconst X (pc := 54) (v := 0) dX9_isDuplicate_54 (by decide) ?_
          obtain ⟨hz, rfl⟩ := rN_some h
          exact g_nreturn X rfl hz hE dX9_isDuplicate_55
        · have h := (if_neg hc).symm.trans h
          refine g_iconst X (pc := 50) (v := 1) dX9_isDuplicate_50 (by decide) ?_
          refine g_goto X (pc := 51) (tgt := 55) dX9_isDuplicate_51 (by decide) ?_
          obtain ⟨hz, rfl⟩ := rN_some h
          exact g_nreturn X rfl hz hE dX9_isDuplicate_55
theorem hyX9_isDuplicate : yX9_isDuplicate.cls ≠ "java/lang/invoke/MethodHandle" ∧ yX9_isDuplicate.cls ≠ "java/lang/invoke/VarHandle" ∧ (parseMethodDescriptor yX9_isDuplicate.desc).map (fun d => d.parameters.length) = some 1 := ⟨by decide +kernel, by decide +kernel, by decide +kernel⟩
theorem ctX9_isDuplicate (l : Launch) (E : Nat → Nat) (D : va_G) (dA : Nat → ClassId) (lo : Nat) (H0 : Heap) (fu : Nat) (a0 : Nat) (a1 : Option Nat) (M : Mm) (out : Int32 × Mm) (h : fX9_isDuplicate fu a0 a1 M = some out) : Ct l E D dA lo H0 yX9_isDuplicate cX9_isDuplicate 2 (some .boolean) 2 41 [pR (some a0), pR a1] M (some (pI out.1)) out.2 := by
  refine ct_of (by decide +kernel) (Nat.le_of_ble_eq_true rfl) ?_
  intro x hl he hd ha ho hh hn hin X hE
  exact wX9_isDuplicate X hE hn fu a0 a1 M h
