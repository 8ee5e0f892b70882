/-! ===== part 9b: a timer runs out: data go again, in both ===== -/
section Back2
variable {A M A' M' : Mm}
theorem x_back (fu : Nat) {KN KS t T k c nw im ig hd ft x : Nat} {b0 : Int32} {v : Nat → Nat} (h : TK A M KN KS t T im ig k c nw hd ft b0 v) (hk : k < 16) (hst : (v 0) ≠ 1) (hx : (mF A 791 (342 + 4 * k)) = nI x) (hx8 : x + 1 ≤ 8) (hE : CE (sF (bkA A k b0 v x) 785 (342 + 4 * k) 0) (bkM M c b0 v x nw) k c) (hl : 1 ≤ lfN (bvN v)) : fX9_runOut fu 317 (some c) M = fX9_runOut_L185 fu 317 (some c) (nI (dnN (bvN v) (bkR v) + dfN (bvN v) (bkR v))) (bkM M c b0 v x nw) := by
  have hW := h.xw
  have hC := h.cn
  obtain ⟨c1, c2, c3, c4, c5, c6, c7, c8, c9, c10, c11, c12, c13, c14⟩ := hC
  have hI := h.ci
  have hS := h.cs
  have hP := h.cp
  have hE0 := h.ce
  have ms1 := hI.ms1
  have ro1 := hI.ro1
  have wi1 := hI.wi1
  have mL := hI.mL
  have b1 := hI.hl1
  have b2' := hI.bl1
  have b3 := hI.cl1
  have um : (v 1) ≤ (v 3) := Nat.le_trans hI.ua hI.am
  have st1 : ¬ mF M 64 c = (1 : Int32) := by
    rw [← hE0.st, hS.st]
    exact fun z => hst ((nI_eq (b := 1) (by have := hS.st1; omega) (by decide)).mp z)
  have xt : mF M 325 (c + 5) = nI x := hP.tr.symm.trans hx
  have xm : mF M 70 c = b0 + nI (v 3) := hE0.max.symm.trans hI.max
  have xu : mF M 68 c = b0 + nI (v 1) := hE0.una.symm.trans hI.una
  have xs : mF M 320 (c + 5) = nI (v 9) := hP.ms.symm.trans hI.ms
  have xo : mF M 323 (c + 5) = nI (v 12) := hP.ro.symm.trans hI.ro
  have xw' : mF M 71 c = nI (v 13) := hE0.wi.symm.trans hI.wi
  have xn : mF M 641 304 = nI nw := h.wnow
  have z0 : ∀ (B : Mm) f, okA B 5 (c + 5) → pZ B 5 f (some (c + 5)) 0 = some (sF B f (c + 5) 0) := fun B f h => pZ_ok h (Or.inl rfl)
  have le8 : (nI (x + 1) : Int32) ≤ (8 : Int32) := nI_le (b := 8) hx8 (by decide)
  have ex : (nI x : Int32) + 1 = nI (x + 1) := nI_1 x
  have em : (b0 + nI (v 3)) - (b0 + nI (v 1)) = nI ((v 3) - (v 1)) := by rw [sub_b0, nI_sub um]
  have ed : (nI ((v 3) - (v 1)) : Int32) / (2 : Int32) = nI (((v 3) - (v 1)) / 2) := pk_div (d := 2) (by omega) (by decide) (by decide)
  have e2 : (2 : Int32) * nI (v 9) = nI (2 * (v 9)) := pk_mul 2 (v 9)
  have es : jmax (nI (((v 3) - (v 1)) / 2)) (nI (2 * (v 9))) = nI (bkS v) := jmax_nI (by omega) (by omega)
  have e3 : (2 : Int32) * nI (v 12) = nI (2 * (v 12)) := pk_mul 2 (v 12)
  have eo : jmin (60000 : Int32) (nI (2 * (v 12))) = nI (bkO v) := jmin_nI (a := 60000) (by decide) (by omega)
  have o317 := xw_ok317 hW
  have o304 := xw_ok304 hW
  have g576 := xw_g576_317 hW
  have run : fX9_runOut fu 317 (some c) M = (if mF M 71 c = 0 then fX9_runOut_L185 fu 317 (some c) (1 : Int32) (bkM M c b0 v x nw) else b2 (fX1_mayGo fu c (bkM M c b0 v x nw)) fun v15 M14 => fX9_runOut_L185 fu 317 (some c) v15 M14) := by
    unfold fX9_runOut fX9_runOut_L13 fX9_runOut_L44 fX9_runOut_L96 fX5_lowerThreshold fX5_backOff
    simp only [z0, pF_ok, gI_ok, gR_ok, rc_ok, c1, c14, o317, o304, ok_sF, ob_some, mF_sF, mG_sF, c4, g576, reduceIte, Nat.reduceEqDiff, Nat.reduceAdd, Nat.reduceMul, Nat.reduceLT, Nat.reduceLeDiff, and_true, true_and, and_false, false_and, and_self, ne_eq, not_true_eq_false, not_false_eq_true, Option.some.injEq, reduceCtorEq, xt, ex, st1, if_false, le8, if_true, xm, xu, em, ed, xs, e2, es, xo, e3, eo, xn, nI_add]
    rfl
  rw [run, xw']
  have hI2 := CI_back (x := x) h
  have hC2 : CnO (bkM M c b0 v x nw) c := by
    obtain ⟨-, -, -, -, -, -, -, -, s1, s2, -⟩ := bkM_v M c b0 v x nw
    exact CnO_sg s1 s2 h.cn
  have hlf : 1 ≤ lfN (uv (bvN v) 16 0) := hl
  obtain ⟨y1, y2, y3, y4, y5, y6, y7, y8, y9, y10, y11, y12, y13⟩ := bkM_v M c b0 v x nw
  obtain ⟨w73, w79, w80, w81, w86, w89, w91, w92⟩ := bkA_v A k b0 v x
  have F1 := bkA_ff A k b0 v x
  have pm : mF (sF (bkA A k b0 v x) 785 (342 + 4 * k) 0) 778 (342 + 4 * k) = mF (bkM M c b0 v x nw) 320 (c + 5) := by
    rw [mF_sF, if_neg (by omega), F1.2.2.2.2 778 _ (by omega), y13 320 _ (by omega) (by omega)]; exact hP.ms
  have pc : mF (sF (bkA A k b0 v x) 785 (342 + 4 * k) 0) 779 (342 + 4 * k) = mF (bkM M c b0 v x nw) 321 (c + 5) := by
    rw [mF_sF, if_neg (by omega), w79, y3]
  by_cases q : (v 13) = 0
  · rw [if_pos (show (nI (v 13) : Int32) = 0 by rw [q]; rfl)]
    have r1 : bkR v = 1 := by unfold bkR; rw [if_pos q]
    have d1 := dd_pos (v := bvN v) (r := 1) hl (Nat.le_refl _) hI.ms1.1 hI.cl1
    have d2 : dnN (bvN v) 1 + dfN (bvN v) 1 ≤ 1 := by
      have a : dnN (bvN v) 1 ≤ 1 := by unfold dnN; omega
      unfold dfN
      split
      · rename_i z
        omega
      · omega
    rw [r1, show dnN (bvN v) 1 + dfN (bvN v) 1 = 1 by omega]
    rfl
  · rw [if_neg (show ¬ (nI (v 13) : Int32) = 0 from fun z => q ((nI_eq (b := 0) (by omega) (by decide)).mp z))]
    have mg := x_mayGo fu hC2 hE pm pc hI2
    have m3 := mg.2.2 hlf (by show (v 1) - (v 1) < min (v 9) (v 13); omega)
    have m4 := m3.1 (Or.inr (Or.inr (by show (v 1) - (v 1) = 0; omega)))
    have r1 : bkR v = min (v 9) (v 13) := by unfold bkR; rw [if_neg q]
    have m5 : fX1_mayGo fu c (bkM M c b0 v x nw) = some (nI (dnN (bvN v) (bkR v) + dfN (bvN v) (bkR v)), bkM M c b0 v x nw) := by
      have e : min (uv (bvN v) 16 0 10) (uv (bvN v) 16 0 13) - (uv (bvN v) 16 0 2 - uv (bvN v) 16 0 1) = bkR v := by
        rw [r1]
        show min (v 9) (v 13) - ((v 1) - (v 1)) = _
        omega
      rw [e] at m4
      exact m4
    rw [m5, b2_some]
end Back2
