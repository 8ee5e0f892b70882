/-! ===== part 99w: a first segment opens a connection, in both ===== -/
section Syn3
variable {A M A' M' : Mm} {KN KS t T im ig F ek ty nw : Nat}
theorem bgA_c (B : Mm) (k : Nat) (sn fp sq iss wi ms cw : Int32) : mS (bgA B k sn fp sq iss wi ms cw) = mS B ∧ mG (bgA B k sn fp sq iss wi ms cw) = mG B ∧ mB (bgA B k sn fp sq iss wi ms cw) = mB B ∧ (∀ a, a ≠ 345 + 4 * k → mA (bgA B k sn fp sq iss wi ms cw) a = mA B a) ∧ (∀ j, j < 4096 → mA (bgA B k sn fp sq iss wi ms cw) (345 + 4 * k) j = 0) := by
  have f1 := bg1_ff B k sn fp sq iss wi
  have f2 := bg2_ff (bg1 B k sn fp sq iss wi) k iss ms cw
  unfold bgA
  refine ⟨?_, ?_, ?_, fun a h => ?_, fun j hj => ?_⟩
  · rw [mS_wA, f2.1, f1.1]
  · rw [mG_wA, f2.2.1, f1.2.1]
  · rw [mB_wA, f2.2.2.1, f1.2.2.1]
  · rw [mA_wA_ne h, f2.2.2.2.1, f1.2.2.2.1]
  · rw [mA_wA_self]
    show (if j < 4096 then (0 : Int32) else _) = 0
    rw [if_pos hj]
theorem sp_syn (fu : Nat) (hfu : 100000 ≤ fu) {k c bd da dx dl w pl he : Nat} (h : JJ A M KN KS t T im ig F ek ty nw) (hk : k < 16) (hc : mB M 318 k = some c) (hG : SG A M bd da dx dl w) (hH : HS A M bd pl he) (hno : ∀ j, j < 16 → ¬ mt A j) (hT : T < 2 ^ 30) :
    ∃ A' M' T', fX16_alone_L54 fu (fu - 16) 323 (some (342 + 4 * k)) (-1) A = some A' ∧ fX9_takeWithoutConnection_L71 fu 317 (some c) M = some M' ∧ T ≤ T' ∧ T' ≤ T + 1 ∧ JJ A' M' KN KS t T' im ig F ek ty nw := by
  have hB := JJ_cnt5 h
  have hW := h.xw
  have hR := h.rw'
  have oc := h.ok hc
  have hCM := CnO_of h.xs oc
  have hCM' := hCM
  obtain ⟨c1, c2, c3, c4, c5, c6, c7, c8, c9, c10, c11, c12, c13, c14⟩ := hCM'
  have b4 := ok_ne c10 (xw_ok304 hW) (by decide)
  generalize hBd : C5 A = B at hB
  generalize hNd : wA M 305 (cnU (mA M 305) 5) = N at hB
  have hRB := hB.rw'
  have hWN := hB.xw
  have hCN : CnO N c := by subst hNd; exact hCM
  have fB : ∀ f a, f ≠ 1036 → mF B f a = mF A f a := fun f a hf => by subst hBd; unfold C5; rw [mF_wA, mF_sF, if_neg (fun e => hf e.1)]
  have aB : ∀ a, a ≠ 330 → mA B a = mA A a := fun a ha => by subst hBd; unfold C5; rw [mA_wA_ne ha]; rfl
  have fN : mF N = mF M := by subst hNd; rfl
  have aN : ∀ a, a ≠ 305 → mA N a = mA M a := fun a ha => by subst hNd; exact mA_wA_ne ha
  have nwB : mF B 1034 323 = nI nw := hB.nw
  have nwM : mF M 641 304 = nI nw := by
    obtain ⟨n, e1, e2, -⟩ := h.jl.2.2.2.2.1.2.2.2.2.1
    rw [e2, ← e1]; exact h.nw
  have hcnt : mA N 305 5 = mF B 1036 323 := (hB.jn 5 (by decide)).symm.trans hB.zb
  generalize hiss : (64000 : Int32) * mF B 1036 323 + (250 : Int32) * mF B 1034 323 = iss
  have hsx : mF N 193 314 = mF A 1054 323 := by rw [fN]; exact hG.sd.symm
  have hfx : mF N 194 314 = mF A 1056 323 := by rw [fN]; exact hG.fp.symm
  have hqx : mF N 196 314 = mF A 1058 323 := by rw [fN]; exact hG.sq.symm
  have hwx : mF N 199 314 = nI w := by rw [fN]; exact hG.wx
  generalize hsn : mF A 1054 323 = sn at hsx
  generalize hfp : mF A 1056 323 = fp at hfx
  generalize hsq : mF A 1058 323 = sq at hqx
  -- the memories
  have c1ff := bxC_ff N c sn fp sq iss (nI w)
  have c1v := bxC_v N c sn fp sq iss (nI w)
  generalize hY1 : bxC N c sn fp sq iss (nI w) = Y1 at c1ff c1v
  have r2o : ∀ f a, ¬ (f < 10 ∧ a = c + 2) → mF (bxR Y1 c (sq + 1)) f a = mF Y1 f a := fun f a hh => bxR_o hh
  have r2c := bxR_c (N := Y1) (c := c) (r := sq + 1)
  have r2v := bxR_v Y1 c (sq + 1)
  have hCY1 : CnO Y1 c := CnO_sg c1ff.1 c1ff.2.1 hCN
  have x0b := x_cbegin fu (by omega) hCY1 (sq + 1)
  generalize hY2 : bxR Y1 c (sq + 1) = Y2 at r2o r2c r2v x0b
  have hS2 : mS Y2 = mS N := r2c.1.trans c1ff.1
  have hG2 : mG Y2 = mG N := r2c.2.1.trans c1ff.2.1
  have hCY2 : CnO Y2 c := CnO_sg hS2 hG2 hCN
  have hWY2 : XW Y2 := XW_sg hS2 hG2 hWN
  have o314 := nec (Or.inl hCN) (xw_ok314 hWN)
  have o304 := nec (Or.inl hCN) (xw_ok304 hWN)
  have q1 := o314.1 (by decide)
  have q2 := o314.2.1 (by decide)
  have q3 := o314.2.2.1 (by decide)
  have p1 := o304.1 (by decide)
  have p2 := o304.2.1 (by decide)
  have p3 := o304.2.2.1 (by decide)
  have f2M : ∀ f a, a ≠ c → a ≠ c + 2 → mF Y2 f a = mF M f a := fun f a n1 n2 => by rw [r2o f a (fun e => n2 e.2), c1ff.2.2.2.2 f a (fun e => n1 e.2), fN]
  have a2M : ∀ a, a ≠ c + 4 → a ≠ 305 → mA Y2 a = mA M a := fun a n1 n2 => by rw [r2c.2.2.2.1 a n1, c1ff.2.2.2.1, aN a n2]
  -- the option
  have X1ff := bg1_ff B k sn fp sq iss (nI w)
  have hBYB : By B := hB.ba.2.2.2.2
  have hbd4 := ok_ne hH.ok c12 (by decide)
  have hbd5 := ok_ne hH.ok (xw_ok305 hW) (by decide)
  have hHS : HS (bg1 B k sn fp sq iss (nI w)) Y2 bd pl he := by
    have eS : mS Y2 = mS M := by rw [hS2]; subst hNd; rfl
    have eG : mG Y2 = mG M := by rw [hG2]; subst hNd; rfl
    refine HS.mk (X1ff.rW hRB) (X1ff.by' hBYB) hWY2 ?_ ?_ ?_ ?_ ?_ ?_ ?_ ?_ hH.he1 ?_
    · intro a i ha
      rw [eS] at ha
      by_cases z : a = c + 4
      · rw [z] at ha
        exact absurd (ha.symm.trans c12.2.2) (by decide)
      · by_cases z2 : a = 305
        · rw [z2] at ha
          exact absurd (ha.symm.trans (xw_ok305 hW).2.2) (by decide)
        · rw [a2M a z z2]; exact h.bm.2.2.2.2 a i ha
    · rw [eG]; exact hH.pb
    · rw [f2M _ _ q1 q2]; exact hH.pp
    · rw [X1ff.2.2.2.2 _ _ (by omega), fB _ _ (by decide)]; exact hH.pe
    · rw [f2M _ _ q1 q2]; exact hH.px
    · unfold okA; rw [eS]; exact hH.ok
    · rw [eS]; exact hH.l1
    · rw [eS]; exact hH.l2
    · intro j hj
      rw [X1ff.2.2.2.1, aB 338 (by decide), a2M bd hbd4 hbd5]; exact hH.by' j hj
  obtain ⟨ms, m1, m2, m3, m4⟩ := sp_mss fu (by omega) hHS
  have hmb := m_begin (B := B) fu (by omega) hk hRB ((fB 1054 323 (by decide)).trans hsn) ((fB 1056 323 (by decide)).trans hfp) ((fB 1058 323 (by decide)).trans hsq) ((fB 1061 323 (by decide)).trans hG.wi) hiss m3 m2
  obtain ⟨Y3, y1, y2, y3, y4, y5, y6⟩ := x_pbegin fu hCY2 m2 iss (nI nw)
  obtain ⟨Y4, y7, y8⟩ := Option.bind_eq_some_iff.mp y2
  obtain ⟨z1, z2, z3, z4⟩ := y3 Y4 y7
  have Pff := bxP_ff Y2 c iss (nI nw) (nI ms) (nI (if 1095 < ms then 3 * ms else 4 * ms))
  have Pv := bxP_v Y2 c iss (nI nw) (nI ms) (nI (if 1095 < ms then 3 * ms else 4 * ms))
  generalize hM3 : bxP Y2 c iss (nI nw) (nI ms) (nI (if 1095 < ms then 3 * ms else 4 * ms)) = M3 at y8 Pff Pv
  have Ac := bgA_c B k sn fp sq iss (nI w) (nI ms) (nI (if 1095 < ms then 3 * ms else 4 * ms))
  have Av := bgA_v B k sn fp sq iss (nI w) (nI ms) (nI (if 1095 < ms then 3 * ms else 4 * ms))
  have Ao : ∀ f a, ¬ ((768 ≤ f ∧ f ≤ 813) ∧ a = 342 + 4 * k) → mF (bgA B k sn fp sq iss (nI w) (nI ms) (nI (if 1095 < ms then 3 * ms else 4 * ms))) f a = mF B f a := fun f a hh => bgA_o hh
  generalize hA3 : bgA B k sn fp sq iss (nI w) (nI ms) (nI (if 1095 < ms then 3 * ms else 4 * ms)) = A3 at hmb Ac Av Ao
  obtain ⟨A768, A769, A770, A771, A772, A773, A774, A775, A776, A777, A778, A779, A780, A781, A784, A785, A786, A789, A791, A792, A794, A796, A797, A798, A799, A802, A803, A804, A805, A806, A807, A808, A809⟩ := Av
  obtain ⟨X64, X65, X66, X67, X68, X69, X70, X71, X74, X75, X76, X77, X78, X82, X83⟩ := c1v
  obtain ⟨R0, R1, R2, R3, R4, R7, R8⟩ := r2v
  obtain ⟨P320, P321, P322, P323, P324, P325, P326, P327, P328, P329, P330, P331, P332, P333⟩ := Pv
  have xc : ∀ f, mF M3 f c = mF Y1 f c := fun f => by rw [Pff.2.2.2.2 f c (by omega), r2o f c (by omega)]
  have xr : ∀ f, mF M3 f (c + 2) = mF Y2 f (c + 2) := fun f => Pff.2.2.2.2 f (c + 2) (by omega)
  have hS3 : mS M3 = mS N := Pff.1.trans hS2
  have hG3 : mG M3 = mG N := Pff.2.1.trans hG2
  have hB3 : mB M3 = mB N := by rw [Pff.2.2.1, r2c.2.2.1, c1ff.2.2.1]
  have hCM3 : CnO M3 c := CnO_sg hS3 hG3 hCN
  have hWM3 : XW M3 := XW_sg hS3 hG3 hWN
  have f3N : ∀ f a, a ≠ c → a ≠ c + 2 → a ≠ c + 5 → mF M3 f a = mF N f a := fun f a n1 n2 n3 => by rw [Pff.2.2.2.2 f a (fun e => n3 e.2), r2o f a (fun e => n2 e.2), c1ff.2.2.2.2 f a (fun e => n1 e.2)]
  have a3N : ∀ a, a ≠ c + 4 → mA M3 a = mA N a := fun a n1 => by rw [Pff.2.2.2.1, r2c.2.2.2.1 a n1, c1ff.2.2.2.1]
  have a34 : ∀ j, j < 128 → mA M3 (c + 4) j = 0 := fun j hj => by
    rw [Pff.2.2.2.1, r2c.2.2.2.2]
    show (if j < 128 then (0 : Int32) else _) = 0
    rw [if_pos hj]
  have hJ3 : JL0 KN KS t T A3 M3 := JL0_cn hB.jl hCN Ac.1 Ac.2.1 Ac.2.2.1 (fun f a hf => Ao f a (by unfold JLf at hf; omega)) (fun a ha => Ac.2.2.2.1 a (by omega)) hS3 hG3 hB3 (fun f a n1 n2 n3 _ => f3N f a n1 n2 n3) (fun a _ _ n3 _ _ _ _ => a3N a n3)
  have hBA3 : By A3 := fun a i ha => by
    rw [Ac.1] at ha
    have hne : a ≠ 345 + 4 * k := fun e => by
      rw [e] at ha
      exact absurd ((rw_cnT hRB k hk).2.2.symm.trans ha) (by decide)
    rw [Ac.2.2.2.1 a hne]
    exact hBYB a i ha
  have sub0 : (sq + 1) - (sq + 1) - 0 = (0 : Int32) := by rw [Int32.sub_self]; rfl
  have hA0 : hldA A3 k = 0 := by
    unfold hldA
    rw [A804, A803, A809, if_pos rfl]; exact sub0
  have hX0 : hldX M3 c = 0 := by
    unfold hldX
    rw [xr 1, xr 0, xr 8, R1, R0, R8, if_pos rfl]; exact sub0
  obtain ⟨A', M', T', s1, s2, s3, s4, s5, s6, s7, s8, s9, s10, s11, s12, s13, s14, s15, s16, s17, s18⟩ := m_synAck (sq := 0) (sn := 0) (fp := 0) fu (by omega) (iss := iss) (ms := ms) (w := w) hk hJ3 hBA3 hT hCM3 ((Ao 1034 323 (by omega)).trans nwB) h.n2 ⟨m1, m2⟩ hG.w1 ((xc 64).trans X64) (A769.trans ((xc 65).trans X65).symm) (A770.trans ((xc 66).trans X66).symm) (A804.trans ((xr 1).trans R1).symm) hA0 hX0 A771 A772 A773 A774 A775 A778 A779 A780 A781 A784 A785 A789 A794 A796 A797 A798 A799
  -- the runs
  have runA : fX16_alone_L54 fu (fu - 16) 323 (some (342 + 4 * k)) (-1) A = some A' := by
    have hR1 : RW (sF A 1036 323 (mF A 1036 323 + 1)) := hR
    have cnt := m_cnt hR1 (i := 5) (by decide)
    rw [show fu - 16 = fu - 17 + 1 by omega, fX16_alone_L54, if_pos (by decide), if_neg (by simp), gI_ok (rw_ok323 hR), ob_some, pF_ok (rw_ok323 hR), ob_some, gR_ok (rw_ok323 hR1), ob_some, rw_g1041_323 hR1, show gA (sF A 1036 323 (mF A 1036 323 + 1)) 101 (some 330) (5 : Int32) = some (mA (sF A 1036 323 (mF A 1036 323 + 1)) 330 5) from cnt.1, ob_some, show pA (sF A 1036 323 (mF A 1036 323 + 1)) 101 (some 330) (5 : Int32) (mA (sF A 1036 323 (mF A 1036 323 + 1)) 330 5 + 1) = some B from by rw [← hBd]; exact cnt.2, ob_some]
    exact hmb.trans s1
  have runX : fX9_takeWithoutConnection_L71 fu 317 (some c) M = some M' := by
    have cnt := x_cnt hW (i := 5) (by decide)
    have o317N := xw_ok317 hWN
    have ha : ∀ (X : Mm), mS X = mS N → mG X = mG N → XW X := fun X e1 e2 => XW_sg e1 e2 hWN
    have hW3 := ha Y3 (y4.trans hS2) (y5.trans hG2)
    have hW4 := ha Y4 (z2.trans hS2) (z3.trans hG2)
    have hC3 : CnO Y3 c := CnO_sg (y4.trans hS2) (y5.trans hG2) hCN
    have hC4 : CnO Y4 c := CnO_sg (z2.trans hS2) (z3.trans hG2) hCN
    have n305 := gA_ok (M := N) (i := 5) (xw_ok305 hWN) (by rw [xw_ln305 hWN]; decide) (by decide)
    have e67 : mF Y3 67 c = iss := by rw [y6 67 c (by omega), r2o 67 c (by omega)]; exact X67
    have e641 : mF Y3 641 304 = nI nw := by rw [y6 641 304 p3, f2M 641 304 p1 p2]; exact nwM
    have e641' : mF Y4 641 304 = nI nw := by rw [z4 641 304 p3, f2M 641 304 p1 p2]; exact nwM
    have e67' : mF M3 67 c = iss := (xc 67).trans X67
    unfold fX9_takeWithoutConnection_L71
    rw [if_neg (by simp), gR_ok (xw_ok317 hW), ob_some, xw_g576_317 hW, gR_ok (xw_ok304 hW), ob_some, xw_g640_304 hW, show gA M 101 (some 305) (5 : Int32) = some (mA M 305 5) from cnt.1, ob_some, show pA M 101 (some 305) (5 : Int32) (mA M 305 5 + 1) = some N from by rw [← hNd]; exact cnt.2, ob_some, gR_ok o317N, ob_some, xw_g579_317 hWN, gR_ok o317N, ob_some, xw_g576_317 hWN, gR_ok (xw_ok304 hWN), ob_some, xw_g640_304 hWN, show gA N 101 (some 305) (5 : Int32) = some (mA N 305 5) from n305, ob_some, ob_some, gI_ok (xw_ok304 hWN), ob_some, fN, nwM, hcnt, ← nwB, hiss, rc_ok hCN.1, ob_some, x_begin0 fu hWN hCN hsx hfx hqx hwx, hY1, x0b, ob_some, gR_ok hCY2.1, ob_some, hCY2.2.2.2.1, rc_ok (xw_ok314 hWY2), ob_some, m4, b2_some, rc_ok hCY2.2.2.2.2.2.2.2.2.2.2.2.2.2, ob_some, y1, ob_some, ob_some]
    rw [gR_ok hC3.1, ob_some, hC3.2.2.2.1, gI_ok hC3.1, ob_some, e67, gR_ok (xw_ok317 hW3), ob_some, xw_g576_317 hW3, gI_ok (xw_ok304 hW3), ob_some, e641, rc_ok hC3.2.2.2.2.2.2.2.2.2.2.2.2.2, ob_some, y7, ob_some]
    rw [gR_ok hC4.1, ob_some, hC4.2.2.2.1, gR_ok (xw_ok317 hW4), ob_some, xw_g576_317 hW4, gI_ok (xw_ok304 hW4), ob_some, e641', ob_some, gI_ok hC4.2.2.2.2.2.2.2.2.2.2.2.2.2, ob_some, z1, y8, ob_some, gI_ok hCM3.1, ob_some, e67', rc_ok (xw_ok317 hWM3), ob_some, s2, ob_some]
  -- the frames
  have fBA : FCA k B A3 := ⟨Ac.1, Ac.2.1, Ac.2.2.1, fun f a n => Ao f a (fun e => n (by unfold PCa; omega)), fun a n => Ac.2.2.2.1 a (fun e => n (by unfold QCa; omega)), by rw [Ao 1049 323 (by omega)]; exact Int32.le_refl _⟩
  have fNM : FCM c N M3 := ⟨by rw [hS3]; exact Nat.le_refl _, fun a _ => by rw [hS3]; exact ⟨rfl, rfl⟩, fun f a _ _ => by rw [hG3], fun a _ _ => by rw [hB3], fun f a _ n => f3N f a (fun e => n (by unfold PCx; omega)) (fun e => n (by unfold PCx; omega)) (fun e => n (by unfold PCx; omega)), fun a _ n => a3N a (fun e => n (by unfold QCx; omega))⟩
  have hCp : CnO (payX M3 c 18) c := CnO_sg payX_S payX_G hCM3
  have hWp : XW (payX M3 c 18) := XW_sg payX_S payX_G hWM3
  have fpay : FCM c M3 (payX M3 c 18) := ⟨by rw [payX_S]; exact Nat.le_refl _, fun a _ => by rw [payX_S]; exact ⟨rfl, rfl⟩, fun f a _ _ => by rw [payX_G], fun a _ _ => by rw [payX_B], fun f a _ n => payX_F (fun e => n (by unfold PCx; omega)) (fun e => n (by unfold PCx; omega)), fun a _ _ => by rw [payX_A]⟩
  have fA := fBA.tr s6
  have fM := (fNM.tr fpay).tr s7.cm
  obtain ⟨g1, g2, g3, g4⟩ := FrM_at hWp hCp s7
  rw [payX_A] at g2 g3 g4
  have ZF : ∀ g o, o = c ∨ o = c + 2 ∨ o = c + 5 → g < 256 ∨ (320 ≤ g ∧ g < 640) → ¬ ((g = 2 ∨ g = 4) ∧ o = c + 2) → mF M' g o = mF M3 g o := fun g o h1 h2 h3 => (g1 g o h1 h2).trans (payX_F (fun e => h3 ⟨Or.inl e.1, e.2⟩) (fun e => h3 ⟨Or.inr e.1, e.2⟩))
  have told' : mF M' 2 (c + 2) = 4096 := by
    rw [g1 2 (c + 2) (Or.inr (Or.inl rfl)) (Or.inl (by decide))]
    unfold payX
    rw [if_pos (by decide)]
    simp only [mF_sF, reduceIte, Nat.reduceEqDiff, Nat.reduceAdd, Nat.reduceMul, Nat.reduceLT, Nat.reduceLeDiff, and_true, true_and, and_false, false_and, and_self, ne_eq, not_true_eq_false, not_false_eq_true, Option.some.injEq, reduceCtorEq]
    rw [hX0]; rfl
  have owed' : mF M' 4 (c + 2) = 0 := by
    rw [g1 4 (c + 2) (Or.inr (Or.inl rfl)) (Or.inl (by decide))]
    unfold payX
    rw [if_pos (by decide)]
    simp only [mF_sF, reduceIte, Nat.reduceEqDiff, Nat.reduceAdd, Nat.reduceMul, Nat.reduceLT, Nat.reduceLeDiff, and_true, true_and, and_false, false_and, and_self, ne_eq, not_true_eq_false, not_false_eq_true, Option.some.injEq, reduceCtorEq]
  have zc : ∀ g, g < 256 → mF M' g c = mF Y1 g c := fun g hg => (ZF g c (Or.inl rfl) (Or.inl hg) (by omega)).trans (xc g)
  have zr : ∀ g, g < 256 → ¬ (g = 2 ∨ g = 4) → mF M' g (c + 2) = mF Y2 g (c + 2) := fun g hg hn => (ZF g _ (Or.inr (Or.inl rfl)) (Or.inl hg) (fun e => hn e.1)).trans (xr g)
  have zp : ∀ g, 320 ≤ g → g < 384 → mF M' g (c + 5) = mF M3 g (c + 5) := fun g h1 h2 => ZF g _ (Or.inr (Or.inr rfl)) (Or.inr ⟨h1, by omega⟩) (by omega)
  have hI0 : iss = iss + nI 0 := (Int32.add_zero iss).symm
  have cwb : 64 ≤ (if 1095 < ms then 3 * ms else 4 * ms) ∧ (if 1095 < ms then 3 * ms else 4 * ms) ≤ 70000 := by split <;> omega
  generalize (if 1095 < ms then 3 * ms else 4 * ms) = cw at cwb A779 P321
  have A330 : mA A' 330 = mA B 330 := by rw [s8 330 (by omega), Ac.2.2.2.1 330 (by omega)]
  have tk : TK A' M' KN KS t T' im ig k c nw 0 0 iss (fun i => if i = 0 then 1 else if i = 2 then 1 else if i = 3 then 1 else if i = 9 then ms else if i = 10 then cw else if i = 11 then 65535 else if i = 12 then 1000 else if i = 13 then w else if i = 14 then 1 else if i = 15 then nw + 1000 else if i = 16 then 1 else if i = 18 then nw else 0) := by
    refine TK.mk s5 ?_ ?_ ?_ ?_ (CnO_fr fM hCN) ?_ ?_ ?_ ?_ ?_ ?_ h.n2
    · exact (oX16_alone_L54 fu (fu - 16) 323 _ _ A h.ba (by unfold RM; omega) (inR_some (by unfold RM; omega)) runA).2
    · exact (oX9_takeWithoutConnection_L71 fu 317 _ M h.bm (by unfold RX; omega) (inR_some (h.bm.1 c 1 oc (by unfold TX; omega))) runX).2
    · intro i hi
      rw [A330, hB.jn i hi]
      have lt := (xw_ok305 hWp).2.1
      have := s7.gen.2.2.2.2.2 305 lt (by unfold QLx; rw [(xw_ok304 hWp).2.2]; omega)
      rw [this, payX_A, a3N 305 (by omega)]
    · exact JI_fc hWN hCN fA fM hB.ji
    · refine CE.mk ?_ ?_ ?_ ?_ ?_ ?_ ?_ ?_ ?_ ?_ ?_ ?_ ?_ ?_ ?_ ?_ ?_ ?_
      · rw [s9 768 (by decide) (by omega), A768, zc 64 (by decide), X64]
      · rw [s9 769 (by decide) (by omega), A769, zc 65 (by decide), X65]
      · rw [s9 770 (by decide) (by omega), A770, zc 66 (by decide), X66]
      · rw [s9 771 (by decide) (by omega), A771, zc 67 (by decide), X67]
      · rw [s9 772 (by decide) (by omega), A772, zc 68 (by decide), X68]
      · rw [s10, zc 69 (by decide), X69]
      · rw [s11, zc 70 (by decide), X70]
      · rw [s9 775 (by decide) (by omega), A775, zc 71 (by decide), X71]
      · rw [s9 776 (by decide) (by omega), A776, zc 82 (by decide), X82]
      · rw [s9 777 (by decide) (by omega), A777, zc 83 (by decide), X83]
      · rw [s9 794 (by decide) (by omega), A794, zc 78 (by decide), X78]
      · rw [s9 796 (by decide) (by omega), A796, zc 76 (by decide), X76]
      · intro z
        exact absurd ((s9 796 (by decide) (by omega)).trans A796) z
      · rw [s9 797 (by decide) (by omega), A797, zc 77 (by decide), X77]
      · rw [s9 798 (by decide) (by omega), A798, zc 74 (by decide), X74]
      · intro z
        exact absurd ((s9 768 (by decide) (by omega)).trans A768) z
      · intro z
        rw [s9 768 (by decide) (by omega), A768] at z
        exact absurd z (by decide)
      · intro j n z1' z2' z3'
        rw [s9 794 (by decide) (by omega), A794] at z1'
        have := (nI_eq (a := 0) (b := n) (by decide) (by omega)).mp z1'
        omega
    · refine CP.mk ?_ ?_ ?_ ?_ ?_ ?_ ?_ ?_ ?_ ?_ ?_ ?_
      · rw [s9 778 (by decide) (by omega), A778, zp 320 (by decide) (by decide), P320]
      · rw [s9 779 (by decide) (by omega), A779, zp 321 (by decide) (by decide), P321]
      · rw [s9 780 (by decide) (by omega), A780, zp 322 (by decide) (by decide), P322]
      · rw [s9 781 (by decide) (by omega), A781, zp 323 (by decide) (by decide), P323]
      · rw [s9 791 (by decide) (by omega), A791, zp 325 (by decide) (by decide), P325]
      · rw [s9 792 (by decide) (by omega), A792, zp 326 (by decide) (by decide), P326]
      · rw [s9 786 (by decide) (by omega), A786, zp 327 (by decide) (by decide), P327]
      · rw [s12, zp 328 (by decide) (by decide), P328]
      · intro _
        rw [s13, s14, zp 329 (by decide) (by decide), P329, zp 330 (by decide) (by decide), P330]
        exact ⟨rfl, rfl⟩
      · rw [s9 784 (by decide) (by omega), A784, zp 331 (by decide) (by decide), P331]
      · intro z
        exact absurd ((s9 784 (by decide) (by omega)).trans A784) z
      · right
        rw [s15, s16, zp 324 (by decide) (by decide), P324]
        exact ⟨rfl, (nI_add nw 1000).symm⟩
    · refine CI.mk ((s9 797 (by decide) (by omega)).trans A797) ((s9 772 (by decide) (by omega)).trans (A772.trans hI0)) s10 s11 (show (0 : Nat) ≤ 1 by decide) (show (1 : Nat) ≤ 1 by decide) (show (1 : Nat) ≤ 1 + 0 + 0 + 0 by decide) ((s9 794 (by decide) (by omega)).trans A794) (Nat.zero_le _) ((s9 796 (by decide) (by omega)).trans A796) (Nat.zero_le _) (fun z => absurd rfl z) ((s9 798 (by decide) (by omega)).trans A798) (Nat.zero_le _) ((s9 799 (by decide) (by omega)).trans A799) (Nat.zero_le _) ?_ ((s9 778 (by decide) (by omega)).trans A778) ⟨m1, m2⟩ ((s9 779 (by decide) (by omega)).trans A779) cwb ((s9 780 (by decide) (by omega)).trans A780) (show (128 : Nat) ≤ 65535 ∧ (65535 : Nat) ≤ 65535 by decide) ((s9 781 (by decide) (by omega)).trans A781) (show (1000 : Nat) ≤ 1000 ∧ (1000 : Nat) ≤ 60000 by decide) ((s9 775 (by decide) (by omega)).trans A775) hG.w1 s15 (Nat.le_refl 1) ?_ s12 (Nat.le_refl 1) ?_ ((s9 784 (by decide) (by omega)).trans A784) (Nat.zero_le _) ?_
      · show (0 : Nat) = 1 ↔ ((0 : Nat) = 1 ∧ (1 : Nat) = 0 + 0 + 2)
        omega
      · intro _
        refine ⟨s16, ?_, ?_, fun z => absurd rfl z⟩
        · show nw ≤ nw + 1000
          omega
        · show nw + 1000 ≤ nw + 60000
          omega
      · intro _
        refine ⟨rfl, s13.trans hI0, Nat.le_refl 0, ?_, s14, Nat.le_refl nw, ?_⟩
        · show (0 : Nat) < 1
          decide
        · show nw + 1000 ≤ nw + 60000 * (t + 1)
          omega
      · intro z
        exact absurd (show (0 : Nat) = 1 from z) (by decide)
    · refine CS.mk ((s9 768 (by decide) (by omega)).trans A768) (show (1 : Nat) ≤ 1 ∧ (1 : Nat) ≤ 8 by decide) ?_ (fun z => absurd rfl z) ?_ ?_ ?_ (fun z => absurd rfl z) ?_
      · intro _
        exact ⟨rfl, rfl, rfl, rfl, rfl, rfl, (s9 771 (by decide) (by omega)).trans A771, (s9 786 (by decide) (by omega)).trans A786⟩
      · intro z
        exact absurd (show (1 : Nat) = 2 ∨ (1 : Nat) = 7 from z) (by decide)
      · intro z
        exact absurd (show (1 : Nat) = 3 ∨ (1 : Nat) = 5 ∨ (1 : Nat) = 8 from z) (by decide)
      · intro z
        exact absurd (show (1 : Nat) = 4 ∨ (1 : Nat) = 6 from z) (by decide)
      · intro z
        exact absurd (show (1 : Nat) = 4 ∨ (1 : Nat) = 6 from z) (by decide)
    · have thA : ∀ j, j < 4096 → mA A' (345 + 4 * k) j = 0 := fun j hj => by rw [s8 (345 + 4 * k) (by omega)]; exact Ac.2.2.2.2 j hj
      have thM : ∀ x, bitOf (mA M' (c + 4)) (slot x) = false := fun x => by
        rw [g4]
        exact bit0 a34 x
      refine CR.mk ?_ ?_ ?_ ?_ ?_ ?_ ?_ ?_ ?_ (Nat.zero_le _) ?_ (Nat.zero_le _) ?_ ?_ ?_ ?_ ?_ ?_ ?_
      · rw [s9 803 (by decide) (by omega), A803, zr 0 (by decide) (by omega), R0]
      · rw [s9 804 (by decide) (by omega), A804, zr 1 (by decide) (by omega), R1]
      · rw [s17, told']
      · rw [s9 806 (by decide) (by omega), A806, zr 3 (by decide) (by omega), R3]
      · rw [s18, owed']
      · rw [s9 808 (by decide) (by omega), A808, zr 7 (by decide) (by omega), R7]
      · rw [s9 809 (by decide) (by omega), A809, zr 8 (by decide) (by omega), R8]
      · intro z
        exact absurd ((s9 808 (by decide) (by omega)).trans A808) z
      · exact (s9 809 (by decide) (by omega)).trans A809
      · rw [s9 804 (by decide) (by omega), A804, s9 803 (by decide) (by omega), A803]
        exact (Int32.add_zero (sq + 1)).symm
      · exact ⟨0, by decide, (s9 806 (by decide) (by omega)).trans A806⟩
      · exact ⟨4096, by decide, s17⟩
      · intro j hj
        omega
      · rw [s9 768 (by decide) (by omega), A768]
        exact ⟨fun _ => Or.inl rfl, fun _ => rfl⟩
      · intro _ j hj
        refine ⟨fun z => by omega, fun _ => ?_, fun z => ?_⟩
        · rw [thA j hj, thM, if_neg (by decide)]
        · rw [thM] at z
          exact absurd z (by decide)
      · intro _ _
        exact thA 0 (by decide)
      · intro _ z
        exact absurd ((s9 808 (by decide) (by omega)).trans A808) z
    · rw [fA.2.2.2.1 _ _ (by unfold PCa PL; omega)]; exact nwB
  refine ⟨A', M', T', runA, runX, s3, s4, ?_⟩
  have hno' : ∀ j, j < 16 → ¬ mt B j := fun j hj z => hno j hj (by
    unfold mt at z ⊢
    rw [fB 768 _ (by decide), fB 769 _ (by decide), fB 770 _ (by decide), fB 1054 _ (by decide), fB 1056 _ (by decide)] at z
    exact z)
  exact JJ_open (u := 0) hB hk (by subst hNd; exact hc) fA.wa fM.wm (by rw [A330]) (by rw [s9 769 (by decide) (by omega), A769, fB 1054 _ (by decide), hsn]) (by rw [s9 770 (by decide) (by omega), A770, fB 1056 _ (by decide), hfp]) hno' ((s9 791 (by decide) (by omega)).trans A791) (Or.inl ⟨0, 0, iss, _, tk⟩)
end Syn3
