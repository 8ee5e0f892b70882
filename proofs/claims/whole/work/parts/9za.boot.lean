/-! ===== part 9za: boot, in both ===== -/
theorem net_g {x y : Int32} {s : Nat} (hs : s < 32) : (x >>> (nI s &&& 31)) = (y >>> (nI s &&& 31)) ↔ ∀ i, i < 32 → s ≤ i → bt x i = bt y i := by
  constructor
  · intro h i hi hsi
    have e := congrArg (fun z => bt z (i - s)) h
    have e : bt (x >>> (nI s &&& 31)) (i - s) = bt (y >>> (nI s &&& 31)) (i - s) := e
    rw [b_sshr s hs x (by omega), b_sshr s hs y (by omega), if_pos (by omega), if_pos (by omega), show s + (i - s) = i by omega] at e
    exact e
  · intro h
    apply b_ext
    intro i hi
    rw [b_sshr s hs x hi, b_sshr s hs y hi]
    by_cases q : s + i < 32
    · rw [if_pos q, if_pos q]; exact h _ q (by omega)
    · rw [if_neg q, if_neg q]; exact h 31 (by decide) (by omega)
theorem b_256 : ∀ i, i < 32 → bt 256 i = decide (i = 8) := by decide +kernel
theorem b_1 : ∀ i, i < 32 → bt 1 i = decide (i = 0) := by decide +kernel
theorem bit8 (x : Int32) : (x &&& 256) = 0 ↔ ¬ ((x >>> ((8 : Int32) &&& 31)) &&& 1) = 1 := by
  have p1 : (x &&& 256) = 0 ↔ bt x 8 = false := by
    constructor
    · intro h
      have e : bt (x &&& 256) 8 = bt 0 8 := by rw [h]
      rw [b_and, b_256 8 (by decide), b_0] at e
      simpa using e
    · intro h
      apply b_ext
      intro i hi
      rw [b_and, b_256 i hi, b_0]
      by_cases q : i = 8
      · rw [q, h]; rfl
      · simp [q]
  have p2 : ((x >>> ((8 : Int32) &&& 31)) &&& 1) = 1 ↔ bt x 8 = true := by
    constructor
    · intro h
      have e : bt ((x >>> ((8 : Int32) &&& 31)) &&& 1) 0 = bt 1 0 := by rw [h]
      rw [b_and, b_sshr8 x (by decide), b_1 0 (by decide)] at e
      simpa using e
    · intro h
      apply b_ext
      intro i hi
      rw [b_and, b_sshr8 x hi, b_1 i hi]
      by_cases q : i = 0
      · rw [q]; simp [h]
      · simp [q]
  rw [p1, p2]
  cases bt x 8 <;> simp
section Boot
variable {A M X : Mm} {KN KS im ig ek ty F : Nat}
theorem XW_eq {M' : Mm} (h : XW M) (s : mS M' = mS M) (g : mG M' = mG M) (b : mB M' = mB M) : XW M' := XW_ce2 h (fun t a _ _ o => by unfold okA at *; rw [s]; exact o) (fun a _ _ => by rw [s]) (fun f a _ _ _ _ => by rw [g]) (fun a i _ _ => by rw [b])
theorem wN_sh {g g' : Nat → Int32} {i i' : Nat} (h : ∀ d, d < 4 → g (i + d) = g' (i' + d)) : wN g i = wN g' i' := by
  have h0 : g i = g' i' := h 0 (by decide)
  unfold wN
  rw [h0, h 1 (by decide), h 2 (by decide), h 3 (by decide)]
/-- after a boot that went well: a first picture of both -/
theorem JJ_first {ip ga hi lo : Int32} {b ek' : Nat} {Xk X1 X2 A0 : Mm} {n : Nat} {KN' KS' : Nat} (h : LB KN KS im ig ek ty X) (h0 : Lst0 X) (al : ALL (mA X 325) im F) (kp : KpR ek' F n (mA X 325) ek X Xk) (rs : RsR ip ((-1 : Int32) <<< (nI (32 - b) &&& 31)) ga hi lo Xk X1) (hb1 : 8 ≤ b) (hb2 : b ≤ 30) (bt' : BtR F A0 X2) (eA0 : mS A0 = mS X1 ∧ mG A0 = mG X1 ∧ mB A0 = mB X1 ∧ mA A0 = mA X1) (f0 : mF A0 1029 323 = ip ∧ mF A0 1030 323 = nI b ∧ mF A0 1031 323 = ga ∧ mF A0 1032 323 = hi ∧ mF A0 1033 323 = lo ∧ mF A0 1035 323 = nI F ∧ mF A0 1025 323 = nI ty ∧ mF A0 1027 323 = nI im) (s1 : Sm RX X X1) (s2 : Sm RM X1 X2) (ba : Bd RM TM X2) (bm : Bd RX TX X2) (hR2 : RW X2) (hW1 : XW X1) (k1 : KN + 1 ≤ KN') (k2 : KS + 4096 ≤ KS') (k3 : KN' ≤ 600300) (k4 : KS' ≤ 7302250) : JJ X2 X2 KN' KS' 0 0 im ig F ek' ty 0 := by
  have n450 := h.n450
  obtain ⟨a1, a2, a3, a4, a5, a6, a7⟩ := al
  obtain ⟨p1, p2, p3, p4, p5, p6, p7, p8, p9, p10, p11, p12, p13, p14⟩ := kp
  obtain ⟨r1, r2, r3, r4, r5, r6, r7, r8, r9, r10, r11, r12⟩ := rs
  obtain ⟨⟨q1, q2, q3⟩, q4, q5, q6, q7, q8, q9, q10, q11, q12, q13⟩ := bt'
  obtain ⟨e1, e2, e3, e4⟩ := eA0
  have S2 : mS X2 = mS X1 := q1.trans e1
  have G2 : mG X2 = mG X1 := q2.trans e2
  have B2 : mB X2 = mB X1 := q3.trans e3
  have SK : mS X2 = mS Xk := S2.trans r1
  have GK : mG X2 = mG Xk := G2.trans r2
  have BK : mB X2 = mB Xk := B2.trans r3
  have hWk : XW Xk := XW_tr p7 h.xw n450
  have hSk : XS Xk := XS_tr p7 p8 h.xw h.xs
  have hXk : XRR KN' KS' Xk := XRR_tr p7 h.xr (by omega) (by omega) k3 k4
  have hW2 : XW X2 := XW_eq hW1 S2 G2 B2
  have okk : ∀ {t a : Nat}, okA Xk t a → okA X2 t a := fun {t a} o => by unfold okA at *; rw [SK]; exact o
  have nRM : ∀ a, RX a → ¬ RM a := fun a h => by unfold RX at h; unfold RM; omega
  have nRX : ∀ a, 323 ≤ a → a < 450 → ¬ RX a := fun a h1 h2 => by unfold RX; omega
  have FX : ∀ f a, RX a → mF X2 f a = mF X1 f a := fun f a ha => s2.1 f a (nRM a ha)
  have AX : ∀ a, RX a → mA X2 a = mA X1 a := fun a ha => funext (fun i => s2.2.2.1 a i (nRM a ha))
  have c3 : ∀ a, 300 ≤ a → a < 323 → RX a := fun a h1 h2 => by unfold RX; omega
  have A325 : mA X2 325 = mA X 325 := by
    rw [q4 325 (by decide), e4]
    exact funext (fun i => s1.2.2.1 325 i (nRX _ (by decide) (by decide)))
  have A325' : mA A0 325 = mA X 325 := by
    rw [e4]
    exact funext (fun i => s1.2.2.1 325 i (nRX _ (by decide) (by decide)))
  obtain ⟨z1, z2, z3, z4, z5, z6, z7, z8, z9, z10, z11, z12⟩ := h.ji
  obtain ⟨tr, t1, t2, t3, t4, t5, t6, t7, t8, t9, t10, t11, t12, t13, t14, t15⟩ := h.tg
  have igl := z2.2.1
  have trl := t2.2.1
  have ekl := h.oe.2.1
  have rig : RX ig := h.ri
  have rtr : RX tr := h.bm.2.1 _ _ _ (by unfold RX; omega) t1
  have rek : RX ek' := bm.2.1 514 301 ek' (c3 _ (by decide) (by decide)) (by rw [GK]; exact p1)
  have n5 : ∀ a, okA X 100 a → a ≠ 305 := fun a oa => ok_ne oa (xw_ok305 h.xw) (by decide)
  have ne1 : ek' ≠ ig ∧ ek' ≠ tr := by
    rcases p12 with ⟨e, -⟩ | ⟨e, -⟩
    · exact ⟨by rw [e]; exact Ne.symm h.ie, by rw [e]; exact Ne.symm t8⟩
    · exact ⟨by omega, by omega⟩
  have ek5 : ek' ≠ 305 := ok_ne p2 (xw_ok305 hWk) (by decide)
  have Aig : mA X2 ig = mA X ig := by rw [AX ig rig, r4 ig (n5 _ z2), (p7.2 ig igl).2.2.2.2.1 (Ne.symm ne1.1)]
  have Atr : mA X2 tr = mA X tr := by rw [AX tr rtr, r4 tr (n5 _ t2), (p7.2 tr trl).2.2.2.2.1 (Ne.symm ne1.2)]
  have Aek : ∀ j, j < 64 * F → mA X2 ek' j = mA X 325 (8 + j) := fun j hj => by rw [AX ek' rek, r4 ek' ek5]; exact p5 j hj
  have A324 : mA X2 324 = mA X 324 := by
    rw [q4 324 (by decide), e4]
    exact funext (fun i => s1.2.2.1 324 i (nRX _ (by decide) (by decide)))
  have isb : ∀ j, isB (mA X 325 j) := fun j => h.bm.2.2.2.2 325 j (rw_ok325 h.rw).2.2
  have tyk : ∀ a, a < sN (mS X) → sTy (mS X2) a = sTy (mS X) a ∧ sLen (mS X2) a = sLen (mS X) a := fun a ha => by rw [SK]; exact ⟨(p7.2 a ha).1, (p7.2 a ha).2.1⟩
  have spE : ek' ≠ 308 ∧ sTy (mS X2) (ek' - 1) ≠ 6 ∧ sTy (mS X2) (ek' - 1) ≠ 2 ∧ sTy (mS X2) (ek' - 1) ≠ 1 ∧ sTy (mS X2) (ek' - 1) ≠ 0 ∧ ek' ≠ 320 ∧ ek' ≠ 321 := by
    rcases p12 with ⟨e, -⟩ | ⟨e, -⟩
    · rw [e, (tyk (ek - 1) (by omega)).1]
      exact h.sp
    · have l := last_ty h.xs h0 (a := sN (mS X) - 1) (by omega) (by omega)
      rw [e, (tyk (sN (mS X) - 1) (by omega)).1]
      exact ⟨by omega, l.1, l.2.1, l.2.2.1, l.2.2.2, by omega, by omega⟩
  have now2 : mF X2 1034 323 = nI 0 := q8.2.1
  have hXk' := hXk
  obtain ⟨_, _, _, _, -, -, -, -, -, -, -, row1, -⟩ := hXk'
  refine JJ.mk ⟨hR2, hW2, XS_same SK GK hSk, XRR_same SK BK hXk, ?_, ?_, ?_, ?_⟩ ba bm ?_ ?_ ?_ ?_ now2 (by decide) ?_ ?_ ?_ ?_ ?_
  · -- our numbers and the time
    have L : ∀ f, mF X2 f 307 = mF X1 f 307 := fun f => FX f 307 (c3 _ (by decide) (by decide))
    have W : ∀ f, mF X2 f 304 = mF X1 f 304 := fun f => FX f 304 (c3 _ (by decide) (by decide))
    have R : ∀ f, f ≠ 1028 → f ≠ 1034 → f ≠ 1047 → f ≠ 1048 → f ≠ 1036 → f ≠ 1042 → f ≠ 1049 → 1000 < f → mF X2 f 323 = mF A0 f 323 := q9
    refine ⟨?_, ?_, ?_, ?_, ⟨0, now2, ?_, by decide⟩, q8.2.2.2.2.2.1, ?_, ⟨b, hb1, hb2, ?_, ?_⟩, ⟨0, by decide, q8.2.2.2.1, ?_⟩⟩
    · rw [R 1029 (by decide) (by decide) (by decide) (by decide) (by decide) (by decide) (by decide) (by decide), L, r7.1]; exact f0.1
    · rw [R 1031 (by decide) (by decide) (by decide) (by decide) (by decide) (by decide) (by decide) (by decide), L, r7.2.2.1]; exact f0.2.2.1
    · rw [R 1032 (by decide) (by decide) (by decide) (by decide) (by decide) (by decide) (by decide) (by decide), L, r7.2.2.2.1]; exact f0.2.2.2.1
    · rw [R 1033 (by decide) (by decide) (by decide) (by decide) (by decide) (by decide) (by decide) (by decide), L, r7.2.2.2.2.1]; exact f0.2.2.2.2.1
    · rw [W]; exact r6.1
    · rw [W]; exact r6.2.2
    · rw [R 1030 (by decide) (by decide) (by decide) (by decide) (by decide) (by decide) (by decide) (by decide)]; exact f0.2.1
    · rw [L]; exact r7.2.1
    · rw [L]; exact r7.2.2.2.2.2.1
  · exact ⟨q8.2.2.1, by rw [FX 642 304 (c3 _ (by decide) (by decide))]; exact r6.2.1, fun s _ hs => by omega⟩
  · exact ⟨0, by decide, by rw [FX 265 307 (c3 _ (by decide) (by decide))]; exact r7.2.2.2.2.2.2.1, fun k hk => by omega, fun k _ hk => q11 k hk, fun k hk => by omega⟩
  · exact ⟨0, 0, 0, id, id, ⟨by decide, by decide⟩, ⟨by decide, by decide⟩, by rw [FX 260 307 (c3 _ (by decide) (by decide))]; exact r7.2.2.2.2.2.2.2, q8.2.2.2.2.2.2, now2, fun i hi => by omega, fun i j hi => by omega, fun i hi => by omega, fun k hk _ => q12 k hk, fun i hi => by omega, fun i j h1 h2 => by omega, fun i hi => by omega, fun i j hi => by omega⟩
  · intro i hi'
    rw [q7 i hi', AX 305 (c3 _ (by decide) (by decide)), r5 i hi']
  · exact ⟨0, 0, id, id, ⟨by decide, by decide⟩, by rw [FX 208 314 (c3 _ (by decide) (by decide))]; exact r8, now2, fun i hi => by omega, fun i j hi => by omega, fun i hi => by omega, fun k hk _ => q13 k hk, fun i hi => by omega, fun i j h1 h2 => by omega, fun i hi => by omega, fun i j hi => by omega⟩
  · refine ⟨by rw [GK, p10]; exact z1, okk (p7.ok z2), by rw [(tyk ig igl).2]; exact z3, z4, fun j hj => by rw [A325, Aig]; exact z5 j hj, z6, ?_, ?_, ?_, ?_, z11, z12⟩
    · rw [(tyk (ig - 1) (by omega)).1]; exact z7
    · rw [(tyk (ig - 1) (by omega)).1]; exact z8
    · rw [(tyk (ig - 1) (by omega)).1]; exact z9
    · rw [(tyk (ig - 1) (by omega)).1]; exact z10
  · -- files
    have nmE : ∀ i j, i < F → j < 64 → mA X2 ek' (64 * i + j) = mA X 325 (8 + 64 * i + j) := fun i j hi hj => by
      rw [Aek (64 * i + j) (by omega)]
      congr 1
      omega
    have wE : ∀ i d, i < F → d ≤ 60 → w4 (mA X2 ek') (64 * i + d) = nI (wN (mA X 325) (8 + 64 * i + d)) := fun i d hi hd => by
      rw [w4_nI]
      congr 1
      refine wN_sh (fun x hx => ?_)
      have := nmE i (d + x) hi (by omega)
      rw [show 64 * i + d + x = 64 * i + (d + x) by omega, this]
      congr 1
      omega
    refine FI.mk a1 ?_ ?_ (by rw [GK]; exact p1) (okk p2) (by rw [SK]; exact p3) (by rw [SK]; exact p4) (fun i j hi hj => ?_) (fun i hi => ?_) (fun i hi => ?_) (fun i hi => ?_) spE
    · rw [q9 1035 (by decide) (by decide) (by decide) (by decide) (by decide) (by decide) (by decide) (by decide)]; exact f0.2.2.2.2.2.1
    · rw [FX 513 301 (c3 _ (by decide) (by decide)), r12]; exact p6
    · rw [q5 i j hi hj, A325', nmE i j hi (by omega)]
    · obtain ⟨y1, y2, y3⟩ := q6 i hi
      rw [y1, y2, y3, A325', wE i 48 hi (by decide), wE i 52 hi (by decide), wE i 56 hi (by decide)]
      exact ⟨rfl, rfl, rfl⟩
    · obtain ⟨y1, y2, -⟩ := q6 i hi
      refine ⟨_, _, y1, y2, ?_⟩
      rw [A325']
      exact (a7 i hi).2.1.1
    · obtain ⟨⟨-, z, y1, y2, y3, y4⟩, -⟩ := a7 i hi
      refine ⟨z, y1, y2, fun j hj => ?_, fun j h1 h2 => ?_⟩
      · have g := y3 j hj
        have g' : gd (bv (mA X 325 (8 + 64 * i + j))) := g
        obtain ⟨v1, -, -⟩ := gd_v (isb _) g'
        unfold gd at g'
        exact ⟨_, g'.1, g'.2, by rw [nmE i j hi (by omega)]; exact v1⟩
      · have g : bv (mA X 325 (8 + 64 * i + j)) = 0 := y4 j h1 h2
        rw [nmE i j hi (by omega)]
        exact (isB_n (isb _) (n := 0) (by decide)).mpr g
  · intro k hk
    cases hc : mB X2 318 k with
    | none => exact Or.inl ⟨hc, q10 k hk⟩
    | some c =>
      have hck : mB Xk 318 k = some c := by rw [← BK]; exact hc
      have oc := (rowN_at row1 hck).2
      refine Or.inr ⟨c, hc, okk oc, Or.inl ⟨q10 k hk, ?_⟩⟩
      rw [FX 64 c (bm.1 c 1 (okk oc) (by unfold TX; omega))]
      exact r10 k c hk hck
  · intro i j hi' hj s _ _ _
    exact absurd (q10 i hi') s
  · rw [q7 5 (by decide)]; exact q8.2.2.2.2.1.symm
  · intro k hk s
    exact absurd (q10 k hk) s
  · refine TS.mk h.y1 ?_ ?_ q8.1 ?_ ?_ ⟨tr, by rw [GK, p11]; exact t1, okk (p7.ok t2), by rw [(tyk tr trl).2]; exact t3, by rw [(tyk tr trl).2]; exact t4, by rw [(tyk tr trl).2]; exact t5, fun j hj => by rw [A324, Atr]; exact t6 j hj, t7, Ne.symm ne1.2, t9, ?_, ?_, ?_, ?_, t14, t15⟩ (Ne.symm ne1.1)
    · rw [q9 1025 (by decide) (by decide) (by decide) (by decide) (by decide) (by decide) (by decide) (by decide)]; exact f0.2.2.2.2.2.2.1
    · rw [q9 1027 (by decide) (by decide) (by decide) (by decide) (by decide) (by decide) (by decide) (by decide)]; exact f0.2.2.2.2.2.2.2
    · rw [FX 711 300 (c3 _ (by decide) (by decide)), r11, p9]; exact h.tm
    · rw [FX 712 300 (c3 _ (by decide) (by decide))]; exact r9
    · rw [(tyk (tr - 1) (by omega)).1]; exact t10
    · rw [(tyk (tr - 1) (by omega)).1]; exact t11
    · rw [(tyk (tr - 1) (by omega)).1]; exact t12
    · rw [(tyk (tr - 1) (by omega)).1]; exact t13
end Boot
