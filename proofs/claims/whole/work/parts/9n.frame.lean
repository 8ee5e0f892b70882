/-! ===== part 9n: a frame arrives, in both ===== -/
/-- the class takes the frame in the tray -/
def frX {β : Type} (fu : Nat) (K : Mm → Option β) (M13 : Mm) : Option β :=
    (gR M13 11 707 (some 300)).bind fun v14 =>
    (gR M13 11 710 (some 300)).bind fun v15 =>
    (gI M13 11 711 (some 300)).bind fun v16 =>
    (rc M13 3 v14).bind fun q17 =>
    b2 (fX3_read fu q17 v15 v16 M13) fun v19 M18 =>
    if v19 = (2054 : Int32) then (
    (gR M18 11 706 (some 300)).bind fun v37 =>
    (gR M18 11 710 (some 300)).bind fun v38 =>
    (gI M18 11 711 (some 300)).bind fun v39 =>
    (rc M18 4 v37).bind fun q40 =>
    (fX4_takeArp fu q40 v38 v39 M18).bind fun M41 =>
    K M41)
    else (
    if v19 = (1 : Int32) then (
    (gR M18 11 707 (some 300)).bind fun v34 =>
    (rc M18 3 v34).bind fun q35 =>
    (fX3_echo fu q35  M18).bind fun M36 =>
    K M36)
    else (
    if v19 = (6 : Int32) then (
    (gR M18 11 707 (some 300)).bind fun v20 =>
    (rc M18 3 v20).bind fun q21 =>
    b2 (fX3_readSegment fu q21  M18) fun v23 M22 =>
    if v23 = 0 then (
    K M22)
    else (
    (gR M22 11 708 (some 300)).bind fun v24 =>
    (rc M22 9 v24).bind fun q25 =>
    b2 (fX9_take fu q25  M22) fun v27 M26 =>
    if v27 = none then (
    K M26)
    else (
    (gR M26 11 709 (some 300)).bind fun v28 =>
    (rc M26 7 v28).bind fun q29 =>
    (fX7_lookAt fu q29 v27 M26).bind fun M30 =>
    (gR M30 11 708 (some 300)).bind fun v31 =>
    (rc M30 9 v31).bind fun q32 =>
    (fX9_sendAllDue fu q32 v27 M30).bind fun M33 =>
    K M33)))
    else (
    K M18)))
section Frame
variable {A M A' M' : Mm} {KN KS t T im ig F ek ty nw : Nat}
theorem FrM_305 (hW : XW M) (f : FrM M M') : mA M' 305 = mA M 305 := by
  have e := f.gen.2.2.2.2.2 305 (xw_ok305 hW).2.1
  refine e ?_
  unfold QLx
  have := (xw_ok304 hW).2.2
  show ¬ (sTy (mS M) 304 = 6 ∨ (308 ≤ 305 ∧ 305 ≤ 312))
  omega
theorem FrA_330 (f : FrA A A') : mA A' 330 = mA A 330 := f.2.2.2.2.2.1 330 (by omega) (by omega)
/-- is the frame for us -/
def fU (A : Mm) : Prop := (h2 (mA A 324) 0 = (mF A 1032 323) ∧ w4 (mA A 324) 2 = (mF A 1033 323)) ∨ (h2 (mA A 324) 0 = 65535 ∧ w4 (mA A 324) 2 = -1)
theorem m_frameIn (fu : Nat) (hR : RW A) (ht : (mF A 1025 323) = nI ty) (h1 : 14 ≤ ty) (h2' : ty ≤ 65540) : (fU A → fX16_frameIn fu 323 A = fX16_frameIn_L74 fu 323 A) ∧ (¬ fU A → fX16_frameIn fu 323 A = some A) := by
  have o := rw_ok323 hR
  have e0 : fX16_trayHalf fu 323 0 A = some (h2 (mA A 324) 0, A) := m_trayHalf hR fu (i := 0) (by decide)
  have e2 : fX16_trayWord fu 323 2 A = some (w4 (mA A 324) 2, A) := m_trayWord hR fu (i := 2) (by decide)
  unfold fX16_frameIn fX16_frameIn_L38 fX16_frameIn_L39 fX16_frameIn_L63 fX16_frameIn_L64 fU
  simp only [gI_ok o, ob_some, ht, if_pos (show (14 : Int32) ≤ nI ty from nI_le (a := 14) h1 (by omega)), rc_ok o, e0, e2, b2_some]
  have one0 : ¬ (1 : Int32) = 0 := by decide
  by_cases c1 : h2 (mA A 324) 0 = (mF A 1032 323)
  · rw [if_pos c1]
    by_cases c2 : w4 (mA A 324) 2 = (mF A 1033 323)
    · rw [if_pos c2]
      refine ⟨fun _ => ?_, fun z => absurd (Or.inl ⟨c1, c2⟩) z⟩
      by_cases c3 : h2 (mA A 324) 0 = 65535
      · rw [if_pos c3]
        by_cases c4 : w4 (mA A 324) 2 = -1
        · rw [if_pos c4, if_neg one0]
        · rw [if_neg c4, if_neg one0]
      · rw [if_neg c3, if_neg one0]
    · rw [if_neg c2]
      by_cases c3 : h2 (mA A 324) 0 = 65535
      · rw [if_pos c3]
        by_cases c4 : w4 (mA A 324) 2 = -1
        · rw [if_pos c4, if_pos trivial, if_neg one0]
          exact ⟨fun _ => rfl, fun z => absurd (Or.inr ⟨c3, c4⟩) z⟩
        · rw [if_neg c4, if_pos trivial, if_pos trivial]
          exact ⟨fun z => z.elim (fun q => absurd q.2 c2) (fun q => absurd q.2 c4), fun _ => rfl⟩
      · rw [if_neg c3, if_pos trivial, if_pos trivial]
        exact ⟨fun z => z.elim (fun q => absurd q.2 c2) (fun q => absurd q.1 c3), fun _ => rfl⟩
  · rw [if_neg c1]
    by_cases c3 : h2 (mA A 324) 0 = 65535
    · rw [if_pos c3]
      by_cases c4 : w4 (mA A 324) 2 = -1
      · rw [if_pos c4, if_pos trivial, if_neg one0]
        exact ⟨fun _ => rfl, fun z => absurd (Or.inr ⟨c3, c4⟩) z⟩
      · rw [if_neg c4, if_pos trivial, if_pos trivial]
        exact ⟨fun z => z.elim (fun q => absurd q.1 c1) (fun q => absurd q.2 c4), fun _ => rfl⟩
    · rw [if_neg c3, if_pos trivial, if_pos trivial]
      exact ⟨fun z => z.elim (fun q => absurd q.1 c1) (fun q => absurd q.1 c3), fun _ => rfl⟩
theorem x_isForUs (fu : Nat) (hW : XW M) {tr : Nat} (ot : okA M 100 tr) (hl : sLen (mS M) tr < 2 ^ 30) (h14 : 14 ≤ sLen (mS M) tr) (e0 : h2 (mA M tr) 0 = h2 (mA A 324) 0) (e2 : w4 (mA M tr) 2 = w4 (mA A 324) 2) (eh : (mF A 1032 323) = (mF M 258 307)) (el : (mF A 1033 323) = (mF M 259 307)) : (fU A → fX3_isForUs fu 314 (some tr) M = some (1, M)) ∧ (¬ fU A → fX3_isForUs fu 314 (some tr) M = some (0, M)) := by
  have o := xw_ok314 hW
  have o7 := xw_ok307 hW
  have t0 : fX11_two fu (some tr) 0 M = some (h2 (mA M tr) 0, M) := x_two fu ot hl (i := 0) (by omega)
  have t2 : fX11_four fu (some tr) 2 M = some (w4 (mA M tr) 2, M) := x_four fu ot hl (i := 2) (by omega)
  unfold fX3_isForUs fX3_isForUs_L34 fU
  rw [t0, b2_some, t2, b2_some, gR_ok o, ob_some, xw_g206_314 hW, gI_ok o7, ob_some, e0, e2, eh, el]
  by_cases c1 : h2 (mA A 324) 0 = (mF M 258 307)
  · rw [if_pos c1, ob_some, gI_ok o7, ob_some]
    by_cases c2 : w4 (mA A 324) 2 = (mF M 259 307)
    · rw [if_pos c2, rN1]
      exact ⟨fun _ => rfl, fun z => absurd (Or.inl ⟨c1, c2⟩) z⟩
    · rw [if_neg c2]
      by_cases c3 : h2 (mA A 324) 0 = 65535
      · rw [if_pos c3]
        by_cases c4 : w4 (mA A 324) 2 = -1
        · rw [if_pos c4, rN1]
          exact ⟨fun _ => rfl, fun z => absurd (Or.inr ⟨c3, c4⟩) z⟩
        · rw [if_neg c4, rN0]
          exact ⟨fun z => z.elim (fun q => absurd q.2 c2) (fun q => absurd q.2 c4), fun _ => rfl⟩
      · rw [if_neg c3, rN0]
        exact ⟨fun z => z.elim (fun q => absurd q.2 c2) (fun q => absurd q.1 c3), fun _ => rfl⟩
  · rw [if_neg c1]
    by_cases c3 : h2 (mA A 324) 0 = 65535
    · rw [if_pos c3]
      by_cases c4 : w4 (mA A 324) 2 = -1
      · rw [if_pos c4, rN1]
        exact ⟨fun _ => rfl, fun z => absurd (Or.inr ⟨c3, c4⟩) z⟩
      · rw [if_neg c4, rN0]
        exact ⟨fun z => z.elim (fun q => absurd q.1 c1) (fun q => absurd q.2 c4), fun _ => rfl⟩
    · rw [if_neg c3, rN0]
      exact ⟨fun z => z.elim (fun q => absurd q.1 c1) (fun q => absurd q.1 c3), fun _ => rfl⟩
/-- a frame is taken, in both -/
theorem sp_frame (fu : Nat) (hfu : 100000 ≤ fu) (h : JJ A M KN KS t T im ig F ek ty nw) (hl : ty ≤ 1514) (hT : T + 200000 < 2 ^ 30) (ht : t ≤ 590) :
    ∃ A' M' T', fX16_frameIn fu 323 A = some A' ∧ (∀ {β : Type} (K : Mm → Option β), frX fu K M = K M') ∧ T ≤ T' ∧ T' ≤ T + 70000 ∧ JJ A' M' KN KS (t + 2) T' im ig F ek ty nw := by
  have hR := h.rw'
  have hW := h.xw
  have o := rw_ok323 hR
  have o3 := xw_ok300 hW
  have o314 := xw_ok314 hW
  have hts := h.ts
  obtain ⟨tr, g1, g2, g3, g4, g5, g6, g7, g8, g9, g10, g11, g12, g13, g14, g15⟩ := hts.tg
  have hTr : TrR ty tr A M := ⟨hts.ta, g2, g3, by omega, g6, g9, g10, hts.y1⟩
  obtain ⟨p1, p2, p3, p4, -⟩ := h.jl.2.2.2.2.1
  have x0 : ∀ {β : Type} (K : Mm → Option β), frX fu K M = b2 (fX3_read fu 314 (some tr) (nI ty) M) fun v19 M18 => if v19 = (2054 : Int32) then ((gR M18 11 706 (some 300)).bind fun v37 => (gR M18 11 710 (some 300)).bind fun v38 => (gI M18 11 711 (some 300)).bind fun v39 => (rc M18 4 v37).bind fun q40 => (fX4_takeArp fu q40 v38 v39 M18).bind fun M41 => K M41) else (if v19 = (1 : Int32) then ((gR M18 11 707 (some 300)).bind fun v34 => (rc M18 3 v34).bind fun q35 => (fX3_echo fu q35 M18).bind fun M36 => K M36) else (if v19 = (6 : Int32) then ((gR M18 11 707 (some 300)).bind fun v20 => (rc M18 3 v20).bind fun q21 => b2 (fX3_readSegment fu q21 M18) fun v23 M22 => if v23 = 0 then (K M22) else ((gR M22 11 708 (some 300)).bind fun v24 => (rc M22 9 v24).bind fun q25 => b2 (fX9_take fu q25 M22) fun v27 M26 => if v27 = none then (K M26) else ((gR M26 11 709 (some 300)).bind fun v28 => (rc M26 7 v28).bind fun q29 => (fX7_lookAt fu q29 v27 M26).bind fun M30 => (gR M30 11 708 (some 300)).bind fun v31 => (rc M30 9 v31).bind fun q32 => (fX9_sendAllDue fu q32 v27 M30).bind fun M33 => K M33))) else (K M18))) := fun K => by
    unfold frX
    rw [gR_ok o3, ob_some, xw_g707_300 hW, gR_ok o3, ob_some, g1, gI_ok o3, ob_some, hts.tm, rc_ok o314, ob_some]
  have skip : ∀ {β : Type} (K : Mm → Option β), fX3_read fu 314 (some tr) (nI ty) M = some (0, M) → frX fu K M = K M := fun K z => by
    rw [x0, z, b2_some, if_neg (by decide), if_neg (by decide), if_neg (by decide)]
  have jt : JJ A M KN KS (t + 2) T im ig F ek ty nw := JJ_mono (by omega) h
  by_cases c14 : ty < 14
  · refine ⟨A, M, T, ?_, fun K => skip K ?_, Nat.le_refl _, by omega, jt⟩
    · unfold fX16_frameIn
      rw [gI_ok o, ob_some, hts.ta, if_neg (show ¬ (14 : Int32) ≤ nI ty from nI_ge (b := 14) c14 (by decide))]
    · unfold fX3_read
      rw [if_pos (show nI ty < (14 : Int32) from nI_lt (b := 14) c14 (by decide))]
  · have E0 : h2 (mA M tr) 0 = h2 (mA A 324) 0 := h2_congr (g6 _ (by omega)).symm (g6 _ (by omega)).symm
    have E12 : h2 (mA M tr) 12 = h2 (mA A 324) 12 := h2_congr (g6 _ (by omega)).symm (g6 _ (by omega)).symm
    have E2 : w4 (mA M tr) 2 = w4 (mA A 324) 2 := w4_congr (fun j h1 h2 => (g6 j (by omega)).symm)
    obtain ⟨f1, f2⟩ := m_frameIn fu hR hts.ta (by omega) hts.y1
    obtain ⟨u1, u2⟩ := x_isForUs fu hW g2 (by omega) (by omega) E0 E2 p3 p4
    have x1 : fX3_read fu 314 (some tr) (nI ty) M = b2 (fX3_isForUs fu 314 (some tr) M) fun v3 M2 => if v3 = 0 then (some ((0 : Int32), M2)) else (b2 (fX11_two fu (some tr) (12 : Int32) M2) fun v5 M4 => if v5 = (2054 : Int32) then (some ((2054 : Int32), M4)) else (if v5 = (2048 : Int32) then ((rc M4 3 (some 314)).bind fun q6 => b2 (fX3_readPacket fu q6 (some tr) (nI ty - (14 : Int32)) M4) fun v8 M7 => if v8 = 0 then (some ((0 : Int32), M7)) else ((gI M7 3 204 (some 314)).bind fun v9 => some (v9, M7))) else (some ((0 : Int32), M4)))) := by
      unfold fX3_read
      rw [if_neg (show ¬ nI ty < (14 : Int32) from nI_nlt (b := 14) (by omega) (by omega)), rc_ok o314, ob_some]
    by_cases cu : fU A
    · have t12 : fX11_two fu (some tr) 12 M = some (h2 (mA A 324) 12, M) := by
        rw [← E12]
        exact x_two fu g2 (by omega) (i := 12) (by omega)
      have m12 : fX16_trayHalf fu 323 12 A = some (h2 (mA A 324) 12, A) := m_trayHalf hR fu (i := 12) (by decide)
      rw [u1 cu, b2_some, if_neg (by decide), t12, b2_some] at x1
      have m1 : fX16_frameIn fu 323 A = if h2 (mA A 324) 12 = (2054 : Int32) then ((fX16_arp fu 323 A).bind fun M10 => some M10) else (if h2 (mA A 324) 12 = (2048 : Int32) then ((fX16_ipIn fu 323 A).bind fun M8 => some M8) else some A) := by
        rw [f1 cu]
        unfold fX16_frameIn_L74
        simp only [rc_ok o, ob_some, m12, b2_some]
      by_cases c1 : h2 (mA A 324) 12 = (2054 : Int32)
      · rw [if_pos c1] at x1 m1
        obtain ⟨A', M', T', r1, r2, r3, r4, r5, r6, r7⟩ := sp_arp fu (by omega) h.jl h.ba (by omega) hTr
        have z := (zX16_arp fu 323 A hR rfl r1).1
        have j1 := JJ_link (u := 0) h r5 (oX16_arp fu 323 A h.ba (by unfold RM; omega) r1).2 (oX4_takeArp fu 307 _ _ M h.bm (by unfold RX; omega) (inR_some (h.bm.2.1 710 300 tr (by unfold RX; omega) g1)) r2).2 (fun j hj => by rw [FrA_330 r6, FrM_305 hW r7]; exact h.jn j hj) r6.ra r7.rm z
        refine ⟨A', M', T', by rw [m1, r1, ob_some], fun K => ?_, r3, by omega, JJ_mono (u := 2) (by omega) j1⟩
        rw [x0, x1, b2_some, if_pos rfl, gR_ok o3, ob_some, xw_g706_300 hW, gR_ok o3, ob_some, g1, gI_ok o3, ob_some, hts.tm, rc_ok (xw_ok307 hW), ob_some, r2, ob_some]
      · rw [if_neg c1] at x1 m1
        by_cases c2 : h2 (mA A 324) 12 = (2048 : Int32)
        · rw [if_pos c2] at x1 m1
          rw [rc_ok o314, ob_some, show nI ty - (14 : Int32) = nI (ty - 14) from nI_sub (y := 14) (by omega)] at x1
          have R := sp_ipIn fu (by omega) h.jl (by omega) (by omega) h.jd h.jn h.ba h.bm hTr hl (by omega) g4 g13 g12 g11 (h.bm.2.1 710 300 tr (by unfold RX; omega) g1)
          rcases R with ⟨A', M', r1, r2, r3⟩ | ⟨A', M', e, bd, pl, r1, r2, ⟨x, rp⟩, r3, r4⟩
          · have j1 := JJ_kept (u := 1) h r3
            rw [r2, b2_some, if_pos rfl] at x1
            refine ⟨A', M', T, by rw [m1, r1, ob_some], fun K => ?_, Nat.le_refl _, by omega, JJ_mono (u := 1) (by omega) j1⟩
            rw [x0, x1, b2_some, if_neg (by decide), if_neg (by decide), if_neg (by decide)]
          · have j1 := JJ_kept (u := 1) h r3
            have hR1 := j1.rw'
            have hW1 := j1.xw
            rw [r2, b2_some, if_neg (by decide), gI_ok (xw_ok314 hW1), ob_some] at x1
            obtain ⟨y, y1, y2⟩ : ∃ y, y < 256 ∧ u8 x = nI y := ⟨bN x, bN_lt x, u8_nI x⟩
            rw [y2] at rp
            have tk : fX16_taken fu 323 (mF M' 204 314) (nI e) A' = if (mF M' 204 314) = (1 : Int32) then ((fX16_echo fu 323 (nI e) A').bind fun M4 => some M4) else (if (mF M' 204 314) = (6 : Int32) then ((fX16_tcp fu 323 (nI e) A').bind fun M2 => some M2) else some A') := by
              unfold fX16_taken
              rw [rc_ok (rw_ok323 hR1), ob_some, ob_some]
            rw [tk] at r1
            have q4 : ¬ (mF M' 204 314) = (2054 : Int32) := fun z => by
              rw [rp] at z
              have := (nI_eq (b := 2054) (by omega) (by decide)).mp z
              omega
            by_cases q1 : (mF M' 204 314) = (1 : Int32)
            · rw [if_pos q1] at r1
              obtain ⟨A2, M2, T2, s1, s2, s3, s4, s5, s6, s7⟩ := sp_echo fu (by omega) j1.jl (by omega) j1.ba.2.2.2.2 r4
              have z := (zX16_echo fu 323 _ A' hR1 rfl s1).1
              have j2 := JJ_link (u := 0) j1 s5 (oX16_echo fu 323 _ A' j1.ba (by unfold RM; omega) s1).2 (oX3_echo fu 314 M' j1.bm (by unfold RX; omega) s2).2 (fun j hj => by rw [FrA_330 s6, FrM_305 hW1 s7]; exact j1.jn j hj) s6.ra s7.rm z
              refine ⟨A2, M2, T2, by rw [m1, r1, s1, ob_some, ob_some, ob_some], fun K => ?_, s3, by omega, JJ_mono (u := 1) (by omega) j2⟩
              rw [x0, x1, b2_some, if_neg q4, if_pos q1, gR_ok (xw_ok300 hW1), ob_some, xw_g707_300 hW1, rc_ok (xw_ok314 hW1), ob_some, s2, ob_some]
            · rw [if_neg q1] at r1
              by_cases q6 : (mF M' 204 314) = (6 : Int32)
              · rw [if_pos q6] at r1
                obtain ⟨A2, M2, T2, s1, s2, s3, s4, s5⟩ := sp_tcp fu hfu j1 r4 hT (by omega)
                refine ⟨A2, M2, T2, by rw [m1, r1, s1, ob_some, ob_some, ob_some], fun K => ?_, s3, s4, s5⟩
                rw [x0, x1, b2_some, if_neg q4, if_neg q1, if_pos q6, gR_ok (xw_ok300 hW1), ob_some, xw_g707_300 hW1, rc_ok (xw_ok314 hW1), ob_some]
                exact s2 K
              · rw [if_neg q6] at r1
                refine ⟨A', M', T, by rw [m1, r1, ob_some, ob_some], fun K => ?_, Nat.le_refl _, by omega, JJ_mono (u := 1) (by omega) j1⟩
                rw [x0, x1, b2_some, if_neg q4, if_neg q1, if_neg q6]
        · rw [if_neg c2] at x1 m1
          exact ⟨A, M, T, m1, fun K => skip K x1, Nat.le_refl _, by omega, jt⟩
    · rw [u2 cu, b2_some, if_pos rfl] at x1
      exact ⟨A, M, T, f2 cu, fun K => skip K x1, Nat.le_refl _, by omega, jt⟩
end Frame
