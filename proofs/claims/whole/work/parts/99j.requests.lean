/-! ===== part 99j: requests of a connection, in both ===== -/
section Requests
variable {A M A' M' : Mm}
/-- bytes are left at once, in the class -/
theorem x_leaveL (fu : Nat) (hfu : 5000 ≤ fu) {KN KS t T k c nw im ig hd ft n w : Nat} {b0 rd : Int32} {v : Nat → Nat} (h : TK A M KN KS t T im ig k c nw hd ft b0 v) (hk : k < 16) (hin : n ≤ hd) (hn : 0 < n) (h0 : (mF M 0 (c + 2)) = rd) (hw : (mF A 805 (342 + 4 * k)) = nI w) : fX0_leave fu (c + 2) (nI n) M = some (LVM M c rd hd w n) := by
  obtain ⟨A', N, s1, s2, s3, s4, s5, s6, s7, s8, s9, s10, s11, s12, s13, s14, s15, s16, s17⟩ := sp_take fu hfu h hk (n := n) hin
  have hr := h.cr
  have hr' := s3.cr
  obtain ⟨p1, p2, p3, p4, p5⟩ := LVM_o (M := M) (c := c) (hd := hd) (w := w) (i := n) (rd := rd)
  obtain ⟨u1, u2⟩ := LVM_04 (M := M) (c := c) (hd := hd) (w := w) (i := n) h0
  have eN : N = LVM M c rd hd w n := by
    refine Mm_ext ?_ ?_ ?_ ?_ ?_
    · funext f a
      by_cases e0 : f = 0 ∧ a = c + 2
      · obtain ⟨e1, e2⟩ := e0
        subst e1 e2
        rw [u1, ← hr'.rd, s9, hr.rd, h0]
      · by_cases e4 : f = 4 ∧ a = c + 2
        · obtain ⟨e1, e2⟩ := e4
          subst e1 e2
          rw [u2, ← hr'.ow, s14, hr.ow, hw, if_neg (show ¬ n = 0 by omega)]
        · have hh : ¬ ((f = 0 ∨ f = 4) ∧ a = c + 2) := fun e => by
            rcases e with ⟨e | e, e2⟩
            · exact e0 ⟨e, e2⟩
            · exact e4 ⟨e, e2⟩
          rw [s7 f a hh, p5 f a hh]
    · rw [s12, p2]
    · rw [s8, p4]
    · rw [s13, p3]
    · rw [s11, p1]
  rw [s2, eN]
/-- is a connection ready for a request, in the class -/
def rdyP (v : Nat → Nat) : Prop := ((v 0) = 2 ∨ (v 0) = 7) ∧ (v 7) = 0 ∧ lfN v = 0 ∧ (v 2) = (v 1)
theorem st_eq {v : Nat → Nat} {n : Nat} (h : (v 0) ≤ 8) (hn : n < 100) : ((nI (v 0) : Int32) = nI n) ↔ (v 0) = n := nI_eq (by omega) (by omega)
theorem x_ready (fu : Nat) {KN KS t T k c nw im ig hd ft : Nat} {b0 : Int32} {v : Nat → Nat} (h : TK A M KN KS t T im ig k c nw hd ft b0 v) : (rdyP v ∧ fX1_isReady fu c M = some (1, M)) ∨ (¬ rdyP v ∧ fX1_isReady fu c M = some (0, M)) := by
  have hC := h.cn.1
  have hE := h.ce
  have hI := h.ci
  have hS := h.cs
  have s2 : ((nI (v 0) : Int32) = (2 : Int32)) ↔ (v 0) = 2 := st_eq hS.st1.2 (n := 2) (by decide)
  have s7 : ((nI (v 0) : Int32) = (7 : Int32)) ↔ (v 0) = 7 := st_eq hS.st1.2 (n := 7) (by decide)
  have key : ((v 7) = 0 ∧ lfN v = 0 ∧ (v 2) = (v 1) ∧ fX1_isReady_L17 fu c M = some (1, M)) ∨ (¬ ((v 7) = 0 ∧ lfN v = 0 ∧ (v 2) = (v 1)) ∧ fX1_isReady_L17 fu c M = some (0, M)) := by
    have cl1 := hI.cl1
    have mL := hI.mL
    have am := hI.am
    have ua := hI.ua
    have hl1 := hI.hl1
    have bl1 := hI.bl1
    have eq : (b0 + nI (v 2) = b0 + nI (v 1)) ↔ (v 2) = (v 1) := ⟨fun e => (nI_eq (by omega) (by omega)).mp ((Int32.add_right_inj b0).mp e), fun e => by rw [e]⟩
    unfold fX1_isReady_L17
    rw [gI_ok hC, ob_some, ← hE.cl, hI.cl, rc_ok hC, ob_some, x_left fu hC hE hI, b2_some, gI_ok hC, ob_some, gI_ok hC, ob_some, ← hE.at', ← hE.una, hI.at', hI.una]
    by_cases q1 : (v 7) = 0
    · rw [q1, if_pos (show (nI 0 : Int32) = 0 from rfl)]
      by_cases q2 : lfN v = 0
      · rw [q2, if_pos (show (nI 0 : Int32) = 0 from rfl)]
        by_cases q3 : (v 2) = (v 1)
        · rw [if_pos (eq.mpr q3), rN1]
          exact Or.inl ⟨rfl, rfl, q3, rfl⟩
        · rw [if_neg (fun z => q3 (eq.mp z)), rN0]
          exact Or.inr ⟨fun z => q3 z.2.2, rfl⟩
      · have : lfN v ≤ 70000 := by unfold lfN; omega
        rw [if_neg (show ¬ (nI (lfN v) : Int32) = 0 from fun z => q2 ((nI_eq (b := 0) (by omega) (by decide)).mp z)), rN0]
        exact Or.inr ⟨fun z => q2 z.2.1, rfl⟩
    · rw [if_neg (show ¬ (nI (v 7) : Int32) = 0 from fun z => q1 ((nI_eq (b := 0) (by omega) (by decide)).mp z)), rN0]
      exact Or.inr ⟨fun z => q1 z.1, rfl⟩
  unfold fX1_isReady rdyP
  rw [gI_ok hC, ob_some, ob_some, ← hE.st, hS.st]
  by_cases q : (v 0) = 2
  · rw [if_pos (s2.mpr q)]
    rcases key with ⟨z1, z2, z3, z4⟩ | ⟨z1, z2⟩
    · exact Or.inl ⟨⟨Or.inl q, z1, z2, z3⟩, z4⟩
    · exact Or.inr ⟨fun z => z1 z.2, z2⟩
  · rw [if_neg (fun z => q (s2.mp z))]
    by_cases q7 : (v 0) = 7
    · rw [if_pos (s7.mpr q7)]
      rcases key with ⟨z1, z2, z3, z4⟩ | ⟨z1, z2⟩
      · exact Or.inl ⟨⟨Or.inr q7, z1, z2, z3⟩, z4⟩
      · exact Or.inr ⟨fun z => z1 z.2, z2⟩
    · rw [if_neg (fun z => q7 (s7.mp z)), rN0]
      exact Or.inr ⟨fun z => by omega, rfl⟩
theorem m_ready (fu : Nat) {KN KS t T k c nw im ig hd ft : Nat} {b0 : Int32} {v : Nat → Nat} (h : TK A M KN KS t T im ig k c nw hd ft b0 v) (hk : k < 16) (k2 : Nat → Option Nat → Int32 → Mm → Option Mm) : (rdyP v → fX16_requests_L38 fu k2 323 (some (342 + 4 * k)) A = fX16_requests_L89 fu k2 323 (some (342 + 4 * k)) 1 A) ∧ (¬ rdyP v → fX16_requests_L38 fu k2 323 (some (342 + 4 * k)) A = k2 323 (some (342 + 4 * k)) 0 A) := by
  have hR := h.rw'
  have hA := rw_cnO hR k hk
  have hI := h.ci
  have hS := h.cs
  have s2 : ((nI (v 0) : Int32) = (2 : Int32)) ↔ (v 0) = 2 := st_eq hS.st1.2 (n := 2) (by decide)
  have s7 : ((nI (v 0) : Int32) = (7 : Int32)) ↔ (v 0) = 7 := st_eq hS.st1.2 (n := 7) (by decide)
  have e88 : fX16_requests_L88 fu k2 323 (some (342 + 4 * k)) A = k2 323 (some (342 + 4 * k)) 0 A := by
    unfold fX16_requests_L88 fX16_requests_L89 fX16_requests_L108 fX16_requests_L109
    rw [if_pos rfl]
  have key : ((v 7) = 0 ∧ lfN v = 0 ∧ (v 2) = (v 1) → fX16_requests_L55 fu k2 323 (some (342 + 4 * k)) A = fX16_requests_L89 fu k2 323 (some (342 + 4 * k)) 1 A) ∧ (¬ ((v 7) = 0 ∧ lfN v = 0 ∧ (v 2) = (v 1)) → fX16_requests_L55 fu k2 323 (some (342 + 4 * k)) A = k2 323 (some (342 + 4 * k)) 0 A) := by
    have cl1 := hI.cl1
    have mL := hI.mL
    have am := hI.am
    have ua := hI.ua
    have hl1 := hI.hl1
    have bl1 := hI.bl1
    have eq : (b0 + nI (v 2) = b0 + nI (v 1)) ↔ (v 2) = (v 1) := ⟨fun e => (nI_eq (by omega) (by omega)).mp ((Int32.add_right_inj b0).mp e), fun e => by rw [e]⟩
    unfold fX16_requests_L55
    rw [gI_ok hA, ob_some, hI.cl, gI_ok hA, ob_some, rc_ok hA, ob_some, m_left fu hR hk hI, b2_some, gI_ok hA, ob_some, gI_ok hA, ob_some, hI.at', hI.una, e88]
    by_cases q1 : (v 7) = 0
    · rw [q1, if_pos (show (nI 0 : Int32) = 0 from rfl)]
      by_cases q2 : lfN v = 0
      · rw [q2, if_pos (show (nI 0 : Int32) = 0 from rfl)]
        by_cases q3 : (v 2) = (v 1)
        · rw [if_pos (eq.mpr q3)]
          exact ⟨fun _ => rfl, fun z => absurd ⟨rfl, rfl, q3⟩ z⟩
        · rw [if_neg (fun z => q3 (eq.mp z))]
          exact ⟨fun z => absurd z.2.2 q3, fun _ => rfl⟩
      · have : lfN v ≤ 70000 := by unfold lfN; omega
        rw [if_neg (show ¬ (nI (lfN v) : Int32) = 0 from fun z => q2 ((nI_eq (b := 0) (by omega) (by decide)).mp z))]
        exact ⟨fun z => absurd z.2.1 q2, fun _ => rfl⟩
    · rw [if_neg (show ¬ (nI (v 7) : Int32) = 0 from fun z => q1 ((nI_eq (b := 0) (by omega) (by decide)).mp z))]
      exact ⟨fun z => absurd z.1 q1, fun _ => rfl⟩
  unfold fX16_requests_L38 rdyP
  rw [gI_ok hA, ob_some, ob_some, hS.st, e88]
  by_cases q : (v 0) = 2
  · rw [if_pos (s2.mpr q)]
    exact ⟨fun z => key.1 z.2, fun z => key.2 (fun y => z ⟨Or.inl q, y⟩)⟩
  · rw [if_neg (fun z => q (s2.mp z))]
    by_cases q7 : (v 0) = 7
    · rw [if_pos (s7.mpr q7)]
      exact ⟨fun z => key.1 z.2, fun z => key.2 (fun y => z ⟨Or.inr q7, y⟩)⟩
    · rw [if_neg (fun z => q7 (s7.mp z))]
      exact ⟨fun z => by omega, fun _ => rfl⟩
theorem sp_requests (fu : Nat) (hfu : 70000 ≤ fu) {KN KS t T k c nw im ig hd ft F ek : Nat} {b0 : Int32} {v : Nat → Nat} (h : TK A M KN KS t T im ig k c nw hd ft b0 v) (hk : k < 16) (hf : FI F ek im A M) :
    ∃ A' M' hd' b0' v', fX16_requests fu 323 (some (342 + 4 * k)) A = some A' ∧ fX7_lookAt fu 319 (some c) M = some M' ∧ TK A' M' KN KS t T im ig k c nw hd' ft b0' v' ∧ FWA k A A' ∧ FWM c M M' := by
  have hR := h.rw'
  have hC := h.cn
  obtain ⟨A1, M1, hd1, l, s1, s2, tk, s4, s5, s6, s7, s8, s9, s10, s11, s12, s13⟩ := sp_skip fu (by omega) h hk
  have hR1 := tk.rw'
  have hA1 := rw_cnO hR1 k hk
  have hC1 := tk.cn
  have c7 : okA M1 0 (c + 2) := hC1.2.2.2.2.2.2.1
  have hf1 := FI_w hf hC h.xw hk s4.wa s5.wm
  have hh := tk.cr.hd1
  have ra : fX16_requests fu 323 (some (342 + 4 * k)) A = fX16_requests_L38 fu (fun b0 b1 b2 M => fX16_requests_L2 fu (fu - 1) b0 b1 b2 M) 323 (some (342 + 4 * k)) A1 := by
    unfold fX16_requests
    rw [show fu = fu - 1 + 1 by omega, fX16_requests_L2, if_neg (by decide), show fu - 1 + 1 = fu by omega]
    exact s1 (fun X => fX16_requests_L38 fu (fun b0 b1 b2 M => fX16_requests_L2 fu (fu - 1) b0 b1 b2 M) 323 (some (342 + 4 * k)) X)
  have end' : ∀ X, fX16_requests_L2 fu (fu - 1) 323 (some (342 + 4 * k)) 0 X = some X := fun X => by
    rw [show fu - 1 = fu - 2 + 1 by omega, fX16_requests_L2, if_pos rfl]
  unfold fX7_lookAt
  rw [gR_ok hC.1, ob_some, hC.2.2.1, rc_ok hC.2.2.2.2.2.2.1, ob_some, s2, ob_some, rc_ok hC1.1, ob_some]
  rcases x_ready fu tk with ⟨rd, y⟩ | ⟨rd, y⟩
  · rw [ra, y, b2_some, if_neg (by decide), (m_ready fu tk hk _).1 rd]
    obtain ⟨r1, r2, r3, r4⟩ := rd
    have hI := tk.ci
    have ha : (v 2) = 1 + (v 4) + (v 5) := by
      have := hI.mL
      have := hI.am
      unfold lfN at r3
      omega
    -- empty lines
    obtain ⟨A2, M2, hd2, e1, e2, tk2, e4, e5, e6, e7, e8, e9⟩ : ∃ A2 M2 hd2, fX16_oneRequest fu 323 (some (342 + 4 * k)) A1 = fX16_oneRequest_L60 fu 323 (some (342 + 4 * k)) A2 ∧ (b2 (fX7_emptyLines fu (some (c + 2)) M1) fun v8 M7 => if v8 ≤ 0 then (fX7_lookAt_L31 fu 319 (some c) (some (c + 2)) M7) else ((rc M7 0 (some (c + 2))).bind fun q9 => (fX0_leave fu q9 v8 M7).bind fun M10 => fX7_lookAt_L31 fu 319 (some c) (some (c + 2)) M10)) = fX7_lookAt_L31 fu 319 (some c) (some (c + 2)) M2 ∧ TK A2 M2 KN KS t T im ig k c nw hd2 ft b0 v ∧ FCA k A1 A2 ∧ FCM c M1 M2 ∧ (mF A2 806 (342 + 4 * k)) = nI l ∧ (l = 0 ∨ hd2 = 0) ∧ (l = 0 → 1 ≤ hd2 → bv (mA A2 (344 + 4 * k) 0) ≠ 10) ∧ (l = 0 → 1 < hd2 → ¬ (bv (mA A2 (344 + 4 * k) 0) = 13 ∧ bv (mA A2 (344 + 4 * k) 1) = 10)) := by
      by_cases q : l = 0
      · subst q
        obtain ⟨w, w1, w2⟩ := tk.cr.toN
        obtain ⟨A2, e, z1, z2, z3, z4, z5, z6, z7, z8, z9, z10, z11⟩ := sp_empty (M := M1) fu (by omega) (KN := KN) (KS := KS) (t := t) (T := T) (c := c) (nw := nw) (im := im) (ig := ig) (ft := ft) (b0 := b0) (v := v) (w := w) (rd := (mF M1 0 (c + 2))) hk hh rfl w1 c7 (fun i => u8 (mA A1 (344 + 4 * k) i)) (fun i hi => x_peek fu tk hi) hd1 0 A1 (fu - 1) (fu - 1) (by omega) (by omega) (by omega) (by omega) (by unfold LVM; rw [if_pos rfl]; exact tk) s6 w2 (fun j _ => rfl)
        rw [show fu - 1 + 1 = fu by omega] at z3 z4
        have z4' : fX7_emptyLines_L7 fu fu (some (c + 2)) (nI hd1) (0 : Int32) M1 = some (nI e, M1) := z4
        have em : fX7_emptyLines fu (some (c + 2)) M1 = some (nI e, M1) := by
          unfold fX7_emptyLines
          rw [rc_ok c7, ob_some, x_held c7, b2_some, ← hldX_eq tk.cr, hldA_nI tk.cr, z4']
        have bvu : ∀ (x : Int32) (n : Nat), n < 256 → (u8 x = nI n ↔ bv x = n) := fun x n hn => by
          rw [u8_bv]
          have := bv_lt x
          exact nI_eq (by omega) (by omega)
        refine ⟨A2, LVM M1 c (mF M1 0 (c + 2)) hd1 w e, hd1 - e, z3, ?_, z5, z6, ?_, (z7 _ _ (by omega)).trans s6, Or.inl rfl, ?_, ?_⟩
        · rw [em, b2_some]
          by_cases q : e = 0
          · rw [q, if_pos (by decide)]
            unfold LVM
            rw [if_pos rfl]
          · rw [if_neg (nI_nle (by omega) (by omega)), rc_ok c7, ob_some, x_leaveL fu (by omega) tk hk z2 (by omega) rfl w2, ob_some]
        · by_cases q : e = 0
          · rw [q]
            unfold LVM
            rw [if_pos rfl]
            exact FM.rf
          · obtain ⟨A', M', y1, y2, y3, y4, y5, -⟩ := sp_take fu (by omega) tk hk z2
            rw [x_leaveL fu (by omega) tk hk z2 (by omega) rfl w2] at y2
            rw [Option.some.inj y2]
            exact y5
        · intro _ q1 q2
          have q3 := z9 0 (by omega)
          rw [Nat.zero_add] at q3
          exact z10 (by omega) (q3.symm.trans ((bvu _ 10 (by decide)).mpr q2))
        · intro _ q1 q2
          have q3 := z9 0 (by omega)
          have q4 := z9 1 (by omega)
          rw [Nat.zero_add] at q3
          rw [Nat.add_comm 1 e] at q4
          exact z11 (by omega) ⟨q3.symm.trans ((bvu _ 13 (by decide)).mpr q2.1), q4.symm.trans ((bvu _ 10 (by decide)).mpr q2.2)⟩
      · have h00 : hd1 = 0 := by omega
        refine ⟨A1, M1, hd1, ?_, ?_, tk, FB.rf, FM.rf, s6, by omega, fun z => absurd z q, fun z => absurd z q⟩
        · unfold fX16_oneRequest
          rw [show fu = fu - 1 + 1 by omega, fX16_oneRequest_H, show fu - 1 + 1 = fu by omega, gI_ok hA1, ob_some, s6, if_neg (show ¬ (nI l : Int32) = 0 from fun z => q ((nI_eq (a := l) (b := 0) (by omega) (by decide)).mp z))]
        · unfold fX7_emptyLines
          rw [rc_ok c7, ob_some, x_held c7, b2_some, ← hldX_eq tk.cr, hldA_nI tk.cr, h00, show fu = fu - 1 + 1 by omega, fX7_emptyLines_L7, show fu - 1 + 1 = fu by omega, if_pos (by decide), b2_some, if_pos (by decide)]
    have hf2 := FI_w hf1 hC1 tk.xw hk e4.wa e5.wm
    obtain ⟨A3, M3, hd3, b3, v3, g1, g2, g3, g4, g5⟩ := sp_L60 fu hfu tk2 hk hf2 e6 s7 e7 e8 e9 r2 ha r4.symm r1
    refine ⟨A3, M3, hd3, b3, v3, ?_, ?_, g3, (s4.wa.tr e4.wa).tr g4, (s5.wm.tr e5.wm).tr g5⟩
    · unfold fX16_requests_L89 fX16_requests_L108 fX16_requests_L109
      rw [if_neg (by decide), rc_ok (rw_ok323 hR1), ob_some, e1, g1, b2_some, if_pos rfl]
      exact end' _
    · rw [← g2, ← e2]
  · rw [ra, y, b2_some, if_pos rfl, (m_ready fu tk hk _).2 rd]
    exact ⟨A1, M1, hd1, b0, v, end' _, rfl, tk, s4.wa, s5.wm⟩
end Requests
