/-! ===== part 9o: arrive and pass, in both ===== -/
section Arrive
variable {A M A' M' : Mm} {KN KS t T im ig F ek ty nw : Nat}
/-- one more frame arrived -/
theorem JJ_cnt0 (h : JJ A M KN KS t T im ig F ek ty nw) : JJ (wA A 330 (cnU (mA A 330) 0)) (wA M 305 (cnU (mA M 305) 0)) KN KS t T im ig F ek ty nw := by
  have hW := h.xw
  have hR := h.rw'
  have a1 : ∀ a, a ≠ 330 → mA (wA A 330 (cnU (mA A 330) 0)) a = mA A a := fun a ha => mA_wA_ne ha
  have x1 : ∀ a, a ≠ 305 → mA (wA M 305 (cnU (mA M 305) 0)) a = mA M a := fun a ha => mA_wA_ne ha
  have t1000 : t + 0 ≤ 1000 := by obtain ⟨_, _, _, _, _, q, -⟩ := h.jl.2.2.2.2.2.2.2; omega
  have n5 : ∀ p, okA M 100 p → p ≠ 305 := fun p hp => ok_ne hp (xw_ok305 hW) (by decide)
  refine JJ_link (u := 0) h ?_ (Bd_wA h.ba (fun e => absurd ((rw_ok330 hR).2.2.symm.trans e) (by decide))) (Bd_wA h.bm (fun e => absurd ((xw_ok305 hW).2.2.symm.trans e) (by decide))) (JN_cnU h.jn (by decide)) (FRA_330 _) (FRM_305 _) ⟨rfl, rfl, rfl, fun _ _ _ => rfl, ?_, fun _ => Or.inl rfl⟩
  · exact JL0_keep (u := 0) h.jl t1000 hR hW h.xs h.xr (fun _ _ _ => rfl) (fun O e => ⟨O, e, Nat.le_refl _, Nat.le_refl _⟩) (fun a ha => a1 a (by omega)) (fun _ _ _ => rfl) (fun _ _ _ => rfl) (fun p hp => ⟨fun _ _ _ => rfl, x1 _ (n5 _ (h.xs.1 p hp).2.1)⟩) (fun a h1 h2 => x1 a (by omega)) rfl rfl
  · rw [mA_wA_self]
    unfold cnU
    rw [if_neg (by decide)]
/-- the number of bytes in the tray is other -/
theorem JJ_tray {y : Nat} (h : JJ A M KN KS t T im ig F ek ty nw) (ts' : TS y im ig ek A' M') (fA : FF (fun f => f = 1025) 323 A A') (fM : FF (fun f => f = 711) 300 M M') : JJ A' M' KN KS t T im ig F ek y nw := by
  have hW := h.xw
  refine JJ_gen0 (u := 0) h ?_ (Bd_same h.ba fA.1 fA.2.1 fA.2.2.1 fA.2.2.2.1) (Bd_same h.bm fM.1 fM.2.1 fM.2.2.1 fM.2.2.2.1) ?_ ?_ ?_ ?_ ?_ ?_ ?_ ?_ ?_ ?_ ?_ ?_ ?_ ts'
  · refine JL0_keep (u := 0) h.jl h.t1000 (fA.rW h.rw') (fM.xW hW) (XS_same fM.1 fM.2.1 h.xs) (XRR_same fM.1 fM.2.2.1 h.xr) (fun f a hf => fA.2.2.2.2 f a (by unfold JLf at hf; omega)) (fun O e => ⟨O, (fA.2.2.2.2 1049 323 (by omega)).trans e, Nat.le_refl _, Nat.le_refl _⟩) (fun a _ => by rw [fA.2.2.2.1]) (fun f _ _ => fM.2.2.2.2 f 307 (by omega)) (fun f _ _ => fM.2.2.2.2 f 304 (by omega)) (fun p hp => ⟨fun f _ _ => fM.2.2.2.2 f p (by omega), by rw [fM.2.2.2.1]⟩) (fun a _ _ => by rw [fM.2.2.2.1]) (by rw [fM.2.2.1]) (by rw [fM.2.2.1])
  · intro i hi
    rw [fA.2.2.2.1, fM.2.2.2.1]; exact h.jn i hi
  · obtain ⟨n, nw1, s, τ, hD⟩ := h.jd
    exact ⟨n, nw1, s, τ, JDa_congr (A := A) (M := M) (fun f a h1 h2 => fA.2.2.2.2 f a (by omega)) (fA.2.2.2.2 _ _ (by omega)) (by rw [fA.2.2.2.2 1049 323 (by omega)]; exact Int32.le_refl _) (fun a h1 h2 => by rw [fA.2.2.2.1]) (fM.2.2.2.2 _ _ (by omega)) (by rw [fM.2.2.1]) (fun i d _ hd => ⟨fun f h1 h2 => fM.2.2.2.2 f d (by omega), by rw [fM.2.2.2.1], by rw [fM.2.2.2.1]⟩) hD⟩
  · exact fun f k hk h1 h2 => fA.2.2.2.2 f _ (by omega)
  · exact fun a _ _ => by rw [fA.2.2.2.1]
  · exact fun a _ _ => by rw [fA.2.2.2.1]
  · exact fun f hf => fA.2.2.2.2 f 323 (by omega)
  · rw [fA.2.2.2.1]
  · exact fun t a ha => ⟨fM.ok ha, by rw [fM.1]⟩
  · exact fun a _ => by rw [fM.1]
  · rw [fM.2.2.1]
  · intro c hC
    exact ⟨fun f o ho hf => fM.2.2.2.2 f o (by omega), by rw [fM.2.2.2.1], by rw [fM.2.2.2.1], by rw [fM.2.2.2.1]⟩
  · exact ⟨by rw [fM.2.1], by rw [fM.2.1], fM.2.2.2.2 _ _ (by omega)⟩
  · intro x _ _ _ _ _
    rw [fM.2.2.2.1]
theorem JJ_tray0 (h : JJ A M KN KS t T im ig F ek ty nw) : JJ (sF A 1025 323 0) (sF M 711 300 0) KN KS t T im ig F ek 0 nw := by
  refine JJ_tray h ?_ (FF.s _ rfl) (FF.s _ rfl)
  have hts := h.ts
  have fA : ∀ f, ¬ f = 1025 → mF (sF A 1025 323 0) f 323 = mF A f 323 := fun f hf => by rw [mF_sF, if_neg (fun e => hf e.1)]
  have fM : ∀ f, ¬ f = 711 → mF (sF M 711 300 0) f 300 = mF M f 300 := fun f hf => by rw [mF_sF, if_neg (fun e => hf e.1)]
  obtain ⟨tr, g1, g2, g3, g4, g5, g6, g7, g8⟩ := hts.tg
  exact TS.mk (by omega) (by rw [mF_sF, if_pos ⟨rfl, rfl⟩]; rfl) ((fA _ (by decide)).trans hts.sz) ((fA _ (by decide)).trans hts.bo) (by rw [mF_sF, if_pos ⟨rfl, rfl⟩]; rfl) ((fM _ (by decide)).trans hts.bx) ⟨tr, g1, g2, Nat.zero_le _, g4, g5, fun j hj => by omega, g7, g8⟩ hts.ie
theorem nI_pos_ex {x : Int32} {a b : Nat} (ha : a < 2 ^ 31) (hb : b < 2 ^ 31) (h1 : ¬ x < nI a) (h2 : ¬ nI b < x) : ∃ m, x = nI m ∧ a ≤ m ∧ m ≤ b := by
  have e1 := Int32.le_iff_toInt_le.mp (Int32.not_lt.mp h1)
  have e2 := Int32.le_iff_toInt_le.mp (Int32.not_lt.mp h2)
  have t : ∀ m, m < 2 ^ 31 → (nI m).toInt = (m : Int) := fun m hm => nI_toInt hm
  rw [t a ha] at e1
  rw [t b hb] at e2
  refine ⟨x.toInt.toNat, Int32.toInt_inj.mp ?_, by omega, by omega⟩
  rw [t _ (by omega)]
  omega
/-- times that are refused, in both -/
theorem sp_refused (fu : Nat) (h : JJ A M KN KS t T im ig F ek ty nw) (a1 : Int32) : (fX16_refused fu 323 a1 A = some (-2, A) ∧ fX11_refusal fu 300 a1 M = some (-2, M)) ∨ (fX16_refused fu 323 a1 A = some (0, A) ∧ fX11_refusal fu 300 a1 M = some (0, M) ∧ ∃ tm, a1 = nI tm ∧ nw ≤ tm ∧ tm ≤ 2000000000) := by
  have hR := h.rw'
  have hW := h.xw
  have o := rw_ok323 hR
  have o3 := xw_ok300 hW
  have o4 := xw_ok304 hW
  have n2 := h.n2
  have mn : (mF M 641 304) = nI nw := by
    obtain ⟨-, -, -, -, ⟨n, p1, p2, -⟩, -⟩ := h.jl.2.2.2.2.1
    rw [p2, ← p1]
    exact h.nw
  have m1 : fX16_refused fu 323 a1 A = (if a1 < nI nw then some (-2, A) else if (2000000000 : Int32) < a1 then some (-2, A) else if a1 - nI nw ≤ (600000 : Int32) then some (0, A) else some (-2, A)) := by
    unfold fX16_refused
    rw [gI_ok o, ob_some, h.ts.bo, if_neg (show ¬ (1 : Int32) = 0 by decide)]
    simp only [gI_ok o, ob_some, h.nw]
  have x1 : fX11_refusal fu 300 a1 M = (if a1 < nI nw then some (-2, M) else if (2000000000 : Int32) < a1 then some (-2, M) else if a1 - nI nw ≤ (600000 : Int32) then some (0, M) else some (-2, M)) := by
    unfold fX11_refusal
    rw [gI_ok o3, ob_some, h.ts.bx, if_neg (show ¬ (1 : Int32) = 0 by decide)]
    simp only [gR_ok o3, xw_g705_300 hW, gI_ok o4, ob_some, mn]
  rw [m1, x1]
  by_cases c1 : a1 < nI nw
  · rw [if_pos c1, if_pos c1]
    exact Or.inl ⟨rfl, rfl⟩
  · rw [if_neg c1, if_neg c1]
    by_cases c2 : (2000000000 : Int32) < a1
    · rw [if_pos c2, if_pos c2]
      exact Or.inl ⟨rfl, rfl⟩
    · rw [if_neg c2, if_neg c2]
      by_cases c3 : a1 - nI nw ≤ (600000 : Int32)
      · rw [if_pos c3, if_pos c3]
        exact Or.inr ⟨rfl, rfl, nI_pos_ex (b := 2000000000) (by omega) (by decide) c1 c2⟩
      · rw [if_neg c3, if_neg c3]
        exact Or.inl ⟨rfl, rfl⟩
theorem JJ.snt (h : JJ A M KN KS t T im ig F ek ty nw) : (mF A 1047 323) = nI T ∧ (mF M 642 304) = nI T := ⟨h.jl.2.2.2.2.2.1.1, h.jl.2.2.2.2.2.1.2.1⟩
/-- pass, in both -/
theorem sp_passC (fu : Nat) (hfu : 100000 ≤ fu) (h : JJ A M KN KS t T im ig F ek ty nw) (hT : T + 150000 < 2 ^ 30) (a1 : Int32) : ∃ v A' M' T' nw', fX16_pass fu 323 a1 A = some (v, A') ∧ fX11_pass fu 300 a1 M = some (v, M') ∧ T ≤ T' ∧ T' ≤ T + 7716 ∧ JJ A' M' KN KS t T' im ig F ek ty nw' := by
  have hR := h.rw'
  have hW := h.xw
  have o := rw_ok323 hR
  have o3 := xw_ok300 hW
  have z0 : (0 : Int32) ≤ 0 := by decide
  have zn : ¬ (0 : Int32) ≤ -2 := by decide
  have zx : ¬ (-2 : Int32) = 0 := by decide
  rcases sp_refused fu h a1 with ⟨r1, r2⟩ | ⟨r1, r2, tm, r3, r4, r5⟩
  · refine ⟨-2, A, M, T, nw, ?_, ?_, Nat.le_refl _, by omega, h⟩
    · unfold fX16_pass
      rw [rc_ok o, ob_some, r1, b2_some, if_neg zn]
    · unfold fX11_pass
      rw [rc_ok o3, ob_some, r2, b2_some, if_neg zx]
  · obtain ⟨A', M', T', s1, s2, s3, s4, s5⟩ := sp_pass fu hfu h r4 r5 hT
    have hW' := s5.xw
    subst r3
    refine ⟨nI T' - nI T, A', M', T', tm, ?_, ?_, s3, s4, s5⟩
    · unfold fX16_pass
      rw [rc_ok o, ob_some, r1, b2_some, if_pos z0, gI_ok o, ob_some, rc_ok o, ob_some, s1, ob_some, gI_ok (rw_ok323 s5.rw'), ob_some, h.snt.1, s5.snt.1]
    · unfold fX11_pass
      rw [rc_ok o3, ob_some, r2, b2_some, if_pos rfl, gR_ok o3, ob_some, xw_g705_300 hW, gI_ok (xw_ok304 hW), ob_some, rc_ok o3, ob_some, s2, ob_some, gR_ok (xw_ok300 hW'), ob_some, xw_g705_300 hW', gI_ok (xw_ok304 hW'), ob_some, h.snt.2, s5.snt.2]
/-- arrive, in both -/
theorem sp_arriveC (fu : Nat) (hfu : 100000 ≤ fu) (h : JJ A M KN KS t T im ig F ek ty nw) (hT : T + 210000 < 2 ^ 30) (ht : t ≤ 590) (a1 : Int32) : ∃ v A' M' T' ty' nw' u, fX16_arrive fu 323 a1 A = some (v, A') ∧ fX11_arrive fu 300 a1 M = some (v, M') ∧ T ≤ T' ∧ T' ≤ T + 77716 ∧ ((u = 0 ∧ ty' = ty) ∨ (u = 2 ∧ ty ≠ 0 ∧ ty' = 0)) ∧ JJ A' M' KN KS (t + u) T' im ig F ek ty' nw' := by
  have hR := h.rw'
  have hW := h.xw
  have o := rw_ok323 hR
  have o3 := xw_ok300 hW
  have hts := h.ts
  have y1 := hts.y1
  have z0 : (0 : Int32) ≤ 0 := by decide
  have zn : ¬ (0 : Int32) ≤ -2 := by decide
  have zx : ¬ (-2 : Int32) = 0 := by decide
  rcases sp_refused fu h a1 with ⟨r1, r2⟩ | ⟨r1, r2, tm, r3, r4, r5⟩
  · refine ⟨-2, A, M, T, ty, nw, 0, ?_, ?_, Nat.le_refl _, by omega, Or.inl ⟨rfl, rfl⟩, h⟩
    · unfold fX16_arrive
      rw [rc_ok o, ob_some, r1, b2_some, if_neg zn]
    · unfold fX11_arrive
      rw [rc_ok o3, ob_some, r2, b2_some, if_neg zx]
  · by_cases c0 : ty = 0
    · subst c0
      refine ⟨-3, A, M, T, 0, nw, 0, ?_, ?_, Nat.le_refl _, by omega, Or.inl ⟨rfl, rfl⟩, h⟩
      · unfold fX16_arrive
        rw [rc_ok o, ob_some, r1, b2_some, if_pos z0, gI_ok o, ob_some, hts.ta, if_pos (show nI 0 = (0 : Int32) from rfl)]
      · unfold fX11_arrive
        rw [rc_ok o3, ob_some, r2, b2_some, if_pos rfl, gI_ok o3, ob_some, hts.tm, if_pos (show nI 0 < (1 : Int32) by decide)]
    · have k1 : ¬ nI ty = (0 : Int32) := fun z => c0 ((nI_eq (b := 0) (by omega) (by decide)).mp z)
      have k2 : ¬ nI ty < (1 : Int32) := nI_nlt (b := 1) (by omega) (by omega)
      by_cases c1 : ty ≤ 1514
      · have k3 : nI ty ≤ (1514 : Int32) := nI_le (b := 1514) c1 (by decide)
        obtain ⟨A1, M1, T1, s1, s2, s3, s4, s5⟩ := sp_pass fu hfu h r4 r5 (by omega)
        subst r3
        have hR1 := s5.rw'
        have hW1 := s5.xw
        have j2 := JJ_cnt0 s5
        obtain ⟨A3, M3, T3, u1, u2, u3, u4, u5⟩ := sp_frame fu hfu j2 c1 (by omega) ht
        have j4 := JJ_tray0 u5
        have hR3 := u5.rw'
        have hW3 := u5.xw
        have c0m := m_cnt hR1 (i := 0) (by decide)
        have c0x := x_cnt hW1 (i := 0) (by decide)
        refine ⟨nI T3 - nI T, sF A3 1025 323 0, sF M3 711 300 0, T3, 0, tm, 2, ?_, ?_, by omega, by omega, Or.inr ⟨rfl, c0, rfl⟩, j4⟩
        · unfold fX16_arrive
          rw [rc_ok o, ob_some, r1, b2_some, if_pos z0, gI_ok o, ob_some, hts.ta, if_neg k1, ob_some, if_pos k3, gI_ok o, ob_some, rc_ok o, ob_some, s1, ob_some, gR_ok (rw_ok323 hR1), ob_some, rw_g1041_323 hR1]
          have e1 : gA A1 101 (some 330) 0 = some (mA A1 330 0) := c0m.1
          have e2 : pA A1 101 (some 330) 0 (mA A1 330 0 + 1) = some (wA A1 330 (cnU (mA A1 330) 0)) := c0m.2
          rw [e1, ob_some, e2, ob_some, rc_ok (rw_ok323 j2.rw'), ob_some, u1, ob_some, pF_ok (rw_ok323 hR3), ob_some, gI_ok (rw_ok323 j4.rw'), ob_some, h.snt.1, j4.snt.1]
        · unfold fX11_arrive
          rw [rc_ok o3, ob_some, r2, b2_some, if_pos rfl, gI_ok o3, ob_some, hts.tm, if_neg k2, ob_some, if_pos k3, gR_ok o3, ob_some, xw_g705_300 hW, gI_ok (xw_ok304 hW), ob_some, rc_ok o3, ob_some, s2, ob_some, gR_ok (xw_ok300 hW1), ob_some, xw_g705_300 hW1, gR_ok (xw_ok304 hW1), ob_some, xw_g640_304 hW1]
          have e1 : gA M1 101 (some 305) 0 = some (mA M1 305 0) := c0x.1
          have e2 : pA M1 101 (some 305) 0 (mA M1 305 0 + 1) = some (wA M1 305 (cnU (mA M1 305) 0)) := c0x.2
          rw [e1, ob_some, e2, ob_some]
          have e3 := u2 (fun M41 => fX11_arrive_L167 fu 300 (mF M 642 304) M41)
          unfold frX at e3
          refine e3.trans ?_
          unfold fX11_arrive_L167
          rw [pF_ok (xw_ok300 hW3), ob_some, gR_ok (xw_ok300 j4.xw), ob_some, xw_g705_300 j4.xw, gI_ok (xw_ok304 j4.xw), ob_some, h.snt.2, j4.snt.2]
      · have k3 : ¬ nI ty ≤ (1514 : Int32) := nI_ge (a := 1514) (by omega) (by omega)
        refine ⟨-3, A, M, T, ty, nw, 0, ?_, ?_, Nat.le_refl _, by omega, Or.inl ⟨rfl, rfl⟩, h⟩
        · unfold fX16_arrive
          rw [rc_ok o, ob_some, r1, b2_some, if_pos z0, gI_ok o, ob_some, hts.ta, if_neg k1, ob_some, if_neg k3]
        · unfold fX11_arrive
          rw [rc_ok o3, ob_some, r2, b2_some, if_pos rfl, gI_ok o3, ob_some, hts.tm, if_neg k2, ob_some, if_neg k3]
end Arrive
