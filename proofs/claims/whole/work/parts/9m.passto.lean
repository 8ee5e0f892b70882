/-! ===== part 9m: all that is due happens ===== -/
section PassTo
variable {A M : Mm} {KN KS t T im ig F ek ty nw : Nat}
theorem sp_turn (fu : Nat) (hfu : 100000 ≤ fu) (h : JJ A M KN KS t T im ig F ek ty nw) {tm n m j : Nat} (h1 : nw ≤ tm) (h2 : tm ≤ 2000000000) (hT : T + 140000 < 2 ^ 30) (hn : 1 ≤ n) (hj : j < 1000000) :
    (fX16_passTo_L2 fu (n + 1) 323 (nI tm) 1 A = some (sF A 1034 323 (nI tm)) ∧ fX11_goOn_L2 fu (m + 1) 300 (nI tm) (nI j) M = some (sF M 641 304 (nI tm)) ∧ JJ (sF A 1034 323 (nI tm)) (sF M 641 304 (nI tm)) KN KS t T im ig F ek ty tm) ∨
    (∃ A' M' T' x, fX16_passTo_L2 fu (n + 1) 323 (nI tm) 1 A = fX16_passTo_L2 fu n 323 (nI tm) 1 A' ∧ fX11_goOn_L2 fu (m + 1) 300 (nI tm) (nI j) M = fX11_goOn_L2 fu m 300 (nI tm) (nI (j + 1)) M' ∧ nw ≤ x ∧ x ≤ tm ∧ T ≤ T' ∧ T' ≤ T + 1 ∧ JJ A' M' KN KS t T' im ig F ek ty x ∧ mu A' < mu A) := by
  have hR := h.rw'
  have hW := h.xw
  have o := rw_ok323 hR
  have n2 := h.n2
  obtain ⟨np, O, s, od, hO, hJ⟩ := JW_of h.jl h.nw h.n2
  obtain ⟨nd, s', τ, hD⟩ := JD_of h.jd h.nw h.n2
  have rws : (∀ i q, mB M 313 i = some q → okA M 6 q) ∧ (∀ i q, mB M 316 i = some q → okA M 2 q) := by
    obtain ⟨_, _, _, _, -, -, -, -, -, r2, r3, -⟩ := h.xr
    exact ⟨fun i q z => (rowN_at r2 z).2, fun i q z => (rowN_at r3 z).2⟩
  obtain ⟨e, a5, a6, g, ge⟩ := m_scan fu (by omega) (fun b0 b1 b2 M => fX16_passTo_L2 fu n b0 b1 b2 M) h2 h
  obtain ⟨e4, x1, x2, x3, x4⟩ := x_earlP fu (by omega) hW hJ rws.1
  obtain ⟨e3, y1, y2, y3, y4⟩ := x_earlD fu hW hD rws.2
  obtain ⟨e9, z1, z2, z3, z4⟩ := x_earlC fu (by omega) h
  have tx := x_turn fu m hW x1 y1 z1 x2 y2 z2 h2 hj
  have pt : fX16_passTo_L2 fu (n + 1) 323 (nI tm) 1 A = fX16_passTo_L296 fu (fun b0 b1 b2 M => fX16_passTo_L2 fu n b0 b1 b2 M) 323 (nI tm) (lN e) a5 a6 (if tm < e then 0 else 1) A := by
    rw [fX16_passTo_L2, if_neg (by decide)]
    exact ge
  have er := g.rng
  obtain ⟨g1, g2, g3, g4⟩ := g
  have att : e < NV → (∃ k, k < 8 ∧ e = pD A k) ∨ (∃ k, k < 4 ∧ e = dD A k) ∨ ∃ k, k < 16 ∧ (e = tD A k ∨ e = lD A k) := fun z => by
    rcases g4 with ⟨-, -, ⟨-, -, w | ⟨k, w1, w2, -⟩⟩ | ⟨k, w1, w2, -⟩⟩ | ⟨k, w1, -, -, -, -, -, w⟩
    · have := w.1
      unfold NV MX at *
      omega
    · exact Or.inl ⟨k, w1, w2⟩
    · exact Or.inr (Or.inl ⟨k, w1, w2⟩)
    · exact Or.inr (Or.inr ⟨k, w1, w.imp (fun q => q.2) (fun q => q.2.1)⟩)
  have e4a : e4 = NV ∨ e ≤ e4 := by
    rcases x4 with q | ⟨k, k1, k2⟩
    · exact Or.inl q
    · have := g1 k k1
      omega
  have e3a : e3 = NV ∨ e ≤ e3 := by
    rcases y4 with q | ⟨q1, q2, q3⟩
    · exact Or.inl q.1
    · have := g2 (s' 0) (hD.2.2.2.1 0 q1)
      omega
  have e9a : e9 = NV ∨ e ≤ e9 := by
    rcases z4 with q | ⟨k, k1, k2⟩
    · exact Or.inl q
    · have := g3 k k1
      omega
  have de : e < NV → min e4 (min e3 e9) = e := fun z => by
    rcases att z with ⟨k, k1, k2⟩ | ⟨k, k1, k2⟩ | ⟨k, k1, k2⟩
    · have := x3 k k1
      omega
    · have := y3 k k1
      omega
    · have := z3 k k1
      omega
  by_cases c : tm < e
  · refine Or.inl ⟨?_, ?_, JJ_time h h1 h2 (fun k hk => by have := g1 k hk; omega) (fun k hk => by have := g2 k hk; omega) (fun k hk => by have := g3 k hk; omega)⟩
    · rw [pt, if_pos c]
      unfold fX16_passTo_L296 fX16_passTo_L385
      rw [if_pos rfl]
      show fX16_passTo_L2 fu n 323 (nI tm) 0 A = _
      rw [show n = n - 1 + 1 by omega, fX16_passTo_L2, if_pos rfl, pF_ok o, ob_some]
    · rw [tx, if_pos (by
        unfold NV MX at *
        rcases er with q | q
        · rw [de q]; exact c
        · omega)]
  · have eN : e < NV := by unfold NV MX at *; omega
    have nwe : nw ≤ e := by
      rcases att eN with ⟨k, k1, k2⟩ | ⟨k, k1, k2⟩ | ⟨k, k1, k2⟩
      · rcases pd_no hJ k1 with ⟨-, w⟩ | ⟨i, q, w1, w2, w3⟩
        · unfold NV MX at *
          omega
        · obtain ⟨_, _, -, -, -, -, -, -, -, w8, w9⟩ := pd_at hJ w1 w3
          rw [w2] at w9
          omega
      · rcases dd_no hD k1 with ⟨-, w⟩ | ⟨i, q, w1, w2, w3⟩
        · unfold NV MX at *
          omega
        · obtain ⟨-, -, -, w8, w9⟩ := dd_at hD w1 w3
          rw [w2] at w9
          omega
      · rcases h.live k1 with w | ⟨_, _, _, _, _, -, -, tk⟩
        · obtain ⟨d1, d2⟩ := dead_at w
          unfold NV MX at *
          omega
        · have := td_le tk
          have := ld_le tk
          unfold NV MX at *
          omega
    have j1 := JJ_time h nwe (by omega) g1 g2 g3
    have mt := mu_time (A := A) (nI e)
    have dt := fun k => due_time (A := A) (nI e) k
    rw [if_neg (show ¬ tm < e from c)] at pt
    rw [de eN, if_neg c] at tx
    have oA : ∀ k, mF (sF A 1034 323 (nI e)) 965 (422 + 2 * k) = (mF A 965 (422 + 2 * k)) ∧ mF (sF A 1034 323 (nI e)) 838 (438 + 3 * k) = (mF A 838 (438 + 3 * k)) := fun k => ⟨by rw [mF_sF, if_neg (by omega)], by rw [mF_sF, if_neg (by omega)]⟩
    unfold fX16_passTo_L296 fX16_passTo_L385 at pt
    rw [if_neg (by decide), gI_ok o, ob_some, h.nw, nI_l (by omega), jmaxL_lN (by omega) (by unfold NV at eN; omega), Nat.max_eq_right nwe, lN_i, pF_ok o, ob_some] at pt
    generalize sF A 1034 323 (nI e) = A1 at pt j1 mt dt oA
    generalize sF M 641 304 (nI e) = M1 at tx j1
    have hR1 := j1.rw'
    have hW1 := j1.xw
    have o1 := rw_ok323 hR1
    obtain ⟨np1, O1, s1, od1, hO1, hJ1⟩ := JW_of j1.jl j1.nw j1.n2
    obtain ⟨nd1, s1', τ1, hD1⟩ := JD_of j1.jd j1.nw j1.n2
    have rws1 : (∀ i q, mB M1 313 i = some q → okA M1 6 q) ∧ (∀ i q, mB M1 316 i = some q → okA M1 2 q) := by
      obtain ⟨_, _, _, _, -, -, -, -, -, r2, r3, -⟩ := j1.xr
      exact ⟨fun i q z => (rowN_at r2 z).2, fun i q z => (rowN_at r3 z).2⟩
    have e31 : e < 2 ^ 31 := by unfold NV at eN; omega
    have rn : (∀ k, k < 8 → e < pD A k) → fX4_repeat fu 307 (nI e) M1 = some (0, M1) := fun w => x_repNone fu (by omega) hW1 hJ1 rws1.1 e31 (fun i hi => by
      have := w (s1 i) (hJ1.2.2.2.2.1 i hi)
      rw [(dt (s1 i)).1]
      omega)
    have en : (∀ k, k < 4 → e < dD A k) → fX3_expire fu 314 (nI e) M1 = some (0, M1) := fun w => x_expNone fu hW1 hD1 rws1.2 eN (fun k hk => by rw [(dt k).2.1]; exact w k hk)
    refine Or.inr ?_
    rcases g4 with ⟨-, -, ⟨-, -, w | ⟨k, w1, w2, w3, w4, w5, w6⟩⟩ | ⟨k, w1, w2, w3, w4, w5, w6, w7⟩⟩ | ⟨k, w1, w2, w3, w4, w5, w6, w⟩
    · have := w.1
      unfold NV MX at *
      omega
    · rcases pd_no hJ1 w1 with ⟨-, q⟩ | ⟨i, q, i1, i2, i3⟩
      · rw [(dt k).1] at q
        unfold NV MX at *
        omega
      · have ps : pD A1 (s1 i) = e := by rw [i2, (dt k).1]; exact w2.symm
        have before : ∀ l, 0 ≤ l → l < 0 + i → pD A1 (s1 l) ≠ e := fun l _ hl z => by
          have l8 := hJ1.2.2.2.2.1 l (by omega)
          have q1 := w6 (s1 l) l8 (by rw [← (dt (s1 l)).1]; exact z)
          obtain ⟨u1, u2⟩ := hJ1.2.2.2.2.2.2.2.2.2.2.1 l (by omega)
          obtain ⟨u3, u4⟩ := hJ1.2.2.2.2.2.2.2.2.2.2.1 i i1
          have u5 := hJ1.2.2.2.2.2.2.2.2.2.1 l i (by omega) i1
          rw [← (oA k).1, ← (oA (s1 l)).1, ← i2, u2, u4] at q1
          exact nI_ge (by omega) (by omega) q1
        obtain ⟨A', M', T', k1, k2, k3, k4, k5, k6⟩ := sp_again fu (by omega) j1 hO1 hJ1 i1 i3 ps (by omega)
        have n8 := hJ1.1.1
        have rp : fX4_repeat fu 307 (nI e) M1 = some (1, M') := by
          have R := x_repTo fu hW1 hJ1 rws1.1 e31 i 0 (fu - 1) (by omega) (by omega) before
          rw [show fu - 1 + 1 = fu by omega, show 0 + i = i by omega, show fu - i = fu - i - 1 + 1 by omega, k2] at R
          exact R
        refine ⟨A', M', T', e, ?_, ?_, nwe, by omega, k3, k4, k5, by omega⟩
        · rw [pt, w4, if_pos rfl, gR_ok o1, ob_some, rw_g1051_323 hR1, w5, gB_ok (rw_ok336 hR1) (by rw [rw_ln336 hR1]; omega) (by omega), ob_some, rw_pkB hR1 k w1, rc_ok o1, ob_some, ← i2, k1, ob_some]
        · rw [tx, goR_P fu m hW1 rp, nI_1]
    · rcases dd_no hD1 w1 with ⟨-, q⟩ | ⟨i, q, i1, i2, i3⟩
      · rw [(dt k).2.1] at q
        unfold NV MX at *
        omega
      · have i0 : i = 0 := by
          by_cases z : i = 0
          · exact z
          · obtain ⟨d0, d1, -⟩ := hD1.2.2.2.2.2.2.2.1 0 (by omega)
            obtain ⟨u1, u2⟩ := hD1.2.2.2.2.2.2.2.2.1 0 i (by omega) i1
            obtain ⟨-, -, -, -, v1⟩ := dd_at hD1 (i := 0) (by omega) d1
            obtain ⟨-, -, -, -, v2⟩ := dd_at hD1 i1 i3
            have s4 := hD1.2.2.2.1 0 (by omega)
            have q1 := g2 (s1' 0) s4
            rw [i2, (dt k).2.1, ← w2] at v2
            rw [(dt (s1' 0)).2.1] at v1
            have q2 := w7 (s1' 0) s4 (by omega)
            rw [← (oA k).2, ← (oA (s1' 0)).2, ← i2] at q2
            exact absurd q2 (Int32.not_le.mpr u1)
        subst i0
        have ps : dD A1 (s1' 0) = e := by rw [i2, (dt k).2.1]; exact w2.symm
        obtain ⟨M', k1, k2, k3⟩ := sp_forget fu (by omega) j1 hD1 i1 ps
        refine ⟨sF A1 832 (438 + 3 * s1' 0) 0, M', T, e, ?_, ?_, nwe, by omega, Nat.le_refl _, by omega, k2, by omega⟩
        · rw [pt, w4, if_neg (by decide), if_pos rfl, gR_ok o1, ob_some, rw_g1052_323 hR1, w5, gB_ok (rw_ok337 hR1) (by rw [rw_ln337 hR1]; omega) (by omega), ob_some, rw_dgB hR1 k w1, pZ_ok (rw_dgO hR1 k w1) (Or.inl rfl), ob_some, i2]
        · rw [tx, goR_D fu m hW1 (rn w6) k1, nI_1]
    · have d3 := (dt k).2.2.1
      have d4 := (dt k).2.2.2
      rcases j1.live w1 with q | ⟨c', hd', ft, b0, v, hc, hs, tk⟩
      · obtain ⟨d1, d2⟩ := dead_at q
        unfold NV MX at *
        omega
      · have df := x_dueFirst fu (by omega) j1 w1 hc eN (fun i hi => by
          have := w6 i hi
          rw [(dt i).2.2.1, (dt i).2.2.2]
          omega) (by
          rw [d3, d4]
          rcases w with q | q
          · exact Or.inl q.2.symm
          · exact Or.inr q.2.1.symm)
        have gc := goR_C fu m hW1 (a1 := nI tm) (a2 := nI j) (rn w4) (en w5) df tk.cn (td_x tk)
        rcases w with ⟨q1, q2⟩ | ⟨q1, q2, q3⟩
        · have on : (mF A1 789 (342 + 4 * k)) ≠ 0 := by
            rcases td_at tk with ⟨-, -, -, u⟩ | ⟨u, -⟩
            · unfold NV MX at *
              omega
            · rw [u]; decide
          obtain ⟨A', M', T', k1, k2, k3, k4, k5, k6⟩ := sp_run fu (by omega) j1 w1 hc hs on (by omega)
          have ml := mu_less w1 k6
          refine ⟨A', M', T', e, ?_, ?_, nwe, by omega, k3, k4, k5, by omega⟩
          · rw [pt, q1, if_neg (by decide), if_neg (by decide), if_pos rfl, gR_ok o1, ob_some, rw_g1055_323 hR1, w2, gB_ok (rw_ok339 hR1) (by rw [rw_ln339 hR1]; omega) (by omega), ob_some, rw_cnB hR1 k w1, rc_ok o1, ob_some, k1, ob_some]
          · rw [tx, gc, if_pos (by rw [d3, ← q2, Nat.min_eq_right (by omega)]), k2, ob_some, nI_1]
        · have cl : (mF A1 768 (342 + 4 * k)) = 2 → (mF A1 798 (342 + 4 * k)) = 0 ∧ (mF A1 773 (342 + 4 * k)) = (mF A1 797 (342 + 4 * k)) + (mF A1 794 (342 + 4 * k)) + (mF A1 796 (342 + 4 * k)) := fun u => by
            have ll : lD A1 k = e := by rw [d4]; exact q2.symm
            unfold lD at ll
            rw [if_neg (by rw [u]; decide)] at ll
            by_cases z : (mF A1 768 (342 + 4 * k)) = 2 ∧ (mF A1 798 (342 + 4 * k)) = 0 ∧ (mF A1 772 (342 + 4 * k)) = (mF A1 774 (342 + 4 * k)) ∧ (mF A1 773 (342 + 4 * k)) = (mF A1 797 (342 + 4 * k)) + (mF A1 794 (342 + 4 * k)) + (mF A1 796 (342 + 4 * k))
            · exact ⟨z.2.1, z.2.2.2⟩
            · rw [if_neg z] at ll
              unfold NV MX at *
              omega
          obtain ⟨A', M', T', k1, k2, k3, k4, k5, k6⟩ := sp_life fu hfu j1 w1 hc hs cl hT
          have ml := mu_less w1 k6
          refine ⟨A', M', T', e, ?_, ?_, nwe, by omega, k3, k4, k5, by omega⟩
          · rw [pt, q1, if_neg (by decide), if_neg (by decide), if_neg (by decide), gR_ok o1, ob_some, rw_g1055_323 hR1, w2, gB_ok (rw_ok339 hR1) (by rw [rw_ln339 hR1]; omega) (by omega), ob_some, rw_cnB hR1 k w1, rc_ok o1, ob_some, k1, ob_some]
          · rw [tx, gc, if_neg (fun z => by
              have := (nI_eq (by unfold NV; omega) e31).mp z
              unfold NV at *
              omega), k2, nI_1]
/-- time goes on, in both -/
theorem sp_passTo (fu : Nat) (hfu : 100000 ≤ fu) {tm : Nat} (h2 : tm ≤ 2000000000) : ∀ (d : Nat) (A M : Mm) (T nw n m j : Nat), mu A ≤ d → JJ A M KN KS t T im ig F ek ty nw → nw ≤ tm → T + d + 140000 < 2 ^ 30 → d + 2 ≤ n → d + 1 ≤ m → j + d < 1000000 → ∃ A' M' T', fX16_passTo_L2 fu n 323 (nI tm) 1 A = some A' ∧ fX11_goOn_L2 fu m 300 (nI tm) (nI j) M = some M' ∧ T ≤ T' ∧ T' ≤ T + d ∧ JJ A' M' KN KS t T' im ig F ek ty tm := by
  intro d
  induction d with
  | zero =>
    intro A M T nw n m j h3 h h1 hT hn hm hj
    rcases sp_turn (n := n - 1) (m := m - 1) (j := j) fu hfu h h1 h2 (by omega) (by omega) (by omega) with ⟨r1, r2, r3⟩ | ⟨_, _, _, _, -, -, -, -, -, -, -, r⟩
    · rw [show n - 1 + 1 = n by omega] at r1
      rw [show m - 1 + 1 = m by omega] at r2
      exact ⟨_, _, T, r1, r2, Nat.le_refl _, by omega, r3⟩
    · omega
  | succ d ih =>
    intro A M T nw n m j h3 h h1 hT hn hm hj
    rcases sp_turn (n := n - 1) (m := m - 1) (j := j) fu hfu h h1 h2 (by omega) (by omega) (by omega) with ⟨r1, r2, r3⟩ | ⟨A1, M1, T1, x, r1, r2, r3, r4, r5, r6, r7, r8⟩
    · rw [show n - 1 + 1 = n by omega] at r1
      rw [show m - 1 + 1 = m by omega] at r2
      exact ⟨_, _, T, r1, r2, Nat.le_refl _, by omega, r3⟩
    · rw [show n - 1 + 1 = n by omega] at r1
      rw [show m - 1 + 1 = m by omega] at r2
      obtain ⟨A', M', T', s1, s2, s3, s4, s5⟩ := ih A1 M1 T1 x (n - 1) (m - 1) (j + 1) (by omega) r7 r4 (by omega) (by omega) (by omega) (by omega)
      exact ⟨A', M', T', r1.trans s1, r2.trans s2, by omega, by omega, s5⟩
theorem sp_pass (fu : Nat) (hfu : 100000 ≤ fu) {tm : Nat} (h : JJ A M KN KS t T im ig F ek ty nw) (h1 : nw ≤ tm) (h2 : tm ≤ 2000000000) (hT : T + 150000 < 2 ^ 30) : ∃ A' M' T', fX16_passTo fu 323 (nI tm) A = some A' ∧ fX11_goOn fu 300 (nI tm) M = some M' ∧ T ≤ T' ∧ T' ≤ T + 7716 ∧ JJ A' M' KN KS t T' im ig F ek ty tm :=
  sp_passTo fu hfu h2 7716 A M T nw fu fu 0 (mu_b A).2 h h1 (by omega) (by omega) (by omega) (by omega)
end PassTo
