/-! ===== part 9y: look, in both (written by gen/mk9y.py) ===== -/
theorem lk_mask {x : Nat} (h : x < 2 ^ 31) : Int32.toInt64 (nI x) &&& (4294967295 : Int64) = Int32.toInt64 (nI x) := by
  rw [nI_l h, show (4294967295 : Int64) = lN (4294967296 - 1) from rfl, g_mask (s := 32) (by decide) (by decide) (by omega), Nat.mod_eq_of_lt (by omega)]
section Look
variable {A M : Mm} {KN KS t T im ig F ek ty nw dn : Nat}
theorem ob_look (fu : Nat) (h : JJ A M KN KS t T im ig F ek ty nw) (hD : DP dn A) (hn : dn < 1000000) (a1 a2 : Int32) : ∃ v, fX16_look fu 323 a1 a2 A = some (v, A) ∧ fX11_look fu 300 a1 a2 M = some (v, M) := by
  have hR := h.rw'
  have hW := h.xw
  have o := rw_ok323 hR
  have o3 := xw_ok300 hW
  obtain ⟨sv, s1, s2⟩ := ob_state fu h a1
  have NO : ¬ 0 < sv → fX11_connectionAt fu 300 a1 M = some (none, M) → ∃ v, fX16_look fu 323 a1 a2 A = some (v, A) ∧ fX11_look fu 300 a1 a2 M = some (v, M) := fun n0 e => by
    refine ⟨4294967296, ?_, ?_⟩
    · unfold fX16_look
      rw [rc_ok o, ob_some, s1, b2_some, if_neg n0]
    · unfold fX11_look
      rw [rc_ok o3, ob_some, e, b2_some, if_pos rfl]
  have CA : fX11_connectionAt fu 300 a1 M = b2 (fX9_connectionAt fu 317 a1 M) fun v5 M4 => some (v5, M4) := by
    unfold fX11_connectionAt
    rw [gI_ok o3, ob_some, h.ts.bx, if_neg (by decide), gR_ok o3, ob_some, xw_g708_300 hW, rc_ok (xw_ok317 hW), ob_some]
  by_cases c1 : a1 < 0
  · refine NO ?_ ?_
    · unfold fX16_state at s1
      rw [if_pos c1] at s1
      have := congrArg Prod.fst (Option.some.inj s1)
      rw [← show (-1 : Int32) = sv from this]; decide
    · rw [CA]
      unfold fX9_connectionAt
      rw [if_pos c1, b2_some]
  by_cases c2 : (16 : Int32) ≤ a1
  · refine NO ?_ ?_
    · unfold fX16_state at s1
      rw [if_neg c1, if_neg (Int32.not_lt.mpr c2)] at s1
      have := congrArg Prod.fst (Option.some.inj s1)
      rw [← show (-1 : Int32) = sv from this]; decide
    · rw [CA]
      unfold fX9_connectionAt
      rw [if_neg c1, if_neg (Int32.not_lt.mpr c2), b2_some]
  obtain ⟨i, i1, rfl⟩ := nI_rng (n := 16) (by decide) c1 c2
  have sE : sv = (mF A 768 (342 + 4 * i)) := by
    unfold fX16_state at s1
    rw [if_neg c1, if_pos (Int32.not_le.mp c2), gI_ok o, ob_some, h.ts.bo, if_neg (by decide), gR_ok o, ob_some, rw_g1055_323 hR, gB_ok (rw_ok339 hR) (by rw [rw_ln339 hR]; omega) (by omega), ob_some, rw_cnB hR i i1, gI_ok (rw_cnO hR i i1), ob_some] at s1
    exact (congrArg Prod.fst (Option.some.inj s1)).symm
  rcases x_cnAt fu h i1 with ⟨z1, z2⟩ | ⟨c, hd, ft, b0, v, y1, y2, y3, y4⟩
  · refine NO ?_ ?_
    · rw [sE, z1]; decide
    · rw [CA, z2, b2_some]
  have oc := rw_cnO hR i i1
  have hC := y3.cn
  have pos : 0 < sv := by
    have q1 := y3.cs.st
    have q2 := y3.cs.st1
    rw [sE, q1]
    exact nI_lt (a := 0) (by omega) (by omega)
  have om := hC.2.2.2.2.2.2.1
  have op := hC.2.2.2.2.2.2.2.2.2.2.2.2.2
  have gc := hC.2.2.1
  have gp := hC.2.2.2.1
  have XL : ∀ x : Int32, ¬ a2 < 0 → a2 ≤ 14 → fX1_number fu c a2 M = some (x, M) → fX11_look fu 300 (nI i) a2 M = some (Int32.toInt64 x &&& (4294967295 : Int64), M) := fun x e1 e2 e3 => by
    unfold fX11_look
    rw [rc_ok o3, ob_some, CA, y4, b2_some, b2_some, if_neg (by simp), if_neg e1, if_pos e2, rc_ok hC.1, ob_some, e3, b2_some]
  obtain ⟨tr, tr1, tr2⟩ := h.tr i i1 y2
  obtain ⟨⟨du, du1, du2⟩, po, po1, po2⟩ := (hD (342 + 4 * i)).1 oc
  have I := y3.ci
  by_cases d0 : a2 = 0
  · subst d0
    refine ⟨Int32.toInt64 (mF A 769 (342 + 4 * i)) &&& (4294967295 : Int64), ?_, ?_⟩
    · unfold fX16_look
      rw [rc_ok o, ob_some, s1, b2_some, if_pos pos, gR_ok o, ob_some, rw_g1055_323 hR, gB_ok (rw_ok339 hR) (by rw [rw_ln339 hR]; omega) (by omega), ob_some, rw_cnB hR i i1, if_pos rfl, gI_ok oc, ob_some]
    · have e : fX1_number fu c 0 M = some (mF M 65 (c), M) := by
        unfold fX1_number
        rw [if_pos rfl, gI_ok hC.1, ob_some]
      rw [XL _ (by decide) (by decide) e, ← y3.ce.ip]
  by_cases d1 : a2 = 1
  · subst d1
    refine ⟨Int32.toInt64 (mF A 770 (342 + 4 * i)), ?_, ?_⟩
    · unfold fX16_look
      rw [rc_ok o, ob_some, s1, b2_some, if_pos pos, gR_ok o, ob_some, rw_g1055_323 hR, gB_ok (rw_ok339 hR) (by rw [rw_ln339 hR]; omega) (by omega), ob_some, rw_cnB hR i i1, if_neg (show ¬ ((1 : Int32) = 0) by decide), if_pos rfl, gI_ok oc, ob_some]
    · have e : fX1_number fu c 1 M = some (mF M 66 (c), M) := by
        unfold fX1_number
        rw [if_neg (show ¬ ((1 : Int32) = 0) by decide), if_pos rfl, gI_ok hC.1, ob_some]
      rw [XL _ (by decide) (by decide) e, ← y3.ce.po, po2, lk_mask (by omega)]
  by_cases d2 : a2 = 2
  · subst d2
    refine ⟨Int32.toInt64 (mF A 772 (342 + 4 * i)) &&& (4294967295 : Int64), ?_, ?_⟩
    · unfold fX16_look
      rw [rc_ok o, ob_some, s1, b2_some, if_pos pos, gR_ok o, ob_some, rw_g1055_323 hR, gB_ok (rw_ok339 hR) (by rw [rw_ln339 hR]; omega) (by omega), ob_some, rw_cnB hR i i1, if_neg (show ¬ ((2 : Int32) = 0) by decide), if_neg (show ¬ ((2 : Int32) = 1) by decide), if_pos rfl, gI_ok oc, ob_some]
    · have e : fX1_number fu c 2 M = some (mF M 68 (c), M) := by
        unfold fX1_number
        rw [if_neg (show ¬ ((2 : Int32) = 0) by decide), if_neg (show ¬ ((2 : Int32) = 1) by decide), if_pos rfl, gI_ok hC.1, ob_some]
      rw [XL _ (by decide) (by decide) e, ← y3.ce.una]
  by_cases d3 : a2 = 3
  · subst d3
    refine ⟨Int32.toInt64 (mF A 773 (342 + 4 * i)) &&& (4294967295 : Int64), ?_, ?_⟩
    · unfold fX16_look
      rw [rc_ok o, ob_some, s1, b2_some, if_pos pos, gR_ok o, ob_some, rw_g1055_323 hR, gB_ok (rw_ok339 hR) (by rw [rw_ln339 hR]; omega) (by omega), ob_some, rw_cnB hR i i1, if_neg (show ¬ ((3 : Int32) = 0) by decide), if_neg (show ¬ ((3 : Int32) = 1) by decide), if_neg (show ¬ ((3 : Int32) = 2) by decide), if_pos rfl, gI_ok oc, ob_some]
    · have e : fX1_number fu c 3 M = some (mF M 69 (c), M) := by
        unfold fX1_number
        rw [if_neg (show ¬ ((3 : Int32) = 0) by decide), if_neg (show ¬ ((3 : Int32) = 1) by decide), if_neg (show ¬ ((3 : Int32) = 2) by decide), if_pos rfl, gI_ok hC.1, ob_some]
      rw [XL _ (by decide) (by decide) e, ← y3.ce.at']
  by_cases d4 : a2 = 4
  · subst d4
    refine ⟨Int32.toInt64 (mF A 774 (342 + 4 * i)) &&& (4294967295 : Int64), ?_, ?_⟩
    · unfold fX16_look
      rw [rc_ok o, ob_some, s1, b2_some, if_pos pos, gR_ok o, ob_some, rw_g1055_323 hR, gB_ok (rw_ok339 hR) (by rw [rw_ln339 hR]; omega) (by omega), ob_some, rw_cnB hR i i1, if_neg (show ¬ ((4 : Int32) = 0) by decide), if_neg (show ¬ ((4 : Int32) = 1) by decide), if_neg (show ¬ ((4 : Int32) = 2) by decide), if_neg (show ¬ ((4 : Int32) = 3) by decide), if_pos rfl, gI_ok oc, ob_some]
    · have e : fX1_number fu c 4 M = some (mF M 70 (c), M) := by
        unfold fX1_number
        rw [if_neg (show ¬ ((4 : Int32) = 0) by decide), if_neg (show ¬ ((4 : Int32) = 1) by decide), if_neg (show ¬ ((4 : Int32) = 2) by decide), if_neg (show ¬ ((4 : Int32) = 3) by decide), if_pos rfl, gI_ok hC.1, ob_some]
      rw [XL _ (by decide) (by decide) e, ← y3.ce.max]
  by_cases d5 : a2 = 5
  · subst d5
    refine ⟨Int32.toInt64 (mF A 804 (342 + 4 * i)) &&& (4294967295 : Int64), ?_, ?_⟩
    · unfold fX16_look
      rw [rc_ok o, ob_some, s1, b2_some, if_pos pos, gR_ok o, ob_some, rw_g1055_323 hR, gB_ok (rw_ok339 hR) (by rw [rw_ln339 hR]; omega) (by omega), ob_some, rw_cnB hR i i1, if_neg (show ¬ ((5 : Int32) = 0) by decide), if_neg (show ¬ ((5 : Int32) = 1) by decide), if_neg (show ¬ ((5 : Int32) = 2) by decide), if_neg (show ¬ ((5 : Int32) = 3) by decide), if_neg (show ¬ ((5 : Int32) = 4) by decide), if_pos rfl, gI_ok oc, ob_some]
    · have e : fX1_number fu c 5 M = some (mF M 1 (c + 2), M) := by
        unfold fX1_number
        rw [if_neg (show ¬ ((5 : Int32) = 0) by decide), if_neg (show ¬ ((5 : Int32) = 1) by decide), if_neg (show ¬ ((5 : Int32) = 2) by decide), if_neg (show ¬ ((5 : Int32) = 3) by decide), if_neg (show ¬ ((5 : Int32) = 4) by decide), if_pos rfl, gR_ok hC.1, ob_some, gc, gI_ok om, ob_some]
      rw [XL _ (by decide) (by decide) e, ← y3.cr.nx]
  by_cases d6 : a2 = 6
  · subst d6
    refine ⟨Int32.toInt64 (mF A 775 (342 + 4 * i)), ?_, ?_⟩
    · unfold fX16_look
      rw [rc_ok o, ob_some, s1, b2_some, if_pos pos, gR_ok o, ob_some, rw_g1055_323 hR, gB_ok (rw_ok339 hR) (by rw [rw_ln339 hR]; omega) (by omega), ob_some, rw_cnB hR i i1, if_neg (show ¬ ((6 : Int32) = 0) by decide), if_neg (show ¬ ((6 : Int32) = 1) by decide), if_neg (show ¬ ((6 : Int32) = 2) by decide), if_neg (show ¬ ((6 : Int32) = 3) by decide), if_neg (show ¬ ((6 : Int32) = 4) by decide), if_neg (show ¬ ((6 : Int32) = 5) by decide), if_pos rfl, gI_ok oc, ob_some]
    · have e : fX1_number fu c 6 M = some (mF M 71 (c), M) := by
        unfold fX1_number
        rw [if_neg (show ¬ ((6 : Int32) = 0) by decide), if_neg (show ¬ ((6 : Int32) = 1) by decide), if_neg (show ¬ ((6 : Int32) = 2) by decide), if_neg (show ¬ ((6 : Int32) = 3) by decide), if_neg (show ¬ ((6 : Int32) = 4) by decide), if_neg (show ¬ ((6 : Int32) = 5) by decide), if_pos rfl, gI_ok hC.1, ob_some]
      rw [XL _ (by decide) (by decide) e, ← y3.ce.wi, I.wi, lk_mask (by have := I.wi1; omega)]
  by_cases d7 : a2 = 7
  · subst d7
    refine ⟨Int32.toInt64 (mF A 779 (342 + 4 * i)), ?_, ?_⟩
    · unfold fX16_look
      rw [rc_ok o, ob_some, s1, b2_some, if_pos pos, gR_ok o, ob_some, rw_g1055_323 hR, gB_ok (rw_ok339 hR) (by rw [rw_ln339 hR]; omega) (by omega), ob_some, rw_cnB hR i i1, if_neg (show ¬ ((7 : Int32) = 0) by decide), if_neg (show ¬ ((7 : Int32) = 1) by decide), if_neg (show ¬ ((7 : Int32) = 2) by decide), if_neg (show ¬ ((7 : Int32) = 3) by decide), if_neg (show ¬ ((7 : Int32) = 4) by decide), if_neg (show ¬ ((7 : Int32) = 5) by decide), if_neg (show ¬ ((7 : Int32) = 6) by decide), if_pos rfl, gI_ok oc, ob_some]
    · have e : fX1_number fu c 7 M = some (mF M 321 (c + 5), M) := by
        unfold fX1_number
        rw [if_neg (show ¬ ((7 : Int32) = 0) by decide), if_neg (show ¬ ((7 : Int32) = 1) by decide), if_neg (show ¬ ((7 : Int32) = 2) by decide), if_neg (show ¬ ((7 : Int32) = 3) by decide), if_neg (show ¬ ((7 : Int32) = 4) by decide), if_neg (show ¬ ((7 : Int32) = 5) by decide), if_neg (show ¬ ((7 : Int32) = 6) by decide), if_pos rfl, gR_ok hC.1, ob_some, gp, gI_ok op, ob_some]
      rw [XL _ (by decide) (by decide) e, ← y3.cp.cw, I.cw, lk_mask (by have := I.cw1; omega)]
  by_cases d8 : a2 = 8
  · subst d8
    refine ⟨Int32.toInt64 (mF A 780 (342 + 4 * i)), ?_, ?_⟩
    · unfold fX16_look
      rw [rc_ok o, ob_some, s1, b2_some, if_pos pos, gR_ok o, ob_some, rw_g1055_323 hR, gB_ok (rw_ok339 hR) (by rw [rw_ln339 hR]; omega) (by omega), ob_some, rw_cnB hR i i1, if_neg (show ¬ ((8 : Int32) = 0) by decide), if_neg (show ¬ ((8 : Int32) = 1) by decide), if_neg (show ¬ ((8 : Int32) = 2) by decide), if_neg (show ¬ ((8 : Int32) = 3) by decide), if_neg (show ¬ ((8 : Int32) = 4) by decide), if_neg (show ¬ ((8 : Int32) = 5) by decide), if_neg (show ¬ ((8 : Int32) = 6) by decide), if_neg (show ¬ ((8 : Int32) = 7) by decide), if_pos rfl, gI_ok oc, ob_some]
    · have e : fX1_number fu c 8 M = some (mF M 322 (c + 5), M) := by
        unfold fX1_number
        rw [if_neg (show ¬ ((8 : Int32) = 0) by decide), if_neg (show ¬ ((8 : Int32) = 1) by decide), if_neg (show ¬ ((8 : Int32) = 2) by decide), if_neg (show ¬ ((8 : Int32) = 3) by decide), if_neg (show ¬ ((8 : Int32) = 4) by decide), if_neg (show ¬ ((8 : Int32) = 5) by decide), if_neg (show ¬ ((8 : Int32) = 6) by decide), if_neg (show ¬ ((8 : Int32) = 7) by decide), if_pos rfl, gR_ok hC.1, ob_some, gp, gI_ok op, ob_some]
      rw [XL _ (by decide) (by decide) e, ← y3.cp.ss, I.ss, lk_mask (by have := I.ss1; omega)]
  by_cases d9 : a2 = 9
  · subst d9
    refine ⟨Int32.toInt64 (mF A 781 (342 + 4 * i)), ?_, ?_⟩
    · unfold fX16_look
      rw [rc_ok o, ob_some, s1, b2_some, if_pos pos, gR_ok o, ob_some, rw_g1055_323 hR, gB_ok (rw_ok339 hR) (by rw [rw_ln339 hR]; omega) (by omega), ob_some, rw_cnB hR i i1, if_neg (show ¬ ((9 : Int32) = 0) by decide), if_neg (show ¬ ((9 : Int32) = 1) by decide), if_neg (show ¬ ((9 : Int32) = 2) by decide), if_neg (show ¬ ((9 : Int32) = 3) by decide), if_neg (show ¬ ((9 : Int32) = 4) by decide), if_neg (show ¬ ((9 : Int32) = 5) by decide), if_neg (show ¬ ((9 : Int32) = 6) by decide), if_neg (show ¬ ((9 : Int32) = 7) by decide), if_neg (show ¬ ((9 : Int32) = 8) by decide), if_pos rfl, gI_ok oc, ob_some]
    · have e : fX1_number fu c 9 M = some (mF M 323 (c + 5), M) := by
        unfold fX1_number
        rw [if_neg (show ¬ ((9 : Int32) = 0) by decide), if_neg (show ¬ ((9 : Int32) = 1) by decide), if_neg (show ¬ ((9 : Int32) = 2) by decide), if_neg (show ¬ ((9 : Int32) = 3) by decide), if_neg (show ¬ ((9 : Int32) = 4) by decide), if_neg (show ¬ ((9 : Int32) = 5) by decide), if_neg (show ¬ ((9 : Int32) = 6) by decide), if_neg (show ¬ ((9 : Int32) = 7) by decide), if_neg (show ¬ ((9 : Int32) = 8) by decide), if_pos rfl, gR_ok hC.1, ob_some, gp, gI_ok op, ob_some]
      rw [XL _ (by decide) (by decide) e, ← y3.cp.ro, I.ro, lk_mask (by have := I.ro1; omega)]
  by_cases d10 : a2 = 10
  · subst d10
    refine ⟨Int32.toInt64 (mF A 778 (342 + 4 * i)), ?_, ?_⟩
    · unfold fX16_look
      rw [rc_ok o, ob_some, s1, b2_some, if_pos pos, gR_ok o, ob_some, rw_g1055_323 hR, gB_ok (rw_ok339 hR) (by rw [rw_ln339 hR]; omega) (by omega), ob_some, rw_cnB hR i i1, if_neg (show ¬ ((10 : Int32) = 0) by decide), if_neg (show ¬ ((10 : Int32) = 1) by decide), if_neg (show ¬ ((10 : Int32) = 2) by decide), if_neg (show ¬ ((10 : Int32) = 3) by decide), if_neg (show ¬ ((10 : Int32) = 4) by decide), if_neg (show ¬ ((10 : Int32) = 5) by decide), if_neg (show ¬ ((10 : Int32) = 6) by decide), if_neg (show ¬ ((10 : Int32) = 7) by decide), if_neg (show ¬ ((10 : Int32) = 8) by decide), if_neg (show ¬ ((10 : Int32) = 9) by decide), if_pos rfl, gI_ok oc, ob_some]
    · have e : fX1_number fu c 10 M = some (mF M 320 (c + 5), M) := by
        unfold fX1_number
        rw [if_neg (show ¬ ((10 : Int32) = 0) by decide), if_neg (show ¬ ((10 : Int32) = 1) by decide), if_neg (show ¬ ((10 : Int32) = 2) by decide), if_neg (show ¬ ((10 : Int32) = 3) by decide), if_neg (show ¬ ((10 : Int32) = 4) by decide), if_neg (show ¬ ((10 : Int32) = 5) by decide), if_neg (show ¬ ((10 : Int32) = 6) by decide), if_neg (show ¬ ((10 : Int32) = 7) by decide), if_neg (show ¬ ((10 : Int32) = 8) by decide), if_neg (show ¬ ((10 : Int32) = 9) by decide), if_pos rfl, gR_ok hC.1, ob_some, gp, gI_ok op, ob_some]
      rw [XL _ (by decide) (by decide) e, ← y3.cp.ms, I.ms, lk_mask (by have := I.ms1; omega)]
  by_cases d11 : a2 = 11
  · subst d11
    refine ⟨Int32.toInt64 (hldA A i), ?_, ?_⟩
    · unfold fX16_look
      rw [rc_ok o, ob_some, s1, b2_some, if_pos pos, gR_ok o, ob_some, rw_g1055_323 hR, gB_ok (rw_ok339 hR) (by rw [rw_ln339 hR]; omega) (by omega), ob_some, rw_cnB hR i i1, if_neg (show ¬ ((11 : Int32) = 0) by decide), if_neg (show ¬ ((11 : Int32) = 1) by decide), if_neg (show ¬ ((11 : Int32) = 2) by decide), if_neg (show ¬ ((11 : Int32) = 3) by decide), if_neg (show ¬ ((11 : Int32) = 4) by decide), if_neg (show ¬ ((11 : Int32) = 5) by decide), if_neg (show ¬ ((11 : Int32) = 6) by decide), if_neg (show ¬ ((11 : Int32) = 7) by decide), if_neg (show ¬ ((11 : Int32) = 8) by decide), if_neg (show ¬ ((11 : Int32) = 9) by decide), if_neg (show ¬ ((11 : Int32) = 10) by decide), if_pos rfl, rc_ok oc, ob_some, m_held hR i1 fu, b2_some]
    · have e : fX1_number fu c 11 M = some (hldX M c, M) := by
        unfold fX1_number
        rw [if_neg (show ¬ ((11 : Int32) = 0) by decide), if_neg (show ¬ ((11 : Int32) = 1) by decide), if_neg (show ¬ ((11 : Int32) = 2) by decide), if_neg (show ¬ ((11 : Int32) = 3) by decide), if_neg (show ¬ ((11 : Int32) = 4) by decide), if_neg (show ¬ ((11 : Int32) = 5) by decide), if_neg (show ¬ ((11 : Int32) = 6) by decide), if_neg (show ¬ ((11 : Int32) = 7) by decide), if_neg (show ¬ ((11 : Int32) = 8) by decide), if_neg (show ¬ ((11 : Int32) = 9) by decide), if_neg (show ¬ ((11 : Int32) = 10) by decide), if_pos rfl, gR_ok hC.1, ob_some, gc, rc_ok om, ob_some, x_held om fu, b2_some]
      have q : hldX M c = hldA A i := by unfold hldX hldA; rw [y3.cr.nx, y3.cr.rd, y3.cr.fT]
      have q1 := y3.cr.hd1
      rw [XL _ (by decide) (by decide) e, q, hldA_nI y3.cr, lk_mask (by omega)]
  by_cases d12 : a2 = 12
  · subst d12
    have lb : lfN v < 2 ^ 31 := by have := I.hl1; have := I.bl1; have := I.cl1; unfold lfN; omega
    have e : fX1_number fu c 12 M = some (nI (lfN v), M) := by
      unfold fX1_number
      rw [if_neg (show ¬ ((12 : Int32) = 0) by decide), if_neg (show ¬ ((12 : Int32) = 1) by decide), if_neg (show ¬ ((12 : Int32) = 2) by decide), if_neg (show ¬ ((12 : Int32) = 3) by decide), if_neg (show ¬ ((12 : Int32) = 4) by decide), if_neg (show ¬ ((12 : Int32) = 5) by decide), if_neg (show ¬ ((12 : Int32) = 6) by decide), if_neg (show ¬ ((12 : Int32) = 7) by decide), if_neg (show ¬ ((12 : Int32) = 8) by decide), if_neg (show ¬ ((12 : Int32) = 9) by decide), if_neg (show ¬ ((12 : Int32) = 10) by decide), if_neg (show ¬ ((12 : Int32) = 11) by decide), if_pos rfl, rc_ok hC.1, ob_some, x_left fu hC.1 y3.ce I, b2_some]
    refine ⟨Int32.toInt64 (nI (lfN v)), ?_, ?_⟩
    · unfold fX16_look
      rw [rc_ok o, ob_some, s1, b2_some, if_pos pos, gR_ok o, ob_some, rw_g1055_323 hR, gB_ok (rw_ok339 hR) (by rw [rw_ln339 hR]; omega) (by omega), ob_some, rw_cnB hR i i1, if_neg (show ¬ ((12 : Int32) = 0) by decide), if_neg (show ¬ ((12 : Int32) = 1) by decide), if_neg (show ¬ ((12 : Int32) = 2) by decide), if_neg (show ¬ ((12 : Int32) = 3) by decide), if_neg (show ¬ ((12 : Int32) = 4) by decide), if_neg (show ¬ ((12 : Int32) = 5) by decide), if_neg (show ¬ ((12 : Int32) = 6) by decide), if_neg (show ¬ ((12 : Int32) = 7) by decide), if_neg (show ¬ ((12 : Int32) = 8) by decide), if_neg (show ¬ ((12 : Int32) = 9) by decide), if_neg (show ¬ ((12 : Int32) = 10) by decide), if_neg (show ¬ ((12 : Int32) = 11) by decide), if_pos rfl, gI_ok oc, ob_some]
      by_cases s : (mF A 768 (342 + 4 * i)) = 1
      · rw [if_pos s]
        have q : (v 0) = 1 := by
          have q1 := y3.cs.st1
          exact (nI_eq (b := 1) (by omega) (by decide)).mp (y3.cs.st.symm.trans s)
        obtain ⟨-, q2, -, q4, q5, q6, -⟩ := y3.cs.s1 q
        have : lfN v = 0 := by unfold lfN; omega
        rw [this]; rfl
      · rw [if_neg s, gI_ok oc, ob_some, rc_ok oc, ob_some, m_left fu hR i1 I, b2_some]
    · rw [XL _ (by decide) (by decide) e, lk_mask lb]
  by_cases d13 : a2 = 13
  · subst d13
    refine ⟨Int32.toInt64 (mF A 791 (342 + 4 * i)), ?_, ?_⟩
    · unfold fX16_look
      rw [rc_ok o, ob_some, s1, b2_some, if_pos pos, gR_ok o, ob_some, rw_g1055_323 hR, gB_ok (rw_ok339 hR) (by rw [rw_ln339 hR]; omega) (by omega), ob_some, rw_cnB hR i i1, if_neg (show ¬ ((13 : Int32) = 0) by decide), if_neg (show ¬ ((13 : Int32) = 1) by decide), if_neg (show ¬ ((13 : Int32) = 2) by decide), if_neg (show ¬ ((13 : Int32) = 3) by decide), if_neg (show ¬ ((13 : Int32) = 4) by decide), if_neg (show ¬ ((13 : Int32) = 5) by decide), if_neg (show ¬ ((13 : Int32) = 6) by decide), if_neg (show ¬ ((13 : Int32) = 7) by decide), if_neg (show ¬ ((13 : Int32) = 8) by decide), if_neg (show ¬ ((13 : Int32) = 9) by decide), if_neg (show ¬ ((13 : Int32) = 10) by decide), if_neg (show ¬ ((13 : Int32) = 11) by decide), if_neg (show ¬ ((13 : Int32) = 12) by decide), if_pos rfl, gI_ok oc, ob_some]
    · have e : fX1_number fu c 13 M = some (mF M 325 (c + 5), M) := by
        unfold fX1_number
        rw [if_neg (show ¬ ((13 : Int32) = 0) by decide), if_neg (show ¬ ((13 : Int32) = 1) by decide), if_neg (show ¬ ((13 : Int32) = 2) by decide), if_neg (show ¬ ((13 : Int32) = 3) by decide), if_neg (show ¬ ((13 : Int32) = 4) by decide), if_neg (show ¬ ((13 : Int32) = 5) by decide), if_neg (show ¬ ((13 : Int32) = 6) by decide), if_neg (show ¬ ((13 : Int32) = 7) by decide), if_neg (show ¬ ((13 : Int32) = 8) by decide), if_neg (show ¬ ((13 : Int32) = 9) by decide), if_neg (show ¬ ((13 : Int32) = 10) by decide), if_neg (show ¬ ((13 : Int32) = 11) by decide), if_neg (show ¬ ((13 : Int32) = 12) by decide), if_pos rfl, gR_ok hC.1, ob_some, gp, gI_ok op, ob_some]
      rw [XL _ (by decide) (by decide) e, ← y3.cp.tr, tr2, lk_mask (by omega)]
  by_cases d14 : a2 = 14
  · subst d14
    refine ⟨Int32.toInt64 (mF A 792 (342 + 4 * i)), ?_, ?_⟩
    · unfold fX16_look
      rw [rc_ok o, ob_some, s1, b2_some, if_pos pos, gR_ok o, ob_some, rw_g1055_323 hR, gB_ok (rw_ok339 hR) (by rw [rw_ln339 hR]; omega) (by omega), ob_some, rw_cnB hR i i1, if_neg (show ¬ ((14 : Int32) = 0) by decide), if_neg (show ¬ ((14 : Int32) = 1) by decide), if_neg (show ¬ ((14 : Int32) = 2) by decide), if_neg (show ¬ ((14 : Int32) = 3) by decide), if_neg (show ¬ ((14 : Int32) = 4) by decide), if_neg (show ¬ ((14 : Int32) = 5) by decide), if_neg (show ¬ ((14 : Int32) = 6) by decide), if_neg (show ¬ ((14 : Int32) = 7) by decide), if_neg (show ¬ ((14 : Int32) = 8) by decide), if_neg (show ¬ ((14 : Int32) = 9) by decide), if_neg (show ¬ ((14 : Int32) = 10) by decide), if_neg (show ¬ ((14 : Int32) = 11) by decide), if_neg (show ¬ ((14 : Int32) = 12) by decide), if_neg (show ¬ ((14 : Int32) = 13) by decide), if_pos rfl, gI_ok oc, ob_some]
    · have e : fX1_number fu c 14 M = some (mF M 326 (c + 5), M) := by
        unfold fX1_number
        rw [if_neg (show ¬ ((14 : Int32) = 0) by decide), if_neg (show ¬ ((14 : Int32) = 1) by decide), if_neg (show ¬ ((14 : Int32) = 2) by decide), if_neg (show ¬ ((14 : Int32) = 3) by decide), if_neg (show ¬ ((14 : Int32) = 4) by decide), if_neg (show ¬ ((14 : Int32) = 5) by decide), if_neg (show ¬ ((14 : Int32) = 6) by decide), if_neg (show ¬ ((14 : Int32) = 7) by decide), if_neg (show ¬ ((14 : Int32) = 8) by decide), if_neg (show ¬ ((14 : Int32) = 9) by decide), if_neg (show ¬ ((14 : Int32) = 10) by decide), if_neg (show ¬ ((14 : Int32) = 11) by decide), if_neg (show ¬ ((14 : Int32) = 12) by decide), if_neg (show ¬ ((14 : Int32) = 13) by decide), gR_ok hC.1, ob_some, gp, gI_ok op, ob_some]
      rw [XL _ (by decide) (by decide) e, ← y3.cp.du, du2, lk_mask (by omega)]
  refine ⟨4294967296, ?_, ?_⟩
  · unfold fX16_look
    rw [rc_ok o, ob_some, s1, b2_some, if_pos pos, gR_ok o, ob_some, rw_g1055_323 hR, gB_ok (rw_ok339 hR) (by rw [rw_ln339 hR]; omega) (by omega), ob_some, rw_cnB hR i i1, if_neg d0, if_neg d1, if_neg d2, if_neg d3, if_neg d4, if_neg d5, if_neg d6, if_neg d7, if_neg d8, if_neg d9, if_neg d10, if_neg d11, if_neg d12, if_neg d13, if_neg d14]
  · unfold fX11_look
    rw [rc_ok o3, ob_some, CA, y4, b2_some, b2_some, if_neg (by simp)]
    by_cases e1 : a2 < 0
    · rw [if_pos e1]
    · rw [if_neg e1, if_neg (fun e2 => ?_)]
      have z : ¬ nI 15 ≤ a2 := fun z => by
        have q1 := Int32.le_iff_toInt_le.mp e2
        have q2 := Int32.le_iff_toInt_le.mp z
        have q3 : (nI 15).toInt = 15 := by decide
        have q4 : (14 : Int32).toInt = 14 := by decide
        omega
      obtain ⟨j, j1, rfl⟩ := nI_rng (n := 15) (by decide) e1 z
      rcases (by omega : j = 0 ∨ j = 1 ∨ j = 2 ∨ j = 3 ∨ j = 4 ∨ j = 5 ∨ j = 6 ∨ j = 7 ∨ j = 8 ∨ j = 9 ∨ j = 10 ∨ j = 11 ∨ j = 12 ∨ j = 13 ∨ j = 14) with rfl | rfl | rfl | rfl | rfl | rfl | rfl | rfl | rfl | rfl | rfl | rfl | rfl | rfl | rfl
      · exact d0 rfl
      · exact d1 rfl
      · exact d2 rfl
      · exact d3 rfl
      · exact d4 rfl
      · exact d5 rfl
      · exact d6 rfl
      · exact d7 rfl
      · exact d8 rfl
      · exact d9 rfl
      · exact d10 rfl
      · exact d11 rfl
      · exact d12 rfl
      · exact d13 rfl
      · exact d14 rfl
end Look
