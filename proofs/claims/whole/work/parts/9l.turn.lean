/-! ===== part 9l: one thing happens ===== -/
/-- the class's turn, behind the finding of the time -/
def goR (fu n : Nat) (a1 a2 d : Int32) (M16 : Mm) : Option Mm :=
    (gR M16 11 706 (some 300)).bind fun v17 =>
    (rc M16 4 v17).bind fun q18 =>
    b2 (fX4_repeat fu q18 d M16) fun v20 M19 =>
    if v20 = 0 then (
    (gR M19 11 707 (some 300)).bind fun v21 =>
    (rc M19 3 v21).bind fun q22 =>
    b2 (fX3_expire fu q22 d M19) fun v24 M23 =>
    if v24 = 0 then (
    (gR M23 11 708 (some 300)).bind fun v25 =>
    (rc M23 9 v25).bind fun q26 =>
    b2 (fX9_dueFirst fu q26 d M23) fun v28 M27 =>
    if v28 = none then (
    (gR M27 11 705 (some 300)).bind fun v39 =>
    (pF M27 10 641 v39 a1).bind fun M40 =>
    some M40)
    else (
    (gR M27 1 81 v28).bind fun v29 =>
    (gI M27 5 324 v29).bind fun v30 =>
    if v30 = d then (
    (gR M27 11 708 (some 300)).bind fun v36 =>
    (rc M27 9 v36).bind fun q37 =>
    (fX9_runOut fu q37 v28 M27).bind fun M38 =>
    fX11_goOn_L2 fu n 300 a1 (a2 + (1 : Int32)) M38)
    else (
    (rc M27 1 v28).bind fun q31 =>
    (fX1_endLife fu q31  M27).bind fun M32 =>
    (gR M32 11 708 (some 300)).bind fun v33 =>
    (rc M32 9 v33).bind fun q34 =>
    (fX9_sendWhatMay fu q34 v28 M32).bind fun M35 =>
    fX11_goOn_L2 fu n 300 a1 (a2 + (1 : Int32)) M35)))
    else (
    fX11_goOn_L2 fu n 300 a1 (a2 + (1 : Int32)) M23))
    else (
    fX11_goOn_L2 fu n 300 a1 (a2 + (1 : Int32)) M19)
section Turn
variable {A M A' M' : Mm} {KN KS t T im ig F ek ty nw : Nat} {a5 a6 : Int32}
theorem due_time (v : Int32) (k : Nat) : pD (sF A 1034 323 v) k = pD A k ∧ dD (sF A 1034 323 v) k = dD A k ∧ tD (sF A 1034 323 v) k = tD A k ∧ lD (sF A 1034 323 v) k = lD A k := by
  have f : ∀ g a, ¬ g = 1034 → mF (sF A 1034 323 v) g a = mF A g a := fun g a hg => by rw [mF_sF, if_neg (fun z => hg z.1)]
  unfold pD dD tD lD
  simp only [f 960 _ (by decide), f 963 _ (by decide), f 964 _ (by decide), f 832 _ (by decide), f 837 _ (by decide), f 768 _ (by decide), f 789 _ (by decide), f 790 _ (by decide), f 813 _ (by decide), f 812 _ (by decide), f 798 _ (by decide), f 772 _ (by decide), f 773 _ (by decide), f 774 _ (by decide), f 797 _ (by decide), f 794 _ (by decide), f 796 _ (by decide), and_self]
theorem mu_time (v : Int32) : mu (sF A 1034 323 v) = mu A := by
  have f : ∀ g a, ¬ g = 1034 → mF (sF A 1034 323 v) g a = mF A g a := fun g a hg => by rw [mF_sF, if_neg (fun z => hg z.1)]
  unfold mu
  rw [su_eq (f := cm (sF A 1034 323 v)) (g := cm A) 16 (fun j hj => by
    unfold cm
    rw [f 768 _ (by decide), f 791 _ (by decide), f 798 _ (by decide)]), su_eq (f := pm (sF A 1034 323 v)) (g := pm A) 8 (fun j hj => by
    unfold pm
    rw [f 960 _ (by decide), f 964 _ (by decide)]), su_eq (f := dm (sF A 1034 323 v)) (g := dm A) 4 (fun j hj => by
    unfold dm
    rw [f 832 _ (by decide)])]
theorem x_turn (fu n : Nat) (hW : XW M) {e4 e3 e9 tm j : Nat} (h4 : fX4_earliest fu 307 M = some (nI e4, M)) (h3 : fX3_earliest fu 314 M = some (nI e3, M)) (h9 : fX9_earliest fu 317 M = some (nI e9, M)) (b4 : e4 ≤ NV) (b3 : e3 ≤ NV) (b9 : e9 ≤ NV) (htm : tm ≤ 2000000000) (hj : j < 1000000) :
    fX11_goOn_L2 fu (n + 1) 300 (nI tm) (nI j) M = if tm < min e4 (min e3 e9) then some (sF M 641 304 (nI tm)) else goR fu n (nI tm) (nI j) (nI (min e4 (min e3 e9))) (sF M 641 304 (nI (min e4 (min e3 e9)))) := by
  have o := xw_ok300 hW
  unfold NV at b4 b3 b9
  rw [fX11_goOn_L2, if_neg (show ¬ (1000000 : Int32) ≤ nI j from nI_ge (b := 1000000) hj (by decide)), gR_ok o, ob_some, xw_g706_300 hW, rc_ok (xw_ok307 hW), ob_some, h4, b2_some, gR_ok o, ob_some, xw_g707_300 hW, rc_ok (xw_ok314 hW), ob_some, h3, b2_some, gR_ok o, ob_some, xw_g708_300 hW, rc_ok (xw_ok317 hW), ob_some, h9, b2_some, jmin_nI (by omega) (by omega), jmin_nI (by omega) (by omega)]
  by_cases c : tm < min e4 (min e3 e9)
  · rw [if_pos c, if_neg (show ¬ nI (min e4 (min e3 e9)) ≤ nI tm from nI_ge (by omega) (by omega)), gR_ok o, ob_some, xw_g705_300 hW, pF_ok (xw_ok304 hW), ob_some]
  · rw [if_neg c, if_pos (show nI (min e4 (min e3 e9)) ≤ nI tm from nI_le (by omega) (by omega)), gR_ok o, ob_some, xw_g705_300 hW, pF_ok (xw_ok304 hW), ob_some]
    rfl
theorem goR_P (fu n : Nat) (hW : XW M) {a1 a2 d : Int32} (h : fX4_repeat fu 307 d M = some (1, M')) : goR fu n a1 a2 d M = fX11_goOn_L2 fu n 300 a1 (a2 + 1) M' := by
  unfold goR
  rw [gR_ok (xw_ok300 hW), ob_some, xw_g706_300 hW, rc_ok (xw_ok307 hW), ob_some, h, b2_some, if_neg (by decide)]
theorem goR_D (fu n : Nat) (hW : XW M) {a1 a2 d : Int32} (h : fX4_repeat fu 307 d M = some (0, M)) (h' : fX3_expire fu 314 d M = some (1, M')) : goR fu n a1 a2 d M = fX11_goOn_L2 fu n 300 a1 (a2 + 1) M' := by
  unfold goR
  rw [gR_ok (xw_ok300 hW), ob_some, xw_g706_300 hW, rc_ok (xw_ok307 hW), ob_some, h, b2_some, if_pos rfl, gR_ok (xw_ok300 hW), ob_some, xw_g707_300 hW, rc_ok (xw_ok314 hW), ob_some, h', b2_some, if_neg (by decide)]
theorem goR_C (fu n : Nat) (hW : XW M) {a1 a2 d y : Int32} {c : Nat} (h : fX4_repeat fu 307 d M = some (0, M)) (h' : fX3_expire fu 314 d M = some (0, M)) (h2 : fX9_dueFirst fu 317 d M = some (some c, M)) (hC : CnO M c) (hy : (mF M 324 (c + 5)) = y) : goR fu n a1 a2 d M = if y = d then ((fX9_runOut fu 317 (some c) M).bind fun M38 => fX11_goOn_L2 fu n 300 a1 (a2 + 1) M38) else ((rc M 1 (some c)).bind fun q31 => (fX1_endLife fu q31 M).bind fun M32 => (gR M32 11 708 (some 300)).bind fun v33 => (rc M32 9 v33).bind fun q34 => (fX9_sendWhatMay fu q34 (some c) M32).bind fun M35 => fX11_goOn_L2 fu n 300 a1 (a2 + 1) M35) := by
  unfold goR
  rw [gR_ok (xw_ok300 hW), ob_some, xw_g706_300 hW, rc_ok (xw_ok307 hW), ob_some, h, b2_some, if_pos rfl, gR_ok (xw_ok300 hW), ob_some, xw_g707_300 hW, rc_ok (xw_ok314 hW), ob_some, h', b2_some, if_pos rfl, gR_ok (xw_ok300 hW), ob_some, xw_g708_300 hW, rc_ok (xw_ok317 hW), ob_some, h2, b2_some, if_neg (by simp), gR_ok hC.1, ob_some, hC.2.2.2.1, gI_ok hC.2.2.2.2.2.2.2.2.2.2.2.2.2, ob_some, hy]
  by_cases c : y = d
  · rw [if_pos c, if_pos c, gR_ok (xw_ok300 hW), ob_some, xw_g708_300 hW, rc_ok (xw_ok317 hW), ob_some]
  · rw [if_neg c, if_neg c]
/-- the class finds the connection -/
theorem x_dueFirst (fu : Nat) (hfu : 100 ≤ fu) (h : JJ A M KN KS t T im ig F ek ty nw) {k c x : Nat} (hk : k < 16) (hc : mB M 318 k = some c) (hx : x < NV) (hb : ∀ i, i < k → tD A i ≠ x ∧ lD A i ≠ x) (hd : tD A k = x ∨ lD A k = x) : fX9_dueFirst fu 317 (nI x) M = some (some c, M) := by
  have hW := h.xw
  have o := xw_ok317 hW
  have ne : ∀ y, y ≠ x → ¬ nI (min NV y) = nI x := fun y hy z => by
    unfold NV at *
    have := (nI_eq (by omega) (by omega)).mp z
    omega
  have L : ∀ (d j m : Nat), j + d = k → d ≤ m → fX9_dueFirst_L2 fu (m + 1) 317 (nI x) (nI j) M = some (some c, M) := by
    intro d
    induction d with
    | zero =>
      intro j m h1 _
      have : j = k := by omega
      subst this
      rw [fX9_dueFirst_L2, if_neg (show ¬ (16 : Int32) ≤ nI j from nI_ge (b := 16) hk (by decide)), rc_ok o, ob_some]
      rcases x_cnAt fu h hk with ⟨z1, z2⟩ | ⟨c', hd', ft, b0, v, y1, y2, y3, y4⟩
      · obtain ⟨d1, d2⟩ := dead_at z1
        unfold NV at *
        unfold MX at *
        omega
      · rw [hc] at y1
        have e := Option.some.inj y1
        subst e
        rw [y4, b2_some, if_neg (by simp), gR_ok y3.cn.1, ob_some, y3.cn.2.2.2.1, gI_ok y3.cn.2.2.2.2.2.2.2.2.2.2.2.2.2, ob_some, td_x y3]
        by_cases q : tD A j = x
        · rw [if_pos (by rw [q, Nat.min_eq_right (by omega)])]
        · rw [if_neg (ne _ q), rc_ok y3.cn.1, ob_some, x_life fu y3, b2_some, if_pos (by rw [show lD A j = x by omega, Nat.min_eq_right (by omega)])]
    | succ d ih =>
      intro j m h1 h2
      rw [fX9_dueFirst_L2, if_neg (show ¬ (16 : Int32) ≤ nI j from nI_ge (b := 16) (by omega) (by decide)), rc_ok o, ob_some]
      unfold fX9_dueFirst_L39
      have R : fX9_dueFirst_L2 fu m 317 (nI x) (nI (j + 1)) M = some (some c, M) := by
        rw [show m = m - 1 + 1 by omega]
        exact ih (j + 1) (m - 1) (by omega) (by omega)
      obtain ⟨b1, b2'⟩ := hb j (by omega)
      rcases x_cnAt fu h (i := j) (by omega) with ⟨z1, z2⟩ | ⟨c', hd', ft, b0, v, y1, y2, y3, y4⟩
      · rw [z2, b2_some, if_pos rfl, nI_1]
        exact R
      · rw [y4, b2_some, if_neg (by simp), gR_ok y3.cn.1, ob_some, y3.cn.2.2.2.1, gI_ok y3.cn.2.2.2.2.2.2.2.2.2.2.2.2.2, ob_some, td_x y3, if_neg (ne _ b1), rc_ok y3.cn.1, ob_some, x_life fu y3, b2_some, if_neg (ne _ b2'), nI_1]
        exact R
  have := L k 0 (fu - 1) (by omega) (by omega)
  rw [show fu - 1 + 1 = fu by omega] at this
  exact this
/-- nothing is forgotten -/
theorem x_expNone (fu : Nat) (hW : XW M) {n x : Nat} {s τ : Nat → Nat} (hJ : JDa n nw s τ A M) (hr : ∀ i q, mB M 316 i = some q → okA M 2 q) (hx : x < NV) (h : ∀ k, k < 4 → x < dD A k) : fX3_expire fu 314 (nI x) M = some (0, M) := by
  obtain ⟨e, e1, e2, e3, e4⟩ := x_earlD fu hW hJ hr
  have ne : e ≠ x := by
    rcases e4 with z | z
    · omega
    · have := h (s 0) (hJ.2.2.2.1 0 z.1)
      omega
  unfold fX3_expire
  rw [rc_ok (xw_ok314 hW), ob_some, e1, b2_some, if_neg (fun z => ne ((nI_eq (by unfold NV at *; omega) (by unfold NV at *; omega)).mp z)), rN0]
end Turn
