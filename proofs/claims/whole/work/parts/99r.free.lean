/-! ===== part 99r: a free place, in both ===== -/
section Free
variable {A M A' M' : Mm} {KN KS t T im ig F ek ty nw : Nat}
/-- the reference goes down: -1 is behind the last -/
def dn (d : Nat) : Int32 := if d = 0 then -1 else nI (d - 1)
theorem m_dstep (fu m : Nat) (hR : RW A) {d : Nat} (hd : d < 16) (a1 : Option Nat) : fX16_alone_L54 fu (m + 1) 323 a1 (dn (d + 1)) A = fX16_alone_L54 fu m 323 (if (mF A 768 (342 + 4 * d)) = 0 then some (342 + 4 * d) else a1) (dn d) A := by
  have o := rw_ok323 hR
  have oc := rw_cnO hR d hd
  have e1 : dn (d + 1) = nI d := by unfold dn; rw [if_neg (by omega)]; rfl
  have e2 : (nI d : Int32) + (-1 : Int32) = dn d := by
    unfold dn
    by_cases q : d = 0
    · rw [if_pos q, q]; decide
    · rw [if_neg q, nI_less (by omega)]
  rw [e1, fX16_alone_L54, if_neg (nI_pos (by omega)), gR_ok o, ob_some, rw_g1055_323 hR, gB_ok (rw_ok339 hR) (by rw [rw_ln339 hR]; omega) (by omega), ob_some, rw_cnB hR d hd, gI_ok oc, ob_some]
  unfold fX16_alone_L77
  rw [e2]
  by_cases q : (mF A 768 (342 + 4 * d)) = 0
  · rw [if_pos q, if_pos q, ob_some, gB_ok (rw_ok339 hR) (by rw [rw_ln339 hR]; omega) (by omega), ob_some, rw_cnB hR d hd]
  · rw [if_neg q, if_neg q]
theorem m_dnone (fu : Nat) (hR : RW A) (a1 : Option Nat) : ∀ (d m : Nat), d ≤ 16 → (∀ j, j < d → (mF A 768 (342 + 4 * j)) ≠ 0) → fX16_alone_L54 fu (m + d) 323 a1 (dn d) A = fX16_alone_L54 fu m 323 a1 (-1) A := by
  intro d
  induction d with
  | zero => intro m _ _; rfl
  | succ d ih =>
    intro m h1 h2
    rw [show m + (d + 1) = m + d + 1 by omega, m_dstep fu (m + d) hR (by omega) a1, if_neg (h2 d (by omega))]
    exact ih m (by omega) (fun j hj => h2 j (by omega))
theorem m_dfree (fu : Nat) (hR : RW A) {k : Nat} (h0 : (mF A 768 (342 + 4 * k)) = 0) (hk : ∀ j, j < k → (mF A 768 (342 + 4 * j)) ≠ 0) : ∀ (d m : Nat) (a1 : Option Nat), k < d → d ≤ 16 → fX16_alone_L54 fu (m + d) 323 a1 (dn d) A = fX16_alone_L54 fu m 323 (some (342 + 4 * k)) (-1) A := by
  intro d
  induction d with
  | zero => intro m a1 h1 _; omega
  | succ d ih =>
    intro m a1 h1 h2
    rw [show m + (d + 1) = m + d + 1 by omega, m_dstep fu (m + d) hR (by omega) a1]
    by_cases q : d = k
    · subst q
      rw [if_pos h0]
      exact m_dnone fu hR _ d m (by omega) hk
    · exact ih m _ (by omega) (by omega)
/-- a place that lives is passed over, in the class -/
theorem x_ustep (fu m : Nat) (h : JJ A M KN KS t T im ig F ek ty nw) {i : Nat} (hi : i < 16) (hs : (mF A 768 (342 + 4 * i)) ≠ 0) : (∃ c, mB M 318 i = some c) ∧ fX9_freeConnection_L2 fu (m + 1) 317 (nI i) M = fX9_freeConnection_L2 fu m 317 (nI (i + 1)) M := by
  have hW := h.xw
  have o := xw_ok317 hW
  rcases h.cc i hi with ⟨e1, e2⟩ | ⟨c, e1, e2, e3⟩
  · exact absurd e2 hs
  · refine ⟨⟨c, e1⟩, ?_⟩
    rcases e3 with ⟨s1, s2⟩ | hL
    · exact absurd s1 hs
    · have nz : ¬ (mF M 64 c) = 0 := fun z => hs (hL.1.st.trans z)
      rw [fX9_freeConnection_L2, if_neg (show ¬ (16 : Int32) ≤ nI i from nI_ge (b := 16) hi (by decide)), gR_ok o, ob_some, xw_g580_317 hW, gB_ok (xw_ok318 hW) (by rw [xw_ln318 hW]; omega) (by omega), ob_some, e1, if_neg (by simp)]
      unfold fX9_freeConnection_L34
      rw [gI_ok e2, ob_some, if_neg nz, nI_1]
theorem x_ugo (fu : Nat) (h : JJ A M KN KS t T im ig F ek ty nw) {k : Nat} (hk : k ≤ 16) (hs : ∀ j, j < k → (mF A 768 (342 + 4 * j)) ≠ 0) : ∀ (d i m : Nat), i + d = k → fX9_freeConnection_L2 fu (m + d) 317 (nI i) M = fX9_freeConnection_L2 fu m 317 (nI k) M := by
  intro d
  induction d with
  | zero => intro i m h1; rw [show i = k by omega]; rfl
  | succ d ih =>
    intro i m h1
    rw [show m + (d + 1) = m + d + 1 by omega, (x_ustep fu (m + d) h (i := i) (by omega) (hs i (by omega))).2]
    exact ih (i + 1) m (by omega)
theorem mF_nCn64 : mF (nCn M) 64 (sN (mS M)) = 0 := by
  unfold nCn
  rw [mF_sG]
  show (if sN (mS M) = sN (mS M) + 5 then 0 else _) = 0
  rw [if_neg (by omega)]
  show (if sN (mS M) = sN (mS M) + 2 then 0 else (if sN (mS M) = sN (mS M) then 0 else mF M 64 (sN (mS M)))) = 0
  rw [if_neg (by omega), if_pos rfl]
theorem sp_free (fu : Nat) (hfu : 100 ≤ fu) (h : JJ A M KN KS t T im ig F ek ty nw) :
    (∃ k c M0, k < 16 ∧ (mF A 768 (342 + 4 * k)) = 0 ∧ fX16_alone_L54 fu fu 323 none 15 A = fX16_alone_L54 fu (fu - 16) 323 (some (342 + 4 * k)) (-1) A ∧ fX9_freeConnection fu 317 M = some (some c, M0) ∧ JJ A M0 KN KS t T im ig F ek ty nw ∧ mB M0 318 k = some c ∧ (mF M0 64 c) = 0 ∧ NwC k M M0) ∨
    (fX16_alone_L54 fu fu 323 none 15 A = some A ∧ fX9_freeConnection fu 317 M = some (none, M)) := by
  have hR := h.rw'
  have hW := h.xw
  have o := xw_ok317 hW
  obtain ⟨k, s1, s2, s3, s4⟩ := Stop.ex (fun i => (mF A 768 (342 + 4 * i)) ≠ 0) (i := 0) (n := 16) (by omega)
  have e16 : fu = fu - 16 + 16 := by omega
  have ed : dn 16 = 15 := by unfold dn; rw [if_neg (by decide)]; rfl
  by_cases q : k < 16
  · have h0 : (mF A 768 (342 + 4 * k)) = 0 := Classical.not_not.mp (s4 q)
    have ra := m_dfree fu hR h0 (fun j hj => s3 j (by omega) hj) 16 (fu - 16) none q (by decide)
    rw [← e16, ed] at ra
    have rx := x_ugo fu h (k := k) (by omega) (fun j hj => s3 j (by omega) hj) k 0 (fu - k) (by omega)
    rw [show fu - k + k = fu by omega] at rx
    have rx' : fX9_freeConnection fu 317 M = fX9_freeConnection_L2 fu (fu - k) 317 (nI k) M := rx
    have gb : gB M 111 (some 318) (nI k) = some (mB M 318 k) := gB_ok (xw_ok318 hW) (by rw [xw_ln318 hW]; omega) (by omega)
    rw [show fu - k = fu - k - 1 + 1 by omega, fX9_freeConnection_L2, if_neg (show ¬ (16 : Int32) ≤ nI k from nI_ge (b := 16) q (by decide)), gR_ok o, ob_some, xw_g580_317 hW, gb, ob_some] at rx'
    rcases h.cc k q with ⟨e1, e2⟩ | ⟨c, e1, e2, e3⟩
    · -- a new one
      have hX0 := h.xr
      obtain ⟨nr, nww, nd, nc, b1, b2', b3, b4, r1, r2, r3, r4, hdd, k1, k2, k3, k4, k5⟩ := hX0
      have hnc : nc = k := by
        by_cases c : k < nc
        · obtain ⟨p, p1, -⟩ := r4.1 k c
          rw [e1] at p1; cases p1
        · by_cases c2 : nc < k
          · obtain ⟨⟨cc, z⟩, -⟩ := x_ustep fu 0 h (i := nc) (by omega) (s3 nc (by omega) c2)
            rw [r4.2.1 nc (Nat.le_refl _)] at z
            cases z
          · omega
      subst hnc
      obtain ⟨M1, n1, n2⟩ := x_newCn (M := M) fu (by omega) (by omega) (by omega)
      obtain ⟨x0, x1⟩ := nCn_ext (M := M)
      have hWn : XW (nCn M) := XW_of k5 x0 (fun a h => ⟨(x1 a h).1, (x1 a h).2.1⟩) (fun f a h => (x1 a h).2.2.2.1 f) hW
      have hOn : okA (nCn M) 1 (sN (mS M)) := ⟨by omega, by rw [nCn_N]; omega, nCn_T.1⟩
      have lt : ∀ i p arr t m, rowN M arr t m → mB M arr i = some p → p < sN (mS M) := fun i p arr t m h1 h2 => (rowN_at h1 h2).2.2.1
      have h318 : (318 : Nat) < sN (mS M) := by omega
      rw [e1, if_pos rfl, n1, b2_some, n2, ob_some, gR_ok (xw_ok317 hWn), ob_some, xw_g580_317 hWn, pB_ok (t := 111) rfl (xw_ok318 hWn) (by rw [xw_ln318 hWn]; omega) (by omega) hOn, ob_some] at rx'
      unfold fX9_freeConnection_L34 at rx'
      have o64 : okA (sB (nCn M) 318 nc (some (sN (mS M)))) 1 (sN (mS M)) := hOn
      rw [gI_ok o64, ob_some, show mF (sB (nCn M) 318 nc (some (sN (mS M)))) 64 (sN (mS M)) = 0 from mF_nCn64, if_pos rfl] at rx'
      have hB1 : ∀ a, a ≠ 318 → mB (sB (nCn M) 318 nc (some (sN (mS M)))) a = mB (nCn M) a := fun a h => by
        funext j
        rw [mB_sB, if_neg (fun q => h q.1)]
      have hB2 : ∀ j, mB (sB (nCn M) 318 nc (some (sN (mS M)))) 318 j = if j = nc then some (sN (mS M)) else mB M 318 j := fun j => by
        rw [mB_sB]
        by_cases c : j = nc
        · rw [if_pos ⟨rfl, c⟩, if_pos c]
        · rw [if_neg (fun q => c q.2), if_neg c, (x1 318 h318).2.2.2.2.2]
      have hok : ∀ t a, okA M t a → okA (sB (nCn M) 318 nc (some (sN (mS M)))) t a := fun t a h => ⟨h.1, by have := h.2.1; show a < sN (mS M) + 6; omega, by show sTy (mS (nCn M)) a = t; rw [(x1 a h.2.1).1]; exact h.2.2⟩
      have hBo : ∀ a, a < sN (mS M) → a ≠ 318 → mB (sB (nCn M) 318 nc (some (sN (mS M)))) a = mB M a := fun a h1 h2 => (hB1 a h2).trans (x1 a h1).2.2.2.2.2
      have nn : NwC nc M (sB (nCn M) 318 nc (some (sN (mS M)))) := ⟨by show sN (mS M) ≤ sN (mS M) + 6; omega, fun a ha => ⟨(x1 a ha).1, (x1 a ha).2.1, (x1 a ha).2.2.1, (x1 a ha).2.2.2.1, (x1 a ha).2.2.2.2.1, fun hh => hBo a ha hh⟩, fun j hj => by rw [hB2, if_neg hj]⟩
      have hXn : XRR KN KS (sB (nCn M) 318 nc (some (sN (mS M)))) := by
        refine ⟨nr, nww, nd, nc + 1, b1, b2', b3, by omega, rowN_same (hBo 306 (by omega) (by decide)) (hok 6) r1, rowN_same (hBo 313 (by omega) (by decide)) (hok 6) r2, rowN_same (hBo 316 (by omega) (by decide)) (hok 2) r3, rowN_new hB2 (hok 1) hOn (Nat.le_refl _) r4, fun i j p e1 e2 => ?_, ?_, ?_, k3, k4, ?_⟩
        · rw [hBo 306 (by omega) (by decide)] at e1
          rw [hBo 313 (by omega) (by decide)] at e2
          exact hdd _ _ p e1 e2
        · show sN (mS M) + 6 + 2 * (32 - nr) + 2 * (8 - nww) + 3 * (4 - nd) + 6 * (16 - (nc + 1)) ≤ KN
          omega
        · show sSl (mS M) + 4524 + 1519 * (32 - nr) + 1519 * (8 - nww) + 4233 * (4 - nd) + 4524 * (16 - (nc + 1)) ≤ KS
          omega
        · show 450 ≤ sN (mS M) + 6
          omega
      have bm : Bd RX TX (sB (nCn M) 318 nc (some (sN (mS M)))) := (oX9_freeConnection fu 317 M h.bm (by unfold RX; omega) rx').2.1
      refine Or.inl ⟨nc, sN (mS M), sB (nCn M) 318 nc (some (sN (mS M))), q, h0, ra, rx', ?_, by rw [hB2, if_pos rfl], mF_nCn64, nn⟩
      exact JJ_new h q nn bm hWn (XS_same (M := nCn M) rfl rfl (XS_nCn k5 h.xs)) hXn (by rw [hB2, if_pos rfl]) o64 h0 mF_nCn64 (fun j hj e2 => by have := lt j _ _ _ _ r4 e2; omega)
    · rcases e3 with ⟨z1, z2⟩ | hL
      · rw [e1, if_neg (by simp)] at rx'
        unfold fX9_freeConnection_L34 at rx'
        rw [gI_ok e2, ob_some, if_pos z2] at rx'
        exact Or.inl ⟨k, c, M, q, h0, ra, rx', h, e1, z2, Nat.le_refl _, fun a ha => ⟨rfl, rfl, fun _ => rfl, fun _ => rfl, rfl, fun _ => rfl⟩, fun _ _ => rfl⟩
      · obtain ⟨ce, -, ⟨b0, v, ci, cs⟩, -⟩ := hL
        rw [cs.st] at h0
        have := (nI_eq (a := (v 0)) (b := 0) (by have := cs.st1; omega) (by decide)).mp h0
        have := cs.st1
        omega
  · have hk : k = 16 := by omega
    subst hk
    have ra := m_dnone fu hR none 16 (fu - 16) (by decide) (fun j hj => s3 j (by omega) hj)
    rw [← e16, ed] at ra
    have rx := x_ugo fu h (k := 16) (by omega) (fun j hj => s3 j (by omega) hj) 16 0 (fu - 16) (by omega)
    rw [← e16] at rx
    refine Or.inr ⟨?_, ?_⟩
    · rw [ra, show fu - 16 = fu - 17 + 1 by omega, fX16_alone_L54, if_pos (by decide), if_pos rfl]
    · refine Eq.trans rx ?_
      rw [show fu - 16 = fu - 17 + 1 by omega, fX9_freeConnection_L2, if_pos (by decide)]
end Free
