/-! ===== part 90: the datagram that a fragment belongs to, or a new one ===== -/
theorem free_ex {N n : Nat} {s : Nat → Nat} (hn : n < N) : ∃ k, k < N ∧ ∀ i, i < n → s i ≠ k := by
  refine Classical.byContradiction (fun hno => ?_)
  have ex : ∀ k, ∃ i, k < N → i < n ∧ s i = k := fun k => by
    by_cases hk : k < N
    · refine Classical.byContradiction (fun h => hno ⟨k, hk, fun i hi e => h ⟨i, fun _ => ⟨hi, e⟩⟩⟩)
    · exact ⟨0, fun h => absurd h hk⟩
  obtain ⟨t, ht⟩ := Classical.axiomOfChoice ex
  refine noinj n t (fun i hi => (ht i (by omega)).1) (fun i j hi hj e => ?_)
  rw [← (ht i (by omega)).2, ← (ht j (by omega)).2, e]
section Find
variable {A M : Mm}
theorem x_isOf (fu : Nat) {d : Nat} (hd : okA M 2 d) (x id p : Int32) : (((mF M 129 d) = x ∧ (mF M 130 d) = id ∧ (mF M 131 d) = p) ∧ fX2_isOf fu d x id p M = some (1, M)) ∨ (¬ ((mF M 129 d) = x ∧ (mF M 130 d) = id ∧ (mF M 131 d) = p) ∧ fX2_isOf fu d x id p M = some (0, M)) := by
  unfold fX2_isOf
  simp only [gI_ok hd, ob_some, rN0, rN1]
  by_cases c1 : (mF M 129 d) = x
  · by_cases c2 : (mF M 130 d) = id
    · by_cases c3 : (mF M 131 d) = p
      · left; exact ⟨⟨c1, c2, c3⟩, by rw [if_pos c1, if_pos c2, if_pos c3]⟩
      · right; exact ⟨fun q => c3 q.2.2, by rw [if_pos c1, if_pos c2, if_neg c3]⟩
    · right; exact ⟨fun q => c2 q.2.1, by rw [if_pos c1, if_neg c2]⟩
  · right; exact ⟨fun q => c1 q.1, by rw [if_neg c1]⟩
theorem x_index_step (hW : XW M) (fu m : Nat) {j n d : Nat} (hw : (mF M 208 314) = nI n) (hn : n ≤ 4) (hj : j < n) (hd : mB M 316 j = some d) (hO : okA M 2 d) (id : Int32) (hno : ¬ ((mF M 129 d) = (mF M 193 314) ∧ (mF M 130 d) = id ∧ (mF M 131 d) = (mF M 204 314))) : fX3_indexOf_L2 fu (m + 1) 314 id (nI j) M = fX3_indexOf_L2 fu m 314 id (nI (j + 1)) M := by
  rcases x_isOf fu hO (mF M 193 314) id (mF M 204 314) with ⟨c, -⟩ | ⟨-, c⟩
  · exact absurd c hno
  · have gb : gB M 112 (some 316) (nI j) = some (some d) := by rw [gB_ok (xw_ok316 hW) (by rw [xw_ln316 hW]; omega) (by omega), hd]
    rw [fX3_indexOf_L2, gI_ok (xw_ok314 hW), ob_some, hw, if_neg (nI_ge hj (by omega)), if_neg (ge4 (by omega)), gR_ok (xw_ok314 hW), ob_some, xw_g207_314 hW, gb, ob_some, if_neg (by simp), gI_ok (xw_ok314 hW), ob_some, gI_ok (xw_ok314 hW), ob_some, rc_ok hO, ob_some, c, b2_some, if_pos rfl]
    unfold fX3_indexOf_L44
    rw [nI_1]
theorem x_index_hit (hW : XW M) (fu m : Nat) {j n d : Nat} (hw : (mF M 208 314) = nI n) (hn : n ≤ 4) (hj : j < n) (hd : mB M 316 j = some d) (hO : okA M 2 d) (id : Int32) (hno : (mF M 129 d) = (mF M 193 314) ∧ (mF M 130 d) = id ∧ (mF M 131 d) = (mF M 204 314)) : fX3_indexOf_L2 fu (m + 1) 314 id (nI j) M = some (nI j, M) := by
  rcases x_isOf fu hO (mF M 193 314) id (mF M 204 314) with ⟨-, c⟩ | ⟨c, -⟩
  · have gb : gB M 112 (some 316) (nI j) = some (some d) := by rw [gB_ok (xw_ok316 hW) (by rw [xw_ln316 hW]; omega) (by omega), hd]
    rw [fX3_indexOf_L2, gI_ok (xw_ok314 hW), ob_some, hw, if_neg (nI_ge hj (by omega)), if_neg (ge4 (by omega)), gR_ok (xw_ok314 hW), ob_some, xw_g207_314 hW, gb, ob_some, if_neg (by simp), gI_ok (xw_ok314 hW), ob_some, gI_ok (xw_ok314 hW), ob_some, rc_ok hO, ob_some, c, b2_some, if_neg (by decide)]
  · exact absurd hno c
/-- the class's datagram as it begins -/
def begM (M : Mm) (d : Nat) (x id p nw : Int32) : Mm := wA (sF (sF (sF (sF (sF (sF (sF M 129 d x) 130 d id) 131 d p) 132 d nw) 133 d (-1)) 134 d 0) 135 d 0) (d + 2) (fun j => if j < 128 then 0 else mA M (d + 2) j)
theorem x_begin (fu : Nat) (hf : 200 ≤ fu) {d : Nat} (hd : okA M 2 d) (g2 : (mG M 136 d) = some (d + 2)) (o2 : okA M 101 (d + 2)) (l2 : sLen (mS M) (d + 2) = 128) (x id p nw : Int32) : fX2_begin fu d x id p nw M = some (begM M d x id p nw) := by
  unfold fX2_begin
  simp only [pF_ok, gR_ok, ok_sF, hd, ob_some, mG_sF, g2]
  rw [x_fill (M := sF (sF (sF (sF (sF (sF (sF M 129 d x) 130 d id) 131 d p) 132 d nw) 133 d (-1)) 134 d 0) 135 d 0) fu (a := d + 2) (L := 128) o2 l2 (by decide) (by omega) 0, ob_some]
  rfl
/-- a place for a new datagram -/
theorem x_slot (hW : XW M) (hS : XS M) {KN KS n : Nat} (hX : XRR KN KS M) (hw : (mF M 208 314) = nI n) (hn : n < 4) (hall : ∀ j, j < n → mB M 316 j ≠ none) (fu : Nat) (id : Int32) :
    ∃ d M0, fX3_indexOf_L50 fu 314 id M = fX3_indexOf_L92 fu 314 id (some d) M0 ∧ XW M0 ∧ XS M0 ∧ XRR KN KS M0 ∧ okA M0 2 d ∧ mB M0 316 n = some d ∧ (∀ j, j ≠ n → mB M0 316 j = mB M 316 j) ∧ (∀ a, a < sN (mS M) → a ≠ 316 → mB M0 a = mB M a) ∧ (∀ i, i ≠ n → mB M 316 i ≠ some d) ∧ sN (mS M) ≤ sN (mS M0) ∧ (∀ a, a < sN (mS M) → sTy (mS M0) a = sTy (mS M) a ∧ sLen (mS M0) a = sLen (mS M) a ∧ (∀ f, mF M0 f a = mF M f a) ∧ (∀ f, mG M0 f a = mG M f a) ∧ mA M0 a = mA M a) := by
  have hX0 := hX
  obtain ⟨nr, nww, nd, nc, b1, b2', b3, b4, r1, r2, r3, r4, hdd, k1, k2, k3, k4, k5⟩ := hX0
  unfold fX3_indexOf_L50
  have gb : gB M 112 (some 316) (nI n) = some (mB M 316 n) := gB_ok (xw_ok316 hW) (by rw [xw_ln316 hW]; omega) (by omega)
  rw [gI_ok (xw_ok314 hW), ob_some, hw, if_pos (show nI n < (4 : Int32) from nI_lt (b := 4) hn (by decide)), gR_ok (xw_ok314 hW), ob_some, xw_g207_314 hW, ob_some, gb, ob_some]
  cases e : mB M 316 n with
  | some d =>
    rw [if_neg (by simp)]
    have hO := (rowN_at r3 e).2
    exact ⟨d, M, rfl, hW, hS, hX, hO, e, fun _ _ => rfl, fun _ _ _ => rfl, fun i hi e2 => hi (r3.2.2 i n d e2 e), Nat.le_refl _, fun _ _ => ⟨rfl, rfl, fun _ => rfl, fun _ => rfl, rfl⟩⟩
  | none =>
    have hnd : nd = n := by
      by_cases c : n < nd
      · obtain ⟨q, q1, -⟩ := r3.1 n c
        rw [e] at q1; cases q1
      · by_cases c2 : nd < n
        · exact absurd (r3.2.1 nd (Nat.le_refl _)) (hall nd c2)
        · omega
    subst hnd
    obtain ⟨M1, n1, n2⟩ := x_newDg (M := M) fu (by omega) (by omega) (by omega)
    obtain ⟨x0, x1⟩ := nDg_ext (M := M)
    have h316 : (316 : Nat) < sN (mS M) := by omega
    have hWn : XW (nDg M) := XW_of k5 x0 (fun a h => ⟨(x1 a h).1, (x1 a h).2.1⟩) (fun f a h => (x1 a h).2.2.2.1 f) hW
    have w208 : mF (nDg M) 208 314 = nI nd := ((x1 314 (by omega)).2.2.1 208).trans hw
    have hOn : okA (nDg M) 2 (sN (mS M)) := ⟨by omega, by rw [nDg_N]; omega, nDg_T.1⟩
    have lt : ∀ i p arr t m, rowN M arr t m → mB M arr i = some p → p < sN (mS M) := fun i p arr t m h1 h2 => (rowN_at h1 h2).2.2.1
    rw [if_pos rfl, n1, b2_some, n2, ob_some, gR_ok (xw_ok314 hWn), ob_some, xw_g207_314 hWn, gI_ok (xw_ok314 hWn), ob_some, w208, pB_ok (t := 112) rfl (xw_ok316 hWn) (by rw [xw_ln316 hWn]; omega) (by omega) hOn, ob_some]
    have hB1 : ∀ a, a ≠ 316 → mB (sB (nDg M) 316 nd (some (sN (mS M)))) a = mB (nDg M) a := fun a h => by
      funext j
      rw [mB_sB, if_neg (fun q => h q.1)]
    have hB2 : ∀ j, mB (sB (nDg M) 316 nd (some (sN (mS M)))) 316 j = if j = nd then some (sN (mS M)) else mB M 316 j := fun j => by
      rw [mB_sB]
      by_cases c : j = nd
      · rw [if_pos ⟨rfl, c⟩, if_pos c]
      · rw [if_neg (fun q => c q.2), if_neg c, (x1 316 h316).2.2.2.2.2]
    have hok : ∀ t a, okA M t a → okA (sB (nDg M) 316 nd (some (sN (mS M)))) t a := fun t a h => ⟨h.1, by have := h.2.1; show a < sN (mS M) + 3; omega, by show sTy (mS (nDg M)) a = t; rw [(x1 a h.2.1).1]; exact h.2.2⟩
    have hBo : ∀ a, a < sN (mS M) → a ≠ 316 → mB (sB (nDg M) 316 nd (some (sN (mS M)))) a = mB M a := fun a h1 h2 => (hB1 a h2).trans (x1 a h1).2.2.2.2.2
    refine ⟨sN (mS M), _, rfl, hWn, XS_same (M := nDg M) rfl rfl (XS_nDg k5 hS), ?_, hOn, by rw [hB2, if_pos rfl], fun j hj => by rw [hB2, if_neg hj], hBo, fun i hi e2 => by have := lt i _ _ _ _ r3 e2; omega, x0, fun a h => ⟨(x1 a h).1, (x1 a h).2.1, (x1 a h).2.2.1, (x1 a h).2.2.2.1, (x1 a h).2.2.2.2.1⟩⟩
    refine ⟨nr, nww, nd + 1, nc, b1, b2', by omega, b4, rowN_same (hBo 306 (by omega) (by decide)) (hok 6) r1, rowN_same (hBo 313 (by omega) (by decide)) (hok 6) r2, rowN_new hB2 (hok 2) hOn (Nat.le_refl _) r3, rowN_same (hBo 318 (by omega) (by decide)) (hok 1) r4, fun i j p e1 e2 => ?_, ?_, ?_, k3, k4, ?_⟩
    · rw [hBo 306 (by omega) (by decide)] at e1
      rw [hBo 313 (by omega) (by decide)] at e2
      exact hdd _ _ p e1 e2
    · show sN (mS M) + 3 + 2 * (32 - nr) + 2 * (8 - nww) + 3 * (4 - (nd + 1)) + 6 * (16 - nc) ≤ KN
      omega
    · show sSl (mS M) + 4233 + 1519 * (32 - nr) + 1519 * (8 - nww) + 4233 * (4 - (nd + 1)) + 4524 * (16 - nc) ≤ KS
      omega
    · show 450 ≤ sN (mS M) + 3
      omega
end Find
