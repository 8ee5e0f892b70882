/-! ===== part 76: a packet goes out over its hop, in both ===== -/
/-- there are not n + 1 different places among n -/
theorem noinj : ∀ (n : Nat) (s : Nat → Nat), (∀ i, i < n + 1 → s i < n) → (∀ i j, i < n + 1 → j < n + 1 → s i = s j → i = j) → False := by
  intro n
  induction n with
  | zero => intro s h1 _; have := h1 0 (by omega); omega
  | succ n ih =>
    intro s h1 h2
    have b1 : ∀ i, i < n + 1 → s i ≠ s (n + 1) := fun i hi e => by have := h2 i (n + 1) (by omega) (by omega) e; omega
    refine ih (fun i => if s i = n then s (n + 1) else s i) (fun i hi => ?_) (fun i k hi hk q => ?_)
    · have a1 := h1 i (by omega)
      have a2 := h1 (n + 1) (by omega)
      have a3 := b1 i hi
      show (if s i = n then s (n + 1) else s i) < n
      split <;> omega
    · by_cases c1 : s i = n
      · by_cases c2 : s k = n
        · exact h2 i k (by omega) (by omega) (by omega)
        · simp only [c1, c2, if_true, if_false] at q
          exact absurd q.symm (b1 k hk)
      · by_cases c2 : s k = n
        · simp only [c1, c2, if_true, if_false] at q
          exact absurd q (b1 i hi)
        · simp only [c1, c2, if_false] at q
          exact h2 i k (by omega) (by omega) q
theorem pigeonN (n : Nat) (s : Nat → Nat) (h1 : ∀ i, i < n → s i < n) (h2 : ∀ i j, i < n → j < n → s i = s j → i = j) (j : Nat) (hj : j < n) (h : ∀ i, i < n → s i ≠ j) : False := by
  obtain ⟨m, rfl⟩ : ∃ m, n = m + 1 := ⟨n - 1, by omega⟩
  refine noinj m (fun i => if s i = m then j else s i) (fun i hi => ?_) (fun i k hi hk q => ?_)
  · have a1 := h1 i hi
    have a2 := h i hi
    show (if s i = m then j else s i) < m
    split <;> omega
  · by_cases c1 : s i = m
    · by_cases c2 : s k = m
      · exact h2 i k hi hk (by omega)
      · simp only [c1, c2, if_true, if_false] at q
        exact absurd q.symm (h k hk)
    · by_cases c2 : s k = m
      · simp only [c1, c2, if_true, if_false] at q
        exact absurd q (h i hi)
      · simp only [c1, c2, if_false] at q
        exact h2 i k hi hk q
theorem pigeon8 (s : Nat → Nat) (h1 : ∀ i, i < 8 → s i < 8) (h2 : ∀ i j, i < 8 → j < 8 → s i = s j → i = j) (j : Nat) (hj : j < 8) (h : ∀ i, i < 8 → s i ≠ j) : False := pigeonN 8 s h1 h2 j hj h
section Send
variable {A M : Mm}
theorem m_free_hit (h : RW A) (fu : Nat) {k : Nat} (hk : k < 8) (hu : (mF A 960 (422 + 2 * k)) = 0) (hno : ∀ j, j < k → (mF A 960 (422 + 2 * j)) ≠ 0) (x3 x4 x7 : Int32) : ∀ m j, j ≤ k → k ≤ j + m → fX16_ipOut_L200 fu (m + 2) 323 x3 x4 none x7 (nI j) A = fX16_ipOut_L240 fu 323 x3 x4 (some (422 + 2 * k)) x7 A := by
  have fin : ∀ m, fX16_ipOut_L200 fu (m + 2) 323 x3 x4 none x7 (nI k) A = fX16_ipOut_L240 fu 323 x3 x4 (some (422 + 2 * k)) x7 A := by
    intro m
    have c : ¬ (8 : Int32) ≤ nI k := nI_ge (b := 8) hk (by omega)
    rw [fX16_ipOut_L200, if_neg c, if_pos rfl]
    simp only [gR_ok, rw_ok323 h, ob_some, rw_g1051_323 h]
    rw [gB_ok (rw_ok336 h) (by rw [rw_ln336 h]; exact hk) (by omega), ob_some, rw_pkB h k hk, gI_ok (rw_pkO h k hk), ob_some, if_pos hu, ob_some]
    show fX16_ipOut_L200 fu (m + 1) 323 x3 x4 (some (422 + 2 * k)) x7 (nI k + 1) A = _
    rw [nI_1, fX16_ipOut_L200]
    by_cases c2 : k + 1 = 8
    · have c3 : (8 : Int32) ≤ nI (k + 1) := by rw [c2]; decide
      rw [if_pos c3]
    · have c3 : ¬ (8 : Int32) ≤ nI (k + 1) := nI_ge (b := 8) (by omega) (by omega)
      rw [if_neg c3, if_neg (by simp)]
  intro m
  induction m with
  | zero => intro j h1 h2; obtain rfl : j = k := by omega
            exact fin 0
  | succ m ih =>
    intro j h1 h2
    by_cases e : j = k
    · subst e; exact fin _
    · have c : ¬ (8 : Int32) ≤ nI j := nI_ge (b := 8) (by omega) (by omega)
      rw [fX16_ipOut_L200, if_neg c, if_pos rfl]
      simp only [gR_ok, rw_ok323 h, ob_some, rw_g1051_323 h]
      rw [gB_ok (rw_ok336 h) (by rw [rw_ln336 h]; omega) (by omega), ob_some, rw_pkB h j (by omega), gI_ok (rw_pkO h j (by omega)), ob_some, if_neg (hno j (by omega))]
      unfold fX16_ipOut_L234
      rw [nI_1]
      exact ih (j + 1) (by omega) (by omega)
theorem m_free_none (h : RW A) (fu : Nat) (hno : ∀ j, j < 8 → (mF A 960 (422 + 2 * j)) ≠ 0) (x3 x4 x7 : Int32) : ∀ m j, j ≤ 8 → 8 ≤ j + m → fX16_ipOut_L200 fu (m + 1) 323 x3 x4 none x7 (nI j) A = some A := by
  have fin : ∀ m, fX16_ipOut_L200 fu (m + 1) 323 x3 x4 none x7 (nI 8) A = some A := by
    intro m
    rw [fX16_ipOut_L200, if_pos (by decide)]
    unfold fX16_ipOut_L240
    rw [if_pos rfl]
  intro m
  induction m with
  | zero => intro j h1 h2; obtain rfl : j = 8 := by omega
            exact fin 0
  | succ m ih =>
    intro j h1 h2
    by_cases e : j = 8
    · subst e; exact fin _
    · have c : ¬ (8 : Int32) ≤ nI j := nI_ge (b := 8) (by omega) (by omega)
      rw [fX16_ipOut_L200, if_neg c, if_pos rfl]
      simp only [gR_ok, rw_ok323 h, ob_some, rw_g1051_323 h]
      rw [gB_ok (rw_ok336 h) (by rw [rw_ln336 h]; omega) (by omega), ob_some, rw_pkB h j (by omega), gI_ok (rw_pkO h j (by omega)), ob_some, if_neg (hno j (by omega))]
      unfold fX16_ipOut_L234
      rw [nI_1]
      exact ih (j + 1) (by omega) (by omega)
/-- the reference's memory with a packet put into place k -/
def putPk (A : Mm) (k ln : Nat) (hop : Int32) : Mm := wA (sF (sF (sF A 960 (422 + 2 * k) 1) 961 (422 + 2 * k) hop) 962 (422 + 2 * k) (nI ln)) (423 + 2 * k) (fun i => if i < ln then mA A 331 (14 + i) else mA A (423 + 2 * k) i)
theorem m_L240 (h : RW A) (hB : By A) {fu k ln : Nat} (hf : 1502 ≤ fu) (hk : k < 8) (hln : ln ≤ 1500) (x3 hop x7 : Int32) (hx : (20 : Int32) + x3 = nI ln) : ∃ m, fX16_ipOut_L240 fu 323 x3 hop (some (422 + 2 * k)) x7 A = fX16_ipOut_L271 fu (m + 1) 323 hop (some (422 + 2 * k)) x7 (nI ln) (putPk A k ln hop) := by
  unfold fX16_ipOut_L240
  rw [if_neg (by simp), pZ_ok (rw_pkO h k hk) (Or.inr rfl), ob_some, pF_ok (by rw [ok_sF]; exact rw_pkO h k hk), ob_some, hx, pF_ok (by rw [ok_sF, ok_sF]; exact rw_pkO h k hk), ob_some]
  have hR : RW (sF (sF (sF A 960 (422 + 2 * k) 1) 961 (422 + 2 * k) hop) 962 (422 + 2 * k) (nI ln)) := h
  obtain ⟨m, rfl⟩ : ∃ m, fu = m + 1 := ⟨fu - 1, by omega⟩
  refine ⟨m - ln, ?_⟩
  have := m_ipOut_copy (A := sF (sF (sF A 960 (422 + 2 * k) 1) 961 (422 + 2 * k) hop) 962 (422 + 2 * k) (nI ln)) hR hB (m + 1) hk hln (by simp only [mF_sF, reduceIte, Nat.reduceEqDiff, Nat.reduceAdd, Nat.reduceMul, Nat.reduceLT, Nat.reduceLeDiff, and_true, true_and, and_false, false_and, and_self, ne_eq, not_true_eq_false, not_false_eq_true, Option.some.injEq, reduceCtorEq]) hop x7 m 0 (by omega) (by omega) (mA A (423 + 2 * k))
  have e1 : (fun i => if i < 0 then mA (sF (sF (sF A 960 (422 + 2 * k) 1) 961 (422 + 2 * k) hop) 962 (422 + 2 * k) (nI ln)) 331 (14 + i) else mA A (423 + 2 * k) i) = mA A (423 + 2 * k) := by
    funext i
    rw [if_neg (by omega)]
  rw [e1] at this
  have e2 : wA (sF (sF (sF A 960 (422 + 2 * k) 1) 961 (422 + 2 * k) hop) 962 (422 + 2 * k) (nI ln)) (423 + 2 * k) (mA A (423 + 2 * k)) = sF (sF (sF A 960 (422 + 2 * k) 1) 961 (422 + 2 * k) hop) 962 (422 + 2 * k) (nI ln) := wA_mA (sF (sF (sF A 960 (422 + 2 * k) 1) 961 (422 + 2 * k) hop) 962 (422 + 2 * k) (nI ln)) (423 + 2 * k)
  rw [e2] at this
  refine Eq.trans this ?_
  rw [show m + 1 - (ln - 0) = m - ln + 1 by omega]
  rfl
theorem putPk_F {k ln : Nat} {hop : Int32} {f a : Nat} (h : ¬ (f = 960 ∧ a = 422 + 2 * k)) (h2 : ¬ (f = 961 ∧ a = 422 + 2 * k)) (h3 : ¬ (f = 962 ∧ a = 422 + 2 * k)) : mF (putPk A k ln hop) f a = mF A f a := by
  unfold putPk
  simp only [mF_wA, mF_sF]
  rw [if_neg h3, if_neg h2, if_neg h]
theorem By_sF {f a : Nat} {v : Int32} (h : By A) : By (sF A f a v) := h
/-- the rows in which frames are made may hold anything -/
theorem JL0_out {KN KS t T : Nat} (G : Nat → Int32) (h : JL0 KN KS t T A M) : JL0 KN KS t T A (wA M 308 G) := by
  obtain ⟨hR, hW, hS, hX, hP, hQ, hE, n, O, nw', s, o, hO, hJ⟩ := h
  have hX' := hX
  obtain ⟨nr, nw, nd, nc, -, -, -, -, r1, r2, -⟩ := hX'
  have hrow : ∀ i q, mB M 313 i = some q → q + 1 ≠ 308 := fun i q e => Ne.symm (q1_ne hW (rowN_at r2 e).2).1
  exact ⟨hR, hW, XS_same rfl rfl hS, XRR_same rfl rfl hX, hP, JQ_congr (A := A) (M := M) rfl (fun _ _ _ => rfl) rfl rfl (fun i p e => ⟨rfl, rfl, mA_wA_ne (Ne.symm (ring308 hW hX i p e))⟩) hQ, JE_congr (A := A) (M := M) (fun _ _ _ _ => rfl) rfl (fun a h1 h2 => mA_wA_ne (by omega)) hE, n, O, nw', s, o, hO, JWa_congr (A := A) (M := M) (fun _ _ _ _ => rfl) rfl rfl (fun _ _ _ => rfl) rfl rfl (fun _ _ _ _ _ _ => rfl) (fun i q e => mA_wA_ne (hrow i q e)) hJ⟩
theorem JL0_fr {KN KS t T : Nat} (G : Nat → Int32) (h : JL0 KN KS t T A M) : JL0 KN KS t T (wA A 331 G) M := by
  obtain ⟨hR, hW, hS, hX, hP, hQ, hE, n, O, nw', s, o, hO, hJ⟩ := h
  exact ⟨hR, hW, hS, hX, hP, JQ_congr (A := A) (M := M) rfl (fun a h1 h2 => mA_wA_ne (by omega)) rfl rfl (fun i p e => ⟨rfl, rfl, rfl⟩) hQ, JE_congr (A := A) (M := M) (fun _ _ _ _ => rfl) rfl (fun _ _ _ => rfl) hE, n, O, nw', s, o, hO, JWa_congr (A := A) (M := M) (fun _ _ _ _ => rfl) rfl rfl (fun a h1 h2 => mA_wA_ne (by omega)) rfl rfl (fun _ _ _ _ _ _ => rfl) (fun _ _ _ => rfl) hJ⟩
theorem JL0_sent {KN KS t T : Nat} {A' M' : Mm} (h : JL0 KN KS t T A M) (hQ : JQ (T + 1) A' M') (hW' : XW M') (hS' : XS M') (hX' : XRR KN KS M') (hFS : FrS A A') (hFR : FrR M M') : JL0 KN KS t (T + 1) A' M' ∧ FrA A A' ∧ FrM M M' := by
  obtain ⟨hR, hW, hS, hX, hP, -, hE, hJ⟩ := h
  obtain ⟨z1, z2, z3, z4⟩ := JL_sent hFS hFR hR hW hS hX hP hE
  obtain ⟨nr, nw, nd, nc, -, -, -, -, r1, -⟩ := hX
  obtain ⟨n, O, nw', s, o, hO, hJ⟩ := hJ
  exact ⟨⟨z1, hW', hS', hX', z2, hQ, z3, n, O, nw', s, o, by omega, z4 _ _ _ _ _ hJ⟩, hFS.toA, hFR.toM r1⟩
theorem sp_hop (fu : Nat) (hf : 2000 ≤ fu) {KN KS t T len : Nat} (hJ : JL0 KN KS t T A M) (hBA : By A) (hT2 : T < 2 ^ 30) (h8 : 8 ≤ len) (h1480 : len ≤ 1480) (hfr : ∀ j, 14 ≤ j → j < 34 + len → mA A 331 j = mA M 308 j) (hop : Int32) :
    ∃ A' M' T', fX16_ipOut_L140 fu 323 (nI len) hop A = some A' ∧ fX4_send_L41 fu 307 (nI len) hop M = some M' ∧ T ≤ T' ∧ T' ≤ T + 1 ∧ JL0 KN KS t T' A' M' ∧ FrA A A' ∧ FrM M M' := by
  have hJ0 := hJ
  obtain ⟨hR, hW, hS, hX, hP, hQ, hE, hJW⟩ := hJ
  have hP0 := hP
  obtain ⟨p1, p2, p3, p4, ⟨nw, p5, p6, p7⟩, -⟩ := hP0
  have e20 : (20 : Int32) + nI len = nI (20 + len) := nI_add 20 len
  have e34 : (34 : Int32) + nI len = nI (14 + (20 + len)) := by rw [show 14 + (20 + len) = 34 + len by omega]; exact nI_add 34 len
  unfold fX16_ipOut_L140 fX4_send_L41
  rw [rc_ok (rw_ok323 hR), rc_ok (xw_ok307 hW), ob_some, ob_some]
  rcases sp_counting hR hW hE (p5.trans p6.symm) (show 17 ≤ fu by omega) hop with ⟨q1, q2⟩ | ⟨k, hk, q1, q2, q3, q4⟩
  · rw [q1, q2, b2_some, b2_some, if_pos rfl, if_pos (by decide), rc_ok (rw_ok323 hR), rc_ok (xw_ok307 hW), ob_some, ob_some]
    obtain ⟨n, O, nw', s, o, hO, hJa⟩ := hJW
    have hX' := hX
    obtain ⟨nr, nww, nd, nc, -, -, -, -, r1, r2, r3, r4, hd, k1, k2, k3, k4, k5⟩ := hX'
    have hJa' := hJa
    obtain ⟨a1, a2, a3, a4, a5, a6, a7, a8, a9, a10, a11, a12⟩ := hJa'
    rcases sp_waiter hR hW hJa r2 (show 9 ≤ fu by omega) hop with ⟨c1, c2, c3⟩ | ⟨i, hi, c1, c2, c3⟩
    · rw [c2, b2_some, if_pos rfl]
      unfold fX16_ipOut_L195
      obtain ⟨m, hm⟩ : ∃ m, fu = m + 2 := ⟨fu - 2, by omega⟩
      by_cases hn : n = 8
      · -- no place is left
        subst hn
        have hall : ∀ j, j < 8 → (mF A 960 (422 + 2 * j)) ≠ 0 := by
          intro j hj
          by_cases ex : ∃ i, i < 8 ∧ s i = j
          · obtain ⟨i, hi, e⟩ := ex
            rw [← e, a7 i hi]; decide
          · exfalso
            exact pigeon8 s a5 a6 j hj (fun i hi e => ex ⟨i, hi, e⟩)
        refine ⟨A, M, T, ?_, ?_, Nat.le_refl _, by omega, hJ0, FrA.rf, FrM.rf⟩
        · have := m_free_none hR fu hall (nI len) hop 1 (m + 1) 0 (by omega) (by omega)
          rw [← hm] at this
          exact this
        · rw [x_letWait_full hW a2 _ c3, b2_some, if_pos rfl]
      · -- a new hop
        have hall : ∀ j, j < n → mB M 313 j ≠ none := fun j hj e => by
          obtain ⟨q, e1, -⟩ := a9 j hj
          rw [e] at e1; cases e1
        have hk : ∃ k, k < 8 ∧ (mF A 960 (422 + 2 * k)) = 0 ∧ ∀ j, j < k → (mF A 960 (422 + 2 * j)) ≠ 0 := by
          rcases fst_or (fun k => (mF A 960 (422 + 2 * k)) = 0) 8 with ⟨k, z1, z2, z3⟩ | z
          · exact ⟨k, z1, z2, z3⟩
          · exfalso
            have ex : ∀ k, k < 8 → ∃ i, i < n ∧ s i = k := fun k hk => by
              by_cases ex : ∀ i, i < n → s i ≠ k
              · exact absurd (a8 k hk ex) (z k hk)
              · obtain ⟨i, y⟩ := Classical.not_forall.mp ex
                obtain ⟨y1, y2⟩ := Classical.not_imp.mp y
                exact ⟨i, y1, Classical.not_not.mp y2⟩
            have ex2 : ∀ k, ∃ i, k < 8 → i < n ∧ s i = k := fun k => by
              by_cases hk : k < 8
              · obtain ⟨i, y⟩ := ex k hk
                exact ⟨i, fun _ => y⟩
              · exact ⟨0, fun h => absurd h hk⟩
            obtain ⟨t', ht⟩ := Classical.axiomOfChoice ex2
            refine noinj n t' (fun i hi => (ht i (by omega)).1) (fun i j hi hj e => ?_)
            rw [← (ht i (by omega)).2, ← (ht j (by omega)).2, e]
        obtain ⟨k, hk, hu, hbef⟩ := hk
        have hfree : ∀ i, i < n → s i ≠ k := fun i hi e => by
          have := a7 i hi
          rw [e, hu] at this
          exact absurd this (by decide)
        obtain ⟨q, M2, w1, w2, w3, w4, w5, w6, w7, w8, w9, w10, w11, w12, w13, w14, w15, w16, w17, w18, w19, w20, w21, w22, w23, w24, w25⟩ := x_letWait_new hW hS hX (L := 14 + (20 + len)) a2 (by omega) hall (by omega) c3
        have hrA : ∃ m', fX16_ipOut_L200 fu fu 323 (nI len) hop none 1 0 A = fX16_ipOut_L271 fu (m' + 1) 323 hop (some (422 + 2 * k)) 1 (nI (20 + len)) (putPk A k (20 + len) hop) := by
          obtain ⟨m', e⟩ := m_L240 hR hBA (fu := fu) (k := k) (ln := 20 + len) (by omega) hk (by omega) (nI len) hop 1 e20
          refine ⟨m', ?_⟩
          rw [← e]
          have := m_free_hit hR fu hk hu hbef (nI len) hop 1 m 0 (by omega) (by omega)
          rw [← hm] at this
          exact this
        obtain ⟨m', hrA⟩ := hrA
        have hRp : RW (putPk A k (20 + len) hop) := hR
        have a4' : (mF A 1034 323) = nI nw' := a4
        have e3p : mF (putPk A k (20 + len) hop) 1034 323 = (mF A 1034 323) := putPk_F (by omega) (by omega) (by omega)
        have e49 : mF (putPk A k (20 + len) hop) 1049 323 = nI O := (putPk_F (by omega) (by omega) (by omega)).trans a3
        -- the reference's memory right before the question
        have hstep : fX16_ipOut_L271 fu (m' + 1) 323 hop (some (422 + 2 * k)) 1 (nI (20 + len)) (putPk A k (20 + len) hop) = (fX16_ask fu 323 hop (sF (sF (sF (sF (putPk A k (20 + len) hop) 963 (422 + 2 * k) (mF A 1034 323)) 964 (422 + 2 * k) 1) 1049 323 (nI (O + 1))) 965 (422 + 2 * k) (nI (O + 1)))).bind (fun M10 => some M10) := by
          rw [fX16_ipOut_L271, gI_ok (rw_pkO hRp k hk), ob_some, show mF (putPk A k (20 + len) hop) 962 (422 + 2 * k) = nI (20 + len) from by unfold putPk; simp only [mF_wA, mF_sF, reduceIte, Nat.reduceEqDiff, Nat.reduceAdd, Nat.reduceMul, Nat.reduceLT, Nat.reduceLeDiff, and_true, true_and, and_false, false_and, and_self, ne_eq, not_true_eq_false, not_false_eq_true, Option.some.injEq, reduceCtorEq], if_pos (Int32.le_refl _), if_neg (by decide), gI_ok (rw_ok323 hRp), ob_some, e3p]
          simp only [pF_ok, gI_ok, rc_ok, ok_sF, rw_pkO hRp k hk, rw_ok323 hRp, ob_some, mF_sF, e49, nI_1, reduceIte, Nat.reduceEqDiff, Nat.reduceAdd, Nat.reduceMul, Nat.reduceLT, Nat.reduceLeDiff, and_true, true_and, and_false, false_and, and_self, ne_eq, not_true_eq_false, not_false_eq_true, Option.some.injEq, reduceCtorEq]
        rw [hrA, hstep]
        generalize hA2 : sF (sF (sF (sF (putPk A k (20 + len) hop) 963 (422 + 2 * k) (mF A 1034 323)) 964 (422 + 2 * k) 1) 1049 323 (nI (O + 1))) 965 (422 + 2 * k) (nI (O + 1)) = A2
        have hR2 : RW A2 := by rw [← hA2]; exact hR
        have hF2 : ∀ f a, ¬ (960 ≤ f ∧ f ≤ 965 ∧ a = 422 + 2 * k) → ¬ (f = 1049 ∧ a = 323) → mF A2 f a = mF A f a := by
          intro f a h1 h2
          rw [← hA2]
          simp only [mF_sF]
          rw [if_neg (by omega), if_neg h2, if_neg (by omega), if_neg (by omega)]
          exact putPk_F (by omega) (by omega) (by omega)
        have hAA2 : ∀ a, a ≠ 423 + 2 * k → mA A2 a = mA A a := by
          intro a h1
          rw [← hA2]
          exact mA_wA_ne h1
        have hAk2 : ∀ j, j < 20 + len → mA A2 (423 + 2 * k) j = mA A 331 (14 + j) := by
          intro j hj
          rw [← hA2]
          unfold putPk
          simp only [mA_sF, mA_wA_self]
          rw [if_pos hj]
        have hB2 : By A2 := by
          rw [← hA2]
          unfold putPk
          refine By_wA hBA (fun _ j => ?_)
          split
          · exact hBA 331 _ (rw_ok331 hR).2.2
          · exact hBA _ _ (rw_pkY hR k hk).2.2
        have hP2 : JP A2 M2 := JP_congr (A := A) (M := M) (fun f h1 h2 => ⟨hF2 _ _ (by omega) (by omega), hF2 _ _ (by omega) (by omega)⟩) (hF2 _ _ (by omega) (by omega)) (hF2 _ _ (by omega) (by omega)) (fun f h1 h2 h3 h4 => w18 _ _ (by omega) (Ne.symm w13) (by omega)) (w18 _ _ (by omega) (Ne.symm w14) (by omega)) (w18 _ _ (by omega) (Ne.symm w14) (by omega)) hP
        have hQ2 : JQ T A2 M2 := JQ_congr (A := A) (M := M) (hF2 _ _ (by omega) (by omega)) (fun a h1 h2 => hAA2 a (by omega)) (w18 _ _ (by omega) (Ne.symm w14) (by omega)) (w8 306 (by omega) (by decide)) (fun i p e => by
          have hp := (rowN_at r1 e).2
          have hpq : p ≠ q := fun e2 => w11 i (by rw [e, e2])
          exact ⟨w18 _ _ hp.2.1 hpq (by omega), w18 _ _ hp.2.1 hpq (by omega), w24 _ (hS.1 p hp).2.1.2.1 (by omega)⟩) hQ
        have hE2 : JE A2 M2 := JE_congr (A := A) (M := M) (fun f a h1 h2 => hF2 _ _ (by omega) (by omega)) (w18 _ _ (by omega) (Ne.symm w13) (by omega)) (fun a h1 h2 => w24 a (by omega) (fun e => by
          have hq1 : q < sN (mS M) := by omega
          have hq6 := w16 hq1
          have : q = 308 ∨ q = 309 ∨ q = 310 ∨ q = 311 := by omega
          rcases this with rfl | rfl | rfl | rfl
          · have := (xw_ok308 hW).2.2.symm.trans hq6; cases this
          · have := (xw_ok309 hW).2.2.symm.trans hq6; cases this
          · have := (xw_ok310 hW).2.2.symm.trans hq6; cases this
          · have := (xw_ok311 hW).2.2.symm.trans hq6; cases this)) hE
        have g961 : mF A2 961 (422 + 2 * k) = hop := by
          rw [← hA2]
          unfold putPk
          simp only [mF_wA, mF_sF, reduceIte, Nat.reduceEqDiff, Nat.reduceAdd, Nat.reduceMul, Nat.reduceLT, Nat.reduceLeDiff, and_true, true_and, and_false, false_and, and_self, ne_eq, not_true_eq_false, not_false_eq_true, Option.some.injEq, reduceCtorEq]
        have hJ2 : JWa (n + 1) (O + 1) nw' (fun i => if i = n then k else s i) (fun i => if i = n then O + 1 else o i) A2 M2 := by
          refine JWa_add (q := q) (ln := 20 + len) hJa r2 (by omega) hk hfree (fun i hi => by rw [g961]; exact c1 i hi) (fun f a h1 h2 h3 => hF2 _ _ (by omega) (by omega)) ?_ (hF2 _ _ (by omega) (by omega)) (fun a h1 h2 h3 => hAA2 a h3) w19 w9 w10 w12 (fun f a h1 h2 h3 h4 => w18 _ _ h1.2.1 h2 (by omega)) (fun j p e h1 => w24 _ (hS.1 p (rowN_at r2 e).2).2.1.2.1 (by omega)) ?_ ?_ w23 (by omega) (by omega) (fun j hj => ?_) ?_ ?_ ?_ ?_ w22 ?_
          · rw [← hA2]; simp only [mF_sF, reduceIte, Nat.reduceEqDiff, Nat.reduceAdd, Nat.reduceMul, Nat.reduceLT, Nat.reduceLeDiff, and_true, true_and, and_false, false_and, and_self, ne_eq, not_true_eq_false, not_false_eq_true, Option.some.injEq, reduceCtorEq]
          · rw [← hA2]; unfold putPk; simp only [mF_wA, mF_sF, reduceIte, Nat.reduceEqDiff, Nat.reduceAdd, Nat.reduceMul, Nat.reduceLT, Nat.reduceLeDiff, and_true, true_and, and_false, false_and, and_self, ne_eq, not_true_eq_false, not_false_eq_true, Option.some.injEq, reduceCtorEq]
          · rw [← hA2]; unfold putPk; simp only [mF_wA, mF_sF, reduceIte, Nat.reduceEqDiff, Nat.reduceAdd, Nat.reduceMul, Nat.reduceLT, Nat.reduceLeDiff, and_true, true_and, and_false, false_and, and_self, ne_eq, not_true_eq_false, not_false_eq_true, Option.some.injEq, reduceCtorEq]
          · rw [hAk2 j hj, w25 (14 + j) (by omega)]
            exact hfr (14 + j) (by omega) (by omega)
          · rw [g961, w20]
          · rw [← hA2]; simp only [mF_sF, reduceIte, Nat.reduceEqDiff, Nat.reduceAdd, Nat.reduceMul, Nat.reduceLT, Nat.reduceLeDiff, and_true, true_and, and_false, false_and, and_self, ne_eq, not_true_eq_false, not_false_eq_true, Option.some.injEq, reduceCtorEq]; exact a4'
          · rw [w21, p6, ← p5]; exact a4'
          · rw [← hA2]; simp only [mF_sF, reduceIte, Nat.reduceEqDiff, Nat.reduceAdd, Nat.reduceMul, Nat.reduceLT, Nat.reduceLeDiff, and_true, true_and, and_false, false_and, and_self, ne_eq, not_true_eq_false, not_false_eq_true, Option.some.injEq, reduceCtorEq]
          · rw [← hA2]; simp only [mF_sF, reduceIte, Nat.reduceEqDiff, Nat.reduceAdd, Nat.reduceMul, Nat.reduceLT, Nat.reduceLeDiff, and_true, true_and, and_false, false_and, and_self, ne_eq, not_true_eq_false, not_false_eq_true, Option.some.injEq, reduceCtorEq]
        obtain ⟨A', M', G, v1, v2, v3, v4, v5, v6, v7, v8, v9⟩ := sp_ask fu hf hR2 hB2 w2 w3 w4 hP2 hQ2 hT2 hop
        have hJL2 : JL0 KN KS t (T + 1) A' M' ∧ FrA A2 A' ∧ FrM (wA M2 308 G) M' := by
          obtain ⟨x1, x2, x3, x4⟩ := JL_sent v8 v9 hR2 w2 (XS_same rfl rfl w3) (XRR_same rfl rfl w4) hP2 (JE_congr (A := A2) (M := M2) (fun _ _ _ _ => rfl) rfl (fun a h1 h2 => mA_wA_ne (by omega)) hE2)
          have w4' := w4
          obtain ⟨nr2, nw2, nd2, nc2, -, -, -, -, rr1, rr2, -⟩ := w4'
          refine ⟨⟨x1, v5, v6, v7, x2, v4, x3, n + 1, O + 1, nw', _, _, by omega, x4 _ _ _ _ _ (JWa_congr (A := A2) (M := M2) (fun _ _ _ _ => rfl) rfl rfl (fun _ _ _ => rfl) rfl rfl (fun _ _ _ _ _ _ => rfl) (fun i p e => mA_wA_ne (Ne.symm (q1_ne w2 (rowN_at rr2 e).2).1)) hJ2)⟩, v8.toA, v9.toM rr1⟩
        obtain ⟨y1, y2, y3⟩ := hJL2
        have fA : FrA A A2 := ⟨by rw [← hA2]; rfl, by rw [← hA2]; rfl, by rw [← hA2]; rfl, fun f a h1 => hF2 _ _ (by omega) (by omega), fun f a h1 h2 h3 h4 => hF2 _ _ (by omega) (by omega), fun a h1 h2 => hAA2 a (by omega), by rw [← hA2]; simp only [mF_sF, reduceIte, Nat.reduceEqDiff, Nat.reduceAdd, Nat.reduceMul, Nat.reduceLT, Nat.reduceLeDiff, and_true, true_and, and_false, false_and, and_self, ne_eq, not_true_eq_false, not_false_eq_true, Option.some.injEq, reduceCtorEq]; rw [a3]; exact nI_le (by omega) (by omega)⟩
        have fM : FrM M M2 := ⟨w5, w6, w7, fun a h1 h2 h3 => w8 a h1 h3, fun f a h1 h2 h3 h4 => w18 _ _ h1 (fun e => h2 (by rw [e]; exact w16 (by omega))) (by omega), fun a h1 h2 h3 h4 => w24 a h1 (fun e => h4 (by subst e; exact w17 h1))⟩
        refine ⟨A', M', T + 1, ?_, ?_, by omega, Nat.le_refl _, y1, fA.tr y2, (fM.tr (FrM_wA G)).tr y3⟩
        · rw [v1, ob_some]
        · have hWG : XW (wA M2 308 G) := w2
          rw [e34, w1, b2_some, if_neg (by decide), rc_ok (xw_ok307 w2), ob_some, v2, ob_some, gR_ok (xw_ok307 hWG), ob_some, gR_ok (xw_ok307 hWG), ob_some, xw_g261_307 hWG, xw_g256_307 hWG, rc_ok (xw_ok304 hWG), ob_some, v3, ob_some]
    · -- the hop is waited for already
      rw [c2, b2_some, if_neg (by simp)]
      obtain ⟨q, hq, hw1⟩ := a9 i hi
      obtain ⟨hin, hOq⟩ := rowN_at r2 hq
      obtain ⟨g1, g2, g3⟩ := hS.1 q hOq
      have hrM := x_letWait_old hW (L := 14 + (20 + len)) hi a1.1 hq hOq g1 g2 g3 (by omega) c3
      have hsi := a5 i hi
      obtain ⟨z1, z2, z3, z4⟩ := q1_ne hW hOq
      obtain ⟨m', hrA⟩ := m_L240 hR hBA (fu := fu) (k := s i) (ln := 20 + len) (by omega) hsi (by omega) (nI len) hop 0 e20
      have hrA2 : fX16_ipOut_L195 fu 323 (nI len) hop (some (422 + 2 * s i)) 0 A = some (putPk A (s i) (20 + len) hop) := by
        unfold fX16_ipOut_L195
        obtain ⟨m, hm⟩ : ∃ m, fu = m + 1 := ⟨fu - 1, by omega⟩
        have e0 : fX16_ipOut_L200 fu fu 323 (nI len) hop (some (422 + 2 * s i)) 0 0 A = fX16_ipOut_L240 fu 323 (nI len) hop (some (422 + 2 * s i)) 0 A := by
          conv => lhs; arg 2; rw [hm]
          rw [fX16_ipOut_L200, if_neg (by decide), if_neg (by simp)]
        have hRp : RW (putPk A (s i) (20 + len) hop) := hR
        rw [e0, hrA, fX16_ipOut_L271, gI_ok (rw_pkO hRp _ hsi), ob_some, show mF (putPk A (s i) (20 + len) hop) 962 (422 + 2 * s i) = nI (20 + len) from by unfold putPk; simp only [mF_wA, mF_sF, reduceIte, Nat.reduceEqDiff, Nat.reduceAdd, Nat.reduceMul, Nat.reduceLT, Nat.reduceLeDiff, and_true, true_and, and_false, false_and, and_self, ne_eq, not_true_eq_false, not_false_eq_true, Option.some.injEq, reduceCtorEq], if_pos (Int32.le_refl _), if_pos rfl]
      have hF2 : ∀ f a, ¬ (f = 962 ∧ a = 422 + 2 * s i) → mF (putPk A (s i) (20 + len) hop) f a = mF A f a := by
        intro f a h1
        unfold putPk
        simp only [mF_wA, mF_sF]
        rw [if_neg h1]
        by_cases h2 : f = 961 ∧ a = 422 + 2 * s i
        · rw [if_pos h2, h2.1, h2.2]; exact c1.symm
        · rw [if_neg h2]
          by_cases h3 : f = 960 ∧ a = 422 + 2 * s i
          · rw [if_pos h3, h3.1, h3.2]; exact (a7 i hi).symm
          · rw [if_neg h3]
      have hAA2 : ∀ a, a ≠ 423 + 2 * s i → mA (putPk A (s i) (20 + len) hop) a = mA A a := fun a h1 => mA_wA_ne h1
      have hMF : ∀ f a, ¬ (f = 385 ∧ a = q) → mF (sF (wA M (q + 1) (fun j => if j < 14 + (20 + len) then mA M 308 j else mA M (q + 1) j)) 385 q (nI (14 + (20 + len)))) f a = mF M f a := by
        intro f a h1
        simp only [mF_sF, mF_wA]
        rw [if_neg h1]
      have hMA : ∀ a, a ≠ q + 1 → mA (sF (wA M (q + 1) (fun j => if j < 14 + (20 + len) then mA M 308 j else mA M (q + 1) j)) 385 q (nI (14 + (20 + len)))) a = mA M a := fun a h1 => mA_wA_ne h1
      have hfix : ∀ a t, okA M t (a - 1) → t ≠ 6 → 1 ≤ a → a ≠ q + 1 := fun a t h1 h2 h3 e => h2 (by subst e; exact h1.2.2.symm.trans hOq.2.2)
      refine ⟨putPk A (s i) (20 + len) hop, sF (wA M (q + 1) (fun j => if j < 14 + (20 + len) then mA M 308 j else mA M (q + 1) j)) 385 q (nI (14 + (20 + len))), T, hrA2, ?_, Nat.le_refl _, by omega, ⟨hR, hW, XS_same rfl rfl hS, XRR_same rfl rfl hX, JP_congr (A := A) (M := M) (fun f h1 h2 => ⟨hF2 _ _ (by omega), hF2 _ _ (by omega)⟩) (hF2 _ _ (by omega)) (hF2 _ _ (by omega)) (fun f h1 h2 h3 h4 => hMF _ _ (by omega)) (hMF _ _ (by omega)) (hMF _ _ (by omega)) hP, JQ_congr (A := A) (M := M) (hF2 _ _ (by omega)) (fun a h1 h2 => hAA2 a (by omega)) (hMF _ _ (by omega)) rfl (fun j p e => ?_) hQ, JE_congr (A := A) (M := M) (fun f a h1 h2 => hF2 _ _ (by omega)) (hMF _ _ (by omega)) (fun a h1 h2 => hMA a ?_) hE, n, O, nw', s, o, hO, JWa_put (q := q) (ln := 20 + len) hJa r2 hi hq (fun f a h1 h2 h3 => hF2 f a h3) (hF2 _ _ (by omega)) (hF2 _ _ (by omega)) (fun a h1 h2 h3 => hAA2 a h3) (hMF _ _ (by omega)) rfl (fun f a h1 h2 h3 h4 => hMF f a h4) (fun j p e h1 => hMA _ (by omega)) ?_ ?_ (by omega) (by omega) (fun j hj => ?_)⟩, ⟨rfl, rfl, rfl, fun f a h1 => hF2 _ _ (by omega), fun f a h1 h2 h3 h4 => hF2 _ _ (by omega), fun a h1 h2 => hAA2 a (by omega), by rw [hF2 1049 323 (by omega)]; exact Int32.le_refl _⟩, ⟨Nat.le_refl _, fun _ _ => ⟨rfl, rfl⟩, fun _ _ _ => rfl, fun _ _ _ _ => rfl, fun f a h1 h2 h3 h4 => hMF f a (fun e => h2 (by rw [e.2]; exact hOq.2.2)), fun a h1 h2 h3 h4 => hMA a (fun e => h4 (by subst e; exact hOq.2.2))⟩⟩
      · rw [e34, hrM, b2_some, if_pos rfl]
      · have hpq : p ≠ q := fun e2 => hd j i q (by rw [e, e2]) hq
        exact ⟨hMF _ _ (by omega), hMF _ _ (by omega), hMA _ (by omega)⟩
      · have : a = 309 ∨ a = 310 ∨ a = 311 ∨ a = 312 := by omega
        rcases this with rfl | rfl | rfl | rfl
        · exact hfix 309 100 (xw_ok308 hW) (by decide) (by decide)
        · exact hfix 310 101 (xw_ok309 hW) (by decide) (by decide)
        · exact hfix 311 101 (xw_ok310 hW) (by decide) (by decide)
        · exact hfix 312 101 (xw_ok311 hW) (by decide) (by decide)
      · unfold putPk; simp only [mF_wA, mF_sF, reduceIte, Nat.reduceEqDiff, Nat.reduceAdd, Nat.reduceMul, Nat.reduceLT, Nat.reduceLeDiff, and_true, true_and, and_false, false_and, and_self, ne_eq, not_true_eq_false, not_false_eq_true, Option.some.injEq, reduceCtorEq]
      · simp only [mF_sF, mF_wA, reduceIte, Nat.reduceEqDiff, Nat.reduceAdd, Nat.reduceMul, Nat.reduceLT, Nat.reduceLeDiff, and_true, true_and, and_false, false_and, and_self, ne_eq, not_true_eq_false, not_false_eq_true, Option.some.injEq, reduceCtorEq]
      · unfold putPk
        simp only [mA_sF, mA_wA_self]
        rw [if_pos hj, if_pos (by omega)]
        exact hfr (14 + j) (by omega) (by omega)
  · rw [q1, q2, b2_some, b2_some, if_neg (by simp), if_neg (nI_pos (by omega))]
    rw [gI_ok (rw_enO hR k hk), ob_some, gI_ok (rw_enO hR k hk), ob_some, rc_ok (rw_ok323 hR), ob_some, gR_ok (xw_ok307 hW), ob_some, xw_g256_307 hW, gR_ok (xw_ok307 hW), ob_some, xw_g267_307 hW, gA_ok (xw_ok310 hW) (by rw [xw_ln310 hW]; exact hk) (by omega), ob_some, gR_ok (xw_ok307 hW), ob_some, xw_g268_307 hW, gA_ok (xw_ok311 hW) (by rw [xw_ln311 hW]; exact hk) (by omega), ob_some, rc_ok (xw_ok307 hW), ob_some, x_fillLink hW (xw_ok308 hW) (by rw [xw_ln308 hW]; decide) (by rw [xw_ln308 hW]; decide), ob_some, e20, e34]
    have hJ1 := JL0_out (hd5 (mA M 308) (mA M 310 k) (mA M 311 k) (mF M 258 307) (mF M 259 307) 2048) hJ0
    have hJ1' := hJ1
    obtain ⟨-, hW1, hS1, hX1, -, hQ1, -, -⟩ := hJ1'
    obtain ⟨A', M', r1, r2, r3, r4, r5, r6, r7, r8⟩ := sp_send fu hf (A := A) (M := wA M 308 (hd5 (mA M 308) (mA M 310 k) (mA M 311 k) (mF M 258 307) (mF M 259 307) 2048)) (c := 20 + len) (nw := nw) hR hBA hW1 hS1 hX1 hQ1 hT2 p5 p6 (by omega) (by omega) (mF A 898 (406 + k)) (mF A 899 (406 + k)) 2048 (src := 308) (xw_ok308 hW1) (by rw [xw_ln308 hW1]; decide) (by rw [xw_ln308 hW1]; omega) (ring308 hW1 hX1) (by
      intro j hj
      rw [mA_wA_self, q3, q4, p3, p4]
      exact hd5_c (fun h => (hfr j h (by omega)).symm))
    obtain ⟨z1, z2, z3⟩ := JL0_sent hJ1 r3 r4 r5 r6 r7 r8
    refine ⟨A', M', T + 1, ?_, ?_, by omega, Nat.le_refl _, z1, z2, (FrM_wA _).tr z3⟩
    · rw [r1, ob_some]
    · rw [gR_ok (xw_ok307 hW1), ob_some, gR_ok (xw_ok307 hW1), ob_some, xw_g261_307 hW1, xw_g256_307 hW1, rc_ok (xw_ok304 hW1), ob_some, r2, ob_some]
end Send
