/-! ===== part 91: fragments, whole ===== -/
section Gather
variable {A M : Mm}
def nwD (A : Mm) (k : Nat) (x id p : Int32) : Mm := wA (sF (sF (sF (sF (sF (sF (sF (sF A 832 (438 + 3 * k) 1) 833 (438 + 3 * k) x) 834 (438 + 3 * k) id) 835 (438 + 3 * k) p) 836 (438 + 3 * k) (-1)) 837 (438 + 3 * k) (mF A 1034 323)) 1049 323 ((mF A 1049 323) + 1)) 838 (438 + 3 * k) ((mF A 1049 323) + 1)) (440 + 3 * k) (fun j => if j < 4096 then 0 else mA A (440 + 3 * k) j)
theorem nwD_F {k : Nat} {x id p : Int32} {f a : Nat} (h : ¬ (832 ≤ f ∧ f ≤ 838 ∧ a = 438 + 3 * k)) (h2 : f ≠ 1049) : mF (nwD A k x id p) f a = mF A f a := by
  unfold nwD
  simp only [mF_wA, mF_sF]
  rw [if_neg (by omega), if_neg (by omega), if_neg (by omega), if_neg (by omega), if_neg (by omega), if_neg (by omega), if_neg (by omega), if_neg (by omega)]
theorem nwD_A {k : Nat} {x id p : Int32} {a : Nat} (h : a ≠ 440 + 3 * k) : mA (nwD A k x id p) a = mA A a := mA_wA_ne h
theorem bits0 (g : Nat → Int32) {j : Nat} (hj : j < 4096) : bitOf (fun j => if j < 128 then 0 else g j) j = false := by
  unfold bitOf
  show bt (if j / 32 < 128 then 0 else g (j / 32)) (j % 32) = false
  rw [if_pos (by omega), b_0]
theorem sp_find (fu : Nat) (hf : 4200 ≤ fu) {KN KS t T n nw : Nat} {s τ : Nat → Nat} (hJ : JL0 KN KS t T A M) (ht : t + 1 ≤ 1000) (hT2 : T < 2 ^ 30) (hD : JDa n nw s τ A M) (hN : JN A M) (hBA : Bd RM TM A) (hBM : Bd RX TX M) (id o at' sz mo : Int32) :
    (∃ A1 M1 n1 s1 τ1 i d, fX16_fragment_L17 fu fu 323 (mF M 193 314) (mF M 204 314) o at' sz mo id none none 3 A = fX16_fragment_L184 fu 323 (mF M 193 314) (mF M 204 314) o at' sz mo (some (438 + 3 * s1 i)) A1 ∧ fX3_indexOf fu 314 id M = some (nI i, M1) ∧ i < n1 ∧ JL0 KN KS (t + 1) T A1 M1 ∧ JDa n1 nw s1 τ1 A1 M1 ∧ mB M1 316 i = some d ∧ JN A1 M1 ∧ Bd RM TM A1 ∧ Bd RX TX M1 ∧ FD A A1 ∧ FM PDx GDx BDx QDx M M1 ∧ (∀ f, 192 ≤ f → f ≤ 207 → mF M1 f 314 = mF M f 314) ∧ mG M1 192 314 = mG M 192 314) ∨
    (fX16_fragment_L17 fu fu 323 (mF M 193 314) (mF M 204 314) o at' sz mo id none none 3 A = some A ∧ fX3_indexOf fu 314 id M = some (-1, M)) := by
  have hJ0 := hJ
  obtain ⟨hR, hW, hS, hX, hP, -⟩ := hJ0
  have hX' := hX
  obtain ⟨nr, nww, nd, nc, -, -, -, -, r1, r2, r3, r4, -, -, -, -, -, k5⟩ := hX'
  have hD0 := hD
  obtain ⟨a1, a2, a3, a4, a5, a6, a7, a8, a9, a10, a11⟩ := hD0
  obtain ⟨m, b8, b9, q1, q2, q3⟩ := m_frag_find hR (fu := fu) (by omega) (mF M 193 314) (mF M 204 314) o at' sz mo id
  have used : ∀ k, k < 4 → (mF A 832 (438 + 3 * k)) ≠ 0 → ∃ i, i < n ∧ s i = k := fun k hk hu => by
    refine Classical.byContradiction (fun h => hu (a7 k hk (fun i hi e => h ⟨i, hi, e⟩)))
  have mt : ∀ i d, i < n → mB M 316 i = some d → (((mF M 129 d) = (mF M 193 314) ∧ (mF M 130 d) = id ∧ (mF M 131 d) = (mF M 204 314)) ↔ dgM A (mF M 193 314) id (mF M 204 314) (s i)) := fun i d hi hd => by
    obtain ⟨d', e1, e2⟩ := a8 i hi
    rw [hd] at e1
    cases e1
    unfold dgM
    rw [e2.1, e2.2.1, e2.2.2.1, a6 i hi]
    exact ⟨fun q => ⟨by decide, q⟩, fun q => q.2⟩
  rcases q2 with ⟨k, hk, hm, e8⟩ | ⟨hno, e8⟩
  · -- a datagram that is there
    left
    obtain ⟨i, hi, hsi⟩ := used k hk hm.1
    subst hsi
    obtain ⟨d, hd, hD1⟩ := a8 i hi
    have hO := (rowN_at r3 hd).2
    refine ⟨A, M, n, s, τ, i, d, ?_, ?_, hi, JL0_mono ht hJ, hD, hd, hN, hBA, hBM, FD.rf, FM.rf, fun _ _ _ => rfl, rfl⟩
    · rw [q1, e8, fX16_fragment_L17, if_pos (by decide), if_neg (by simp)]
    · unfold fX3_indexOf
      refine Eq.trans (lp0 (fun m j => fX3_indexOf_L2 fu m 314 id (nI j) M) (k := i) (fun m j hj => ?_) (fu := fu) (by omega)) ?_
      · obtain ⟨d', hd', hD'⟩ := a8 j (by omega)
        refine x_index_step hW fu m a2 a1.1 (by omega) hd' (rowN_at r3 hd').2 id (fun q => ?_)
        have q' := (mt j d' (by omega) hd').mp q
        unfold dgM at q' hm
        have := a11 j i (by omega) hi (q'.2.1.trans hm.2.1.symm) (q'.2.2.1.trans hm.2.2.1.symm) (q'.2.2.2.trans hm.2.2.2.symm)
        omega
      · obtain ⟨m', hm'⟩ : ∃ m', fu - i = m' + 1 := ⟨fu - i - 1, by omega⟩
        show fX3_indexOf_L2 fu (fu - i) 314 id (nI i) M = _
        rw [hm']
        exact x_index_hit hW fu m' a2 a1.1 hi hd hO id ((mt i d hi hd).mpr hm)
  · subst e8
    have hmiss : fX3_indexOf fu 314 id M = fX3_indexOf_L50 fu 314 id M := by
      unfold fX3_indexOf
      refine Eq.trans (lp0 (fun m j => fX3_indexOf_L2 fu m 314 id (nI j) M) (k := n) (fun m j hj => ?_) (fu := fu) (by omega)) ?_
      · obtain ⟨d', hd', hD'⟩ := a8 j hj
        exact x_index_step hW fu m a2 a1.1 hj hd' (rowN_at r3 hd').2 id (fun q => hno _ (a4 j hj) ((mt j d' hj hd').mp q))
      · obtain ⟨m', hm'⟩ : ∃ m', fu - n = m' + 1 := ⟨fu - n - 1, by omega⟩
        show fX3_indexOf_L2 fu (fu - n) 314 id (nI n) M = _
        rw [hm', fX3_indexOf_L2, gI_ok (xw_ok314 hW), ob_some, a2, if_pos (Int32.le_refl _)]
    by_cases hn : n = 4
    · -- no place is left
      right
      subst hn
      have hall : ∀ k, k < 4 → (mF A 832 (438 + 3 * k)) ≠ 0 := fun k hk e => by
        refine pigeonN 4 s a4 a5 k hk (fun i hi e2 => ?_)
        have := a6 i hi
        rw [e2, e] at this
        exact absurd this (by decide)
      rcases q3 with ⟨k, hk, hu, -⟩ | ⟨-, e9⟩
      · exact absurd hu (hall k hk)
      · subst e9
        refine ⟨by rw [q1, fX16_fragment_L17, if_pos (by decide), if_pos rfl, if_pos rfl], ?_⟩
        rw [hmiss]
        unfold fX3_indexOf_L50
        rw [gI_ok (xw_ok314 hW), ob_some, a2, if_neg (by decide)]
    · -- a new datagram
      left
      have hn4 : n < 4 := by omega
      rcases q3 with ⟨k, hk, hu, hbef, e9⟩ | ⟨hall, -⟩
      · subst e9
        have hsk : ∀ i, i < n → s i ≠ k := fun i hi e => by
          have := a6 i hi
          rw [e, hu] at this
          exact absurd this (by decide)
        obtain ⟨nO', nw0, nO3⟩ : ∃ O nn, (mF A 1049 323) = nI O ∧ (mF A 1034 323) = nI nn ∧ O + 1 < 2 ^ 31 := by
          obtain ⟨_, O, nn, _, _, hO, hJW⟩ := hJ.2.2.2.2.2.2.2
          exact ⟨O, nn, hJW.2.2.1, hJW.2.2.2.1, by omega⟩
        obtain ⟨eO, -, hO31⟩ := nO3
        obtain ⟨-, -, -, -, ⟨nq, pn1, pn2, -⟩, -⟩ := hP
        have enq : nI nq = nI nw := pn1.symm.trans a3
        obtain ⟨d, M0, s1, s2, s3, s4, s5, s6, s7, s8, s9, s10, s11⟩ := x_slot hW hS hX a2 hn4 (fun j hj e => by obtain ⟨q, e1, -⟩ := a8 j hj; rw [e] at e1; cases e1) fu id
        obtain ⟨g1, g2, o1, l1, o2, l2⟩ := s3.2.1 d s5
        have e314 : (314 : Nat) < sN (mS M) := by omega
        have e304 : (304 : Nat) < sN (mS M) := by omega
        have f0 : ∀ f a, a < sN (mS M) → mF M0 f a = mF M f a := fun f a h => (s11 a h).2.2.1 f
        have d314 : (314 : Nat) ≠ d := fun e => by subst e; exact absurd (s5.2.2.symm.trans (xw_ok314 s2).2.2) (by decide)
        have dge : ∀ t a, okA M0 t a → t ≠ 2 → a ≠ d := fun t a h1 h2 e => by subst e; exact h2 (h1.2.2.symm.trans s5.2.2)
        -- the class
        have hbF : ∀ f a, a ≠ d → mF (begM M0 d (mF M 193 314) id (mF M 204 314) (nI nw)) f a = mF M0 f a := fun f a h => by
          unfold begM
          simp only [mF_wA, mF_sF]
          rw [if_neg (fun e => h e.2), if_neg (fun e => h e.2), if_neg (fun e => h e.2), if_neg (fun e => h e.2), if_neg (fun e => h e.2), if_neg (fun e => h e.2), if_neg (fun e => h e.2)]
        have hx : fX3_indexOf fu 314 id M = some (nI n, sF (begM M0 d (mF M 193 314) id (mF M 204 314) (nI nw)) 208 314 (nI (n + 1))) := by
          rw [hmiss, s1]
          unfold fX3_indexOf_L92
          have w1 : okA (begM M0 d (mF M 193 314) id (mF M 204 314) (nI nw)) 3 314 := xw_ok314 s2
          have w2 : mF (begM M0 d (mF M 193 314) id (mF M 204 314) (nI nw)) 208 314 = nI n := by rw [hbF _ _ d314, f0 _ _ e314]; exact a2
          have w3 : mF (sF (begM M0 d (mF M 193 314) id (mF M 204 314) (nI nw)) 208 314 (nI (n + 1))) 208 314 = nI (n + 1) := by rw [mF_sF, if_pos ⟨rfl, rfl⟩]
          rw [gI_ok (xw_ok314 s2), ob_some, f0 _ _ e314, gI_ok (xw_ok314 s2), ob_some, f0 _ _ e314, gR_ok (xw_ok314 s2), ob_some, xw_g205_314 s2, gI_ok (xw_ok304 s2), ob_some, f0 _ _ e304, pn2, enq, rc_ok s5, ob_some, x_begin fu (by omega) s5 g2 o2 l2, ob_some, gI_ok w1, ob_some, w2, nI_1, pF_ok w1, ob_some, gI_ok (by rw [ok_sF]; exact w1), ob_some, w3, nI_pred]
        have bM1 := (oX3_indexOf fu 314 id M hBM (by unfold RX; omega) hx).2
        -- the reference
        have hRn : ∀ g, RW (wA (sF (sF (sF (sF (sF (sF (sF (sF A 832 (438 + 3 * k) 1) 833 (438 + 3 * k) (mF M 193 314)) 834 (438 + 3 * k) id) 835 (438 + 3 * k) (mF M 204 314)) 836 (438 + 3 * k) (-1)) 837 (438 + 3 * k) (mF A 1034 323)) 1049 323 ((mF A 1049 323) + 1)) 838 (438 + 3 * k) ((mF A 1049 323) + 1)) (440 + 3 * k) g) := fun g => hR
        have hra : fX16_fragment_L17 fu fu 323 (mF M 193 314) (mF M 204 314) o at' sz mo id none none 3 A = fX16_fragment_L184 fu 323 (mF M 193 314) (mF M 204 314) o at' sz mo (some (438 + 3 * k)) (nwD A k (mF M 193 314) id (mF M 204 314)) := by
          rw [q1, fX16_fragment_L17, if_pos (by decide), if_pos rfl, if_neg (by simp), pZ_ok (rw_dgO hR k hk) (Or.inr rfl), ob_some]
          simp only [pF_ok, gI_ok, ok_sF, rw_dgO hR k hk, rw_ok323 hR, ob_some, mF_sF, reduceIte, Nat.reduceEqDiff, Nat.reduceAdd, Nat.reduceMul, Nat.reduceLT, Nat.reduceLeDiff, and_true, true_and, and_false, false_and, and_self, ne_eq, not_true_eq_false, not_false_eq_true, Option.some.injEq, reduceCtorEq]
          exact m_frag_clear (A := sF (sF (sF (sF (sF (sF (sF (sF A 832 (438 + 3 * k) 1) 833 (438 + 3 * k) (mF M 193 314)) 834 (438 + 3 * k) id) 835 (438 + 3 * k) (mF M 204 314)) 836 (438 + 3 * k) (-1)) 837 (438 + 3 * k) (mF A 1034 323)) 1049 323 ((mF A 1049 323) + 1)) 838 (438 + 3 * k) ((mF A 1049 323) + 1)) hR (by omega) hk _ _ _ _ _ _
        have bA1 : Bd RM TM (nwD A k (mF M 193 314) id (mF M 204 314)) := Bd_wA (A := sF (sF (sF (sF (sF (sF (sF (sF A 832 (438 + 3 * k) 1) 833 (438 + 3 * k) (mF M 193 314)) 834 (438 + 3 * k) id) 835 (438 + 3 * k) (mF M 204 314)) 836 (438 + 3 * k) (-1)) 837 (438 + 3 * k) (mF A 1034 323)) 1049 323 ((mF A 1049 323) + 1)) 838 (438 + 3 * k) ((mF A 1049 323) + 1)) hBA (fun q => absurd ((rw_dgT hR k hk).2.2.symm.trans q) (by decide))
        have eOrd : mF (nwD A k (mF M 193 314) id (mF M 204 314)) 1049 323 = (mF A 1049 323) + 1 := by
          unfold nwD
          simp only [mF_wA, mF_sF, reduceIte, Nat.reduceEqDiff, Nat.reduceAdd, Nat.reduceMul, Nat.reduceLT, Nat.reduceLeDiff, and_true, true_and, and_false, false_and, and_self, ne_eq, not_true_eq_false, not_false_eq_true, Option.some.injEq, reduceCtorEq]
        have eDO : mF (nwD A k (mF M 193 314) id (mF M 204 314)) 838 (438 + 3 * k) = (mF A 1049 323) + 1 := by
          unfold nwD
          simp only [mF_wA, mF_sF, reduceIte, Nat.reduceEqDiff, Nat.reduceAdd, Nat.reduceMul, Nat.reduceLT, Nat.reduceLeDiff, and_true, true_and, and_false, false_and, and_self, ne_eq, not_true_eq_false, not_false_eq_true, Option.some.injEq, reduceCtorEq]
        have lt1 : (mF A 1049 323) < (mF A 1049 323) + 1 := by rw [eO, nI_1]; exact nI_lt (by omega) hO31
        have hbA : ∀ a, a ≠ d + 2 → mA (sF (begM M0 d (mF M 193 314) id (mF M 204 314) (nI nw)) 208 314 (nI (n + 1))) a = mA M0 a := fun a h => mA_wA_ne h
        have hbT : mA (sF (begM M0 d (mF M 193 314) id (mF M 204 314) (nI nw)) 208 314 (nI (n + 1))) (d + 2) = fun j => if j < 128 then 0 else mA M0 (d + 2) j := mA_wA_self _ _ _
        have hbF2 : ∀ f a, a ≠ d → f ≠ 208 → mF (sF (begM M0 d (mF M 193 314) id (mF M 204 314) (nI nw)) 208 314 (nI (n + 1))) f a = mF M0 f a := fun f a h h2 => by rw [mF_sF, if_neg (fun e => h2 e.1)]; exact hbF f a h
        have rw1 : ∀ a, okA M0 100 a → a ≠ d + 2 := fun a h e => by subst e; exact absurd (h.2.2.symm.trans o2.2.2) (by decide)
        have ok0 : ∀ t a, okA M t a → okA M0 t a := fun t a h => ⟨h.1, by have := h.2.1; omega, by rw [(s11 a h.2.1).1]; exact h.2.2⟩
        have dlt : ∀ a, a < sN (mS M) → a ≠ d + 2 → mA (sF (begM M0 d (mF M 193 314) id (mF M 204 314) (nI nw)) 208 314 (nI (n + 1))) a = mA M a := fun a h h2 => (hbA a h2).trans (s11 a h).2.2.2.2
        have d9' : ∀ a, 305 ≤ a → a ≤ 312 → a ≠ d + 2 := fun a h1 h2 e => by
          have m0 := dge 100 303 (xw_ok303 s2) (by decide)
          have m1 := dge 10 304 (xw_ok304 s2) (by decide)
          have m2 := dge 101 305 (xw_ok305 s2) (by decide)
          have m3 := dge 116 306 (xw_ok306 s2) (by decide)
          have m4 := dge 4 307 (xw_ok307 s2) (by decide)
          have m5 := dge 100 308 (xw_ok308 s2) (by decide)
          have m6 := dge 101 309 (xw_ok309 s2) (by decide)
          have m7 := dge 101 310 (xw_ok310 s2) (by decide)
          omega
        have n307 := dge 4 307 (xw_ok307 s2) (by decide)
        have n304 := dge 10 304 (xw_ok304 s2) (by decide)
        refine ⟨nwD A k (mF M 193 314) id (mF M 204 314), _, n + 1, (fun j => if j = n then k else s j), (fun j => if j = n then nw else τ j), n, d, ?_, hx, by omega, ?_, ?_, s6, ?_, bA1, bM1, ?_, ?_, ?_, ?_⟩
        · show _ = fX16_fragment_L184 fu 323 (mF M 193 314) (mF M 204 314) o at' sz mo (some (438 + 3 * (if n = n then k else s n))) _
          rw [if_pos rfl]
          exact hra
        · refine JL0_keep (u := 1) hJ (by omega) hR s2 (XS_same (M := M0) rfl rfl s3) (XRR_same (M := M0) rfl rfl s4) (fun f a h => nwD_F (by unfold JLf at h; omega) (by unfold JLf at h; omega)) (fun O e => ⟨O + 1, by rw [eOrd, e, nI_1], by omega, by omega⟩) (fun a h => nwD_A (by omega)) (fun f h1 h2 => by rw [hbF2 _ _ n307 (by omega)]; exact f0 _ _ (by omega)) (fun f h1 h2 => by rw [hbF2 _ _ n304 (by omega)]; exact f0 _ _ (by omega)) (fun q hq => ⟨fun f h1 h2 => by rw [hbF2 _ _ (dge 6 q (ok0 _ _ hq) (by decide)) (by omega)]; exact f0 _ _ hq.2.1, dlt _ (hS.1 q hq).2.1.2.1 (rw1 _ (ok0 _ _ (hS.1 q hq).2.1))⟩) (fun a h1 h2 => dlt a (by omega) (d9' a (by omega) (by omega))) (s8 306 (by omega) (by decide)) (s8 313 (by omega) (by decide))
        · have sF' : ∀ f i, i < n → mF (nwD A k (mF M 193 314) id (mF M 204 314)) f (438 + 3 * s i) = mF A f (438 + 3 * s i) ∨ f = 1049 := fun f i hi => by
            by_cases c : f = 1049
            · exact Or.inr c
            · have := hsk i hi
              exact Or.inl (nwD_F (by omega) c)
          have sN' : ∀ f i, i < n → f ≠ 1049 → mF (nwD A k (mF M 193 314) id (mF M 204 314)) f (438 + 3 * s i) = mF A f (438 + 3 * s i) := fun f i hi h => by
            rcases sF' f i hi with q | q
            · exact q
            · exact absurd q h
          have eK : ∀ j, j ≠ n → (if j = n then k else s j) = s j := fun j h => if_neg h
          refine ⟨by omega, by rw [mF_sF, if_pos ⟨rfl, rfl⟩], by rw [nwD_F (by omega) (by decide)]; exact a3, fun j hj => ?_, fun i j hi hj => ?_, fun j hj => ?_, fun k' hk' h => ?_, fun j hj => ?_, fun i j h1 h2 => ?_, fun j hj => ?_, fun i j hi hj e1 e2 e3 => ?_⟩
          · show (if j = n then k else s j) < 4
            by_cases c : j = n
            · rw [if_pos c]; exact hk
            · rw [if_neg c]; exact a4 j (by omega)
          · show (if i = n then k else s i) = (if j = n then k else s j) → i = j
            by_cases c : i = n
            · by_cases c2 : j = n
              · intro _; omega
              · rw [if_pos c, if_neg c2]
                intro e
                exact absurd e.symm (hsk j (by omega))
            · by_cases c2 : j = n
              · rw [if_neg c, if_pos c2]
                intro e
                exact absurd e (hsk i (by omega))
              · rw [if_neg c, if_neg c2]
                exact a5 i j (by omega) (by omega)
          · show mF (nwD A k (mF M 193 314) id (mF M 204 314)) 832 (438 + 3 * (if j = n then k else s j)) = 1
            by_cases c : j = n
            · rw [if_pos c]
              unfold nwD
              simp only [mF_wA, mF_sF, reduceIte, Nat.reduceEqDiff, Nat.reduceAdd, Nat.reduceMul, Nat.reduceLT, Nat.reduceLeDiff, and_true, true_and, and_false, false_and, and_self, ne_eq, not_true_eq_false, not_false_eq_true, Option.some.injEq, reduceCtorEq]
            · rw [if_neg c, sN' _ j (by omega) (by decide)]
              exact a6 j (by omega)
          · have hk1 : k' ≠ k := fun e => h n (by omega) (by show (if n = n then k else s n) = k'; rw [if_pos rfl, e])
            rw [nwD_F (by omega) (by decide)]
            refine a7 k' hk' (fun i hi e => h i (by omega) ?_)
            show (if i = n then k else s i) = k'
            rw [if_neg (by omega)]
            exact e
          · by_cases c : j = n
            · subst c
              refine ⟨d, s6, ?_⟩
              show D1 _ _ nw (if j = j then k else s j) d (if j = j then nw else τ j)
              rw [if_pos rfl, if_pos rfl]
              unfold D1
              rw [hbT]
              have cn0 : cnt (bitOf (fun j => if j < 128 then 0 else mA M0 (d + 2) j)) 4096 = 0 := cnt_ext (e := 0) 4096 (by omega) (fun i _ h2 => bits0 _ h2)
              rw [cn0]
              unfold nwD begM
              simp only [mF_wA, mF_sF, mA_sF, mA_wA_self, d314, Ne.symm d314, reduceIte, Nat.reduceEqDiff, Nat.reduceAdd, Nat.reduceMul, Nat.reduceLT, Nat.reduceLeDiff, and_true, true_and, and_false, false_and, and_self, ne_eq, not_true_eq_false, not_false_eq_true, Option.some.injEq, reduceCtorEq]
              refine ⟨a3, Nat.le_refl _, by omega, fun j hj => ?_, fun j hj e => ?_, rfl, 0, by omega, rfl, Or.inl ⟨fun j _ h2 => bits0 _ h2, Or.inl rfl⟩⟩
              · rw [if_pos hj, bits0 _ hj]; rfl
              · rw [bits0 _ hj] at e; cases e
            · obtain ⟨d', q1', q2'⟩ := a8 j (by omega)
              have hO' := (rowN_at r3 q1').2
              have hsj := a4 j (by omega)
              have hss := hsk j (by omega)
              have hdd : d' ≠ d := fun e => s9 j c (by rw [← e]; exact q1')
              obtain ⟨y1, y2, z1, z2, z3, z4⟩ := hS.2.1 d' hO'
              refine ⟨d', by show mB M0 316 j = some d'; rw [s7 j c]; exact q1', ?_⟩
              show D1 _ _ nw (if j = n then k else s j) d' (if j = n then nw else τ j)
              rw [if_neg c, if_neg c]
              exact D1_congr (A := A) (M := M) (fun f h1 h2 => sN' f j (by omega) (by omega)) (nwD_A (by omega)) (nwD_A (by omega)) (fun f h1 h2 => by rw [hbF2 _ _ hdd (by omega)]; exact f0 _ _ hO'.2.1) (dlt _ z1.2.1 (rw1 _ (ok0 _ _ z1))) (dlt _ z3.2.1 (by omega)) q2'
          · show mF (nwD A k (mF M 193 314) id (mF M 204 314)) 838 (438 + 3 * (if i = n then k else s i)) < mF (nwD A k (mF M 193 314) id (mF M 204 314)) 838 (438 + 3 * (if j = n then k else s j)) ∧ (if i = n then nw else τ i) ≤ (if j = n then nw else τ j)
            rw [if_neg (show ¬ i = n by omega), if_neg (show ¬ i = n by omega), sN' _ i (by omega) (by decide)]
            by_cases c : j = n
            · rw [if_pos c, if_pos c, eDO]
              refine ⟨Int32.lt_of_le_of_lt (a10 i (by omega)) lt1, ?_⟩
              obtain ⟨_, _, q⟩ := a8 i (by omega)
              exact q.2.2.2.2.2.2.1
            · rw [if_neg c, if_neg c, sN' _ j (by omega) (by decide)]
              exact a9 i j h1 (by omega)
          · show mF (nwD A k (mF M 193 314) id (mF M 204 314)) 838 (438 + 3 * (if j = n then k else s j)) ≤ mF (nwD A k (mF M 193 314) id (mF M 204 314)) 1049 323
            rw [eOrd]
            by_cases c : j = n
            · rw [if_pos c, eDO]; exact Int32.le_refl _
            · rw [if_neg c, sN' _ j (by omega) (by decide)]
              exact Int32.le_of_lt (Int32.lt_of_le_of_lt (a10 j (by omega)) lt1)
          · have eN : ∀ f v, f ≠ 1049 → mF (nwD A k (mF M 193 314) id (mF M 204 314)) f (438 + 3 * k) = v → True := fun _ _ _ _ => trivial
            have nk : mF (nwD A k (mF M 193 314) id (mF M 204 314)) 833 (438 + 3 * k) = (mF M 193 314) ∧ mF (nwD A k (mF M 193 314) id (mF M 204 314)) 834 (438 + 3 * k) = id ∧ mF (nwD A k (mF M 193 314) id (mF M 204 314)) 835 (438 + 3 * k) = (mF M 204 314) := by
              unfold nwD
              simp only [mF_wA, mF_sF, reduceIte, Nat.reduceEqDiff, Nat.reduceAdd, Nat.reduceMul, Nat.reduceLT, Nat.reduceLeDiff, and_true, true_and, and_false, false_and, and_self, ne_eq, not_true_eq_false, not_false_eq_true, Option.some.injEq, reduceCtorEq]
            have no : ∀ i, i < n → (mF A 833 (438 + 3 * (s i))) = (mF M 193 314) → (mF A 834 (438 + 3 * (s i))) = id → (mF A 835 (438 + 3 * (s i))) = (mF M 204 314) → False := fun i hi g1 g2 g3 => hno _ (a4 i hi) ⟨by rw [a6 i hi]; decide, g1, g2, g3⟩
            by_cases c : i = n
            · by_cases c2 : j = n
              · omega
              · exfalso
                simp only [c, eK j c2, if_true] at e1 e2 e3
                rw [nk.1, sN' _ j (by omega) (by decide)] at e1
                rw [nk.2.1, sN' _ j (by omega) (by decide)] at e2
                rw [nk.2.2, sN' _ j (by omega) (by decide)] at e3
                exact no j (by omega) e1.symm e2.symm e3.symm
            · by_cases c2 : j = n
              · exfalso
                simp only [c2, eK i c, if_true] at e1 e2 e3
                rw [nk.1, sN' _ i (by omega) (by decide)] at e1
                rw [nk.2.1, sN' _ i (by omega) (by decide)] at e2
                rw [nk.2.2, sN' _ i (by omega) (by decide)] at e3
                exact no i (by omega) e1 e2 e3
              · simp only [eK i c, eK j c2] at e1 e2 e3
                rw [sN' _ i (by omega) (by decide), sN' _ j (by omega) (by decide)] at e1 e2 e3
                exact a11 i j (by omega) (by omega) e1 e2 e3
        · intro j hj
          rw [nwD_A (by omega), dlt 305 (by omega) (d9' 305 (by omega) (by omega))]
          exact hN j hj
        · exact ⟨rfl, rfl, rfl, fun f a h => nwD_F (fun e => h (by unfold PD; omega)) (fun e => h (by unfold PD; omega)), fun a h => nwD_A (fun e => h (by unfold QD; omega)), by rw [nwD_A (by omega)]⟩
        · refine ⟨s10, fun a h => ⟨(s11 a h).1, (s11 a h).2.1⟩, fun f a h _ => (s11 a h).2.2.2.1 f, fun a h1 h2 => s8 a h1 h2, fun f a h1 h2 => ?_, fun a h1 h2 => dlt a h1 (fun e => h2 ?_)⟩
          · have hda : a ≠ d := fun e => h2 (by subst e; rw [← (s11 a h1).1]; exact Or.inl s5.2.2)
            rw [hbF2 _ _ hda (fun e => h2 (by unfold PDx; omega))]
            exact f0 _ _ h1
          · subst e
            refine Or.inr (Or.inl ⟨?_, ?_⟩)
            · rw [show d + 2 - 2 = d by omega, ← (s11 d (by omega)).1]; exact s5.2.2
            · rw [← (s11 (d + 2) h1).1]; exact o2.2.2
        · intro f h1 h2
          rw [hbF2 _ _ d314 (by omega)]
          exact f0 _ _ e314
        · exact (s11 314 e314).2.2.2.1 192
      · obtain ⟨k, hk, h⟩ := free_ex (N := 4) (s := s) hn4
        exact absurd (a7 k hk h) (hall k hk)
end Gather
