/-! ===== part 89: a fragment goes into its datagram ===== -/
/-- what the class does once it has the datagram's place -/
def gT (fu : Nat) (v4 a3 a4 : Int32) (M3 : Mm) : Option (Int32 × Mm) :=
    if v4 < 0 then (
    rN .boolean (0 : Int32) M3)
    else (
    if v4 < (4 : Int32) then (
    (gR M3 3 207 (some 314)).bind fun v5 =>
    (gB M3 112 v5 v4).bind fun v6 =>
    if v6 = none then (
    rN .boolean (0 : Int32) M3)
    else (
    (gI M3 3 203 (some 314)).bind fun v7 =>
    (rc M3 2 v6).bind fun q8 =>
    b2 (fX2_agrees fu q8 (a4 + v7) a3 M3) fun v10 M9 =>
    if v10 = 0 then (
    (rc M9 3 (some 314)).bind fun q18 =>
    (fX3_dropDatagram fu q18 v4 M9).bind fun M19 =>
    rN .boolean (0 : Int32) M19)
    else (
    (gR M9 3 192 (some 314)).bind fun v11 =>
    (gI M9 3 202 (some 314)).bind fun v12 =>
    (gI M9 3 203 (some 314)).bind fun v13 =>
    (rc M9 2 v6).bind fun q14 =>
    (fX2_put fu q14 v11 v12 a4 v13 M9).bind fun M15 =>
    if a3 = 0 then (
    (gI M15 3 203 (some 314)).bind fun v16 =>
    (pF M15 2 133 v6 (a4 + v16)).bind fun M17 =>
    fX3_gather_L157 fu  314 v4 v6 M17)
    else (
    fX3_gather_L157 fu  314 v4 v6 M15))))
    else (
    rN .boolean (0 : Int32) M3))
theorem gather_gT (fu : Nat) (a1 a3 a4 : Int32) {M : Mm} (hW : XW M) : fX3_gather_L47 fu 314 a1 a3 a4 M = if (a4 + (mF M 203 314)) ≤ (4096 : Int32) then b2 (fX3_indexOf fu 314 a1 M) fun v4 M3 => gT fu v4 a3 a4 M3 else rN .boolean (0 : Int32) M := by
  unfold fX3_gather_L47
  rw [gI_ok (xw_ok314 hW), ob_some, rc_ok (xw_ok314 hW), ob_some]
  rfl
section Take
variable {A M : Mm}
theorem FragR_pre {fu KN KS t T d : Nat} {x p : Int32} {A1 M1 : Mm} {ra : Option Mm} {rx : Option (Int32 × Mm)} (f1 : FD A A1) (f2 : FM PDx GDx BDx QDx M M1) (e1 : (mF M1 193 314) = (mF M 193 314)) (e2 : (mF M1 204 314) = (mF M 204 314)) (h : FragR fu KN KS t T d x p A1 M1 ra rx) : FragR fu KN KS t T d x p A M ra rx := by
  rcases h with ⟨A', M', h1, h2, k1, k2, k3, k4, k5, k6, k7⟩ | ⟨A', M', e, h0, h1, h2, ⟨k1, k2, k3, k4, k5, k6, k7⟩, b1, b2, b3, b4, b5, b6, b7, b8, b9, b10⟩
  · exact Or.inl ⟨A', M', h1, h2, k1, k2, k3, k4, k5, f1.tr k6, f2.tr k7⟩
  · exact Or.inr ⟨A', M', e, h0, h1, h2, ⟨k1, k2, k3, k4, k5, f1.tr k6, f2.tr k7⟩, b1, b2, b3, b4, b5, b6, b7, b8, b9.trans e1, b10.trans e2⟩
theorem dmI_F (k o at' i f a : Nat) : mF (dmI A k o at' i) f a = mF A f a := rfl
theorem dmI_A {k o at' i a : Nat} (h : a ≠ 439 + 3 * k) (h2 : a ≠ 440 + 3 * k) : mA (dmI A k o at' i) a = mA A a := (mA_wA_ne h).trans (mA_wA_ne h2)
theorem dgI_F {d src o pl i f a : Nat} (h : ¬ (f = 134 ∧ a = d)) : mF (dgI M d src o pl i) f a = mF M f a := by
  unfold dgI
  rw [mF_sF, if_neg h]
  rfl
theorem dgI_A {d src o pl i a : Nat} (h : a ≠ d + 1) (h2 : a ≠ d + 2) : mA (dgI M d src o pl i) a = mA M a := (mA_wA_ne h).trans (mA_wA_ne h2)
/-- both memories with the fragment in its datagram -/
theorem take_put {KN KS t T n nw i d tr ln o at' sz r : Nat} {s τ : Nat → Nat} (hJ : JL0 KN KS t T A M) (hD : JDa n nw s τ A M) (hi : i < n) (hd : mB M 316 i = some d) (hN : JN A M) (hBA : Bd RM TM A) (hBM : Bd RX TX M) (hT : TrR ln tr A M) (hat : at' + sz ≤ ln) (ho : o + sz ≤ 4096) {mo : Int32} (A2 M2 : Mm)
    (hD1 : D1 A2 M2 nw (s i) d (τ i)) (aF : ∀ f a, ¬ (f = 836 ∧ a = 438 + 3 * s i) → mF A2 f a = mF A f a) (aA : ∀ a, a ≠ 439 + 3 * s i → a ≠ 440 + 3 * s i → mA A2 a = mA A a) (aS : mS A2 = mS A) (aG : mG A2 = mG A) (aB : mB A2 = mB A) (bA : Bd RM TM A2) (mF' : ∀ f a, a ≠ d → mF M2 f a = mF M f a) (mFs : (mF M2 129 d) = (mF M 129 d) ∧ (mF M2 130 d) = (mF M 130 d) ∧ (mF M2 131 d) = (mF M 131 d)) (mA' : ∀ a, a ≠ d + 1 → a ≠ d + 2 → mA M2 a = mA M a) (mS' : mS M2 = mS M) (mG' : mG M2 = mG M) (mB' : mB M2 = mB M) (bM : Bd RX TX M2) :
    JL0 KN KS t T A2 M2 ∧ JDa n nw s τ A2 M2 ∧ JN A2 M2 ∧ FD A A2 ∧ FM PDx GDx BDx QDx M M2 := by
  have hJ0 := hJ
  obtain ⟨hR, hW, hS, hX, -⟩ := hJ0
  have hX' := hX
  obtain ⟨nr, nww, nd, nc, -, -, -, -, r1, r2, r3, r4, -⟩ := hX'
  have hOd := (rowN_at r3 hd).2
  obtain ⟨g1, g2, o1, l1, o2, l2⟩ := hS.2.1 d hOd
  obtain ⟨a1, a2, a3, a4, a5, a6, a7, a8, a9, a10, a11⟩ := hD
  have hsi := a4 i hi
  have dne : ∀ t a, okA M t a → t ≠ 2 → a ≠ d := fun t a h1 h2 e => by subst e; exact h2 (h1.2.2.symm.trans hOd.2.2)
  have ok2 : ∀ t a, okA M2 t a = okA M t a := fun t a => by unfold okA; rw [mS']
  have n307 := dne 4 307 (xw_ok307 hW) (by decide)
  have n304 := dne 10 304 (xw_ok304 hW) (by decide)
  have n314 := dne 3 314 (xw_ok314 hW) (by decide)
  have rw1 : ∀ a, okA M 100 a → a ≠ d + 2 := fun a h e => by subst e; exact absurd (h.2.2.symm.trans o2.2.2) (by decide)
  have rw2 : ∀ a, okA M 101 a → a ≠ d + 1 := fun a h e => by subst e; exact absurd (h.2.2.symm.trans o1.2.2) (by decide)
  have pr : ∀ q, okA M 6 q → q + 1 ≠ d + 1 ∧ q + 1 ≠ d + 2 := fun q hq => ⟨fun e => dne 6 q hq (by decide) (by omega), rw1 _ (hS.1 q hq).2.1⟩
  have d305 : (305 : Nat) ≠ d + 1 ∧ (305 : Nat) ≠ d + 2 := ⟨rw2 _ (xw_ok305 hW), fun e => by
    obtain rfl : d = 303 := by omega
    exact absurd (hOd.2.2.symm.trans (xw_ok303 hW).2.2) (by decide)⟩
  have d9 : ∀ a, 309 ≤ a → a ≤ 312 → a ≠ d + 1 ∧ a ≠ d + 2 := fun a h1 h2 => by
    have : a = 309 ∨ a = 310 ∨ a = 311 ∨ a = 312 := by omega
    have m1 := dne 4 307 (xw_ok307 hW) (by decide)
    have m2 := dne 100 308 (xw_ok308 hW) (by decide)
    have m3 := dne 101 309 (xw_ok309 hW) (by decide)
    have m4 := dne 101 310 (xw_ok310 hW) (by decide)
    have m5 := dne 101 311 (xw_ok311 hW) (by decide)
    omega
  refine ⟨?_, ?_, ?_, ⟨aS, aG, aB, fun f a h => aF f a (fun e => h (by unfold PD; omega)), fun a h => aA a (fun e => h (by unfold QD; omega)) (fun e => h (by unfold QD; omega)), by rw [aA 330 (by omega) (by omega)]⟩, ⟨by rw [mS']; exact Nat.le_refl _, fun a _ => by rw [mS']; exact ⟨rfl, rfl⟩, fun f a _ _ => by rw [mG'], fun a _ _ => by rw [mB'], fun f a _ h => mF' f a (fun e => h (by subst e; exact Or.inl hOd.2.2)), fun a _ h => mA' a (fun e => h (by subst e; exact Or.inl hOd.2.2)) (fun e => h (by subst e; exact Or.inr (Or.inl ⟨hOd.2.2, o2.2.2⟩)))⟩⟩
  · refine JL0_keep (u := 0) hJ (by obtain ⟨_, _, _, _, _, q, -⟩ := hJ.2.2.2.2.2.2.2; omega) (by rw [show RW A2 = RW A from by unfold RW okA; rw [aS, aG, aB]]; exact hR) (by rw [show XW M2 = XW M from by unfold XW okA; rw [mS', mG']]; exact hW) (XS_same mS' mG' hS) (XRR_same mS' mB' hX) (fun f a h => aF f a (by unfold JLf at h; omega)) (fun O e => ⟨O, (aF _ _ (by omega)).trans e, Nat.le_refl _, by omega⟩) (fun a h => aA a (by omega) (by omega)) (fun f h1 h2 => mF' f _ n307) (fun f h1 h2 => mF' f _ n304) (fun q hq => ⟨fun f h1 h2 => mF' f _ (dne 6 q hq (by decide)), mA' _ (pr q hq).1 (pr q hq).2⟩) (fun a h1 h2 => mA' a (d9 a h1 h2).1 (d9 a h1 h2).2) (by rw [mB']) (by rw [mB'])
  · have fs : ∀ f k, f ≠ 836 → mF A2 f (438 + 3 * k) = mF A f (438 + 3 * k) := fun f k h => aF _ _ (fun e => h e.1)
    refine ⟨a1, (mF' _ _ n314).trans a2, (aF _ _ (by omega)).trans a3, a4, a5, fun j hj => ?_, fun k hk h => ?_, fun j hj => ?_, fun j l hj hl => ?_, fun j hj => ?_, fun j l hj hl => ?_⟩
    · rw [fs _ _ (by decide)]; exact a6 j hj
    · rw [fs _ _ (by decide)]; exact a7 k hk h
    · by_cases c : j = i
      · subst c
        exact ⟨d, by rw [mB']; exact hd, hD1⟩
      · obtain ⟨d', q1, q2⟩ := a8 j hj
        have hO' := (rowN_at r3 q1).2
        have hsj := a4 j hj
        have hss : s j ≠ s i := fun e => c (a5 j i hj hi e)
        have hdd : d' ≠ d := fun e => c (r3.2.2 j i d (by rw [← e]; exact q1) hd)
        obtain ⟨y1, y2, z1, z2, z3, z4⟩ := hS.2.1 d' hO'
        exact ⟨d', by rw [mB']; exact q1, D1_congr (A := A) (M := M) (fun f h1 h2 => aF _ _ (by omega)) (aA _ (by omega) (by omega)) (aA _ (by omega) (by omega)) (fun f h1 h2 => mF' f _ hdd) (mA' _ (by omega) (rw1 _ z1)) (mA' _ (rw2 _ z3) (by omega)) q2⟩
    · rw [fs _ _ (by decide), fs _ _ (by decide)]; exact a9 j l hj hl
    · rw [fs _ _ (by decide), aF 1049 323 (by omega)]; exact a10 j hj
    · rw [fs _ _ (by decide), fs _ _ (by decide), fs _ _ (by decide), fs _ _ (by decide), fs _ _ (by decide), fs _ _ (by decide)]; exact a11 j l hj hl
  · intro j hj
    rw [aA 330 (by omega) (by omega), mA' 305 d305.1 d305.2]
    exact hN j hj
theorem sp_dgTake (fu : Nat) (hf : 4200 ≤ fu) {KN KS t T n nw i d tr ln o at' sz : Nat} {s τ : Nat → Nat} (hJ : JL0 KN KS t T A M) (hD : JDa n nw s τ A M) (hi : i < n) (hd : mB M 316 i = some d) (hN : JN A M) (hBA : Bd RM TM A) (hBM : Bd RX TX M) (hT : TrR ln tr A M) (htd : tr ≠ d + 1) (hb : (mG M 192 314) = some tr) (hpl : (mF M 202 314) = nI at') (hsz : (mF M 203 314) = nI sz) (hat : at' + sz ≤ ln) (ho : o + sz ≤ 4096) {mo : Int32} (hmo : mo = 0 ∨ mo = 1) (h1 : mo = 1 → 1 ≤ sz) (x p : Int32) :
    FragR fu KN KS t T d x p A M (fX16_fragment_L184 fu 323 x p (nI o) (nI at') (nI sz) mo (some (438 + 3 * s i)) A) (gT fu (nI i) mo (nI o) M) := by
  have hJ0 := hJ
  obtain ⟨hR, hW, hS, hX, -⟩ := hJ0
  have hX' := hX
  obtain ⟨nr, nww, nd, nc, -, -, -, -, r1, r2, r3, r4, -⟩ := hX'
  have hOd := (rowN_at r3 hd).2
  obtain ⟨g1, g2, o1, l1, o2, l2⟩ := hS.2.1 d hOd
  have hD0 := hD
  obtain ⟨a1, a2, a3, a4, a5, a6, a7, a8, a9, a10, a11⟩ := hD0
  obtain ⟨d', hd', hD1⟩ := a8 i hi
  rw [hd] at hd'
  cases hd'
  have hsi := a4 i hi
  have hT0 := hT
  obtain ⟨t1, t2, t3, t4, t5, t6, t7, t8⟩ := hT0
  have hoz : (nI o : Int32) + nI sz = nI (o + sz) := nI_add o sz
  have d314 : (314 : Nat) ≠ d := fun e => by subst e; exact absurd (hOd.2.2.symm.trans (xw_ok314 hW).2.2) (by decide)
  have one0 : ¬ (1 : Int32) = 0 := by decide
  have gb : gB M 112 (some 316) (nI i) = some (some d) := by rw [gB_ok (xw_ok316 hW) (by rw [xw_ln316 hW]; omega) (by omega), hd]
  have lt4 : nI i < (4 : Int32) := nI_lt (b := 4) (by omega) (by decide)
  have hgT : gT fu (nI i) mo (nI o) M = b2 (fX2_agrees fu d (nI (o + sz)) mo M) fun v10 M9 => if v10 = 0 then ((rc M9 3 (some 314)).bind fun q18 => (fX3_dropDatagram fu q18 (nI i) M9).bind fun M19 => rN .boolean (0 : Int32) M19) else ((gR M9 3 192 (some 314)).bind fun v11 => (gI M9 3 202 (some 314)).bind fun v12 => (gI M9 3 203 (some 314)).bind fun v13 => (rc M9 2 (some d)).bind fun q14 => (fX2_put fu q14 v11 v12 (nI o) v13 M9).bind fun M15 => if mo = 0 then ((gI M15 3 203 (some 314)).bind fun v16 => (pF M15 2 133 (some d) (nI o + v16)).bind fun M17 => fX3_gather_L157 fu 314 (nI i) (some d) M17) else fX3_gather_L157 fu 314 (nI i) (some d) M15) := by
    unfold gT
    rw [if_neg (nI_pos (by omega)), if_pos lt4, gR_ok (xw_ok314 hW), ob_some, xw_g207_314 hW, gb, ob_some, if_neg (by simp), gI_ok (xw_ok314 hW), ob_some, hsz, hoz, rc_ok hOd, ob_some]
  rw [hgT]
  have hD1' := hD1
  obtain ⟨-, -, -, d4, -, -, -, -, d9, d10, d11, r, r1', r2', dE⟩ := hD1'
  rcases dg_agree fu (by omega) hR hsi hOd hD1 ho hmo x p (nI at') with ⟨c1, c2, c3, c4⟩ | ⟨c1, c2⟩
  · rw [c2, c1, b2_some, if_neg one0, gR_ok (xw_ok314 hW), ob_some, hb, gI_ok (xw_ok314 hW), ob_some, hpl, gI_ok (xw_ok314 hW), ob_some, hsz, rc_ok hOd, ob_some, x_dgput fu hBM.2.2.2.2 hOd g1 g2 o1 l1 o2 l2 t2 t4 (by omega) ho htd d11 r2' r1' (by omega), ob_some]
    have hDp := D1_put (A := A) (M := M) (tr := tr) hsi hD1 ho t5 hat hmo h1 c3 c4 r2' r1'
    have hF135 : ∀ f a, ¬ (f = 134 ∧ a = d) → ¬ (f = 135 ∧ a = d) → mF (sF (dgI M d tr o at' sz) 135 d (nI (max r (o + sz)))) f a = mF M f a := fun f a h1 h2 => by rw [mF_sF, if_neg h2]; exact dgI_F h1
    unfold fX16_fragment_L279
    rw [if_pos rfl]
    have hput := x_dgput fu hBM.2.2.2.2 hOd g1 g2 o1 l1 o2 l2 t2 t4 (show at' + sz ≤ sLen (mS M) tr by omega) ho htd d11 r2' r1' (by omega)
    have bM1 := (oX2_put fu d (some tr) (nI at') (nI o) (nI sz) M hBM (hBM.1 d 2 hOd (by unfold TX; omega)) (inR_some (hBM.2.1 192 314 tr (by unfold RX; omega) hb)) hput).2
    have bytesA : ∀ (B : Mm), RW B → Bd RM TM B → Bd RM TM (dmI B (s i) o at' sz) := fun B hRB hBB => by
      unfold dmI
      refine Bd_wA (Bd_wA hBB (fun q => absurd ((rw_dgT hRB _ hsi).2.2.symm.trans q) (by decide))) (fun _ j => ?_)
      split
      · exact hBB.2.2.2.2 _ _ (rw_ok324 hRB).2.2
      · exact hBB.2.2.2.2 _ _ (rw_dgY hRB _ hsi).2.2
    have bits01 : ∀ j, j < 4096 → mA A (440 + 3 * s i) j = 0 ∨ mA A (440 + 3 * s i) j = 1 := fun j hj => by
      rw [d9 j hj]
      split
      · exact Or.inr rfl
      · exact Or.inl rfl
    rcases hmo with rfl | rfl
    · rw [if_pos rfl] at hDp
      rw [if_pos rfl] at hDp
      have e203 : mF (sF (dgI M d tr o at' sz) 135 d (nI (max r (o + sz)))) 203 314 = nI sz := (hF135 _ _ (by omega) (by omega)).trans hsz
      have hO2 : okA (sF (dgI M d tr o at' sz) 135 d (nI (max r (o + sz)))) 2 d := hOd
      have hW2 : okA (sF (dgI M d tr o at' sz) 135 d (nI (max r (o + sz)))) 3 314 := xw_ok314 hW
      rw [if_pos rfl, if_pos rfl, gI_ok hW2, ob_some, e203, hoz, pF_ok hO2, ob_some, pF_ok (rw_dgO hR _ hsi), ob_some]
      obtain ⟨m, hm⟩ := m_frag_put (A := sF A 836 (438 + 3 * s i) (nI (o + sz))) (fu := fu) (k := s i) (o := o) (at' := at') (n := sz) hR hBA.2.2.2.2 (by omega) hsi ho (by omega) bits01 x p
      rw [hm]
      obtain ⟨v1, v2, v3, v4, v5⟩ := take_put (mo := 0) (r := r) hJ hD hi hd hN hBA hBM hT hat ho _ _ hDp (fun f a h => by rw [dmI_F, mF_sF, if_neg h]) (fun a h2 h3 => dmI_A h2 h3) rfl rfl rfl (bytesA _ hR hBA) (fun f a h => by rw [mF_sF, if_neg (fun e => h e.2)]; exact hF135 _ _ (fun e => h e.2) (fun e => h e.2)) ⟨by rw [mF_sF, if_neg (by omega)]; exact hF135 _ _ (by omega) (by omega), by rw [mF_sF, if_neg (by omega)]; exact hF135 _ _ (by omega) (by omega), by rw [mF_sF, if_neg (by omega)]; exact hF135 _ _ (by omega) (by omega)⟩ (fun a h2 h3 => dgI_A h2 h3) rfl rfl rfl bM1
      refine FragR_pre v4 v5 ?_ ?_ (dg_tail fu hf v1 v2 hi hd v3 (bytesA _ hR hBA) bM1 x p)
      · rw [mF_sF, if_neg (by omega)]; exact hF135 _ _ (by omega) (by omega)
      · rw [mF_sF, if_neg (by omega)]; exact hF135 _ _ (by omega) (by omega)
    · rw [if_neg one0] at hDp
      rw [if_neg one0] at hDp
      rw [if_neg one0, if_neg one0]
      obtain ⟨m, hm⟩ := m_frag_put (A := A) (fu := fu) (k := s i) (o := o) (at' := at') (n := sz) hR hBA.2.2.2.2 (by omega) hsi ho (by omega) bits01 x p
      rw [hm]
      obtain ⟨v1, v2, v3, v4, v5⟩ := take_put (mo := 1) (r := r) hJ hD hi hd hN hBA hBM hT hat ho _ _ hDp (fun f a h => rfl) (fun a h2 h3 => dmI_A h2 h3) rfl rfl rfl (bytesA _ hR hBA) (fun f a h => hF135 _ _ (fun e => h e.2) (fun e => h e.2)) ⟨hF135 _ _ (by omega) (by omega), hF135 _ _ (by omega) (by omega), hF135 _ _ (by omega) (by omega)⟩ (fun a h2 h3 => dgI_A h2 h3) rfl rfl rfl bM1
      exact FragR_pre v4 v5 (hF135 _ _ (by omega) (by omega)) (hF135 _ _ (by omega) (by omega)) (dg_tail fu hf v1 v2 hi hd v3 (bytesA _ hR hBA) bM1 x p)
  · left
    have hdr := x_dropDatagram hW (fu := fu) a2 a1.1 hi (fun j hj => by
      obtain ⟨q', e1, -⟩ := a8 j hj
      exact ⟨q', e1, (rowN_at r3 e1).2⟩) (by omega)
    have hBd : Bd RX TX (sF (wB M 316 (rotg (mB M 316) i n)) 208 314 (nI (n - 1))) := (oX3_dropDatagram fu 314 (nI i) M hBM (by unfold RX; omega) hdr).2
    rw [c2, c1, b2_some, if_pos rfl, rc_ok (xw_ok314 hW), ob_some, hdr, ob_some, rN0]
    unfold fX16_fragment_L279
    rw [if_neg one0, pZ_ok (rw_dgO hR _ hsi) (Or.inl rfl), ob_some]
    exact ⟨_, _, rfl, rfl, Kept_drop hJ hD hi hN hBA hBd⟩
end Take
