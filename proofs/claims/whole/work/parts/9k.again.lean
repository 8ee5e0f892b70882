/-! ===== part 9k: a hop is asked for again; a datagram is forgotten ===== -/
/-- how much may still happen by itself -/
def su (f : Nat → Nat) : Nat → Nat
  | 0 => 0
  | n + 1 => su f n + f n
theorem su_eq {f g : Nat → Nat} : ∀ n, (∀ j, j < n → f j = g j) → su f n = su g n
  | 0, _ => rfl
  | n + 1, h => by
    show su f n + f n = su g n + g n
    rw [su_eq n (fun j hj => h j (by omega)), h n (by omega)]
theorem su_lt {f g : Nat → Nat} {k : Nat} (hk : f k < g k) : ∀ n, k < n → (∀ j, j < n → j ≠ k → f j = g j) → su f n < su g n
  | 0, h, _ => absurd h (by omega)
  | n + 1, h, e => by
    show su f n + f n < su g n + g n
    by_cases q : k = n
    · subst q
      rw [su_eq k (fun j hj => e j (by omega) (by omega))]
      omega
    · have := su_lt hk n (by omega) (fun j hj => e j (by omega))
      rw [e n (by omega) (fun z => q z.symm)]
      omega
theorem su_le {f : Nat → Nat} {b : Nat} : ∀ n, (∀ j, j < n → f j ≤ b) → su f n ≤ b * n
  | 0, _ => Nat.zero_le _
  | n + 1, h => by
    show su f n + f n ≤ b * (n + 1)
    have := su_le n (fun j hj => h j (by omega))
    have := h n (by omega)
    rw [Nat.mul_add]
    omega
def pm (A : Mm) (k : Nat) : Nat := if (mF A 960 (422 + 2 * k)) = 0 then 0 else 4 - ((mF A 964 (422 + 2 * k))).toNatClampNeg
def dm (A : Mm) (k : Nat) : Nat := if (mF A 832 (438 + 3 * k)) = 0 then 0 else 1
def mu (A : Mm) : Nat := 40 * su (cm A) 16 + su (pm A) 8 + su (dm A) 4
theorem mu_b (A : Mm) : su (pm A) 8 + su (dm A) 4 ≤ 36 ∧ mu A ≤ 7716 := by
  have h1 := su_le (f := pm A) (b := 4) 8 (fun j _ => by unfold pm; split <;> omega)
  have h2 := su_le (f := dm A) (b := 1) 4 (fun j _ => by unfold dm; split <;> omega)
  have h3 := su_le (f := cm A) (b := 12) 16 (fun j _ => cm_le A j)
  unfold mu
  omega
theorem mu_less {A A' : Mm} {k : Nat} (hk : k < 16) (h : Less k A A') : mu A' < mu A := by
  have h1 := mu_b A'
  have h2 := su_lt h.1 16 hk h.2
  unfold mu at *
  omega
section Again
variable {A M A' M' : Mm} {KN KS t T im ig F ek ty nw : Nat}
theorem JWa_more {n O i q as : Nat} {s o : Nat → Nat} (hJ : JWa n O nw s o A M) (hi : i < n) (hq : mB M 313 i = some q) (hrow : ∀ a b p, mB M 313 a = some p → mB M 313 b = some p → a = b) (h1 : (mF A 964 (422 + 2 * (s i))) = nI as) (h2 : as ≤ 2) : JWa n O nw s o (sF A 964 (422 + 2 * s i) (nI (as + 1))) (sF M 388 q (nI (as + 1))) := by
  generalize hA1 : sF A 964 (422 + 2 * s i) (nI (as + 1)) = A1
  generalize hM1 : sF M 388 q (nI (as + 1)) = M1
  have fA : ∀ f a, ¬ (f = 964 ∧ a = 422 + 2 * s i) → mF A1 f a = mF A f a := fun f a hg => by subst hA1; rw [mF_sF, if_neg hg]
  have fM : ∀ f a, ¬ (f = 388 ∧ a = q) → mF M1 f a = mF M f a := fun f a hg => by subst hM1; rw [mF_sF, if_neg hg]
  have nA : mF A1 964 (422 + 2 * s i) = nI (as + 1) := by subst hA1; rw [mF_sF, if_pos ⟨rfl, rfl⟩]
  have nM : mF M1 388 q = nI (as + 1) := by subst hM1; rw [mF_sF, if_pos ⟨rfl, rfl⟩]
  have eA : mA A1 = mA A := by subst hA1; rfl
  have bM : mB M1 = mB M := by subst hM1; rfl
  have eM : mA M1 = mA M := by subst hM1; rfl
  obtain ⟨a1, a2, a3, a4, a5, a6, a7, a8, a9, a10, a11, a12⟩ := hJ
  refine ⟨a1, (fM _ _ (by omega)).trans a2, (fA _ _ (by omega)).trans a3, (fA _ _ (by omega)).trans a4, a5, a6, fun j hj => (fA _ _ (by omega)).trans (a7 j hj), fun k hk z => (fA _ _ (by omega)).trans (a8 k hk z), fun j hj => ?_, a10, fun j hj => ⟨(a11 j hj).1, (fA _ _ (by omega)).trans (a11 j hj).2⟩, fun j l hj hl e => a12 j l hj hl (by rw [fA _ _ (by omega), fA _ _ (by omega)] at e; exact e)⟩
  obtain ⟨p, p1, p2⟩ := a9 j hj
  refine ⟨p, by rw [bM]; exact p1, ?_⟩
  by_cases z : j = i
  · subst z
    rw [hq] at p1
    have e := Option.some.inj p1
    subst e
    obtain ⟨g1, ln, τ2, as2, g2, g3, g4, g5, g6, g7, g8, g9, g10, g11, g12, g13, g14⟩ := p2
    have e2 : as2 = as := (nI_eq (by omega) (by omega)).mp (g9.symm.trans h1)
    subst e2
    refine ⟨by rw [fA _ _ (by omega), fM _ _ (by omega)]; exact g1, ln, τ2, as2 + 1, (fA _ _ (by omega)).trans g2, (fM _ _ (by omega)).trans g3, g4, g5, by rw [eA, eM]; exact g6, (fA _ _ (by omega)).trans g7, (fM _ _ (by omega)).trans g8, nA, nM, by omega, by omega, g13, by omega⟩
  · have n1 : s j ≠ s i := fun e => z (a6 j i hj hi e)
    have n2 : p ≠ q := fun e => z (hrow j i p p1 (by rw [e]; exact hq))
    exact W1_congr (A := A) (M := M) (fun f h1 h2 => fA f _ (by omega)) (by rw [eA]) (fun f h1 h2 => fM f _ (by omega)) (by rw [eM]) p2
/-- the class passes over a packet that is not due -/
theorem x_repSkip (fu m : Nat) (hW : XW M) {n O i q x : Nat} {s o : Nat → Nat} (hJ : JWa n O nw s o A M) (hi : i < n) (hq : mB M 313 i = some q) (hO : okA M 6 q) (hx : x < 2 ^ 31) (hd : pD A (s i) ≠ x) : fX4_repeat_L2 fu (m + 1) 307 (nI x) (nI i) M = fX4_repeat_L2 fu m 307 (nI x) (nI (i + 1)) M := by
  have n8 := hJ.1.1
  have b := hJ.1.2
  have o := xw_ok307 hW
  obtain ⟨τ, as, w1, w2, w3, w4, w5, w6, w7, w8, w9⟩ := pd_at hJ hi hq
  have pN : pD A (s i) < 2 ^ 31 := by rw [w9]; omega
  rw [fX4_repeat_L2, gI_ok o, ob_some, hJ.2.1, if_neg (show ¬ nI n ≤ nI i from nI_ge (by omega) (by omega)), if_neg (show ¬ (8 : Int32) ≤ nI i from nI_ge (b := 8) (by omega) (by omega)), gR_ok o, ob_some, xw_g270_307 hW, gB_ok (xw_ok313 hW) (by rw [xw_ln313 hW]; omega) (by omega), ob_some, hq, if_neg (by simp), x_dueOf fu hJ hi hq hO, b2_some, if_neg (fun z => hd ((nI_eq pN hx).mp z))]
  unfold fX4_repeat_L87
  rw [nI_1]
theorem x_repTo (fu : Nat) (hW : XW M) {n O x : Nat} {s o : Nat → Nat} (hJ : JWa n O nw s o A M) (hr : ∀ i q, mB M 313 i = some q → okA M 6 q) (hx : x < 2 ^ 31) : ∀ (d j m : Nat), j + d ≤ n → d ≤ m → (∀ i, j ≤ i → i < j + d → pD A (s i) ≠ x) → fX4_repeat_L2 fu (m + 1) 307 (nI x) (nI j) M = fX4_repeat_L2 fu (m + 1 - d) 307 (nI x) (nI (j + d)) M := by
  intro d
  induction d with
  | zero => intro j m _ _ _; rfl
  | succ d ih =>
    intro j m h1 h2 h3
    obtain ⟨q, hq, -⟩ := hJ.2.2.2.2.2.2.2.2.1 j (by omega)
    rw [x_repSkip fu m hW hJ (by omega) hq (hr j q hq) hx (h3 j (Nat.le_refl _) (by omega)), show m = m - 1 + 1 by omega, ih (j + 1) (m - 1) (by omega) (by omega) (fun i h4 h5 => h3 i (by omega) (by omega)), show j + 1 + d = j + (d + 1) by omega, show m - 1 + 1 - d = m - 1 + 1 + 1 - (d + 1) by omega]
theorem x_repNone (fu : Nat) (hfu : 100 ≤ fu) (hW : XW M) {n O x : Nat} {s o : Nat → Nat} (hJ : JWa n O nw s o A M) (hr : ∀ i q, mB M 313 i = some q → okA M 6 q) (hx : x < 2 ^ 31) (h : ∀ i, i < n → pD A (s i) ≠ x) : fX4_repeat fu 307 (nI x) M = some (0, M) := by
  have n8 := hJ.1.1
  unfold fX4_repeat
  have := x_repTo fu hW hJ hr hx n 0 (fu - 1) (by omega) (by omega) (fun i _ h2 => h i (by omega))
  rw [show fu - 1 + 1 = fu by omega, show 0 + n = n by omega] at this
  have e : fX4_repeat_L2 fu fu 307 (nI x) 0 M = fX4_repeat_L2 fu (fu - n) 307 (nI x) (nI n) M := this
  rw [e, show fu - n = fu - n - 1 + 1 by omega, fX4_repeat_L2, gI_ok (xw_ok307 hW), ob_some, hJ.2.1, if_pos (Int32.le_refl _), rN0]
/-- a hop is asked for again, or what waits for it is dropped, in both -/
theorem sp_again (fu : Nat) (hfu : 4200 ≤ fu) (h : JJ A M KN KS t T im ig F ek ty nw) {n O i q : Nat} {s o : Nat → Nat} (hO : O ≤ T + t ∧ t ≤ 1000) (hJ : JWa n O nw s o A M) (hi : i < n) (hq : mB M 313 i = some q) (hdue : pD A (s i) = nw) (hT : T < 2 ^ 30) :
    ∃ A' M' T', fX16_askAgain fu 323 (some (422 + 2 * s i)) A = some A' ∧ (∀ m, fX4_repeat_L2 fu (m + 1) 307 (nI nw) (nI i) M = some (1, M')) ∧ T ≤ T' ∧ T' ≤ T + 1 ∧ JJ A' M' KN KS t T' im ig F ek ty nw ∧ mu A' < mu A := by
  have n8 := hJ.1.1
  have hR := h.rw'
  have hW := h.xw
  have o := xw_ok307 hW
  obtain ⟨nr, nww, nd, nc, -, -, -, -, -, r2, -⟩ := h.xr
  have hOq : okA M 6 q := (rowN_at r2 hq).2
  have i8 := hJ.2.2.2.2.1 i hi
  have hA := rw_pkO hR (s i) i8
  have us := hJ.2.2.2.2.2.2.1 i hi
  obtain ⟨τ, as, w1, w2, w3, w4, w5, w6, w7, w8, w9⟩ := pd_at hJ hi hq
  have n2 := h.n2
  have x0 : ∀ m, fX4_repeat_L2 fu (m + 1) 307 (nI nw) (nI i) M = if (3 : Int32) ≤ nI as then ((rc M 4 (some 307)).bind fun q7 => (fX4_dropWaiter fu q7 (nI i) M).bind fun M8 => rN .boolean (1 : Int32) M8) else ((pF M 6 388 (some q) (nI as + (1 : Int32))).bind fun M10 => (gI M10 6 387 (some q)).bind fun v11 => (rc M10 4 (some 307)).bind fun q12 => (fX4_fillAsk fu q12 v11 M10).bind fun M13 => (gR M13 4 261 (some 307)).bind fun v14 => (gR M13 4 256 (some 307)).bind fun v15 => (rc M13 10 v14).bind fun q16 => (fX10_put fu q16 v15 (42 : Int32) M13).bind fun M17 => rN .boolean (1 : Int32) M17) := fun m => by
    rw [fX4_repeat_L2, gI_ok o, ob_some, hJ.2.1, if_neg (show ¬ nI n ≤ nI i from nI_ge (by omega) (by omega)), if_neg (show ¬ (8 : Int32) ≤ nI i from nI_ge (b := 8) (by omega) (by omega)), gR_ok o, ob_some, xw_g270_307 hW, gB_ok (xw_ok313 hW) (by rw [xw_ln313 hW]; omega) (by omega), ob_some, hq, if_neg (by simp), x_dueOf fu hJ hi hq hOq, b2_some, if_pos (by rw [hdue]), gI_ok hOq, ob_some, ob_some, w4]
  have fin : ∀ A' M' T', fX16_askAgain fu 323 (some (422 + 2 * s i)) A = some A' → (∀ m, fX4_repeat_L2 fu (m + 1) 307 (nI nw) (nI i) M = some (1, M')) → JL0 KN KS t T' A' M' → FRA A A' → FRM M M' → mA A' 330 = mA A 330 → mA M' 305 = mA M 305 → JJ A' M' KN KS t T' im ig F ek ty nw := fun A' M' T' k1 k2 k3 k4 k5 k6 k7 => by
    have z := (zX16_askAgain fu 323 _ A hR rfl k1).1
    exact JJ_link (u := 0) h k3 (oX16_askAgain fu 323 _ A h.ba (by unfold RM; omega) (inR_some (by unfold RM; omega)) k1).2 (oX4_repeat_L2 fu 1 307 _ _ M h.bm (by unfold RX; omega) (k2 0)).2 (fun j hj => by rw [k6, k7]; exact h.jn j hj) k4 k5 z
  have less : ∀ A', FRA A A' → pm A' (s i) < pm A (s i) → (∀ k, k < 8 → k ≠ s i → pm A' k = pm A k) → mu A' < mu A := fun A' k1 k2 k3 => by
    have e1 : su (cm A') 16 = su (cm A) 16 := su_eq 16 (fun j hj => by
      unfold cm
      rw [k1.2.2.2.1 768 _ (by unfold PL; omega), k1.2.2.2.1 791 _ (by unfold PL; omega), k1.2.2.2.1 798 _ (by unfold PL; omega)])
    have e2 : su (dm A') 4 = su (dm A) 4 := su_eq 4 (fun j hj => by
      unfold dm
      rw [k1.2.2.2.1 832 _ (by unfold PL; omega)])
    have e3 := su_lt k2 8 i8 k3
    unfold mu
    omega
  have pmi : pm A (s i) = 4 - as := by
    unfold pm
    rw [if_neg (by rw [us]; decide), w3, clampN (by omega)]
  by_cases c : as = 3
  · obtain ⟨y1, y2, y3⟩ := JL0_drop hi hO hJ h.jl
    have hdr := x_dropWaiter hW (fu := fu) hJ.2.1 n8 hi (fun j hj => by
      obtain ⟨p, p1, -⟩ := hJ.2.2.2.2.2.2.2.2.1 j hj
      exact ⟨p, p1, (rowN_at r2 p1).2⟩) (by omega)
    have k1 : fX16_askAgain fu 323 (some (422 + 2 * s i)) A = some (sF A 960 (422 + 2 * s i) 0) := by
      unfold fX16_askAgain
      rw [gI_ok hA, ob_some, w3, c, if_pos (show (nI 3 : Int32) = 3 from rfl), pZ_ok hA (Or.inl rfl), ob_some]
    have k2 : ∀ m, fX4_repeat_L2 fu (m + 1) 307 (nI nw) (nI i) M = some (1, sF (wB M 313 (rotg (mB M 313) i n)) 260 307 (nI (n - 1))) := fun m => by
      rw [x0 m, c, if_pos (show (3 : Int32) ≤ nI 3 by decide), rc_ok o, ob_some, hdr, ob_some, rN1]
    have f1 : mF (sF A 960 (422 + 2 * s i) 0) 960 (422 + 2 * s i) = 0 := by rw [mF_sF, if_pos ⟨rfl, rfl⟩]
    have f2 : ∀ f a, ¬ (f = 960 ∧ a = 422 + 2 * s i) → mF (sF A 960 (422 + 2 * s i) 0) f a = mF A f a := fun f a z => by rw [mF_sF, if_neg z]
    refine ⟨_, _, T, k1, k2, Nat.le_refl _, by omega, fin _ _ _ k1 k2 y1 y2.ra y3.rm rfl rfl, less _ y2.ra ?_ (fun k hk hks => ?_)⟩
    · rw [pmi]
      unfold pm
      rw [f1, if_pos rfl]
      omega
    · unfold pm
      rw [f2 960 _ (by omega), f2 964 _ (by omega)]
  · have hJm := JWa_more hJ hi hq (fun a b p e1 e2 => r2.2.2 a b p e1 e2) w3 (by omega)
    obtain ⟨-, -, hS, hX, hP, hQ, hE, -⟩ := h.jl
    generalize hA1 : sF A 964 (422 + 2 * s i) (nI (as + 1)) = A1 at hJm
    generalize hM1 : sF M 388 q (nI (as + 1)) = M1 at hJm
    have fA : ∀ f a, ¬ (f = 964 ∧ a = 422 + 2 * s i) → mF A1 f a = mF A f a := fun f a hg => by subst hA1; rw [mF_sF, if_neg hg]
    have fM : ∀ f a, ¬ (f = 388 ∧ a = q) → mF M1 f a = mF M f a := fun f a hg => by subst hM1; rw [mF_sF, if_neg hg]
    have nA : mF A1 964 (422 + 2 * s i) = nI (as + 1) := by subst hA1; rw [mF_sF, if_pos ⟨rfl, rfl⟩]
    have eA : mA A1 = mA A := by subst hA1; rfl
    have eM : mA M1 = mA M := by subst hM1; rfl
    have sM : mS M1 = mS M := by subst hM1; rfl
    have gM : mG M1 = mG M := by subst hM1; rfl
    have bM : mB M1 = mB M := by subst hM1; rfl
    have hR1 : RW A1 := by subst hA1; exact hR
    have hW1 : XW M1 := by subst hM1; exact hW
    have ok1 : ∀ a b, okA M a b → okA M1 a b := fun a b z => by subst hM1; exact z
    have jl1 : JL0 KN KS t T A1 M1 := ⟨hR1, hW1, XS_same sM gM hS, XRR_same sM bM hX, JP_congr (A := A) (M := M) (fun f h1 h2 => ⟨fA _ _ (by omega), fA _ _ (by omega)⟩) (fA _ _ (by omega)) (fA _ _ (by omega)) (fun f h1 h2 h3 h4 => fM _ _ (by omega)) (fM _ _ (by omega)) (fM _ _ (by omega)) hP, JQ_congr (A := A) (M := M) (fA _ _ (by omega)) (fun a _ _ => by rw [eA]) (fM _ _ (by omega)) (by rw [bM]) (fun j p _ => ⟨fM _ _ (by omega), fM _ _ (by omega), by rw [eM]⟩) hQ, JE_congr (A := A) (M := M) (fun f a h1 h2 => fA _ _ (by omega)) (fM _ _ (by omega)) (fun a _ _ => by rw [eM]) hE, n, O, nw, s, _, hO, hJm⟩
    have byA : By A1 := by subst hA1; exact h.ba.2.2.2.2
    have jl1' := jl1
    obtain ⟨-, -, hS1, hX1, hP1, hQ1, -, -⟩ := jl1'
    obtain ⟨A', M', G, r1, r2', r3, r4, r5, r6, r7, r8, r9⟩ := sp_ask fu (by omega) hR1 byA hW1 hS1 hX1 hP1 hQ1 hT ((mF M 387 q))
    obtain ⟨v1, v2, v3⟩ := JL0_sent (JL0_out G jl1) r4 r5 r6 r7 r8 r9
    have hop : (mF A 961 (422 + 2 * (s i))) = (mF M 387 q) := by
      obtain ⟨p, p1, p2⟩ := hJ.2.2.2.2.2.2.2.2.1 i hi
      rw [hq] at p1
      have e := Option.some.inj p1
      subst e
      exact p2.1
    have k1 : fX16_askAgain fu 323 (some (422 + 2 * s i)) A = some A' := by
      unfold fX16_askAgain
      rw [gI_ok hA, ob_some, w3, if_neg (show ¬ (nI as : Int32) = 3 from fun z => c ((nI_eq (b := 3) (by omega) (by decide)).mp z)), ob_some, pF_ok hA, ob_some, nI_1, hA1, gI_ok (rw_pkO hR1 (s i) i8), ob_some, rc_ok (rw_ok323 hR1), ob_some, fA _ _ (by omega), hop, r1, ob_some]
    have wW : XW (wA M1 308 G) := hW1
    have k2 : ∀ m, fX4_repeat_L2 fu (m + 1) 307 (nI nw) (nI i) M = some (1, M') := fun m => by
      rw [x0 m, if_neg (show ¬ (3 : Int32) ≤ nI as from nI_ge (b := 3) (by omega) (by decide)), pF_ok hOq, ob_some, nI_1, hM1, gI_ok (ok1 _ _ hOq), ob_some, rc_ok (xw_ok307 hW1), ob_some, fM _ _ (by omega), r2', ob_some, gR_ok (xw_ok307 wW), ob_some, xw_g261_307 wW, gR_ok (xw_ok307 wW), ob_some, xw_g256_307 wW, rc_ok (xw_ok304 wW), ob_some, r3, ob_some, rN1]
    have fa : FRA A A' := by
      refine FRA.tr (A' := A1) ⟨by subst hA1; rfl, by subst hA1; rfl, by subst hA1; rfl, fun f a z => fA f a (fun e => z (by unfold PL; omega)), fun a _ => by rw [eA], ?_⟩ v2.ra
      rw [fA _ _ (by omega)]
      exact Int32.le_refl _
    have fm : FRM M M' := by
      refine FRM.tr (M' := M1) ⟨by rw [sM]; exact Nat.le_refl _, fun a _ => by rw [sM]; exact ⟨rfl, rfl⟩, fun f a _ _ => by rw [gM], fun a _ _ => by rw [bM], fun f a _ z => fM f a (fun e => z (by rw [e.2]; exact Or.inl hOq.2.2)), fun a _ _ => by rw [eM]⟩ (FRM.tr (M' := wA M1 308 G) ⟨Nat.le_refl _, fun _ _ => ⟨rfl, rfl⟩, fun _ _ _ _ => rfl, fun _ _ _ => rfl, fun _ _ _ _ => rfl, fun a _ z => mA_wA_ne (fun e => z (Or.inl (Or.inr (by omega))))⟩ v3.rm)
    have lt305 : 305 < sN (mS (wA M1 308 G)) := (xw_ok305 wW).2.1
    refine ⟨A', M', T + 1, k1, k2, by omega, Nat.le_refl _, fin _ _ _ k1 k2 v1 fa fm ?_ ?_, less _ fa ?_ (fun k hk hks => ?_)⟩
    · rw [r8.2.2.2.2 330 (by omega), eA]
    · have e := fm.2.2.2.2.2 305 (xw_ok305 hW).2.1
      have e2 := v3.gen.2.2.2.2.2 305 lt305 (by
        unfold QLx
        have := (xw_ok304 wW).2.2
        show ¬ (sTy (mS (wA M1 308 G)) 304 = 6 ∨ (308 ≤ 305 ∧ 305 ≤ 312))
        omega)
      rw [e2]
      show (mA (wA M1 308 G)) 305 = _
      rw [mA_wA_ne (by decide), eM]
    · rw [pmi]
      unfold pm
      rw [r8.2.2.2.1 960 _ (by omega), r8.2.2.2.1 964 _ (by omega), fA _ _ (by omega), nA, if_neg (by rw [us]; decide), clampN (by omega)]
      omega
    · unfold pm
      rw [r8.2.2.2.1 960 _ (by omega), r8.2.2.2.1 964 _ (by omega), fA _ _ (by omega), fA _ _ (by omega)]
/-- a datagram is forgotten, in both -/
theorem sp_forget (fu : Nat) (hfu : 4200 ≤ fu) (h : JJ A M KN KS t T im ig F ek ty nw) {n : Nat} {s τ : Nat → Nat} (hD : JDa n nw s τ A M) (h0 : 0 < n) (hdue : dD A (s 0) = nw) :
    ∃ M', fX3_expire fu 314 (nI nw) M = some (1, M') ∧ JJ (sF A 832 (438 + 3 * s 0) 0) M' KN KS t T im ig F ek ty nw ∧ mu (sF A 832 (438 + 3 * s 0) 0) < mu A := by
  have n4 := hD.1.1
  have hW := h.xw
  have o := xw_ok314 hW
  obtain ⟨nr, nww, nd, nc, -, -, -, -, -, -, r3, -⟩ := h.xr
  have hr : ∀ j, j < n → ∃ q, mB M 316 j = some q ∧ okA M 2 q := fun j hj => by
    obtain ⟨d, d1, -⟩ := hD.2.2.2.2.2.2.2.1 j hj
    exact ⟨d, d1, (rowN_at r3 d1).2⟩
  obtain ⟨e, e1, e2, e3, e4⟩ := x_earlD fu hW hD (fun i q z => (rowN_at r3 z).2)
  have ee : e = nw := by
    rcases e4 with z | z
    · omega
    · rw [z.2.2]; exact hdue
  have hdr := x_dropDatagram hW (fu := fu) hD.2.1 n4 h0 hr (by omega)
  have s4 := hD.2.2.2.1 0 h0
  have k1 : fX3_expire fu 314 (nI nw) M = some (1, sF (wB M 316 (rotg (mB M 316) 0 n)) 208 314 (nI (n - 1))) := by
    unfold fX3_expire
    rw [rc_ok o, ob_some, e1, b2_some, ee, if_pos rfl, rc_ok o, ob_some, show (0 : Int32) = nI 0 from rfl, hdr, ob_some, rN1]
  refine ⟨_, k1, JJ_kept (u := 0) h (Kept_drop h.jl hD h0 h.jn h.ba (oX3_expire fu 314 _ M h.bm (by unfold RX; omega) k1).2), ?_⟩
  have f : ∀ g a, ¬ g = 832 → mF (sF A 832 (438 + 3 * s 0) 0) g a = mF A g a := fun g a hg => by rw [mF_sF, if_neg (fun z => hg z.1)]
  have e1 : su (cm (sF A 832 (438 + 3 * s 0) 0)) 16 = su (cm A) 16 := su_eq 16 (fun j hj => by
    unfold cm
    rw [f 768 _ (by decide), f 791 _ (by decide), f 798 _ (by decide)])
  have e2 : su (pm (sF A 832 (438 + 3 * s 0) 0)) 8 = su (pm A) 8 := su_eq 8 (fun j hj => by
    unfold pm
    rw [f 960 _ (by decide), f 964 _ (by decide)])
  have e3 : su (dm (sF A 832 (438 + 3 * s 0) 0)) 4 < su (dm A) 4 := su_lt (k := s 0) (by
    have f1 : mF (sF A 832 (438 + 3 * s 0) 0) 832 (438 + 3 * s 0) = 0 := by rw [mF_sF, if_pos ⟨rfl, rfl⟩]
    unfold dm
    rw [f1, if_pos rfl, hD.2.2.2.2.2.1 0 h0]
    decide) 4 s4 (fun j hj hjs => by
    have f1 : mF (sF A 832 (438 + 3 * s 0) 0) 832 (438 + 3 * j) = mF A 832 (438 + 3 * j) := by rw [mF_sF, if_neg (by omega)]
    unfold dm
    rw [f1])
  unfold mu
  omega
end Again
