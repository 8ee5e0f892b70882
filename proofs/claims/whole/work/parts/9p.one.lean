/-! ===== part 9p: one memory for both ===== -/
theorem RW_cel {A A1 : Mm} (h : RW A) (ok : ∀ t a, 323 ≤ a → a < 450 → okA A t a → okA A1 t a) (ln : ∀ a, 323 ≤ a → a < 450 → sLen (mS A1) a = sLen (mS A) a) (g : ∀ f a, 323 ≤ a → a < 450 → mG A1 f a = mG A f a) (b : ∀ a i, 323 ≤ a → a < 450 → mB A1 a i = mB A a i) : RW A1 := by
  obtain ⟨h0, h1, h2, h3, h4, h5, h6, h7, h8, h9, h10, h11, h12, h13, h14, h15, h16, h17, h18, h19, h20, h21, h22, h23, h24, h25, h26, h27, h28, h29, h30, h31, h32, h33, h34, h35, h36, h37, h38, h39, h40, h41, h42, h43, h44, h45, h46, h47, h48, h49, h50, h51, h52, h53, h54, h55, h56, h57, h58, h59, h60, h61, h62, h63, h64, h65, h66, h67, h68, h69, h70, h71, h72, h73, h74, h75, h76, h77, h78, h79, h80, -⟩ := h
  exact ⟨ok _ _ (by omega) (by omega) h0, (g _ _ (by omega) (by omega)).trans h1, (g _ _ (by omega) (by omega)).trans h2, (g _ _ (by omega) (by omega)).trans h3, (g _ _ (by omega) (by omega)).trans h4, (g _ _ (by omega) (by omega)).trans h5, (g _ _ (by omega) (by omega)).trans h6, (g _ _ (by omega) (by omega)).trans h7, (g _ _ (by omega) (by omega)).trans h8, (g _ _ (by omega) (by omega)).trans h9, (g _ _ (by omega) (by omega)).trans h10, (g _ _ (by omega) (by omega)).trans h11, (g _ _ (by omega) (by omega)).trans h12, (g _ _ (by omega) (by omega)).trans h13, (g _ _ (by omega) (by omega)).trans h14, (g _ _ (by omega) (by omega)).trans h15, (g _ _ (by omega) (by omega)).trans h16, (g _ _ (by omega) (by omega)).trans h17, (g _ _ (by omega) (by omega)).trans h18, ok _ _ (by omega) (by omega) h19, (ln _ (by omega) (by omega)).trans h20, ok _ _ (by omega) (by omega) h21, (ln _ (by omega) (by omega)).trans h22, ok _ _ (by omega) (by omega) h23, (ln _ (by omega) (by omega)).trans h24, ok _ _ (by omega) (by omega) h25, (ln _ (by omega) (by omega)).trans h26, ok _ _ (by omega) (by omega) h27, (ln _ (by omega) (by omega)).trans h28, ok _ _ (by omega) (by omega) h29, (ln _ (by omega) (by omega)).trans h30, ok _ _ (by omega) (by omega) h31, (ln _ (by omega) (by omega)).trans h32, ok _ _ (by omega) (by omega) h33, (ln _ (by omega) (by omega)).trans h34, ok _ _ (by omega) (by omega) h35, (ln _ (by omega) (by omega)).trans h36, ok _ _ (by omega) (by omega) h37, (ln _ (by omega) (by omega)).trans h38, ok _ _ (by omega) (by omega) h39, (ln _ (by omega) (by omega)).trans h40, ok _ _ (by omega) (by omega) h41, (ln _ (by omega) (by omega)).trans h42, ok _ _ (by omega) (by omega) h43, (ln _ (by omega) (by omega)).trans h44, ok _ _ (by omega) (by omega) h45, (ln _ (by omega) (by omega)).trans h46, ok _ _ (by omega) (by omega) h47, (ln _ (by omega) (by omega)).trans h48, ok _ _ (by omega) (by omega) h49, (ln _ (by omega) (by omega)).trans h50, ok _ _ (by omega) (by omega) h51, (ln _ (by omega) (by omega)).trans h52, ok _ _ (by omega) (by omega) h53, (ln _ (by omega) (by omega)).trans h54, fun k hk => (b _ _ (by omega) (by omega)).trans (h55 k hk), fun k hk => (b _ _ (by omega) (by omega)).trans (h56 k hk), fun k hk => (b _ _ (by omega) (by omega)).trans (h57 k hk), fun k hk => (b _ _ (by omega) (by omega)).trans (h58 k hk), fun k hk => ok _ _ (by omega) (by omega) (h59 k hk), fun k hk => ok _ _ (by omega) (by omega) (h60 k hk), fun k hk => ok _ _ (by omega) (by omega) (h61 k hk), fun k hk => ok _ _ (by omega) (by omega) (h62 k hk), fun k hk => (ln _ (by omega) (by omega)).trans (h63 k hk), fun k hk => (ln _ (by omega) (by omega)).trans (h64 k hk), fun k hk => (ln _ (by omega) (by omega)).trans (h65 k hk), fun k hk => (g _ _ (by omega) (by omega)).trans (h66 k hk), fun k hk => (g _ _ (by omega) (by omega)).trans (h67 k hk), fun k hk => (g _ _ (by omega) (by omega)).trans (h68 k hk), fun k hk => ok _ _ (by omega) (by omega) (h69 k hk), fun k hk => ok _ _ (by omega) (by omega) (h70 k hk), fun k hk => ok _ _ (by omega) (by omega) (h71 k hk), fun k hk => (ln _ (by omega) (by omega)).trans (h72 k hk), fun k hk => (g _ _ (by omega) (by omega)).trans (h73 k hk), fun k hk => ok _ _ (by omega) (by omega) (h74 k hk), fun k hk => ok _ _ (by omega) (by omega) (h75 k hk), fun k hk => (ln _ (by omega) (by omega)).trans (h76 k hk), fun k hk => ok _ _ (by omega) (by omega) (h77 k hk), fun k hk => (ln _ (by omega) (by omega)).trans (h78 k hk), fun k hk => (g _ _ (by omega) (by omega)).trans (h79 k hk), fun k hk => (g _ _ (by omega) (by omega)).trans (h80 k hk), trivial⟩
theorem XW_cel {A A1 : Mm} (h : XW A) (ok : ∀ t a, 300 ≤ a → a < 323 → okA A t a → okA A1 t a) (ln : ∀ a, 300 ≤ a → a < 323 → sLen (mS A1) a = sLen (mS A) a) (g : ∀ f a, 300 ≤ a → a < 323 → mG A1 f a = mG A f a) (b : ∀ a i, 300 ≤ a → a < 323 → mB A1 a i = mB A a i) : XW A1 := by
  obtain ⟨h0, h1, h2, h3, h4, h5, h6, h7, h8, h9, h10, h11, h12, h13, h14, h15, h16, h17, h18, h19, h20, h21, h22, h23, h24, h25, h26, h27, h28, h29, h30, h31, h32, h33, h34, h35, h36, h37, h38, h39, h40, h41, h42, h43, h44, h45, h46, h47, h48, h49, h50, h51, h52, h53, h54, h55, h56, h57, h58, h59, h60, h61, h62, h63, -⟩ := h
  exact ⟨ok _ _ (by omega) (by omega) h0, (g _ _ (by omega) (by omega)).trans h1, (g _ _ (by omega) (by omega)).trans h2, (g _ _ (by omega) (by omega)).trans h3, (g _ _ (by omega) (by omega)).trans h4, (g _ _ (by omega) (by omega)).trans h5, (g _ _ (by omega) (by omega)).trans h6, ok _ _ (by omega) (by omega) h7, ok _ _ (by omega) (by omega) h8, (ln _ (by omega) (by omega)).trans h9, ok _ _ (by omega) (by omega) h10, (ln _ (by omega) (by omega)).trans h11, ok _ _ (by omega) (by omega) h12, (g _ _ (by omega) (by omega)).trans h13, (g _ _ (by omega) (by omega)).trans h14, ok _ _ (by omega) (by omega) h15, (ln _ (by omega) (by omega)).trans h16, ok _ _ (by omega) (by omega) h17, (ln _ (by omega) (by omega)).trans h18, ok _ _ (by omega) (by omega) h19, (g _ _ (by omega) (by omega)).trans h20, (g _ _ (by omega) (by omega)).trans h21, (g _ _ (by omega) (by omega)).trans h22, (g _ _ (by omega) (by omega)).trans h23, (g _ _ (by omega) (by omega)).trans h24, (g _ _ (by omega) (by omega)).trans h25, (g _ _ (by omega) (by omega)).trans h26, ok _ _ (by omega) (by omega) h27, (ln _ (by omega) (by omega)).trans h28, ok _ _ (by omega) (by omega) h29, (ln _ (by omega) (by omega)).trans h30, ok _ _ (by omega) (by omega) h31, (ln _ (by omega) (by omega)).trans h32, ok _ _ (by omega) (by omega) h33, (ln _ (by omega) (by omega)).trans h34, ok _ _ (by omega) (by omega) h35, (ln _ (by omega) (by omega)).trans h36, ok _ _ (by omega) (by omega) h37, (ln _ (by omega) (by omega)).trans h38, ok _ _ (by omega) (by omega) h39, (g _ _ (by omega) (by omega)).trans h40, (g _ _ (by omega) (by omega)).trans h41, (g _ _ (by omega) (by omega)).trans h42, ok _ _ (by omega) (by omega) h43, (ln _ (by omega) (by omega)).trans h44, ok _ _ (by omega) (by omega) h45, (ln _ (by omega) (by omega)).trans h46, ok _ _ (by omega) (by omega) h47, (g _ _ (by omega) (by omega)).trans h48, (g _ _ (by omega) (by omega)).trans h49, (g _ _ (by omega) (by omega)).trans h50, (g _ _ (by omega) (by omega)).trans h51, (g _ _ (by omega) (by omega)).trans h52, ok _ _ (by omega) (by omega) h53, (ln _ (by omega) (by omega)).trans h54, ok _ _ (by omega) (by omega) h55, (g _ _ (by omega) (by omega)).trans h56, (g _ _ (by omega) (by omega)).trans h57, (g _ _ (by omega) (by omega)).trans h58, (g _ _ (by omega) (by omega)).trans h59, ok _ _ (by omega) (by omega) h60, (ln _ (by omega) (by omega)).trans h61, ok _ _ (by omega) (by omega) h62, (ln _ (by omega) (by omega)).trans h63, trivial⟩
section One
variable {A M A1 M1 : Mm} {KN KS t T im ig F ek ty nw : Nat}
/-- the reference's cells are the same in both -/
def SmR (A A1 : Mm) : Prop := (∀ f a, 323 ≤ a → a < 450 → mF A1 f a = mF A f a) ∧ (∀ f a, 323 ≤ a → a < 450 → mG A1 f a = mG A f a) ∧ (∀ a, 323 ≤ a → a < 450 → mA A1 a = mA A a) ∧ (∀ a i, 323 ≤ a → a < 450 → mB A1 a i = mB A a i) ∧ (∀ a, 323 ≤ a → a < 450 → sTy (mS A1) a = sTy (mS A) a ∧ sLen (mS A1) a = sLen (mS A) a) ∧ sN (mS A) ≤ sN (mS A1)
theorem SmR_of (h : Sm RX A A1) (h450 : 450 ≤ sN (mS A)) : SmR A A1 := by
  obtain ⟨a1, a2, a3, a4, a5, a6, -⟩ := h
  have n : ∀ a, 323 ≤ a → a < 450 → ¬ RX a := fun a h1 h2 => by unfold RX; omega
  exact ⟨fun f a h1 h2 => a1 f a (n a h1 h2), fun f a h1 h2 => a2 f a (n a h1 h2), fun a h1 h2 => funext (fun i => a3 a i (n a h1 h2)), fun a i h1 h2 => a4 a i (n a h1 h2), fun a h1 h2 => a5 a (by omega), a6⟩
theorem RW_sx (h : RW A) (s : SmR A A1) : RW A1 := by
  obtain ⟨a1, a2, a3, a4, a5, a6⟩ := s
  exact RW_cel h (fun t a h1 h2 ha => ⟨ha.1, by have := ha.2.1; omega, by rw [(a5 a h1 h2).1]; exact ha.2.2⟩) (fun a h1 h2 => (a5 a h1 h2).2) a2 a4
theorem JW_sx (hW : JW t T A M) (s : SmR A A1) : JW t T A1 M := by
  obtain ⟨n, O, nw', z, o, hO, a1, a2, a3, a4, a5, a6, a7, a8, a9, a10, a11, a12⟩ := hW
  obtain ⟨F, -, G, -, -, -⟩ := s
  refine ⟨n, O, nw', z, o, hO, a1, a2, (F _ _ (by decide) (by decide)).trans a3, (F _ _ (by decide) (by decide)).trans a4, a5, a6, fun i hi => ?_, fun k hk q => (F _ _ (by omega) (by omega)).trans (a8 k hk q), fun i hi => ?_, a10, fun i hi => ⟨(a11 i hi).1, ?_⟩, fun i j hi hj e => ?_⟩
  · have := a5 i hi
    exact (F _ _ (by omega) (by omega)).trans (a7 i hi)
  · have := a5 i hi
    obtain ⟨q, q1, q2⟩ := a9 i hi
    exact ⟨q, q1, W1_congr (A := A) (M := M) (fun f _ _ => F _ _ (by omega) (by omega)) (G _ (by omega) (by omega)) (fun _ _ _ => rfl) rfl q2⟩
  · have := a5 i hi
    exact (F _ _ (by omega) (by omega)).trans (a11 i hi).2
  · have := a5 i hi
    have := a5 j hj
    rw [F _ _ (by omega) (by omega), F _ _ (by omega) (by omega)] at e
    exact a12 i j hi hj e
theorem JD_sx (h : JD A M) (s : SmR A A1) : JD A1 M := by
  obtain ⟨n, nw', z, τ, a1, a2, a3, a4, a5, a6, a7, a8, a9, a10, a11⟩ := h
  obtain ⟨F, -, G, -, -, -⟩ := s
  have F' : ∀ f i, i < n → mF A1 f (438 + 3 * z i) = mF A f (438 + 3 * z i) := fun f i hi => by
    have := a4 i hi
    exact F _ _ (by omega) (by omega)
  refine ⟨n, nw', z, τ, a1, a2, (F _ _ (by decide) (by decide)).trans a3, a4, a5, fun i hi => (F' _ i hi).trans (a6 i hi), fun k hk q => (F _ _ (by omega) (by omega)).trans (a7 k hk q), fun i hi => ?_, fun i j h1 h2 => ?_, fun i hi => ?_, fun i j hi hj e1 e2 e3 => ?_⟩
  · have := a4 i hi
    obtain ⟨d, q1, q2⟩ := a8 i hi
    exact ⟨d, q1, D1_congr (A := A) (M := M) (fun f _ _ => F' f i hi) (G _ (by omega) (by omega)) (G _ (by omega) (by omega)) (fun _ _ _ => rfl) rfl rfl q2⟩
  · rw [F' _ i (by omega), F' _ j h2]
    exact a9 i j h1 h2
  · rw [F' _ i hi, F _ _ (by decide) (by decide)]
    exact a10 i hi
  · rw [F' _ i hi, F' _ j hj] at e1 e2 e3
    exact a11 i j hi hj e1 e2 e3
theorem JL0_sx (h : JL0 KN KS t T A M) (s : SmR A A1) : JL0 KN KS t T A1 M := by
  obtain ⟨hR, hW, hS, hX, hP, hQ, hE, hJ⟩ := h
  have s' := s
  obtain ⟨F, -, G, -, -, -⟩ := s'
  refine ⟨RW_sx hR s, hW, hS, hX, ?_, ?_, ?_, JW_sx hJ s⟩
  · exact JP_congr (A := A) (M := M) (fun f _ _ => ⟨F _ _ (by decide) (by decide), F _ _ (by decide) (by decide)⟩) (F _ _ (by decide) (by decide)) (F _ _ (by decide) (by decide)) (fun _ _ _ _ _ => rfl) rfl rfl hP
  · exact JQ_congr (A := A) (M := M) (F _ _ (by decide) (by decide)) (fun a h1 h2 => G a (by omega) (by omega)) rfl rfl (fun _ _ _ => ⟨rfl, rfl, rfl⟩) hQ
  · obtain ⟨n, e1, e2, e3, e4, e5⟩ := hE
    refine ⟨n, e1, e2, fun k hk => (F _ _ (by omega) (by omega)).trans (e3 k hk), fun k h1 h2 => (F _ _ (by omega) (by omega)).trans (e4 k h1 h2), fun k hk => ?_⟩
    rw [F _ _ (by omega) (by omega), F _ _ (by omega) (by omega), F _ _ (by omega) (by omega), F _ _ (by omega) (by omega)]
    exact e5 k hk
/-- the reference's half may be read in another memory -/
theorem JJ_sx (h : JJ A M KN KS t T im ig F ek ty nw) (s : SmR A A1) (b : Bd RM TM A1) : JJ A1 M KN KS t T im ig F ek ty nw := by
  have s' := s
  obtain ⟨F1, -, G, -, -, -⟩ := s'
  exact JJ_gen (u := 0) h (JL0_sx h.jl s) b h.bm (fun i hi => by rw [G 330 (by decide) (by decide)]; exact h.jn i hi) (JD_sx h.jd s) (fun f k hk _ _ => F1 _ _ (by omega) (by omega)) (fun a h1 h2 => G a (by omega) (by omega)) (fun a h1 h2 => G a (by omega) (by omega)) (fun f _ => F1 _ _ (by decide) (by decide)) (by rw [G 330 (by decide) (by decide)]) (fun t a ha => ⟨ha, rfl⟩) (fun _ _ => rfl) rfl (fun c _ => ⟨fun _ _ _ _ => rfl, rfl, rfl, rfl⟩) ⟨rfl, rfl, rfl, rfl, rfl, rfl⟩ (fun _ _ _ _ _ _ => rfl)
/-- the class's half may be read in another memory -/
theorem JJ_sm (h : JJ A M KN KS t T im ig F ek ty nw) (s : Sm RM M M1) (b : Bd RX TX M1) : JJ A M1 KN KS t T im ig F ek ty nw := by
  obtain ⟨a1, a2, a3, a4, -, -, a7, -⟩ := s
  have hW := h.xw
  have bm := h.bm
  have eS : mS M1 = mS M := a7 (by unfold RM; omega)
  have n : ∀ a, RX a → ¬ RM a := fun a h => by unfold RX at h; unfold RM; omega
  have f1 : ∀ f a, RX a → mF M1 f a = mF M f a := fun f a ha => a1 f a (n a ha)
  have g1 : ∀ f a, RX a → mG M1 f a = mG M f a := fun f a ha => a2 f a (n a ha)
  have e1 : ∀ a, RX a → mA M1 a = mA M a := fun a ha => funext (fun i => a3 a i (n a ha))
  have b1 : ∀ a, RX a → mB M1 a = mB M a := fun a ha => funext (fun i => a4 a i (n a ha))
  have ok : ∀ t a, okA M t a → okA M1 t a := fun t a ha => by unfold okA at *; rw [eS]; exact ha
  have ok' : ∀ t a, okA M1 t a → okA M t a := fun t a ha => by unfold okA at *; rw [← eS]; exact ha
  have rx : ∀ t a, okA M t a → t ≤ 11 → RX a := fun t a ha ht => bm.1 a t ha ht
  have r3 : ∀ a, 300 ≤ a → a < 323 → RX a := fun a h1 h2 => by unfold RX; omega
  have hW1 : XW M1 := XW_cel hW (fun t a _ _ ha => ok t a ha) (fun a _ _ => by rw [eS]) (fun f a h1 h2 => g1 f a (r3 a h1 h2)) (fun a i h1 h2 => by rw [b1 a (r3 a h1 h2)])
  have pk : ∀ p, okA M 6 p → RX p ∧ RX (p + 1) := fun p hp => ⟨rx 6 p hp (by decide), bm.2.1 _ _ _ (rx 6 p hp (by decide)) (h.xs.1 p hp).1⟩
  have dg : ∀ d, okA M 2 d → RX d ∧ RX (d + 1) ∧ RX (d + 2) := fun d hd => ⟨rx 2 d hd (by decide), bm.2.1 _ _ _ (rx 2 d hd (by decide)) (h.xs.2.1 d hd).1, bm.2.1 _ _ _ (rx 2 d hd (by decide)) (h.xs.2.1 d hd).2.1⟩
  have cn : ∀ c, okA M 1 c → RX c ∧ RX (c + 1) ∧ RX (c + 2) ∧ RX (c + 3) ∧ RX (c + 4) ∧ RX (c + 5) := fun c hc => by
    obtain ⟨k1, k2, k3, -, -, -, k7, k8, -⟩ := h.xs.2.2 c hc
    have q0 := rx 1 c hc (by decide)
    have q2 := bm.2.1 _ _ _ q0 k2
    exact ⟨q0, bm.2.1 _ _ _ q0 k1, q2, bm.2.1 _ _ _ q2 k7, bm.2.1 _ _ _ q2 k8, bm.2.1 _ _ _ q0 k3⟩
  have hS1 : XS M1 := by
    refine ⟨fun p hp => ?_, fun d hd => ?_, fun c hc => ?_⟩
    · have := ok' _ _ hp
      obtain ⟨k1, k2, k3⟩ := h.xs.1 p this
      exact ⟨by rw [g1 _ _ (pk p this).1]; exact k1, ok _ _ k2, by rw [eS]; exact k3⟩
    · have := ok' _ _ hd
      obtain ⟨k1, k2, k3, k4, k5, k6⟩ := h.xs.2.1 d this
      exact ⟨by rw [g1 _ _ (dg d this).1]; exact k1, by rw [g1 _ _ (dg d this).1]; exact k2, ok _ _ k3, by rw [eS]; exact k4, ok _ _ k5, by rw [eS]; exact k6⟩
    · have := ok' _ _ hc
      obtain ⟨k1, k2, k3, k4, k5, k6, k7, k8, k9, k10, k11, k12, k13⟩ := h.xs.2.2 c this
      obtain ⟨q0, q1, q2, q3, q4, q5⟩ := cn c this
      exact ⟨by rw [g1 _ _ q0]; exact k1, by rw [g1 _ _ q0]; exact k2, by rw [g1 _ _ q0]; exact k3, ok _ _ k4, by rw [eS]; exact k5, ok _ _ k6, by rw [g1 _ _ q2]; exact k7, by rw [g1 _ _ q2]; exact k8, ok _ _ k9, by rw [eS]; exact k10, ok _ _ k11, by rw [eS]; exact k12, ok _ _ k13⟩
  obtain ⟨nr, nw', nd, nc, x1, x2, x3, x4, r6, r13, r16, r18, x5⟩ := h.xr
  have hX1 : XRR KN KS M1 := by
    refine ⟨nr, nw', nd, nc, x1, x2, x3, x4, rowN_same (b1 306 (r3 _ (by decide) (by decide))) (fun a q => ok _ _ q) r6, rowN_same (b1 313 (r3 _ (by decide) (by decide))) (fun a q => ok _ _ q) r13, rowN_same (b1 316 (r3 _ (by decide) (by decide))) (fun a q => ok _ _ q) r16, rowN_same (b1 318 (r3 _ (by decide) (by decide))) (fun a q => ok _ _ q) r18, ?_⟩
    rw [b1 306 (r3 _ (by decide) (by decide)), b1 313 (r3 _ (by decide) (by decide)), eS]
    exact x5
  have ar : ∀ x, okA M 100 x → RX x → mA M1 x = mA M x := fun x _ q => e1 x q
  refine JJ_gen (u := 0) h ?_ h.ba b (fun i hi => by rw [e1 305 (r3 _ (by decide) (by decide))]; exact h.jn i hi) ?_ (fun _ _ _ _ _ => rfl) (fun _ _ _ => rfl) (fun _ _ _ => rfl) (fun _ _ => rfl) rfl (fun t a ha => ⟨ok t a ha, by rw [eS]⟩) (fun _ _ => by rw [eS]) (b1 318 (r3 _ (by decide) (by decide))) (fun c hC => ?_) ⟨g1 _ _ (r3 _ (by decide) (by decide)), g1 _ _ (r3 _ (by decide) (by decide)), f1 _ _ (r3 _ (by decide) (by decide)), g1 _ _ (r3 _ (by decide) (by decide)), f1 _ _ (r3 _ (by decide) (by decide)), f1 _ _ (r3 _ (by decide) (by decide))⟩ ?_
  · exact JL0_keep (u := 0) h.jl h.t1000 h.rw' hW1 hS1 hX1 (fun _ _ _ => rfl) (fun O e => ⟨O, e, Nat.le_refl _, Nat.le_refl _⟩) (fun _ _ => rfl) (fun f _ _ => f1 f _ (r3 _ (by decide) (by decide))) (fun f _ _ => f1 f _ (r3 _ (by decide) (by decide))) (fun p hp => ⟨fun f _ _ => f1 f p (pk p hp).1, e1 _ (pk p hp).2⟩) (fun a h1 h2 => e1 a (r3 _ (by omega) (by omega))) (b1 306 (r3 _ (by decide) (by decide))) (b1 313 (r3 _ (by decide) (by decide)))
  · obtain ⟨m, nw1, s, τ, hD⟩ := h.jd
    refine ⟨m, nw1, s, τ, JDa_congr (A := A) (M := M) (fun _ _ _ _ => rfl) rfl (Int32.le_refl _) (fun _ _ _ => rfl) (f1 _ _ (r3 _ (by decide) (by decide))) (b1 316 (r3 _ (by decide) (by decide))) (fun i d _ hd => ?_) hD⟩
    obtain ⟨d1, d2, d3⟩ := dg d (rowN_at r16 hd).2
    exact ⟨fun f _ _ => f1 f d d1, e1 _ d2, e1 _ d3⟩
  · obtain ⟨q0, q1, q2, q3, q4, q5⟩ := cn c hC.1
    exact ⟨fun f o ho _ => by rcases ho with z | z | z <;> rw [z] <;> apply f1 <;> assumption, e1 _ q1, e1 _ q3, e1 _ q4⟩
  · intro x q _ _ _ _
    exact e1 x q
end One
