/-! ===== part 71: packets that wait for their hop ===== -/
/-- a packet that waits, in both -/
def W1 (A M : Mm) (nw k q : Nat) : Prop := (mF A 961 (422 + 2 * k)) = (mF M 387 q) ∧ ∃ ln τ as, (mF A 962 (422 + 2 * k)) = nI ln ∧ (mF M 385 q) = nI (14 + ln) ∧ 28 ≤ ln ∧ ln ≤ 1500 ∧ (∀ j, j < ln → mA A (423 + 2 * k) j = mA M (q + 1) (14 + j)) ∧ (mF A 963 (422 + 2 * k)) = nI τ ∧ (mF M 386 q) = nI τ ∧ (mF A 964 (422 + 2 * k)) = nI as ∧ (mF M 388 q) = nI as ∧ 1 ≤ as ∧ as ≤ 3 ∧ τ ≤ nw ∧ nw ≤ τ + 1000 * as
/-- all that wait: place i of the class is place s i of the reference -/
def JWa (n O nw : Nat) (s o : Nat → Nat) (A M : Mm) : Prop := (n ≤ 8 ∧ nw ≤ 2000000000) ∧ (mF M 260 307) = nI n ∧ (mF A 1049 323) = nI O ∧ (mF A 1034 323) = nI nw ∧
  (∀ i, i < n → s i < 8) ∧ (∀ i j, i < n → j < n → s i = s j → i = j) ∧ (∀ i, i < n → (mF A 960 (422 + 2 * (s i))) = 1) ∧ (∀ k, k < 8 → (∀ i, i < n → s i ≠ k) → (mF A 960 (422 + 2 * k)) = 0) ∧
  (∀ i, i < n → ∃ q, mB M 313 i = some q ∧ W1 A M nw (s i) q) ∧ (∀ i j, i < j → j < n → o i < o j) ∧ (∀ i, i < n → o i ≤ O ∧ (mF A 965 (422 + 2 * (s i))) = nI (o i)) ∧ (∀ i j, i < n → j < n → (mF A 961 (422 + 2 * (s i))) = (mF A 961 (422 + 2 * (s j))) → i = j)
def JW (t T : Nat) (A M : Mm) : Prop := ∃ n O nw s o, (O ≤ T + t ∧ t ≤ 1000) ∧ JWa n O nw s o A M
section Hops
variable {A M A' M' : Mm}
theorem W1_congr {nw k q : Nat} (hA : ∀ f, 960 ≤ f → f < 966 → mF A' f (422 + 2 * k) = mF A f (422 + 2 * k)) (hAA : mA A' (423 + 2 * k) = mA A (423 + 2 * k)) (hF : ∀ f, 385 ≤ f → f < 389 → mF M' f q = mF M f q) (hM : mA M' (q + 1) = mA M (q + 1)) (h : W1 A M nw k q) : W1 A' M' nw k q := by
  unfold W1 at *
  rw [hA 961 (by decide) (by decide), hA 962 (by decide) (by decide), hA 963 (by decide) (by decide), hA 964 (by decide) (by decide), hAA, hF 385 (by decide) (by decide), hF 386 (by decide) (by decide), hF 387 (by decide) (by decide), hF 388 (by decide) (by decide), hM]
  exact h
theorem JWa_congr {n O nw : Nat} {s o : Nat → Nat} (hA : ∀ f a, 960 ≤ f → f < 966 → mF A' f a = mF A f a) (h49 : (mF A' 1049 323) = (mF A 1049 323)) (hN : (mF A' 1034 323) = (mF A 1034 323)) (hAA : ∀ a, 422 ≤ a → a < 438 → mA A' a = mA A a) (hw : (mF M' 260 307) = (mF M 260 307)) (hB : mB M' 313 = mB M 313)
    (hF : ∀ i q f, mB M 313 i = some q → 385 ≤ f → f < 389 → mF M' f q = mF M f q) (hM : ∀ i q, mB M 313 i = some q → mA M' (q + 1) = mA M (q + 1)) (h : JWa n O nw s o A M) : JWa n O nw s o A' M' := by
  obtain ⟨a1, a2, a3, a4, a5, a6, a7, a8, a9, a10, a11, a12⟩ := h
  refine ⟨a1, hw.trans a2, h49.trans a3, hN.trans a4, a5, a6, fun i hi => ?_, fun k hk h => ?_, fun i hi => ?_, a10, fun i hi => ⟨(a11 i hi).1, ?_⟩, fun i j hi hj => ?_⟩
  · rw [hA _ _ (by decide) (by decide)]; exact a7 i hi
  · rw [hA _ _ (by decide) (by decide)]; exact a8 k hk h
  · obtain ⟨q, q1, q2⟩ := a9 i hi
    have := a5 i hi
    exact ⟨q, by rw [hB]; exact q1, W1_congr (fun f h1 h2 => hA f _ h1 h2) (hAA _ (by omega) (by omega)) (fun f h1 h2 => hF i q f q1 h1 h2) (hM i q q1) q2⟩
  · rw [hA _ _ (by decide) (by decide)]; exact (a11 i hi).2
  · rw [hA _ _ (by decide) (by decide), hA _ _ (by decide) (by decide)]; exact a12 i j hi hj
theorem m_packet_step (h : RW A) (fu m : Nat) {j : Nat} {x : Int32} (hj : j < 8) (hno : (mF A 960 (422 + 2 * j)) = 0 ∨ (mF A 961 (422 + 2 * j)) ≠ x) : fX16_packet_L2 fu (m + 1) 323 x (nI j) A = fX16_packet_L2 fu m 323 x (nI (j + 1)) A := by
  have c : ¬ (8 : Int32) ≤ nI j := nI_ge (b := 8) hj (by omega)
  rw [fX16_packet_L2, if_neg c]
  simp only [gR_ok, rw_ok323 h, ob_some, rw_g1051_323 h]
  rw [gB_ok (rw_ok336 h) (by rw [rw_ln336 h]; exact hj) (by omega), ob_some, rw_pkB h j hj, gI_ok (rw_pkO h j hj), ob_some]
  unfold fX16_packet_L40
  rw [nI_1]
  by_cases hu : (mF A 960 (422 + 2 * j)) = 0
  · rw [if_pos hu]
  · rw [if_neg hu, ob_some, gI_ok (rw_pkO h j hj), ob_some, if_neg]
    rcases hno with q | q
    · exact absurd q hu
    · exact q
theorem m_packet_hit (h : RW A) (fu : Nat) {k : Nat} {x : Int32} (hk : k < 8) (hu : (mF A 960 (422 + 2 * k)) ≠ 0) (hn : (mF A 961 (422 + 2 * k)) = x) (hno : ∀ j, j < k → (mF A 960 (422 + 2 * j)) = 0 ∨ (mF A 961 (422 + 2 * j)) ≠ x) : ∀ m j, j ≤ k → k ≤ j + m → fX16_packet_L2 fu (m + 1) 323 x (nI j) A = some (some (422 + 2 * k), A) := by
  have fin : ∀ m, fX16_packet_L2 fu (m + 1) 323 x (nI k) A = some (some (422 + 2 * k), A) := by
    intro m
    have c : ¬ (8 : Int32) ≤ nI k := nI_ge (b := 8) hk (by omega)
    rw [fX16_packet_L2, if_neg c]
    simp only [gR_ok, rw_ok323 h, ob_some, rw_g1051_323 h]
    rw [gB_ok (rw_ok336 h) (by rw [rw_ln336 h]; exact hk) (by omega), ob_some, rw_pkB h k hk, gI_ok (rw_pkO h k hk), ob_some, if_neg hu, ob_some, gI_ok (rw_pkO h k hk), ob_some, if_pos hn, ob_some]
  intro m
  induction m with
  | zero => intro j h1 h2; obtain rfl : j = k := by omega
            exact fin 0
  | succ m ih =>
    intro j h1 h2
    by_cases e : j = k
    · subst e; exact fin _
    · rw [m_packet_step h fu _ (by omega) (hno j (by omega))]
      exact ih (j + 1) (by omega) (by omega)
theorem m_packet_none (h : RW A) (fu : Nat) {x : Int32} (hno : ∀ j, j < 8 → (mF A 960 (422 + 2 * j)) = 0 ∨ (mF A 961 (422 + 2 * j)) ≠ x) : ∀ m j, j ≤ 8 → 8 ≤ j + m → fX16_packet_L2 fu (m + 1) 323 x (nI j) A = some (none, A) := by
  have fin : ∀ m, fX16_packet_L2 fu (m + 1) 323 x (nI 8) A = some (none, A) := by
    intro m
    have c : (8 : Int32) ≤ nI 8 := by decide
    rw [fX16_packet_L2, if_pos c]
  intro m
  induction m with
  | zero => intro j h1 h2; obtain rfl : j = 8 := by omega
            exact fin 0
  | succ m ih =>
    intro j h1 h2
    by_cases e : j = 8
    · subst e; exact fin _
    · rw [m_packet_step h fu _ (by omega) (hno j (by omega))]
      exact ih (j + 1) (by omega) (by omega)
theorem x_waiter_step (h : XW M) (fu : Nat) {n j q : Nat} {x : Int32} (hn : n ≤ 8) (hw : (mF M 260 307) = nI n) (hj : j < n) (hq : mB M 313 j = some q) (hO : okA M 6 q) (m : Nat) : fX4_waiterFor_L2 fu (m + 1) 307 x (nI j) M = if (mF M 387 q) = x then some (nI j, M) else fX4_waiterFor_L2 fu m 307 x (nI (j + 1)) M := by
  have c1 : ¬ nI n ≤ nI j := nI_ge (by omega) (by omega)
  have c2 : ¬ (8 : Int32) ≤ nI j := nI_ge (b := 8) (by omega) (by omega)
  rw [fX4_waiterFor_L2, gI_ok (xw_ok307 h), ob_some, hw, if_neg c1, if_neg c2, gR_ok (xw_ok307 h), ob_some, xw_g270_307 h, gB_ok (xw_ok313 h) (by rw [xw_ln313 h]; omega) (by omega), ob_some, hq, if_neg (by simp), gI_ok hO, ob_some]
  unfold fX4_waiterFor_L37
  rw [nI_1]
theorem x_waiter_end (h : XW M) (fu : Nat) {n : Nat} {x : Int32} (hw : (mF M 260 307) = nI n) (m : Nat) : fX4_waiterFor_L2 fu (m + 1) 307 x (nI n) M = some (-1, M) := by
  rw [fX4_waiterFor_L2, gI_ok (xw_ok307 h), ob_some, hw, if_pos (Int32.le_refl _)]
/-- what waits for a hop, in both -/
theorem sp_waiter (hR : RW A) (hW : XW M) {n O nw nww : Nat} {s o : Nat → Nat} (hJ : JWa n O nw s o A M) (hrow : rowN M 313 6 nww) {fu : Nat} (hf : 9 ≤ fu) (x : Int32) :
    ((∀ i, i < n → (mF A 961 (422 + 2 * (s i))) ≠ x) ∧ fX16_packet fu 323 x A = some (none, A) ∧ fX4_waiterFor fu 307 x M = some (-1, M)) ∨ (∃ i, i < n ∧ (mF A 961 (422 + 2 * (s i))) = x ∧ fX16_packet fu 323 x A = some (some (422 + 2 * s i), A) ∧ fX4_waiterFor fu 307 x M = some (nI i, M)) := by
  obtain ⟨a1, a2, a3, a4, a5, a6, a7, a8, a9, a10, a11, a12⟩ := hJ
  obtain ⟨m, rfl⟩ : ∃ m, fu = m + 1 := ⟨fu - 1, by omega⟩
  unfold fX16_packet fX4_waiterFor
  have hx : ∀ i, i < n → ∃ q, mB M 313 i = some q ∧ okA M 6 q ∧ (mF M 387 q) = (mF A 961 (422 + 2 * (s i))) := by
    intro i hi
    obtain ⟨q, q1, q2⟩ := a9 i hi
    exact ⟨q, q1, (rowN_at hrow q1).2, q2.1.symm⟩
  rcases fst_or (fun i => (mF A 961 (422 + 2 * (s i))) = x) n with ⟨i, q1, q2, q3⟩ | q
  · right
    refine ⟨i, q1, q2, m_packet_hit hR _ (a5 i q1) (by rw [a7 i q1]; decide) q2 (fun j hj => ?_) m 0 (by omega) (by have := a5 i q1; omega), ?_⟩
    · by_cases e : (mF A 960 (422 + 2 * j)) = 0
      · exact Or.inl e
      · right
        intro hh
        by_cases ex : ∀ i', i' < n → s i' ≠ j
        · exact e (a8 j (by have := a5 i q1; omega) ex)
        · obtain ⟨i', z⟩ := Classical.not_forall.mp ex
          obtain ⟨z1, z2⟩ := Classical.not_imp.mp z
          have z3 : s i' = j := Classical.not_not.mp z2
          have z4 : i' = i := a12 i' i z1 q1 (by rw [z3, hh, q2])
          rw [z4] at z3
          omega
    · have : ∀ (fu0 : Nat) m j, j ≤ i → i ≤ j + m → fX4_waiterFor_L2 fu0 (m + 1) 307 x (nI j) M = some (nI i, M) := by
        intro fu0 m
        induction m with
        | zero =>
          intro j h1 h2
          obtain rfl : j = i := by omega
          obtain ⟨q, e1, e2, e3⟩ := hx j q1
          rw [x_waiter_step hW _ a1.1 a2 q1 e1 e2, if_pos (by rw [e3]; exact q2)]
        | succ m ih =>
          intro j h1 h2
          obtain ⟨q, e1, e2, e3⟩ := hx j (by omega)
          rw [x_waiter_step hW _ a1.1 a2 (by omega) e1 e2]
          by_cases e : j = i
          · subst e; rw [if_pos (by rw [e3]; exact q2)]
          · rw [if_neg (by rw [e3]; exact q3 j (by omega))]
            exact ih (j + 1) (by omega) (by omega)
      exact this _ m 0 (by omega) (by omega)
  · left
    refine ⟨q, m_packet_none hR _ (fun j hj => ?_) m 0 (by omega) (by omega), ?_⟩
    · by_cases e : (mF A 960 (422 + 2 * j)) = 0
      · exact Or.inl e
      · right
        intro hh
        by_cases ex : ∀ i', i' < n → s i' ≠ j
        · exact e (a8 j hj ex)
        · obtain ⟨i', z⟩ := Classical.not_forall.mp ex
          obtain ⟨z1, z2⟩ := Classical.not_imp.mp z
          have z3 : s i' = j := Classical.not_not.mp z2
          exact q i' z1 (by rw [z3, hh])
    · have : ∀ (fu0 : Nat) m j, j ≤ n → n ≤ j + m → fX4_waiterFor_L2 fu0 (m + 1) 307 x (nI j) M = some (-1, M) := by
        intro fu0 m
        induction m with
        | zero =>
          intro j h1 h2
          obtain rfl : j = n := by omega
          exact x_waiter_end hW _ a2 _
        | succ m ih =>
          intro j h1 h2
          by_cases e : j = n
          · subst e; exact x_waiter_end hW _ a2 _
          · obtain ⟨q', e1, e2, e3⟩ := hx j (by omega)
            rw [x_waiter_step hW _ a1.1 a2 (by omega) e1 e2, if_neg (by rw [e3]; exact q j (by omega))]
            exact ih (j + 1) (by omega) (by omega)
      exact this _ m 0 (by omega) (by omega)
end Hops
