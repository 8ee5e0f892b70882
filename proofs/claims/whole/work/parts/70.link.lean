/-! ===== part 70: the link: what is known of hops, what waits for them ===== -/
/-- our numbers and the present time -/
def JP (A M : Mm) : Prop := (mF A 1029 323) = (mF M 257 307) ∧ (mF A 1031 323) = (mF M 263 307) ∧ (mF A 1032 323) = (mF M 258 307) ∧ (mF A 1033 323) = (mF M 259 307) ∧ (∃ n, (mF A 1034 323) = nI n ∧ (mF M 641 304) = nI n ∧ n ≤ 2000000000) ∧ (mF A 1042 323) = 0 ∧ (mF M 643 304) = 0 ∧
  (∃ b, 8 ≤ b ∧ b ≤ 30 ∧ (mF A 1030 323) = nI b ∧ (mF M 262 307) = (-1 : Int32) <<< (nI (32 - b) &&& 31)) ∧ (∃ i, i < 65536 ∧ (mF A 1048 323) = nI i ∧ (mF M 264 307) = nI ((i + 1) % 65536))
/-- the cache -/
def JE (A M : Mm) : Prop := ∃ n, n ≤ 16 ∧ (mF M 265 307) = nI n ∧ (∀ k, k < n → (mF A 896 (406 + k)) = 1) ∧ (∀ k, n ≤ k → k < 16 → (mF A 896 (406 + k)) = 0) ∧ ∀ k, k < n → (mF A 897 (406 + k)) = mA M 309 k ∧ (mF A 898 (406 + k)) = mA M 310 k ∧ (mF A 899 (406 + k)) = mA M 311 k ∧ (mF A 900 (406 + k)) = mA M 312 k
/-- first place at which something holds, or none -/
theorem fst_or (P : Nat → Prop) (n : Nat) : (∃ k, k < n ∧ P k ∧ ∀ j, j < k → ¬ P j) ∨ (∀ k, k < n → ¬ P k) := by
  induction n with
  | zero => exact Or.inr (fun k h => absurd h (by omega))
  | succ n ih =>
    rcases ih with ⟨k, h1, h2, h3⟩ | h
    · exact Or.inl ⟨k, by omega, h2, h3⟩
    · by_cases hn : P n
      · exact Or.inl ⟨n, by omega, hn, h⟩
      · refine Or.inr (fun k hk => ?_)
        by_cases e : k = n
        · rw [e]; exact hn
        · exact h k (by omega)
section Cache
variable {A M : Mm}
theorem m_entry_step (h : RW A) (fu m : Nat) {j : Nat} {x : Int32} (hj : j < 16) (hno : (mF A 896 (406 + j)) = 0 ∨ (mF A 897 (406 + j)) ≠ x) : fX16_entry_L2 fu (m + 1) 323 x (nI j) A = fX16_entry_L2 fu m 323 x (nI (j + 1)) A := by
  have c : ¬ (16 : Int32) ≤ nI j := nI_ge (b := 16) hj (by omega)
  rw [fX16_entry_L2, if_neg c]
  simp only [gR_ok, rw_ok323 h, ob_some, rw_g1050_323 h]
  rw [gB_ok (rw_ok335 h) (by rw [rw_ln335 h]; exact hj) (by omega), ob_some, rw_enB h j hj, gI_ok (rw_enO h j hj), ob_some]
  unfold fX16_entry_L40
  rw [nI_1]
  by_cases hu : (mF A 896 (406 + j)) = 0
  · rw [if_pos hu]
  · rw [if_neg hu, ob_some, gI_ok (rw_enO h j hj), ob_some, if_neg]
    rcases hno with q | q
    · exact absurd q hu
    · exact q
theorem m_entry_hit (h : RW A) (fu : Nat) {k : Nat} {x : Int32} (hk : k < 16) (hu : (mF A 896 (406 + k)) ≠ 0) (hn : (mF A 897 (406 + k)) = x) (hno : ∀ j, j < k → (mF A 896 (406 + j)) = 0 ∨ (mF A 897 (406 + j)) ≠ x) : ∀ m j, j ≤ k → k ≤ j + m → fX16_entry_L2 fu (m + 1) 323 x (nI j) A = some (some (406 + k), A) := by
  have fin : ∀ m, fX16_entry_L2 fu (m + 1) 323 x (nI k) A = some (some (406 + k), A) := by
    intro m
    have c : ¬ (16 : Int32) ≤ nI k := nI_ge (b := 16) hk (by omega)
    rw [fX16_entry_L2, if_neg c]
    simp only [gR_ok, rw_ok323 h, ob_some, rw_g1050_323 h]
    rw [gB_ok (rw_ok335 h) (by rw [rw_ln335 h]; exact hk) (by omega), ob_some, rw_enB h k hk, gI_ok (rw_enO h k hk), ob_some, if_neg hu, ob_some, gI_ok (rw_enO h k hk), ob_some, if_pos hn, ob_some]
  intro m
  induction m with
  | zero => intro j h1 h2; obtain rfl : j = k := by omega
            exact fin 0
  | succ m ih =>
    intro j h1 h2
    by_cases e : j = k
    · subst e; exact fin _
    · rw [m_entry_step h fu _ (by omega) (hno j (by omega))]
      exact ih (j + 1) (by omega) (by omega)
theorem m_entry_none (h : RW A) (fu : Nat) {x : Int32} (hno : ∀ j, j < 16 → (mF A 896 (406 + j)) = 0 ∨ (mF A 897 (406 + j)) ≠ x) : ∀ m j, j ≤ 16 → 16 ≤ j + m → fX16_entry_L2 fu (m + 1) 323 x (nI j) A = some (none, A) := by
  have fin : ∀ m, fX16_entry_L2 fu (m + 1) 323 x (nI 16) A = some (none, A) := by
    intro m
    have c : (16 : Int32) ≤ nI 16 := by decide
    rw [fX16_entry_L2, if_pos c]
  intro m
  induction m with
  | zero => intro j h1 h2; obtain rfl : j = 16 := by omega
            exact fin 0
  | succ m ih =>
    intro j h1 h2
    by_cases e : j = 16
    · subst e; exact fin _
    · rw [m_entry_step h fu _ (by omega) (hno j (by omega))]
      exact ih (j + 1) (by omega) (by omega)
theorem x_entry_hit (h : XW M) (fu : Nat) {n k : Nat} {x : Int32} (hn : n ≤ 16) (he : (mF M 265 307) = nI n) (hk : k < n) (hx : mA M 309 k = x) (hno : ∀ j, j < k → mA M 309 j ≠ x) : ∀ m j, j ≤ k → k ≤ j + m → fX4_entryOf_L2 fu (m + 1) 307 x (nI j) M = some (nI k, M) := by
  have stp : ∀ m j, j ≤ k → fX4_entryOf_L2 fu (m + 1) 307 x (nI j) M = if mA M 309 j = x then some (nI j, M) else fX4_entryOf_L2 fu m 307 x (nI (j + 1)) M := by
    intro m j hj
    have c1 : ¬ nI n ≤ nI j := nI_ge (by omega) (by omega)
    have c2 : ¬ (16 : Int32) ≤ nI j := nI_ge (b := 16) (by omega) (by omega)
    rw [fX4_entryOf_L2, gI_ok (xw_ok307 h), ob_some, he, if_neg c1, if_neg c2, gR_ok (xw_ok307 h), ob_some, xw_g266_307 h, gA_ok (xw_ok309 h) (by rw [xw_ln309 h]; omega) (by omega), ob_some, nI_1]
  intro m
  induction m with
  | zero => intro j h1 h2; obtain rfl : j = k := by omega
            rw [stp 0 j h1, if_pos hx]
  | succ m ih =>
    intro j h1 h2
    by_cases e : j = k
    · subst e; rw [stp _ j h1, if_pos hx]
    · rw [stp _ j h1, if_neg (hno j (by omega))]
      exact ih (j + 1) (by omega) (by omega)
theorem x_entry_none (h : XW M) (fu : Nat) {n : Nat} {x : Int32} (hn : n ≤ 16) (he : (mF M 265 307) = nI n) (hno : ∀ j, j < n → mA M 309 j ≠ x) : ∀ m j, j ≤ n → n ≤ j + m → fX4_entryOf_L2 fu (m + 1) 307 x (nI j) M = some (-1, M) := by
  intro m
  induction m with
  | zero => intro j h1 h2; obtain rfl : j = n := by omega
            rw [fX4_entryOf_L2, gI_ok (xw_ok307 h), ob_some, he, if_pos (Int32.le_refl _)]
  | succ m ih =>
    intro j h1 h2
    by_cases e : j = n
    · subst e; rw [fX4_entryOf_L2, gI_ok (xw_ok307 h), ob_some, he, if_pos (Int32.le_refl _)]
    · have c1 : ¬ nI n ≤ nI j := nI_ge (by omega) (by omega)
      have c2 : ¬ (16 : Int32) ≤ nI j := nI_ge (b := 16) (by omega) (by omega)
      rw [fX4_entryOf_L2, gI_ok (xw_ok307 h), ob_some, he, if_neg c1, if_neg c2, gR_ok (xw_ok307 h), ob_some, xw_g266_307 h, gA_ok (xw_ok309 h) (by rw [xw_ln309 h]; omega) (by omega), ob_some, nI_1, if_neg (hno j (by omega))]
      exact ih (j + 1) (by omega) (by omega)
/-- the entry of a number, in both -/
theorem sp_entry (hR : RW A) (hW : XW M) (hE : JE A M) {fu : Nat} (hf : 17 ≤ fu) (x : Int32) :
    (fX16_entry fu 323 x A = some (none, A) ∧ fX4_entryOf fu 307 x M = some (-1, M)) ∨ (∃ k n, k < n ∧ n ≤ 16 ∧ (mF M 265 307) = nI n ∧ fX16_entry fu 323 x A = some (some (406 + k), A) ∧ fX4_entryOf fu 307 x M = some (nI k, M)) := by
  obtain ⟨n, n16, he, h1, h2, h3⟩ := hE
  obtain ⟨m, rfl⟩ : ∃ m, fu = m + 1 := ⟨fu - 1, by omega⟩
  unfold fX16_entry fX4_entryOf
  rcases fst_or (fun k => mA M 309 k = x) n with ⟨k, q1, q2, q3⟩ | q
  · right
    refine ⟨k, n, q1, n16, he, m_entry_hit hR _ (by omega) (by rw [h1 k q1]; decide) ((h3 k q1).1.trans q2) (fun j hj => Or.inr ?_) m 0 (by omega) (by omega), x_entry_hit hW _ n16 he q1 q2 q3 m 0 (by omega) (by omega)⟩
    rw [(h3 j (by omega)).1]
    exact q3 j hj
  · left
    refine ⟨m_entry_none hR _ (fun j hj => ?_) m 0 (by omega) (by omega), x_entry_none hW _ n16 he q m 0 (by omega) (by omega)⟩
    by_cases e : j < n
    · right; rw [(h3 j e).1]; exact q j e
    · left; exact h2 j (by omega) hj
theorem sp_counting (hR : RW A) (hW : XW M) (hE : JE A M) (hN : (mF A 1034 323) = (mF M 641 304)) {fu : Nat} (hf : 17 ≤ fu) (x : Int32) :
    (fX16_counting fu 323 x A = some (none, A) ∧ fX4_counting fu 307 x M = some (-1, M)) ∨ (∃ k, k < 16 ∧ fX16_counting fu 323 x A = some (some (406 + k), A) ∧ fX4_counting fu 307 x M = some (nI k, M) ∧ (mF A 898 (406 + k)) = mA M 310 k ∧ (mF A 899 (406 + k)) = mA M 311 k) := by
  have hE' := hE
  obtain ⟨n, n16, he, h1, h2, h3⟩ := hE'
  unfold fX16_counting fX4_counting
  rw [rc_ok (rw_ok323 hR), rc_ok (xw_ok307 hW), ob_some, ob_some]
  rcases sp_entry hR hW hE hf x with ⟨q1, q2⟩ | ⟨k, n', hk, hn', he', q1, q2⟩
  · left
    rw [q1, q2, b2_some, b2_some, if_pos rfl, if_pos (by decide)]
    exact ⟨rfl, rfl⟩
  · have en : n = n' := by
      have := he.symm.trans he'
      exact (nI_eq (by omega) (by omega)).mp this
    subst en
    have e4 := (h3 k hk).2.2.2
    rw [q1, q2, b2_some, b2_some, if_neg (by simp), if_neg (nI_pos (by omega)), gI_ok (rw_ok323 hR), ob_some, gI_ok (rw_enO hR k (by omega)), ob_some, gR_ok (xw_ok307 hW), ob_some, xw_g261_307 hW, gI_ok (xw_ok304 hW), ob_some, gR_ok (xw_ok307 hW), ob_some, xw_g269_307 hW, gA_ok (xw_ok312 hW) (by rw [xw_ln312 hW]; omega) (by omega), ob_some, hN, e4]
    by_cases c : (60000 : Int32) ≤ (mF M 641 304) - mA M 312 k
    · left
      rw [if_pos c, if_pos c]
      exact ⟨rfl, rfl⟩
    · right
      refine ⟨k, by omega, ?_, ?_, (h3 k hk).2.1, (h3 k hk).2.2.1⟩
      · rw [if_neg c]
      · rw [if_neg c]
end Cache
