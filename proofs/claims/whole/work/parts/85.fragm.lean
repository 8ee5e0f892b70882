/-! ===== part 85: fragments in the reference ===== -/
section FragM
variable {A : Mm}
theorem m_dgB (h : RW A) {j : Nat} (hj : j < 4) : gB A 123 (some 337) (nI j) = some (some (438 + 3 * j)) := by
  rw [gB_ok (rw_ok337 h) (by rw [rw_ln337 h]; exact hj) (by omega), rw_dgB h j hj]
/-- a datagram in the making that the fragment belongs to -/
def dgM (A : Mm) (x id p : Int32) (j : Nat) : Prop := (mF A 832 (438 + 3 * j)) ≠ 0 ∧ (mF A 833 (438 + 3 * j)) = x ∧ (mF A 834 (438 + 3 * j)) = id ∧ (mF A 835 (438 + 3 * j)) = p
theorem m_frag_step (h : RW A) (fu m : Nat) {j : Nat} (hj : j < 4) (x p o at' n mo id : Int32) (a8 a9 a8' a9' : Option Nat) (h8 : (dgM A x id p j ∧ a8' = some (438 + 3 * j)) ∨ (¬ dgM A x id p j ∧ a8' = a8)) (h9 : ((mF A 832 (438 + 3 * j)) = 0 ∧ a9' = some (438 + 3 * j)) ∨ ((mF A 832 (438 + 3 * j)) ≠ 0 ∧ a9' = a9)) :
    fX16_fragment_L17 fu (m + 1) 323 x p o at' n mo id a8 a9 (nI j) A = fX16_fragment_L17 fu m 323 x p o at' n mo id a8' a9' (nI j + (-1 : Int32)) A := by
  rw [fX16_fragment_L17, if_neg (nI_pos (by omega))]
  unfold fX16_fragment_L78
  simp only [gR_ok (rw_ok323 h), rw_g1052_323 h, m_dgB h hj, gI_ok (rw_dgO h j hj), ob_some]
  unfold dgM at h8
  by_cases c1 : (mF A 832 (438 + 3 * j)) = 0
  · rw [if_pos c1]
    rcases h8 with ⟨⟨e, -⟩, -⟩ | ⟨-, rfl⟩
    · exact absurd c1 e
    · rcases h9 with ⟨-, rfl⟩ | ⟨e, -⟩
      · rfl
      · exact absurd c1 e
  · rw [if_neg c1]
    have e9 : a9' = a9 := by
      rcases h9 with ⟨e, -⟩ | ⟨-, e⟩
      · exact absurd e c1
      · exact e
    subst e9
    by_cases c2 : (mF A 833 (438 + 3 * j)) = x
    · rw [if_pos c2]
      by_cases c3 : (mF A 834 (438 + 3 * j)) = id
      · rw [if_pos c3]
        by_cases c4 : (mF A 835 (438 + 3 * j)) = p
        · rw [if_pos c4]
          rcases h8 with ⟨-, rfl⟩ | ⟨e, -⟩
          · rfl
          · exact absurd ⟨c1, c2, c3, c4⟩ e
        · rw [if_neg c4]
          rcases h8 with ⟨e, -⟩ | ⟨-, rfl⟩
          · exact absurd e.2.2.2 c4
          · rfl
      · rw [if_neg c3]
        rcases h8 with ⟨e, -⟩ | ⟨-, rfl⟩
        · exact absurd e.2.2.1 c3
        · rfl
    · rw [if_neg c2]
      rcases h8 with ⟨e, -⟩ | ⟨-, rfl⟩
      · exact absurd e.2.1 c2
      · rfl
/-- after the four places were looked at -/
theorem m_frag_find (h : RW A) {fu : Nat} (hf : 6 ≤ fu) (x p o at' n mo id : Int32) : ∃ m a8 a9, fX16_fragment_L17 fu fu 323 x p o at' n mo id none none 3 A = fX16_fragment_L17 fu (m + 1) 323 x p o at' n mo id a8 a9 (-1) A ∧
    ((∃ k, k < 4 ∧ dgM A x id p k ∧ a8 = some (438 + 3 * k)) ∨ ((∀ k, k < 4 → ¬ dgM A x id p k) ∧ a8 = none)) ∧ ((∃ k, k < 4 ∧ (mF A 832 (438 + 3 * k)) = 0 ∧ (∀ j, j < k → (mF A 832 (438 + 3 * j)) ≠ 0) ∧ a9 = some (438 + 3 * k)) ∨ ((∀ k, k < 4 → (mF A 832 (438 + 3 * k)) ≠ 0) ∧ a9 = none)) := by
  have st : ∀ j, j < 4 → ∀ a8 a9, ∃ a8' a9', (∀ m, fX16_fragment_L17 fu (m + 1) 323 x p o at' n mo id a8 a9 (nI j) A = fX16_fragment_L17 fu m 323 x p o at' n mo id a8' a9' (nI j + (-1 : Int32)) A) ∧ ((dgM A x id p j ∧ a8' = some (438 + 3 * j)) ∨ (¬ dgM A x id p j ∧ a8' = a8)) ∧ (((mF A 832 (438 + 3 * j)) = 0 ∧ a9' = some (438 + 3 * j)) ∨ ((mF A 832 (438 + 3 * j)) ≠ 0 ∧ a9' = a9)) := by
    intro j hj a8 a9
    have q8 : ∃ a8', (dgM A x id p j ∧ a8' = some (438 + 3 * j)) ∨ (¬ dgM A x id p j ∧ a8' = a8) := by
      by_cases c : dgM A x id p j
      · exact ⟨_, Or.inl ⟨c, rfl⟩⟩
      · exact ⟨_, Or.inr ⟨c, rfl⟩⟩
    have q9 : ∃ a9', ((mF A 832 (438 + 3 * j)) = 0 ∧ a9' = some (438 + 3 * j)) ∨ ((mF A 832 (438 + 3 * j)) ≠ 0 ∧ a9' = a9) := by
      by_cases c : (mF A 832 (438 + 3 * j)) = 0
      · exact ⟨_, Or.inl ⟨c, rfl⟩⟩
      · exact ⟨_, Or.inr ⟨c, rfl⟩⟩
    obtain ⟨a8', h8⟩ := q8
    obtain ⟨a9', h9⟩ := q9
    exact ⟨a8', a9', fun m => m_frag_step h fu m hj x p o at' n mo id a8 a9 a8' a9' h8 h9, h8, h9⟩
  obtain ⟨b3, c3, s3, d3, e3⟩ := st 3 (by decide) none none
  obtain ⟨b2, c2, s2, d2, e2⟩ := st 2 (by decide) b3 c3
  obtain ⟨b1, c1, s1, d1, e1⟩ := st 1 (by decide) b2 c2
  obtain ⟨b0, c0, s0, d0, e0⟩ := st 0 (by decide) b1 c1
  refine ⟨fu - 5, b0, c0, ?_, ?_, ?_⟩
  · have t3 := s3 (fu - 1)
    rw [show fu - 1 + 1 = fu by omega] at t3
    refine Eq.trans t3 ?_
    have t2 := s2 (fu - 2)
    rw [show fu - 2 + 1 = fu - 1 by omega] at t2
    refine Eq.trans t2 ?_
    have t1 := s1 (fu - 3)
    rw [show fu - 3 + 1 = fu - 2 by omega] at t1
    refine Eq.trans t1 ?_
    have t0 := s0 (fu - 4)
    rw [show fu - 4 + 1 = fu - 3 by omega] at t0
    refine Eq.trans t0 ?_
    rw [show fu - 5 + 1 = fu - 4 by omega]
    rfl
  · rcases d0 with ⟨g0, r0⟩ | ⟨g0, r0⟩
    · exact Or.inl ⟨0, by decide, g0, r0⟩
    · rcases d1 with ⟨g1, r1⟩ | ⟨g1, r1⟩
      · exact Or.inl ⟨1, by decide, g1, r0.trans r1⟩
      · rcases d2 with ⟨g2, r2⟩ | ⟨g2, r2⟩
        · exact Or.inl ⟨2, by decide, g2, (r0.trans r1).trans r2⟩
        · rcases d3 with ⟨g3, r3⟩ | ⟨g3, r3⟩
          · exact Or.inl ⟨3, by decide, g3, ((r0.trans r1).trans r2).trans r3⟩
          · refine Or.inr ⟨fun k hk => ?_, ((r0.trans r1).trans r2).trans r3⟩
            have : k = 0 ∨ k = 1 ∨ k = 2 ∨ k = 3 := by omega
            rcases this with rfl | rfl | rfl | rfl
            · exact g0
            · exact g1
            · exact g2
            · exact g3
  · rcases e0 with ⟨g0, r0⟩ | ⟨g0, r0⟩
    · exact Or.inl ⟨0, by decide, g0, fun j hj => absurd hj (by omega), r0⟩
    · rcases e1 with ⟨g1, r1⟩ | ⟨g1, r1⟩
      · refine Or.inl ⟨1, by decide, g1, fun j hj => ?_, r0.trans r1⟩
        obtain rfl : j = 0 := by omega
        exact g0
      · rcases e2 with ⟨g2, r2⟩ | ⟨g2, r2⟩
        · refine Or.inl ⟨2, by decide, g2, fun j hj => ?_, (r0.trans r1).trans r2⟩
          have : j = 0 ∨ j = 1 := by omega
          rcases this with rfl | rfl
          · exact g0
          · exact g1
        · rcases e3 with ⟨g3, r3⟩ | ⟨g3, r3⟩
          · refine Or.inl ⟨3, by decide, g3, fun j hj => ?_, ((r0.trans r1).trans r2).trans r3⟩
            have : j = 0 ∨ j = 1 ∨ j = 2 := by omega
            rcases this with rfl | rfl | rfl
            · exact g0
            · exact g1
            · exact g2
          · refine Or.inr ⟨fun k hk => ?_, ((r0.trans r1).trans r2).trans r3⟩
            have : k = 0 ∨ k = 1 ∨ k = 2 ∨ k = 3 := by omega
            rcases this with rfl | rfl | rfl | rfl
            · exact g0
            · exact g1
            · exact g2
            · exact g3
theorem m_frag_clear (h : RW A) {fu k : Nat} (hf : 4100 ≤ fu) (hk : k < 4) (x p o at' n mo : Int32) : fX16_fragment_L161 fu fu 323 x p o at' n mo (some (438 + 3 * k)) 0 A = fX16_fragment_L184 fu 323 x p o at' n mo (some (438 + 3 * k)) (wA A (440 + 3 * k) (fun j => if j < 4096 then 0 else mA A (440 + 3 * k) j)) := by
  have hR : ∀ g, RW (wA A (440 + 3 * k) g) := fun g => h
  have step : ∀ m j, j < 4096 → fX16_fragment_L161 fu (m + 1) 323 x p o at' n mo (some (438 + 3 * k)) (nI j) (wA A (440 + 3 * k) (fun i => if i < j then 0 else mA A (440 + 3 * k) i)) = fX16_fragment_L161 fu m 323 x p o at' n mo (some (438 + 3 * k)) (nI (j + 1)) (wA A (440 + 3 * k) (fun i => if i < j + 1 then 0 else mA A (440 + 3 * k) i)) := by
    intro m j hj
    rw [fX16_fragment_L161, if_neg (ge4096 hj), gR_ok (rw_dgO (hR _) k hk), ob_some, rw_dgTg (hR _) k hk, pA_ok (rw_dgT (hR _) k hk) (by rw [rw_dgTl (hR _) k hk]; exact hj) (by omega), ob_some, nI_1, wA_wA, mA_wA_self]
    refine congrArg (fun z => fX16_fragment_L161 fu m 323 x p o at' n mo (some (438 + 3 * k)) (nI (j + 1)) (wA A (440 + 3 * k) z)) ?_
    funext i
    by_cases c : i = j
    · rw [if_pos c, if_pos (by omega)]; decide
    · rw [if_neg c]
      by_cases c2 : i < j
      · rw [if_pos c2, if_pos (by omega)]
      · rw [if_neg c2, if_neg (by omega)]
  have e0 : wA A (440 + 3 * k) (fun i => if i < 0 then 0 else mA A (440 + 3 * k) i) = A := by
    have : (fun i => if i < 0 then 0 else mA A (440 + 3 * k) i) = mA A (440 + 3 * k) := by
      funext i
      rw [if_neg (by omega)]
    rw [this]
    exact wA_mA A _
  have lpe := lp0 (fun m j => fX16_fragment_L161 fu m 323 x p o at' n mo (some (438 + 3 * k)) (nI j) (wA A (440 + 3 * k) (fun i => if i < j then 0 else mA A (440 + 3 * k) i))) step (fu := fu) (by omega)
  simp only [e0] at lpe
  refine Eq.trans lpe ?_
  obtain ⟨m, hm⟩ : ∃ m, fu - 4096 = m + 1 := ⟨fu - 4096 - 1, by omega⟩
  rw [hm, fX16_fragment_L161, if_pos (by decide)]
theorem m_wrong_step (h : RW A) (fu m : Nat) {j k : Nat} (hj : j < 4096) (hk : k < 4) (x p o at' n mo e w w' : Int32) (hw : (w = 0 ∧ mA A (440 + 3 * k) j = 0 ∧ w' = 0) ∨ (¬ (w = 0 ∧ mA A (440 + 3 * k) j = 0) ∧ w' = 1)) :
    fX16_fragment_L242 fu (m + 1) 323 x p o at' n mo (some (438 + 3 * k)) e w (nI j) A = fX16_fragment_L242 fu m 323 x p o at' n mo (some (438 + 3 * k)) e w' (nI (j + 1)) A := by
  rw [fX16_fragment_L242, if_neg (ge4096 hj)]
  unfold fX16_fragment_L266 fX16_fragment_L271
  simp only [gR_ok (rw_dgO h k hk), rw_dgTg h k hk, gA_ok (rw_dgT h k hk) (show j < sLen (mS A) (440 + 3 * k) by rw [rw_dgTl h k hk]; exact hj) (show j < 2 ^ 31 by omega), ob_some, nI_1]
  by_cases c1 : w = 0
  · rw [if_pos c1]
    by_cases c2 : mA A (440 + 3 * k) j = 0
    · rw [if_pos c2]
      rcases hw with ⟨-, -, rfl⟩ | ⟨q, -⟩
      · rfl
      · exact absurd ⟨c1, c2⟩ q
    · rw [if_neg c2]
      rcases hw with ⟨-, q, -⟩ | ⟨-, rfl⟩
      · exact absurd q c2
      · rfl
  · rw [if_neg c1]
    rcases hw with ⟨q, -⟩ | ⟨-, rfl⟩
    · exact absurd q c1
    · rfl
theorem m_wrong_end (fu m : Nat) (k : Nat) (x p o at' n mo e w : Int32) : fX16_fragment_L242 fu (m + 1) 323 x p o at' n mo (some (438 + 3 * k)) e w (nI 4096) A = fX16_fragment_L279 fu 323 x p o at' n mo (some (438 + 3 * k)) e w A := by
  rw [fX16_fragment_L242, if_pos (by decide)]
theorem m_wrong1 (h : RW A) {fu k e : Nat} (hf : 4100 ≤ fu) (hk : k < 4) (he : e ≤ 4096) (x p o at' n mo e' : Int32) (m : Nat) (hm : 4097 ≤ e + m) : fX16_fragment_L242 fu m 323 x p o at' n mo (some (438 + 3 * k)) e' 1 (nI e) A = fX16_fragment_L279 fu 323 x p o at' n mo (some (438 + 3 * k)) e' 1 A := by
  have := lp (fun m j => fX16_fragment_L242 fu m 323 x p o at' n mo (some (438 + 3 * k)) e' 1 (nI j) A) he (fun m j _ hj => m_wrong_step h fu m hj hk x p o at' n mo e' 1 1 (Or.inr ⟨fun q => absurd q.1 (by decide), rfl⟩)) (m - (4096 - e))
  rw [show m - (4096 - e) + (4096 - e) = m by omega] at this
  refine Eq.trans this ?_
  obtain ⟨m', hm'⟩ : ∃ m', m - (4096 - e) = m' + 1 := ⟨m - (4096 - e) - 1, by omega⟩
  rw [hm']
  exact m_wrong_end fu m' k x p o at' n mo e' 1
theorem m_wrong0 (h : RW A) {fu k e : Nat} (hf : 4100 ≤ fu) (hk : k < 4) (he : e ≤ 4096) (x p o at' n mo e' : Int32) (hall : ∀ j, e ≤ j → j < 4096 → mA A (440 + 3 * k) j = 0) : fX16_fragment_L242 fu fu 323 x p o at' n mo (some (438 + 3 * k)) e' 0 (nI e) A = fX16_fragment_L279 fu 323 x p o at' n mo (some (438 + 3 * k)) e' 0 A := by
  have := lp (fun m j => fX16_fragment_L242 fu m 323 x p o at' n mo (some (438 + 3 * k)) e' 0 (nI j) A) he (fun m j h1 hj => m_wrong_step h fu m hj hk x p o at' n mo e' 0 0 (Or.inl ⟨rfl, hall j h1 hj, rfl⟩)) (fu - (4096 - e))
  rw [show fu - (4096 - e) + (4096 - e) = fu by omega] at this
  refine Eq.trans this ?_
  obtain ⟨m', hm'⟩ : ∃ m', fu - (4096 - e) = m' + 1 := ⟨fu - (4096 - e) - 1, by omega⟩
  rw [hm']
  exact m_wrong_end fu m' k x p o at' n mo e' 0
theorem m_wrongX (h : RW A) {fu k e : Nat} (hf : 4100 ≤ fu) (hk : k < 4) (x p o at' n mo e' : Int32) (hex : ∃ j, e ≤ j ∧ j < 4096 ∧ mA A (440 + 3 * k) j ≠ 0) : fX16_fragment_L242 fu fu 323 x p o at' n mo (some (438 + 3 * k)) e' 0 (nI e) A = fX16_fragment_L279 fu 323 x p o at' n mo (some (438 + 3 * k)) e' 1 A := by
  obtain ⟨j, h1, h2, h3⟩ := hex
  rcases fst_or (fun i => e ≤ i ∧ mA A (440 + 3 * k) i ≠ 0) 4096 with ⟨i, q1, ⟨q2, q3⟩, q4⟩ | q
  · have := lp (fun m j => fX16_fragment_L242 fu m 323 x p o at' n mo (some (438 + 3 * k)) e' 0 (nI j) A) q2 (fun m j h1 hj => m_wrong_step h fu m (by omega) hk x p o at' n mo e' 0 0 (Or.inl ⟨rfl, Classical.byContradiction (fun c => q4 j hj ⟨h1, c⟩), rfl⟩)) (fu - (i - e))
    rw [show fu - (i - e) + (i - e) = fu by omega] at this
    refine Eq.trans this ?_
    obtain ⟨m', hm'⟩ : ∃ m', fu - (i - e) = m' + 1 := ⟨fu - (i - e) - 1, by omega⟩
    show fX16_fragment_L242 fu (fu - (i - e)) 323 x p o at' n mo (some (438 + 3 * k)) e' 0 (nI i) A = _
    rw [hm', m_wrong_step h fu m' q1 hk x p o at' n mo e' 0 1 (Or.inr ⟨fun c => q3 c.2, rfl⟩)]
    exact m_wrong1 h hf hk (by omega) x p o at' n mo e' m' (by omega)
  · exact absurd ⟨h1, h3⟩ (q j h2)
/-- the reference's datagram after i bytes of a fragment -/
def dmI (A : Mm) (k o at' i : Nat) : Mm := wA (wA A (440 + 3 * k) (fun j => if o ≤ j ∧ j < o + i then 1 else mA A (440 + 3 * k) j)) (439 + 3 * k) (fun j => if o ≤ j ∧ j < o + i ∧ mA A (440 + 3 * k) j = 0 then mA A 324 (at' + (j - o)) else mA A (439 + 3 * k) j)
theorem m_frag_put (h : RW A) (hB : By A) {fu k o at' n : Nat} (hf : 4100 ≤ fu) (hk : k < 4) (ho : o + n ≤ 4096) (hat : at' + n ≤ 65540) (hb : ∀ j, j < 4096 → mA A (440 + 3 * k) j = 0 ∨ mA A (440 + 3 * k) j = 1) (x p : Int32) : ∃ m, fX16_fragment_L303 fu 323 x p (nI o) (nI at') (nI n) (some (438 + 3 * k)) A = fX16_fragment_L306 fu (m + 1) 323 x p (nI o) (nI at') (nI n) (some (438 + 3 * k)) (nI n) (dmI A k o at' n) := by
  unfold fX16_fragment_L303
  have hR : ∀ i, RW (dmI A k o at' i) := fun i => h
  have step : ∀ m i, i < n → fX16_fragment_L306 fu (m + 1) 323 x p (nI o) (nI at') (nI n) (some (438 + 3 * k)) (nI i) (dmI A k o at' i) = fX16_fragment_L306 fu m 323 x p (nI o) (nI at') (nI n) (some (438 + 3 * k)) (nI (i + 1)) (dmI A k o at' (i + 1)) := by
    intro m i hi
    have hoi : (nI o : Int32) + nI i = nI (o + i) := nI_add o i
    have hai : (nI at' : Int32) + nI i = nI (at' + i) := nI_add at' i
    have rT : mA (dmI A k o at' i) (440 + 3 * k) = (fun j => if o ≤ j ∧ j < o + i then 1 else mA A (440 + 3 * k) j) := by
      unfold dmI
      rw [mA_wA_ne (by omega), mA_wA_self]
    have rT2 : mA (dmI A k o at' i) (440 + 3 * k) (o + i) = mA A (440 + 3 * k) (o + i) := by
      rw [rT]
      show (if o ≤ o + i ∧ o + i < o + i then (1 : Int32) else mA A (440 + 3 * k) (o + i)) = _
      rw [if_neg (by omega)]
    have rB : mA (dmI A k o at' i) (439 + 3 * k) = (fun j => if o ≤ j ∧ j < o + i ∧ mA A (440 + 3 * k) j = 0 then mA A 324 (at' + (j - o)) else mA A (439 + 3 * k) j) := by
      unfold dmI
      rw [mA_wA_self]
    have rS : mA (dmI A k o at' i) 324 = mA A 324 := by
      unfold dmI
      rw [mA_wA_ne (by omega), mA_wA_ne (by omega)]
    rw [fX16_fragment_L306, if_neg (nI_ge hi (by omega)), gR_ok (rw_dgO (hR i) k hk), ob_some, rw_dgTg (hR i) k hk, hoi, gA_ok (rw_dgT (hR i) k hk) (by rw [rw_dgTl (hR i) k hk]; omega) (by omega), ob_some, rT2]
    unfold fX16_fragment_L357
    by_cases c : mA A (440 + 3 * k) (o + i) = 0
    · have hR2 : ∀ g, RW (wA (dmI A k o at' i) (440 + 3 * k) g) := fun g => h
      rw [if_pos c, ob_some, pA_ok (rw_dgT (hR i) k hk) (by rw [rw_dgTl (hR i) k hk]; omega) (by omega), ob_some, gR_ok (rw_dgO (hR2 _) k hk), ob_some, rw_dgYg (hR2 _) k hk, gR_ok (rw_ok323 (hR2 _)), ob_some, rw_g1024_323 (hR2 _), hai, gA_ok (rw_ok324 (hR2 _)) (by rw [rw_ln324 (hR2 _)]; omega) (by omega), ob_some, mA_wA_ne (show 324 ≠ 440 + 3 * k by omega), rS, toB_byt _ (hB _ _ (rw_ok324 h).2.2), pA_ok (rw_dgY (hR2 _) k hk) (by rw [rw_dgYl (hR2 _) k hk]; omega) (by omega), ob_some, nI_1, mA_wA_ne (show 439 + 3 * k ≠ 440 + 3 * k by omega), rB, rT]
      refine congrArg (fun z => fX16_fragment_L306 fu m 323 x p (nI o) (nI at') (nI n) (some (438 + 3 * k)) (nI (i + 1)) z) ?_
      unfold dmI
      rw [wA_cm (show 440 + 3 * k ≠ 439 + 3 * k by omega), wA_wA, wA_cm (show 439 + 3 * k ≠ 440 + 3 * k by omega), wA_wA]
      have e1 : (fun j => if j = o + i then (1 : Int32) &&& 1 else if o ≤ j ∧ j < o + i then 1 else mA A (440 + 3 * k) j) = (fun j => if o ≤ j ∧ j < o + (i + 1) then 1 else mA A (440 + 3 * k) j) := by
        funext j
        by_cases d1 : j = o + i
        · rw [if_pos d1, if_pos (by omega)]; decide
        · rw [if_neg d1]
          by_cases d2 : o ≤ j ∧ j < o + i
          · rw [if_pos d2, if_pos (by omega)]
          · rw [if_neg d2, if_neg (by omega)]
      have e2 : (fun j => if j = o + i then mA A 324 (at' + i) else if o ≤ j ∧ j < o + i ∧ mA A (440 + 3 * k) j = 0 then mA A 324 (at' + (j - o)) else mA A (439 + 3 * k) j) = (fun j => if o ≤ j ∧ j < o + (i + 1) ∧ mA A (440 + 3 * k) j = 0 then mA A 324 (at' + (j - o)) else mA A (439 + 3 * k) j) := by
        funext j
        by_cases d1 : j = o + i
        · subst d1
          rw [if_pos rfl, if_pos ⟨by omega, by omega, c⟩, show o + i - o = i by omega]
        · rw [if_neg d1]
          by_cases d2 : o ≤ j ∧ j < o + i ∧ mA A (440 + 3 * k) j = 0
          · rw [if_pos d2, if_pos ⟨d2.1, by omega, d2.2.2⟩]
          · rw [if_neg d2, if_neg (fun q => d2 ⟨q.1, by omega, q.2.2⟩)]
      rw [e1, e2]
    · rw [if_neg c, nI_1]
      refine congrArg (fun z => fX16_fragment_L306 fu m 323 x p (nI o) (nI at') (nI n) (some (438 + 3 * k)) (nI (i + 1)) z) ?_
      have c1 : mA A (440 + 3 * k) (o + i) = 1 := by
        rcases hb (o + i) (by omega) with q | q
        · exact absurd q c
        · exact q
      unfold dmI
      have e1 : (fun j => if o ≤ j ∧ j < o + i then (1 : Int32) else mA A (440 + 3 * k) j) = (fun j => if o ≤ j ∧ j < o + (i + 1) then 1 else mA A (440 + 3 * k) j) := by
        funext j
        by_cases d1 : j = o + i
        · subst d1
          rw [if_neg (by omega), if_pos (by omega), c1]
        · by_cases d2 : o ≤ j ∧ j < o + i
          · rw [if_pos d2, if_pos (by omega)]
          · rw [if_neg d2, if_neg (by omega)]
      have e2 : (fun j => if o ≤ j ∧ j < o + i ∧ mA A (440 + 3 * k) j = 0 then mA A 324 (at' + (j - o)) else mA A (439 + 3 * k) j) = (fun j => if o ≤ j ∧ j < o + (i + 1) ∧ mA A (440 + 3 * k) j = 0 then mA A 324 (at' + (j - o)) else mA A (439 + 3 * k) j) := by
        funext j
        by_cases d1 : j = o + i
        · subst d1
          rw [if_neg (fun q => c q.2.2), if_neg (fun q => c q.2.2)]
        · by_cases d2 : o ≤ j ∧ j < o + i ∧ mA A (440 + 3 * k) j = 0
          · rw [if_pos d2, if_pos ⟨d2.1, by omega, d2.2.2⟩]
          · rw [if_neg d2, if_neg (fun q => d2 ⟨q.1, by omega, q.2.2⟩)]
      rw [e1, e2]
  have e0 : dmI A k o at' 0 = A := by
    unfold dmI
    have e1 : (fun j => if o ≤ j ∧ j < o + 0 then (1 : Int32) else mA A (440 + 3 * k) j) = mA A (440 + 3 * k) := by
      funext j
      rw [if_neg (by omega)]
    have e2 : (fun j => if o ≤ j ∧ j < o + 0 ∧ mA A (440 + 3 * k) j = 0 then mA A 324 (at' + (j - o)) else mA A (439 + 3 * k) j) = mA A (439 + 3 * k) := by
      funext j
      rw [if_neg (fun q => by omega)]
    rw [e1, e2, wA_mA, wA_mA]
  have lpe := lp0 (fun m i => fX16_fragment_L306 fu m 323 x p (nI o) (nI at') (nI n) (some (438 + 3 * k)) (nI i) (dmI A k o at' i)) step (fu := fu) (by omega)
  simp only [e0] at lpe
  refine ⟨fu - n - 1, Eq.trans lpe ?_⟩
  rw [show fu - n - 1 + 1 = fu - n by omega]
/-- is a datagram whole, in the reference -/
theorem m_frag_hole (h : RW A) {fu k e : Nat} (hf : 4100 ≤ fu) (hk : k < 4) (he : e ≤ 4096) (hend : (mF A 836 (438 + 3 * k)) = nI e) (hex : ∃ j, j < e ∧ mA A (440 + 3 * k) j = 0) (x p : Int32) : fX16_fragment_L375 fu fu 323 x p (some (438 + 3 * k)) 0 A = some A := by
  obtain ⟨j, h1, h2⟩ := hex
  rcases fst_or (fun i => mA A (440 + 3 * k) i = 0) e with ⟨i, q1, q2, q3⟩ | q
  · refine Eq.trans (lp0 (fun m j => fX16_fragment_L375 fu m 323 x p (some (438 + 3 * k)) (nI j) A) (k := i) (fun m j hj => ?_) (fu := fu) (by omega)) ?_
    · show fX16_fragment_L375 fu (m + 1) 323 x p (some (438 + 3 * k)) (nI j) A = fX16_fragment_L375 fu m 323 x p (some (438 + 3 * k)) (nI (j + 1)) A
      rw [fX16_fragment_L375, gI_ok (rw_dgO h k hk), ob_some, hend, if_neg (nI_ge (by omega) (by omega)), gR_ok (rw_dgO h k hk), ob_some, rw_dgTg h k hk, gA_ok (rw_dgT h k hk) (by rw [rw_dgTl h k hk]; omega) (by omega), ob_some, if_neg (q3 j hj), nI_1]
    · obtain ⟨m, hm⟩ : ∃ m, fu - i = m + 1 := ⟨fu - i - 1, by omega⟩
      show fX16_fragment_L375 fu (fu - i) 323 x p (some (438 + 3 * k)) (nI i) A = _
      rw [hm, fX16_fragment_L375, gI_ok (rw_dgO h k hk), ob_some, hend, if_neg (nI_ge q1 (by omega)), gR_ok (rw_dgO h k hk), ob_some, rw_dgTg h k hk, gA_ok (rw_dgT h k hk) (by rw [rw_dgTl h k hk]; omega) (by omega), ob_some, if_pos q2]
  · exact absurd h2 (q j h1)
theorem m_frag_whole (h : RW A) {fu k e : Nat} (hf : 4100 ≤ fu) (hk : k < 4) (he : e ≤ 4096) (hend : (mF A 836 (438 + 3 * k)) = nI e) (hall : ∀ j, j < e → mA A (440 + 3 * k) j ≠ 0) (x p : Int32) : fX16_fragment_L375 fu fu 323 x p (some (438 + 3 * k)) 0 A = fX16_fragment_L422 fu fu 323 x p (some (438 + 3 * k)) 0 (wA (sF A 832 (438 + 3 * k) 0) 330 (fun j => if j = 1 then mA A 330 1 + 1 else mA A 330 j)) := by
  refine Eq.trans (lp0 (fun m j => fX16_fragment_L375 fu m 323 x p (some (438 + 3 * k)) (nI j) A) (k := e) (fun m j hj => ?_) (fu := fu) (by omega)) ?_
  · show fX16_fragment_L375 fu (m + 1) 323 x p (some (438 + 3 * k)) (nI j) A = fX16_fragment_L375 fu m 323 x p (some (438 + 3 * k)) (nI (j + 1)) A
    rw [fX16_fragment_L375, gI_ok (rw_dgO h k hk), ob_some, hend, if_neg (nI_ge (by omega) (by omega)), gR_ok (rw_dgO h k hk), ob_some, rw_dgTg h k hk, gA_ok (rw_dgT h k hk) (by rw [rw_dgTl h k hk]; omega) (by omega), ob_some, if_neg (hall j hj), nI_1]
  · obtain ⟨m, hm⟩ : ∃ m, fu - e = m + 1 := ⟨fu - e - 1, by omega⟩
    have hR : RW (sF A 832 (438 + 3 * k) 0) := h
    have g1 : gA (sF A 832 (438 + 3 * k) 0) 101 (some 330) (1 : Int32) = some (mA A 330 1) := gA_ok (i := 1) (rw_ok330 hR) (by rw [rw_ln330 hR]; decide) (by decide)
    have g2 : pA (sF A 832 (438 + 3 * k) 0) 101 (some 330) (1 : Int32) (mA A 330 1 + (1 : Int32)) = some (wA (sF A 832 (438 + 3 * k) 0) 330 (fun j => if j = 1 then mA A 330 1 + 1 else mA A 330 j)) := pA_ok (i := 1) (rw_ok330 hR) (by rw [rw_ln330 hR]; decide) (by decide)
    show fX16_fragment_L375 fu (fu - e) 323 x p (some (438 + 3 * k)) (nI e) A = _
    rw [hm, fX16_fragment_L375, gI_ok (rw_dgO h k hk), ob_some, hend, if_pos (Int32.le_refl _), pZ_ok (rw_dgO h k hk) (Or.inl rfl), ob_some, gR_ok (rw_ok323 hR), ob_some, rw_g1041_323 hR, g1, ob_some, g2, ob_some]
theorem m_frag_copy (h : RW A) (hB : By A) {fu k e : Nat} (hf : 4100 ≤ fu) (hk : k < 4) (he : e ≤ 4096) (hend : (mF A 836 (438 + 3 * k)) = nI e) (x p : Int32) : fX16_fragment_L422 fu fu 323 x p (some (438 + 3 * k)) 0 A = (fX16_taken fu 323 p (nI e) (sF (wA A 338 (fun j => if j < e then mA A (439 + 3 * k) j else mA A 338 j)) 1054 323 x)).bind (fun M5 => some M5) := by
  have hR : ∀ g, RW (wA A 338 g) := fun g => h
  have step : ∀ m j, j < e → fX16_fragment_L422 fu (m + 1) 323 x p (some (438 + 3 * k)) (nI j) (wA A 338 (fun i => if i < j then mA A (439 + 3 * k) i else mA A 338 i)) = fX16_fragment_L422 fu m 323 x p (some (438 + 3 * k)) (nI (j + 1)) (wA A 338 (fun i => if i < j + 1 then mA A (439 + 3 * k) i else mA A 338 i)) := by
    intro m j hj
    rw [fX16_fragment_L422, gI_ok (rw_dgO (hR _) k hk), ob_some, mF_wA, hend, if_neg (nI_ge hj (by omega)), gR_ok (rw_ok323 (hR _)), ob_some, rw_g1053_323 (hR _), gR_ok (rw_dgO (hR _) k hk), ob_some, rw_dgYg (hR _) k hk, gA_ok (rw_dgY (hR _) k hk) (by rw [rw_dgYl (hR _) k hk]; omega) (by omega), ob_some, mA_wA_ne (show 439 + 3 * k ≠ 338 by omega), toB_byt _ (hB _ _ (rw_dgY h k hk).2.2), pA_ok (rw_ok338 (hR _)) (by rw [rw_ln338 (hR _)]; omega) (by omega), ob_some, nI_1, wA_wA, mA_wA_self]
    refine congrArg (fun z => fX16_fragment_L422 fu m 323 x p (some (438 + 3 * k)) (nI (j + 1)) (wA A 338 z)) ?_
    funext i
    by_cases c : i = j
    · rw [if_pos c, if_pos (by omega), c]
    · rw [if_neg c]
      by_cases c2 : i < j
      · rw [if_pos c2, if_pos (by omega)]
      · rw [if_neg c2, if_neg (by omega)]
  have e0 : wA A 338 (fun i => if i < 0 then mA A (439 + 3 * k) i else mA A 338 i) = A := by
    have : (fun i => if i < 0 then mA A (439 + 3 * k) i else mA A 338 i) = mA A 338 := by
      funext i
      rw [if_neg (by omega)]
    rw [this]
    exact wA_mA A _
  have lpe := lp0 (fun m j => fX16_fragment_L422 fu m 323 x p (some (438 + 3 * k)) (nI j) (wA A 338 (fun i => if i < j then mA A (439 + 3 * k) i else mA A 338 i))) step (fu := fu) (by omega)
  simp only [e0] at lpe
  refine Eq.trans lpe ?_
  obtain ⟨m, hm⟩ : ∃ m, fu - e = m + 1 := ⟨fu - e - 1, by omega⟩
  have hend2 : mF (sF (wA A 338 (fun i => if i < e then mA A (439 + 3 * k) i else mA A 338 i)) 1054 323 x) 836 (438 + 3 * k) = nI e := by
    rw [mF_sF, if_neg (by omega)]
    exact hend
  rw [hm, fX16_fragment_L422, gI_ok (rw_dgO (hR _) k hk), ob_some, mF_wA, hend, if_pos (Int32.le_refl _), pF_ok (rw_ok323 (hR _)), ob_some, gI_ok (by rw [ok_sF]; exact rw_dgO (hR _) k hk), ob_some, hend2, rc_ok (by rw [ok_sF]; exact rw_ok323 (hR _)), ob_some]
end FragM
