/-! ===== part 9r: what is asked for, when booted ===== -/
section Seen
variable {A M : Mm} {KN KS t T im ig F ek ty nw : Nat}
theorem JJ.mn (h : JJ A M KN KS t T im ig F ek ty nw) : (mF M 641 304) = nI nw := by
  obtain ⟨-, -, -, -, ⟨n, p1, p2, -⟩, -⟩ := h.jl.2.2.2.2.1
  rw [p2, ← p1]
  exact h.nw
theorem ob_now (fu : Nat) (h : JJ A M KN KS t T im ig F ek ty nw) : fX16_now fu 323 A = some (nI nw, A) ∧ fX11_now fu 300 M = some (nI nw, M) := by
  have o := rw_ok323 h.rw'
  have o3 := xw_ok300 h.xw
  constructor
  · unfold fX16_now
    rw [gI_ok o, ob_some, h.ts.bo, if_neg (by decide), gI_ok o, ob_some, h.nw]
  · unfold fX11_now
    rw [gI_ok o3, ob_some, h.ts.bx, if_neg (by decide), gR_ok o3, ob_some, xw_g705_300 h.xw, gI_ok (xw_ok304 h.xw), ob_some, h.mn]
theorem ob_sent (fu : Nat) (h : JJ A M KN KS t T im ig F ek ty nw) : fX16_sent fu 323 A = some (nI T, A) ∧ fX11_sent fu 300 M = some (nI T, M) := by
  have o := rw_ok323 h.rw'
  have o3 := xw_ok300 h.xw
  constructor
  · unfold fX16_sent
    rw [gI_ok o, ob_some, h.ts.bo, if_neg (by decide), gI_ok o, ob_some, h.snt.1]
  · unfold fX11_sent
    rw [gI_ok o3, ob_some, h.ts.bx, if_neg (by decide), gR_ok o3, ob_some, xw_g705_300 h.xw, gI_ok (xw_ok304 h.xw), ob_some, h.snt.2]
theorem ob_strays (fu : Nat) (h : JJ A M KN KS t T im ig F ek ty nw) : fX16_strays fu 323 A = some (0, A) ∧ fX11_strays fu 300 M = some (0, M) := by
  have o := rw_ok323 h.rw'
  have o3 := xw_ok300 h.xw
  obtain ⟨-, -, -, -, -, p6, p7, -⟩ := h.jl.2.2.2.2.1
  constructor
  · unfold fX16_strays
    rw [gI_ok o, ob_some, p6]
  · unfold fX11_strays
    rw [gI_ok o3, ob_some, h.ts.bx, if_neg (by decide), gR_ok o3, ob_some, xw_g705_300 h.xw, gI_ok (xw_ok304 h.xw), ob_some, p7]
/-- a number from nothing to n -/
theorem nI_rng {x : Int32} {n : Nat} (hn : n < 2 ^ 31) (h1 : ¬ x < 0) (h2 : ¬ nI n ≤ x) : ∃ i, i < n ∧ x = nI i := by
  obtain ⟨j, j1, j2⟩ := nI_of h1
  refine ⟨j, ?_, j2⟩
  by_cases q : j < n
  · exact q
  · exact absurd (by rw [j2]; exact nI_le (by omega) j1) h2
theorem ob_counted (fu : Nat) (h : JJ A M KN KS t T im ig F ek ty nw) (a1 : Int32) : ∃ v, fX16_counted fu 323 a1 A = some (v, A) ∧ fX11_counted fu 300 a1 M = some (v, M) := by
  have hR := h.rw'
  have hW := h.xw
  have o := rw_ok323 hR
  have o3 := xw_ok300 hW
  have m1 : fX16_counted fu 323 a1 A = if a1 < 0 then some (-1, A) else if (8 : Int32) ≤ a1 then some (-1, A) else ((gA A 101 (some 330) a1).bind fun v3 => some (v3, A)) := by
    unfold fX16_counted
    rw [gI_ok o, ob_some, h.ts.bo, if_neg (by decide), gR_ok o, ob_some, rw_g1041_323 hR]
  have x1 : fX11_counted fu 300 a1 M = if a1 < 0 then some (-1, M) else if a1 < (8 : Int32) then ((gA M 101 (some 305) a1).bind fun v3 => some (v3, M)) else some (-1, M) := by
    unfold fX11_counted
    rw [gI_ok o3, ob_some, h.ts.bx, if_neg (by decide), gR_ok o3, ob_some, xw_g705_300 hW, gR_ok (xw_ok304 hW), ob_some, xw_g640_304 hW]
  rw [m1, x1]
  by_cases c1 : a1 < 0
  · exact ⟨-1, by rw [if_pos c1], by rw [if_pos c1]⟩
  · by_cases c2 : (8 : Int32) ≤ a1
    · exact ⟨-1, by rw [if_neg c1, if_pos c2], by rw [if_neg c1, if_neg (Int32.not_lt.mpr c2)]⟩
    · obtain ⟨i, i1, rfl⟩ := nI_rng (n := 8) (by decide) c1 c2
      refine ⟨mA A 330 i, ?_, ?_⟩
      · rw [if_neg c1, if_neg c2, gA_ok (rw_ok330 hR) (by rw [rw_ln330 hR]; omega) (by omega), ob_some]
      · rw [if_neg c1, if_pos (Int32.not_le.mp c2), gA_ok (xw_ok305 hW) (by rw [xw_ln305 hW]; omega) (by omega), ob_some, h.jn i i1]
/-- a frame that was sent, in both -/
theorem ob_slot (fu : Nat) (h : JJ A M KN KS t T im ig F ek ty nw) (hT : T < 2 ^ 30) (a1 : Int32) : (fX16_slot fu 323 a1 A = some (-1, A) ∧ fX11_frameBack fu 300 a1 M = some (none, M)) ∨ ∃ s p n, s < 32 ∧ fX16_slot fu 323 a1 A = some (nI s, A) ∧ fX11_frameBack fu 300 a1 M = some (some p, M) ∧ okA M 6 p ∧ 60 ≤ n ∧ n ≤ 1514 ∧ mA A 333 s = nI n ∧ (mF M 385 p) = nI n ∧ mA A 334 s = (mF M 386 p) ∧ ∀ j, j < n → mA A 332 (s * 1514 + j) = mA M (p + 1) j := by
  have hR := h.rw'
  have hW := h.xw
  have o := rw_ok323 hR
  have o3 := xw_ok300 hW
  have o4 := xw_ok304 hW
  have m1 : fX16_slot fu 323 a1 A = if a1 < 0 then some (-1, A) else if (32 : Int32) ≤ a1 then some (-1, A) else if nI T ≤ a1 then some (-1, A) else some (irm (nI T - 1 - a1) 32, A) := by
    unfold fX16_slot
    rw [gI_ok o, ob_some, h.ts.bo, if_neg (by decide)]
    simp only [gI_ok o, ob_some, h.snt.1]
  have x1 : fX11_frameBack fu 300 a1 M = if a1 < 0 then some (none, M) else if (32 : Int32) ≤ a1 then some (none, M) else if a1 < nI T then ((gB M 116 (some 306) (irm (nI T - 1 - a1) 32)).bind fun v4 => some (v4, M)) else some (none, M) := by
    unfold fX11_frameBack fX10_back
    rw [gI_ok o3, ob_some, h.ts.bx, if_neg (by decide), gR_ok o3, ob_some, xw_g705_300 hW, rc_ok o4, ob_some, gI_ok o4, ob_some, h.snt.2]
    by_cases c1 : a1 < 0
    · rw [if_pos c1, b2_some, if_pos c1]
    · rw [if_neg c1, if_neg c1]
      by_cases c2 : (32 : Int32) ≤ a1
      · rw [if_pos c2, b2_some, if_pos c2]
      · rw [if_neg c2, if_neg c2]
        by_cases c3 : a1 < nI T
        · rw [if_pos c3, if_pos c3, gR_ok o4, ob_some, xw_g644_304 hW, ob_some]
          cases gB M 116 (some 306) (irm (nI T - 1 - a1) 32) <;> rfl
        · rw [if_neg c3, b2_some, if_neg c3]
  rw [m1, x1]
  by_cases c1 : a1 < 0
  · exact Or.inl ⟨by rw [if_pos c1], by rw [if_pos c1]⟩
  · by_cases c2 : (32 : Int32) ≤ a1
    · exact Or.inl ⟨by rw [if_neg c1, if_pos c2], by rw [if_neg c1, if_pos c2]⟩
    · by_cases c3 : nI T ≤ a1
      · exact Or.inl ⟨by rw [if_neg c1, if_neg c2, if_pos c3], by rw [if_neg c1, if_neg c2, if_neg (Int32.not_lt.mpr c3)]⟩
      · obtain ⟨i, i1, rfl⟩ := nI_rng (n := 32) (by decide) c1 c2
        have iT : i < T := by
          by_cases q : i < T
          · exact q
          · exact absurd (nI_le (by omega) (by omega)) c3
        have e : irm (nI T - 1 - nI i) 32 = nI ((T - 1 - i) % 32) := by
          rw [show nI T - (1 : Int32) = nI (T - 1) from nI_sub (y := 1) (by omega), nI_sub (by omega)]
          exact irm_nI (d := 32) (by omega) (by decide) (by decide)
        obtain ⟨p, n, q1, q2, q3, q4, q5, q6, q7⟩ := h.jl.2.2.2.2.2.1.2.2 ((T - 1 - i) % 32) (by omega) (by omega)
        obtain ⟨_, _, _, _, -, -, -, -, r6, -⟩ := h.xr
        refine Or.inr ⟨(T - 1 - i) % 32, p, n, by omega, ?_, ?_, (rowN_at r6 q1).2, q2, q3, q4, q5, q6, q7⟩
        · rw [if_neg c1, if_neg c2, if_neg c3, e]
        · rw [if_neg c1, if_neg c2, if_pos (Int32.not_le.mp c3), e, gB_ok (xw_ok306 hW) (by rw [xw_ln306 hW]; omega) (by omega), ob_some, q1]
theorem ob_length (fu : Nat) (h : JJ A M KN KS t T im ig F ek ty nw) (hT : T < 2 ^ 30) (a1 : Int32) : ∃ v, fX16_length fu 323 a1 A = some (v, A) ∧ fX11_length fu 300 a1 M = some (v, M) := by
  have hR := h.rw'
  have o := rw_ok323 hR
  have o3 := xw_ok300 h.xw
  rcases ob_slot fu h hT a1 with ⟨r1, r2⟩ | ⟨s, p, n, r0, r1, r2, r3, r4, r5, r6, r7, r8, r9⟩
  · refine ⟨-1, ?_, ?_⟩
    · unfold fX16_length
      rw [rc_ok o, ob_some, r1, b2_some, if_neg (by decide)]
    · unfold fX11_length
      rw [rc_ok o3, ob_some, r2, b2_some, if_pos rfl]
  · refine ⟨nI n, ?_, ?_⟩
    · unfold fX16_length
      rw [rc_ok o, ob_some, r1, b2_some, if_pos (show (0 : Int32) ≤ nI s from nI_le (a := 0) (by omega) (by omega)), gR_ok o, ob_some, rw_g1045_323 hR, rc_ok o, ob_some, r1, b2_some, gA_ok (rw_ok333 hR) (by rw [rw_ln333 hR]; omega) (by omega), ob_some, r6]
    · unfold fX11_length
      rw [rc_ok o3, ob_some, r2, b2_some, if_neg (by simp), gI_ok r3, ob_some, r7]
theorem ob_time (fu : Nat) (h : JJ A M KN KS t T im ig F ek ty nw) (hT : T < 2 ^ 30) (a1 : Int32) : ∃ v, fX16_time fu 323 a1 A = some (v, A) ∧ fX11_time fu 300 a1 M = some (v, M) := by
  have hR := h.rw'
  have o := rw_ok323 hR
  have o3 := xw_ok300 h.xw
  rcases ob_slot fu h hT a1 with ⟨r1, r2⟩ | ⟨s, p, n, r0, r1, r2, r3, r4, r5, r6, r7, r8, r9⟩
  · refine ⟨-1, ?_, ?_⟩
    · unfold fX16_time
      rw [rc_ok o, ob_some, r1, b2_some, if_neg (by decide)]
    · unfold fX11_time
      rw [rc_ok o3, ob_some, r2, b2_some, if_pos rfl]
  · refine ⟨mA A 334 s, ?_, ?_⟩
    · unfold fX16_time
      rw [rc_ok o, ob_some, r1, b2_some, if_pos (show (0 : Int32) ≤ nI s from nI_le (a := 0) (by omega) (by omega)), gR_ok o, ob_some, rw_g1046_323 hR, rc_ok o, ob_some, r1, b2_some, gA_ok (rw_ok334 hR) (by rw [rw_ln334 hR]; omega) (by omega), ob_some]
    · unfold fX11_time
      rw [rc_ok o3, ob_some, r2, b2_some, if_neg (by simp), gI_ok r3, ob_some, r8]
theorem ob_at (fu : Nat) (h : JJ A M KN KS t T im ig F ek ty nw) (hT : T < 2 ^ 30) (a1 a2 : Int32) : ∃ v, fX16_at fu 323 a1 a2 A = some (v, A) ∧ fX11_at fu 300 a1 a2 M = some (v, M) := by
  have hR := h.rw'
  have o := rw_ok323 hR
  have o3 := xw_ok300 h.xw
  rcases ob_slot fu h hT a1 with ⟨r1, r2⟩ | ⟨s, p, n, r0, r1, r2, r3, r4, r5, r6, r7, r8, r9⟩
  · refine ⟨-1, ?_, ?_⟩
    · unfold fX16_at
      rw [rc_ok o, ob_some, r1, b2_some, if_pos (by decide)]
    · unfold fX11_at
      rw [rc_ok o3, ob_some, r2, b2_some, if_pos rfl]
  · obtain ⟨b1, b2', b3⟩ := h.xs.1 p r3
    have m1 : fX16_at fu 323 a1 a2 A = if a2 < 0 then some (-1, A) else if a2 < nI n then ((gA A 100 (some 332) (nI s * (1514 : Int32) + a2)).bind fun v7 => some (v7 &&& (255 : Int32), A)) else some (-1, A) := by
      unfold fX16_at
      rw [rc_ok o, ob_some, r1, b2_some, if_neg (nI_pos (by omega)), gR_ok o, ob_some, rw_g1045_323 hR, gA_ok (rw_ok333 hR) (by rw [rw_ln333 hR]; omega) (by omega), ob_some, r6, gR_ok o, ob_some, rw_g1044_323 hR]
    have x1 : fX11_at fu 300 a1 a2 M = if a2 < 0 then some (-1, M) else if nI n ≤ a2 then some (-1, M) else if a2 < (1514 : Int32) then ((gA M 100 (some (p + 1)) a2).bind fun v8 => some (v8 &&& (255 : Int32), M)) else some (-1, M) := by
      unfold fX11_at
      rw [rc_ok o3, ob_some, r2, b2_some, if_neg (by simp), gI_ok r3, ob_some, r7, gR_ok r3, ob_some, b1, aL_ok b2' b3, ob_some, ob_some]
      rfl
    rw [m1, x1]
    by_cases c1 : a2 < 0
    · exact ⟨-1, by rw [if_pos c1], by rw [if_pos c1]⟩
    · by_cases c2 : nI n ≤ a2
      · exact ⟨-1, by rw [if_neg c1, if_neg (Int32.not_lt.mpr c2)], by rw [if_neg c1, if_pos c2]⟩
      · obtain ⟨i, i1, rfl⟩ := nI_rng (n := n) (by omega) c1 c2
        refine ⟨mA A 332 (s * 1514 + i) &&& 255, ?_, ?_⟩
        · rw [if_neg c1, if_pos (Int32.not_le.mp c2), show nI s * (1514 : Int32) = nI (s * 1514) from pk_mul s 1514, nI_add, gA_ok (rw_ok332 hR) (by rw [rw_ln332 hR]; omega) (by omega), ob_some]
        · rw [if_neg c1, if_neg c2, if_pos (show nI i < (1514 : Int32) from nI_lt (b := 1514) (by omega) (by decide)), gA_ok b2' (by rw [b3]; omega) (by omega), ob_some, r9 i i1]
theorem ob_cached (fu : Nat) (hfu : 100 ≤ fu) (h : JJ A M KN KS t T im ig F ek ty nw) (a1 : Int32) : ∃ v, fX16_cached fu 323 a1 A = some (v, A) ∧ fX11_cached fu 300 a1 M = some (v, M) := by
  have hR := h.rw'
  have hW := h.xw
  have o := rw_ok323 hR
  have o3 := xw_ok300 hW
  rcases sp_counting hR hW h.jl.2.2.2.2.2.2.1 (h.nw.trans h.mn.symm) (fu := fu) (by omega) a1 with ⟨r1, r2⟩ | ⟨k, r0, r1, r2, -⟩
  · refine ⟨0, ?_, ?_⟩
    · unfold fX16_cached
      rw [gI_ok o, ob_some, h.ts.bo, if_neg (by decide), rc_ok o, ob_some, r1, b2_some, if_pos rfl, rN0]
    · unfold fX11_cached
      rw [gI_ok o3, ob_some, h.ts.bx, if_neg (by decide), gR_ok o3, ob_some, xw_g706_300 hW, rc_ok (xw_ok307 hW), ob_some, r2, b2_some, if_pos (by decide), rN0]
  · refine ⟨1, ?_, ?_⟩
    · unfold fX16_cached
      rw [gI_ok o, ob_some, h.ts.bo, if_neg (by decide), rc_ok o, ob_some, r1, b2_some, if_neg (by simp), rN1]
    · unfold fX11_cached
      rw [gI_ok o3, ob_some, h.ts.bx, if_neg (by decide), gR_ok o3, ob_some, xw_g706_300 hW, rc_ok (xw_ok307 hW), ob_some, r2, b2_some, if_neg (nI_pos (by omega)), rN1]
theorem ob_state (fu : Nat) (h : JJ A M KN KS t T im ig F ek ty nw) (a1 : Int32) : ∃ v, fX16_state fu 323 a1 A = some (v, A) ∧ fX11_state fu 300 a1 M = some (v, M) := by
  have hR := h.rw'
  have hW := h.xw
  have o := rw_ok323 hR
  have o3 := xw_ok300 hW
  unfold fX16_state fX11_state
  by_cases c1 : a1 < 0
  · exact ⟨-1, by rw [if_pos c1], by rw [if_pos c1]⟩
  · by_cases c2 : (16 : Int32) ≤ a1
    · exact ⟨-1, by rw [if_neg c1, if_neg (Int32.not_lt.mpr c2)], by rw [if_neg c1, if_neg (Int32.not_lt.mpr c2)]⟩
    · have c3 := Int32.not_le.mp c2
      obtain ⟨i, i1, rfl⟩ := nI_rng (n := 16) (by decide) c1 c2
      refine ⟨(mF A 768 (342 + 4 * i)), ?_, ?_⟩
      · rw [if_neg c1, if_pos c3, gI_ok o, ob_some, h.ts.bo, if_neg (by decide), gR_ok o, ob_some, rw_g1055_323 hR, gB_ok (rw_ok339 hR) (by rw [rw_ln339 hR]; omega) (by omega), ob_some, rw_cnB hR i i1, gI_ok (rw_cnO hR i i1), ob_some]
      · unfold fX11_connectionAt
        rw [if_neg c1, if_pos c3, rc_ok o3, ob_some, gI_ok o3, ob_some, h.ts.bx, if_neg (by decide), gR_ok o3, ob_some, xw_g708_300 hW, rc_ok (xw_ok317 hW), ob_some]
        rcases x_cnAt fu h i1 with ⟨z1, z2⟩ | ⟨c, hd, ft, b0, v, y1, y2, y3, y4⟩
        · rw [z2, b2_some, b2_some, if_pos rfl, z1]
        · rw [y4, b2_some, b2_some, if_neg (by simp), gI_ok y3.cn.1, ob_some, y3.ce.st]
theorem su_one {f g : Nat → Nat} {k : Nat} (hk : f k + 1 = g k) : ∀ n, k < n → (∀ j, j < n → j ≠ k → f j = g j) → su f n + 1 = su g n
  | 0, h, _ => absurd h (by omega)
  | n + 1, h, e => by
    show su f n + f n + 1 = su g n + g n
    by_cases q : k = n
    · subst q
      rw [su_eq k (fun j hj => e j (by omega) (by omega))]
      omega
    · have := su_one hk n (by omega) (fun j hj => e j (by omega))
      rw [e n (by omega) (fun z => q z.symm)]
      omega
/-- as many places are used as packets wait -/
theorem su_inj {b : Nat} {s : Nat → Nat} : ∀ n, (∀ i, i < n → s i < b) → (∀ i j, i < n → j < n → s i = s j → i = j) → ∀ f : Nat → Nat, (∀ i, i < n → f (s i) = 1) → (∀ k, k < b → (∀ i, i < n → s i ≠ k) → f k = 0) → su f b = n
  | 0, _, _, f, _, h0 => by
    have : ∀ m, m ≤ b → su f m = 0 := by
      intro m
      induction m with
      | zero => intro _; rfl
      | succ m ih =>
        intro hm
        show su f m + f m = 0
        rw [ih (by omega), h0 m (by omega) (fun i hi => by omega)]
    exact this b (Nat.le_refl _)
  | n + 1, hs, hi, f, h1, h0 => by
    have := su_inj n (fun i q => hs i (by omega)) (fun i j q1 q2 => hi i j (by omega) (by omega)) (fun k => if k = s n then 0 else f k) (fun i q => by
      show (if s i = s n then 0 else f (s i)) = 1
      rw [if_neg (fun e => by have := hi i n (by omega) (by omega) e; omega)]
      exact h1 i (by omega)) (fun k hk q => by
      show (if k = s n then 0 else f k) = 0
      by_cases e : k = s n
      · rw [if_pos e]
      · rw [if_neg e]
        exact h0 k hk (fun i hi' e2 => by
          by_cases z : i = n
          · rw [z] at e2; exact e e2.symm
          · exact q i (by omega) e2))
    have w := su_one (f := fun k => if k = s n then 0 else f k) (g := f) (k := s n) (by
      show (if s n = s n then 0 else f (s n)) + 1 = f (s n)
      rw [if_pos rfl, h1 n (by omega)]) b (hs n (by omega)) (fun j _ hj => by
      show (if j = s n then 0 else f j) = f j
      rw [if_neg hj])
    omega
theorem ob_waiting (fu : Nat) (hfu : 100 ≤ fu) (h : JJ A M KN KS t T im ig F ek ty nw) : ∃ v, fX16_waiting fu 323 A = some (v, A) ∧ fX11_waiting fu 300 M = some (v, M) := by
  have hR := h.rw'
  have hW := h.xw
  have o := rw_ok323 hR
  have o3 := xw_ok300 hW
  obtain ⟨n, O, s, od, hO, hJ⟩ := JW_of h.jl h.nw h.n2
  obtain ⟨⟨a0, a1⟩, a2, a3, a4, a5, a6, a7, a8, -⟩ := hJ
  have E := su_inj (b := 8) n a5 a6 (fun k => if (mF A 960 (422 + 2 * k)) = 0 then 0 else 1) (fun i hi => by
    show (if (mF A 960 (422 + 2 * (s i))) = 0 then 0 else 1) = 1
    rw [if_neg (by rw [a7 i hi]; decide)]) (fun k hk q => by
    show (if (mF A 960 (422 + 2 * k)) = 0 then 0 else 1) = 0
    rw [if_pos (a8 k hk q)])
  refine ⟨nI n, ?_, ?_⟩
  · have L : ∀ (d j m : Nat), j + d = 8 → d ≤ m → fX16_waiting_L4 fu (m + 1) 323 (nI (su (fun k => if (mF A 960 (422 + 2 * k)) = 0 then 0 else 1) j)) (nI j) A = some (nI (su (fun k => if (mF A 960 (422 + 2 * k)) = 0 then 0 else 1) 8), A) := by
      intro d
      induction d with
      | zero =>
        intro j m h1 _
        have : j = 8 := by omega
        subst this
        rw [fX16_waiting_L4, if_pos (show (8 : Int32) ≤ nI 8 by decide)]
      | succ d ih =>
        intro j m h1 h2
        have := ih (j + 1) (m - 1) (by omega) (by omega)
        rw [show m - 1 + 1 = m by omega] at this
        rw [fX16_waiting_L4, if_neg (show ¬ (8 : Int32) ≤ nI j from nI_ge (b := 8) (by omega) (by decide)), gI_ok o, ob_some, h.ts.bo, if_neg (by decide), gR_ok o, ob_some, rw_g1051_323 hR, gB_ok (rw_ok336 hR) (by rw [rw_ln336 hR]; omega) (by omega), ob_some, rw_pkB hR j (by omega), gI_ok (rw_pkO hR j (by omega)), ob_some]
        unfold fX16_waiting_L32
        have e : su (fun k => if (mF A 960 (422 + 2 * k)) = 0 then 0 else 1) (j + 1) = su (fun k => if (mF A 960 (422 + 2 * k)) = 0 then 0 else 1) j + (if (mF A 960 (422 + 2 * j)) = 0 then 0 else 1) := rfl
        by_cases c : (mF A 960 (422 + 2 * j)) = 0
        · rw [if_pos c, nI_1]
          rw [e, if_pos c] at this
          exact this
        · rw [if_neg c, nI_1, nI_1]
          rw [e, if_neg c] at this
          exact this
    have := L 8 0 (fu - 1) (by decide) (by omega)
    rw [show fu - 1 + 1 = fu by omega, E] at this
    exact this
  · unfold fX11_waiting
    rw [gI_ok o3, ob_some, h.ts.bx, if_neg (by decide), gR_ok o3, ob_some, xw_g706_300 hW, gI_ok (xw_ok307 hW), ob_some, a2]
end Seen
