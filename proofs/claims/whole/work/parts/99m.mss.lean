/-! ===== part 99m: the option of a segment, in both ===== -/
section Mss
variable {A M : Mm}
/-- the head of a segment, in both -/
def HS (A M : Mm) (bd pl he : Nat) : Prop := (RW A) ∧ (By A) ∧ (XW M) ∧ (By M) ∧ ((mG M 192 314) = some bd) ∧ ((mF M 202 314) = nI pl) ∧ ((mF A 1064 323) = nI he) ∧ ((mF M 200 314) = nI (pl + he)) ∧ (okA M 100 bd) ∧ (pl + he ≤ sLen (mS M) bd) ∧ (sLen (mS M) bd < 2 ^ 30) ∧ (he ≤ 60) ∧ (∀ j, j < he → mA A 338 j = mA M bd (pl + j)) ∧ True
theorem HS.rw' {A M : Mm} {bd pl he : Nat} (h : HS A M bd pl he) : RW A := h.1
theorem HS.ba {A M : Mm} {bd pl he : Nat} (h : HS A M bd pl he) : By A := h.2.1
theorem HS.xw {A M : Mm} {bd pl he : Nat} (h : HS A M bd pl he) : XW M := h.2.2.1
theorem HS.bm {A M : Mm} {bd pl he : Nat} (h : HS A M bd pl he) : By M := h.2.2.2.1
theorem HS.pb {A M : Mm} {bd pl he : Nat} (h : HS A M bd pl he) : (mG M 192 314) = some bd := h.2.2.2.2.1
theorem HS.pp {A M : Mm} {bd pl he : Nat} (h : HS A M bd pl he) : (mF M 202 314) = nI pl := h.2.2.2.2.2.1
theorem HS.pe {A M : Mm} {bd pl he : Nat} (h : HS A M bd pl he) : (mF A 1064 323) = nI he := h.2.2.2.2.2.2.1
theorem HS.px {A M : Mm} {bd pl he : Nat} (h : HS A M bd pl he) : (mF M 200 314) = nI (pl + he) := h.2.2.2.2.2.2.2.1
theorem HS.ok {A M : Mm} {bd pl he : Nat} (h : HS A M bd pl he) : okA M 100 bd := h.2.2.2.2.2.2.2.2.1
theorem HS.l1 {A M : Mm} {bd pl he : Nat} (h : HS A M bd pl he) : pl + he ≤ sLen (mS M) bd := h.2.2.2.2.2.2.2.2.2.1
theorem HS.l2 {A M : Mm} {bd pl he : Nat} (h : HS A M bd pl he) : sLen (mS M) bd < 2 ^ 30 := h.2.2.2.2.2.2.2.2.2.2.1
theorem HS.he1 {A M : Mm} {bd pl he : Nat} (h : HS A M bd pl he) : he ≤ 60 := h.2.2.2.2.2.2.2.2.2.2.2.1
theorem HS.by' {A M : Mm} {bd pl he : Nat} (h : HS A M bd pl he) : ∀ j, j < he → mA A 338 j = mA M bd (pl + j) := h.2.2.2.2.2.2.2.2.2.2.2.2.1
theorem HS.mk {A M : Mm} {bd pl he : Nat} (rw'_ : RW A) (ba_ : By A) (xw_ : XW M) (bm_ : By M) (pb_ : (mG M 192 314) = some bd) (pp_ : (mF M 202 314) = nI pl) (pe_ : (mF A 1064 323) = nI he) (px_ : (mF M 200 314) = nI (pl + he)) (ok_ : okA M 100 bd) (l1_ : pl + he ≤ sLen (mS M) bd) (l2_ : sLen (mS M) bd < 2 ^ 30) (he1_ : he ≤ 60) (by'_ : ∀ j, j < he → mA A 338 j = mA M bd (pl + j)) : HS A M bd pl he := ⟨rw'_, ba_, xw_, bm_, pb_, pp_, pe_, px_, ok_, l1_, l2_, he1_, by'_, trivial⟩
theorem u8_0 {v : Int32} (h : isB v) : u8 v = 0 ↔ v = 0 := u8_eq h (n := 0) (by decide)
theorem u8_1 {v : Int32} (h : isB v) : u8 v = 1 ↔ v = 1 := u8_eq h (n := 1) (by decide)
theorem u8_2 {v : Int32} (h : isB v) : u8 v = 2 ↔ v = 2 := u8_eq h (n := 2) (by decide)
theorem sp_mssL (fu : Nat) {bd pl he : Nat} (h : HS A M bd pl he) : ∀ (d i m m2 : Nat), he ≤ i + d → i ≤ 400 → d ≤ m → d ≤ m2 →
    ∃ ms, 64 ≤ ms ∧ ms ≤ 1460 ∧ fX16_optionMss_L3 fu (m + 1) 323 (nI i) A = some (nI ms, A) ∧ fX3_mss_L8 fu (m2 + 1) 314 (nI (pl + i)) M = some (nI ms, M) := by
  have o := rw_ok323 h.rw'
  have ox := xw_ok314 h.xw
  have he1 := h.he1
  have l1 := h.l1
  have l2 := h.l2
  have end536 : ∀ (i m m2 : Nat), he ≤ i → i ≤ 400 → ∃ ms, 64 ≤ ms ∧ ms ≤ 1460 ∧ fX16_optionMss_L3 fu (m + 1) 323 (nI i) A = some (nI ms, A) ∧ fX3_mss_L8 fu (m2 + 1) 314 (nI (pl + i)) M = some (nI ms, M) := fun i m m2 hi hi4 => by
    refine ⟨536, by decide, by decide, ?_, ?_⟩
    · rw [fX16_optionMss_L3, gI_ok o, ob_some, h.pe, if_pos (nI_le hi (by omega))]
      rfl
    · rw [fX3_mss_L8, gI_ok ox, ob_some, h.px, if_pos (nI_le (by omega) (by omega))]
      rfl
  intro d
  induction d with
  | zero => intro i m m2 h1 hi4 h3 h4; exact end536 i m m2 (by omega) hi4
  | succ d ih =>
    intro i m m2 h1 hi4 h3 h4
    by_cases hi : he ≤ i
    · exact end536 i m m2 hi hi4
    have hi' : i < he := by omega
    have hb : ∀ j, j < he → isB (mA A 338 j) := fun j hj => h.ba _ j (rw_ok338 h.rw').2.2
    have ga : ∀ j, j < he → gA A 100 (some 338) (nI j) = some (mA A 338 j) := fun j hj => gA_ok (rw_ok338 h.rw') (by rw [rw_ln338 h.rw']; omega) (by omega)
    have gx : ∀ j, j < he → fX11_one fu (some bd) (nI (pl + j)) M = some (u8 (mA A 338 j), M) := fun j hj => by rw [x_one fu h.ok l2 (by omega), h.by' j hj]
    obtain ⟨m', rfl⟩ : ∃ m', m = m' + 1 := ⟨m - 1, by omega⟩
    obtain ⟨m2', rfl⟩ : ∃ m2', m2 = m2' + 1 := ⟨m2 - 1, by omega⟩
    have e1 : (nI i : Int32) + 1 = nI (i + 1) := nI_1 i
    have e1x : (nI (pl + i) : Int32) + 1 = nI (pl + (i + 1)) := nI_1 (pl + i)
    rw [fX16_optionMss_L3, fX3_mss_L8]
    simp only [gI_ok o, gR_ok o, ob_some, h.pe, rw_g1053_323 h.rw', gI_ok ox, gR_ok ox, h.px, h.pb, ga i hi', gx i hi', b2_some, e1, e1x]
    rw [if_neg (nI_ge hi' (by omega)), if_neg (nI_ge (show pl + i < pl + he by omega) (by omega))]
    by_cases q0 : mA A 338 i = 0
    · rw [if_pos q0, if_pos ((u8_0 (hb i hi')).mpr q0)]
      exact ⟨536, by decide, by decide, rfl, rfl⟩
    rw [if_neg q0, if_neg (fun z => q0 ((u8_0 (hb i hi')).mp z))]
    by_cases q1 : mA A 338 i = 1
    · rw [if_pos q1, if_pos ((u8_1 (hb i hi')).mpr q1)]
      unfold fX16_optionMss_L116 fX3_mss_L114
      rw [e1x]
      exact ih (i + 1) m' m2' (by omega) (by omega) (by omega) (by omega)
    rw [if_neg q1, if_neg (fun z => q1 ((u8_1 (hb i hi')).mp z))]
    by_cases q2 : i + 1 < he
    · rw [if_pos (nI_lt q2 (by omega)), ga _ q2, ob_some, if_neg (nI_ge (show pl + (i + 1) < pl + he by omega) (by omega)), gx _ q2, b2_some]
      unfold fX3_mss_L63
      have eu : u8 (mA A 338 (i + 1)) = nI (bv (mA A 338 (i + 1))) := u8_bv _
      have eu' : mA A 338 (i + 1) &&& (255 : Int32) = nI (bv (mA A 338 (i + 1))) := u8_bv _
      have lb := bv_lt (mA A 338 (i + 1))
      rw [eu, eu']
      generalize bv (mA A 338 (i + 1)) = L at lb
      simp only [gI_ok ox, gR_ok ox, ob_some, h.px, h.pb, nI_add]
      by_cases q3 : L < 2
      · rw [if_pos (show (nI L : Int32) < (2 : Int32) from nI_lt (b := 2) q3 (by decide)), if_pos (show (nI L : Int32) < (2 : Int32) from nI_lt (b := 2) q3 (by decide))]
        exact ⟨536, by decide, by decide, rfl, rfl⟩
      · rw [if_neg (show ¬ (nI L : Int32) < (2 : Int32) from nI_nlt (b := 2) (by omega) (by omega)), if_neg (show ¬ (nI L : Int32) < (2 : Int32) from nI_nlt (b := 2) (by omega) (by omega))]
        by_cases q4 : i + L ≤ he
        · rw [if_pos (nI_le q4 (by omega)), if_pos (nI_le (show pl + i + L ≤ pl + he by omega) (by omega))]
          have nxt : ∃ ms, 64 ≤ ms ∧ ms ≤ 1460 ∧ fX16_optionMss_L3 fu (m' + 1) 323 (nI (i + L)) A = some (nI ms, A) ∧ fX3_mss_L8 fu (m2' + 1) 314 (nI (pl + i + L)) M = some (nI ms, M) := by
            rw [Nat.add_assoc pl i L]
            exact ih (i + L) m' m2' (by omega) (by omega) (by omega) (by omega)
          by_cases q5 : mA A 338 i = 2
          · rw [if_pos q5, if_pos ((u8_2 (hb i hi')).mpr q5)]
            by_cases q6 : L = 4
            · subst q6
              rw [if_pos (show (nI 4 : Int32) = (4 : Int32) from rfl), if_pos (show (nI 4 : Int32) = (4 : Int32) from rfl), rc_ok o, ob_some]
              have e2 : (nI i : Int32) + 2 = nI (i + 2) := nI_add i 2
              have e2x : (nI (pl + i) : Int32) + 2 = nI (pl + i + 2) := nI_add (pl + i) 2
              have hh : h2 (mA A 338) (i + 2) = h2 (mA M bd) (pl + i + 2) := by
                unfold h2
                rw [h.by' (i + 2) (by omega), h.by' (i + 2 + 1) (by omega)]
                rfl
              rw [e2, e2x, m_half h.rw' fu (by omega), b2_some, x_two fu h.ok l2 (by omega), b2_some, hh]
              obtain ⟨w, w1, w2⟩ := h2_w (mA M bd) (pl + i + 2)
              rw [w2]
              have e3 : jmax (64 : Int32) (jmin (1460 : Int32) (nI w)) = nI (max 64 (min 1460 w)) := by
                rw [show jmin (1460 : Int32) (nI w) = nI (min 1460 w) from jmin_nI (a := 1460) (by decide) (by omega)]
                exact jmax_nI (a := 64) (by decide) (by omega)
              rw [e3]
              exact ⟨max 64 (min 1460 w), by omega, by omega, rfl, rfl⟩
            · rw [if_neg (show ¬ (nI L : Int32) = (4 : Int32) from fun z => q6 ((nI_eq (b := 4) (by omega) (by decide)).mp z)), if_neg (show ¬ (nI L : Int32) = (4 : Int32) from fun z => q6 ((nI_eq (b := 4) (by omega) (by decide)).mp z))]
              unfold fX16_optionMss_L112 fX16_optionMss_L116 fX3_mss_L114
              simp only [nI_add]
              exact nxt
          · rw [if_neg q5, if_neg (fun z => q5 ((u8_2 (hb i hi')).mp z))]
            unfold fX16_optionMss_L112 fX16_optionMss_L116 fX3_mss_L114
            simp only [nI_add]
            exact nxt
        · rw [if_neg (nI_ge (show he < i + L by omega) (by omega)), if_neg (nI_ge (show pl + he < pl + i + L by omega) (by omega))]
          exact ⟨536, by decide, by decide, rfl, rfl⟩
    · rw [if_neg (nI_nlt (show he ≤ i + 1 by omega) (by omega)), if_pos (nI_le (show pl + he ≤ pl + (i + 1) by omega) (by omega))]
      unfold fX3_mss_L63
      rw [if_pos (by decide)]
      exact ⟨536, by decide, by decide, rfl, rfl⟩
theorem sp_mss (fu : Nat) (hfu : 100 ≤ fu) {bd pl he : Nat} (h : HS A M bd pl he) : ∃ ms, 64 ≤ ms ∧ ms ≤ 1460 ∧ fX16_optionMss fu 323 A = some (nI ms, A) ∧ fX3_mss fu 314 M = some (nI ms, M) := by
  obtain ⟨ms, a1, a2, a3, a4⟩ := sp_mssL fu h 60 20 (fu - 1) (fu - 1) (by have := h.he1; omega) (by decide) (by omega) (by omega)
  rw [show fu - 1 + 1 = fu by omega] at a3 a4
  refine ⟨ms, a1, a2, a3, ?_⟩
  unfold fX3_mss
  rw [gI_ok (xw_ok314 h.xw), ob_some, h.pp, show (nI pl : Int32) + (20 : Int32) = nI (pl + 20) from nI_add pl 20]
  exact a4
end Mss
