/-! ===== part 62: the first plain functions, in closed form ===== -/
theorem m_now {M : Mm} (h : RW M) (fu : Nat) : fX16_now fu 323 M = some (if mF M 1028 323 = 0 then -1 else mF M 1034 323, M) := by
  unfold fX16_now
  simp only [gI_ok (rw_ok323 h), ob_some]
  split <;> rfl
theorem x_now {M : Mm} (h : XW M) (fu : Nat) : fX11_now fu 300 M = some (if mF M 712 300 = 0 then -1 else mF M 641 304, M) := by
  unfold fX11_now
  simp only [gI_ok (xw_ok300 h), gR_ok (xw_ok300 h), xw_g705_300 h, gI_ok (xw_ok304 h), ob_some]
  split <;> rfl
theorem m_end {M : Mm} (h : RW M) (fu : Nat) (n : Int32) : fX16_end fu 323 n M = some (if ¬ n < 0 ∧ n ≤ mF M 1025 323 then (n, sF M 1025 323 n) else (-1, M)) := by
  unfold fX16_end
  simp only [gI_ok (rw_ok323 h), pF_ok (rw_ok323 h), ob_some]
  by_cases h1 : n < 0
  · simp [h1]
  · by_cases h2 : n ≤ mF M 1025 323
    · simp [h1, h2]
    · simp [h1, h2]
theorem x_end {M : Mm} (h : XW M) (fu : Nat) (n : Int32) : fX11_end fu 300 n M = some (if ¬ n < 0 ∧ n ≤ mF M 711 300 then (n, sF M 711 300 n) else (-1, M)) := by
  unfold fX11_end
  simp only [gI_ok (xw_ok300 h), pF_ok (xw_ok300 h), ob_some]
  by_cases h1 : n < 0
  · simp [h1]
  · by_cases h2 : n ≤ mF M 711 300
    · simp [h1, h2]
    · simp [h1, h2]
/-- a byte, as a row of bytes holds it -/
def byt (v : Int32) : Int32 := Int8.toInt32 (Int32.toInt8 v)
theorem byt_byt (v : Int32) : Int8.toInt32 (Int32.toInt8 (byt v)) = byt v := by
  unfold byt
  simp
/-- byte k of a number of four bytes, the highest first -/
def b4 (v : Int32) (k : Nat) : Int32 := if k = 0 then byt (v >>> 24) else if k = 1 then byt (v >>> 16) else if k = 2 then byt (v >>> 8) else byt v
theorem sF_self (M : Mm) (f a : Nat) : sF M f a (mF M f a) = M := by
  unfold sF mF
  have h : (fun g b => if g = f ∧ b = a then M.1 f a else M.1 g b) = M.1 := by
    funext g b
    by_cases h : g = f ∧ b = a
    · rw [if_pos h, h.1, h.2]
    · rw [if_neg h]
  rw [h]
/-- the reference with other contents of its tray -/
def trM (M : Mm) (t : Nat) (g : Nat → Int32) : Mm := sF (wA M 324 g) 1025 323 (nI t)
theorem trM_self {M : Mm} {t : Nat} (ht : mF M 1025 323 = nI t) : trM M t (mA M 324) = M := by
  unfold trM
  rw [wA_mA, ← ht, sF_self]
theorem m_word1 {M : Mm} (h : RW M) (fu n t : Nat) (g : Nat → Int32) (v k b : Int32) (hk : ¬ (4 : Int32) ≤ k) (ht2 : t < 65540) (hb : byt (v >>> (((24 : Int32) - ((8 : Int32) * k)) &&& 31)) = b) :
    fX16_word_L2 fu (n + 1) 323 v k (trM M t g) = fX16_word_L2 fu n 323 v (k + 1) (trM M (t + 1) (fun j => if j = t then b else g j)) := by
  rw [fX16_word_L2]
  rw [if_neg hk]
  have e : Int8.toInt32 (Int32.toInt8 (Int8.toInt32 (Int32.toInt8 (v >>> (((24 : Int32) - ((8 : Int32) * k)) &&& 31))))) = b := by
    rw [← hb]
    exact byt_byt _
  have hR : RW (trM M t g) := h
  have e1 : mF (trM M t g) 1025 323 = nI t := by unfold trM; rw [mF_sF, if_pos ⟨rfl, rfl⟩]
  have e2 : mA (trM M t g) 324 = g := by unfold trM; rw [mA_sF, mA_wA_self]
  simp only [gR_ok (rw_ok323 hR), rw_g1024_323 hR, gI_ok (rw_ok323 hR), e1, ob_some, e]
  rw [pA_ok (rw_ok324 hR) (by rw [rw_ln324 hR]; exact ht2) (by omega), e2]
  have hW : ∀ k, okA (wA (trM M t g) 324 k) 16 323 := fun k => rw_ok323 hR
  simp only [ob_some, gI_ok (hW _), pF_ok (hW _), mF_wA, e1, nI_1]
  unfold trM
  simp only [sF_wA, wA_wA, sF_sF]
theorem m_word {M : Mm} (h : RW M) (fu t : Nat) (g : Nat → Int32) (hfu : 5 ≤ fu) (v : Int32) (ht2 : t + 4 ≤ 65540) :
    fX16_word fu 323 v (trM M t g) = some (trM M (t + 4) (fun j => if t ≤ j ∧ j < t + 4 then b4 v (j - t) else g j)) := by
  obtain ⟨n, rfl⟩ : ∃ n, fu = n + 5 := ⟨fu - 5, by omega⟩
  unfold fX16_word
  rw [m_word1 h _ _ t _ v 0 (b4 v 0) (by decide) (by omega) (by rfl)]
  rw [m_word1 h _ _ (t + 1) _ v (0 + 1) (b4 v 1) (by decide) (by omega) (by rfl)]
  rw [m_word1 h _ _ (t + 2) _ v (0 + 1 + 1) (b4 v 2) (by decide) (by omega) (by rfl)]
  rw [m_word1 h _ _ (t + 3) _ v (0 + 1 + 1 + 1) (b4 v 3) (by decide) (by omega) (by show byt (v >>> ((0 : Int32) &&& 31)) = byt v; rw [sb_shr0])]
  rw [fX16_word_L2, if_pos (by decide)]
  congr 2
  funext j
  by_cases h3 : j = t + 3
  · subst h3
    have e : t + 3 - t = 3 := by omega
    simp [e, b4]
  · by_cases h2 : j = t + 2
    · subst h2
      have e : t + 2 - t = 2 := by omega
      simp [e, b4]
    · by_cases h1 : j = t + 1
      · subst h1
        have e : t + 1 - t = 1 := by omega
        simp [e, b4]
      · by_cases h0 : j = t
        · subst h0
          simp [b4]
        · have hn : ¬ (t ≤ j ∧ j < t + 4) := by omega
          simp [h3, h2, h1, h0, hn]
/-- byte k of five numbers -/
def b20 (a b c d e : Int32) (k : Nat) : Int32 := if k < 4 then b4 a k else if k < 8 then b4 b (k - 4) else if k < 12 then b4 c (k - 8) else if k < 16 then b4 d (k - 12) else b4 e (k - 16)
theorem m_feed {M : Mm} (h : RW M) (fu t : Nat) (g : Nat → Int32) (hfu : 5 ≤ fu) (a b c d e : Int32) (ht : t ≤ 65540) :
    fX16_feed fu 323 a b c d e (trM M t g) = some (if t + 20 ≤ 65540 then (nI (t + 20), trM M (t + 20) (fun j => if t ≤ j ∧ j < t + 20 then b20 a b c d e (j - t) else g j)) else (-1, trM M t g)) := by
  have e1 : ∀ t g, mF (trM M t g) 1025 323 = nI t := fun t g => by unfold trM; rw [mF_sF, if_pos ⟨rfl, rfl⟩]
  have hR : ∀ t g, okA (trM M t g) 16 323 := fun t g => rw_ok323 h
  unfold fX16_feed
  simp only [gI_ok (hR t g), e1, ob_some]
  have e2 : nI t + 20 = nI (t + 20) := nI_add t 20
  have e3 : (65540 : Int32) = nI 65540 := rfl
  have hc : (nI t + 20 ≤ 65540) ↔ t + 20 ≤ 65540 := by rw [e2, e3]; exact nI_leI (by omega) (by omega)
  by_cases h1 : t + 20 ≤ 65540
  · rw [if_pos (hc.mpr h1), if_pos h1]
    simp only [rc_ok (hR _ _), ob_some]
    rw [m_word h fu t g hfu a (by omega)]
    simp only [rc_ok (hR _ _), ob_some]
    rw [m_word h fu (t + 4) _ hfu b (by omega)]
    simp only [rc_ok (hR _ _), ob_some]
    rw [m_word h fu (t + 4 + 4) _ hfu c (by omega)]
    simp only [rc_ok (hR _ _), ob_some]
    rw [m_word h fu (t + 4 + 4 + 4) _ hfu d (by omega)]
    simp only [rc_ok (hR _ _), ob_some]
    rw [m_word h fu (t + 4 + 4 + 4 + 4) _ hfu e (by omega)]
    simp only [gI_ok (hR _ _), e1, ob_some]
    congr 3
    funext j
    unfold b20
    by_cases g0 : t ≤ j ∧ j < t + 20
    · rw [if_pos g0]
      by_cases g5 : t + 16 ≤ j
      · rw [if_pos (by omega), if_neg (by omega), if_neg (by omega), if_neg (by omega), if_neg (by omega)]
        congr 1
      · rw [if_neg (by omega)]
        by_cases g4 : t + 12 ≤ j
        · rw [if_pos (by omega), if_neg (by omega), if_neg (by omega), if_neg (by omega), if_pos (by omega)]
          congr 1
        · rw [if_neg (by omega)]
          by_cases g3 : t + 8 ≤ j
          · rw [if_pos (by omega), if_neg (by omega), if_neg (by omega), if_pos (by omega)]
            congr 1
          · rw [if_neg (by omega)]
            by_cases g2 : t + 4 ≤ j
            · rw [if_pos (by omega), if_neg (by omega), if_pos (by omega)]
              congr 1
            · rw [if_neg (by omega), if_pos (by omega), if_pos (by omega)]
    · rw [if_neg g0, if_neg (by omega), if_neg (by omega), if_neg (by omega), if_neg (by omega), if_neg (by omega)]
  · rw [if_neg (fun q => h1 (hc.mp q)), if_neg h1]
