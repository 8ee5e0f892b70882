/-! ===== part 9z8: boot, in the class: entries kept, all begun anew ===== -/
section Keep
variable {A M M' : Mm} {im ig ek F : Nat} {B : Nat → Int32}
/-- entries of the image, kept -/
def KpR (ek' F n : Nat) (B : Nat → Int32) (ek : Nat) (M M' : Mm) : Prop := mG M' 514 301 = some ek' ∧ okA M' 100 ek' ∧ 64 * F ≤ sLen (mS M') ek' ∧ sLen (mS M') ek' ≤ 65536 ∧ (∀ j, j < 64 * F → mA M' ek' j = B (8 + j)) ∧ mF M' 513 301 = nI F ∧ TrQ ek' M M' ∧ Nw100 M M' ∧ (∀ f, mF M' f 300 = mF M f 300) ∧ mG M' 512 301 = mG M 512 301 ∧ mG M' 710 300 = mG M 710 300 ∧ ((ek' = ek ∧ n = 0) ∨ (ek' = sN (mS M) ∧ n ≤ 4096)) ∧ sN (mS M') ≤ sN (mS M) + 1 ∧ sSl (mS M') = sSl (mS M) + n
theorem x_keepL (fu : Nat) (o8 : okA M 8 301) (gi : mG M 512 301 = some ig) (oi : okA M 100 ig) (li : sLen (mS M) ig = im) (l2 : im ≤ 65535) (hi : 8 + 64 * F ≤ im) (ge : mG M 514 301 = some ek) (oe : okA M 100 ek) (l1 : 64 * F ≤ sLen (mS M) ek) (le : sLen (mS M) ek ≤ 65536) (ne : ig ≠ ek) : fX8_keepEntries_L49 fu 301 (nI F) (nI (64 * F)) M = some (sF (sC M ig 8 ek 0 (64 * F)) 513 301 (nI F)) := by
  have e : cpB M (some ig) (8 : Int32) (some ek) (0 : Int32) (nI (64 * F)) = some (sC M ig 8 ek 0 (64 * F)) := cpB_ok (sp := 8) (dp := 0) oi oe ne (by rw [li]; exact hi) (by omega) (by rw [li]; omega) (by omega)
  unfold fX8_keepEntries_L49
  rw [gR_ok o8, ob_some, gi, gR_ok o8, ob_some, ge, e, ob_some, pF_ok (show okA (sC M ig 8 ek 0 (64 * F)) 8 301 from o8), ob_some]
theorem mA_sC' (M : Mm) (src sp dst dp n b j : Nat) : mA (sC M src sp dst dp n) b j = if b = dst ∧ dp ≤ j ∧ j < dp + n then mA M src (sp + (j - dp)) else mA M b j := rfl
theorem x_keepE (fu : Nat) (n450 : 450 ≤ sN (mS M)) (o8 : okA M 8 301) (gi : mG M 512 301 = some ig) (oi : okA M 100 ig) (li : sLen (mS M) ig = im) (l2 : im ≤ 65535) (hB : ∀ j, j < im → mA M ig j = B j) (hF : F ≤ 64) (hi : 12 + 64 * F ≤ im) (h45 : 256 * bv (B 4) + bv (B 5) = F) (ge : mG M 514 301 = some ek) (oe : okA M 100 ek) (le : sLen (mS M) ek ≤ 65536) (ne : ig ≠ ek) (r1 : sN (mS M) + 1 ≤ 600300) (r2 : sSl (mS M) + 4096 ≤ 7302250) : ∃ ek' n M', fX8_keepEntries fu 301 M = some M' ∧ KpR ek' F n B ek M M' := by
  have t4 : fX11_two fu (some ig) (4 : Int32) M = some (nI F, M) := by
    rw [← h45, ← h2_nI B 4, ← h2_congr (g := mA M ig) (hB 4 (by omega)) (hB (4 + 1) (by omega))]
    exact x_two fu oi (by rw [li]; omega) (i := 4) (by rw [li]; omega)
  have e64 : nI F * (64 : Int32) = nI (64 * F) := by rw [show nI F * (64 : Int32) = nI (F * 64) from pk_mul F 64, Nat.mul_comm]
  have e8 : (8 : Int32) + nI (64 * F) = nI (8 + 64 * F) := nI_add 8 _
  unfold fX8_keepEntries
  rw [gR_ok o8, ob_some, gi, t4, b2_some, if_neg (show ¬ (64 : Int32) < nI F from nI_nlt (a := 64) hF (by decide)), gR_ok o8, ob_some, gi, aL_ok oi li, ob_some, e64, e8, if_pos (nI_le (by omega) (by omega)), gR_ok o8, ob_some, ge, aL_ok oe rfl, ob_some]
  by_cases q : 64 * F ≤ sLen (mS M) ek
  · rw [if_pos (nI_le q (by omega)), x_keepL fu o8 gi oi li l2 (by omega) ge oe q le ne]
    refine ⟨ek, 0, _, rfl, ge, oe, q, le, fun j hj => ?_, ?_, ?_, fun t' a' o => Or.inl o.2.1, fun f => ?_, rfl, rfl, Or.inl ⟨rfl, rfl⟩, Nat.le_succ _, rfl⟩
    · rw [mA_sF, mA_sC', if_pos ⟨rfl, by omega, by omega⟩, Nat.sub_zero]
      exact hB _ (by omega)
    · rw [mF_sF, if_pos ⟨rfl, rfl⟩]
    · refine ⟨Nat.le_refl _, fun a' ha => ⟨rfl, rfl, fun f h1 h2 => ?_, fun _ _ _ => rfl, fun h1 => ?_, rfl⟩⟩
      · rw [mF_sF, if_neg (fun e => h2 ⟨e.2, e.1⟩)]; rfl
      · funext j
        rw [mA_sF, mA_sC', if_neg (fun e => h1 e.1)]
    · rw [mF_sF, if_neg (by omega)]; rfl
  · rw [if_neg (nI_ge (by omega) (by omega)), mkA_at 100 (by omega) r1 (by omega), b2_some]
    have en : nA M 100 (64 * F) = nT M (64 * F) (mA (nA M 100 (64 * F)) (sN (mS M))) := (wA_mA _ _).symm
    rw [en]
    generalize mA (nA M 100 (64 * F)) (sN (mS M)) = G
    obtain ⟨o2, ln⟩ := nT_ok (M := M) (n := 64 * F) (G := G) (by omega)
    have T := nT_tr (M := M) (tr := sN (mS M)) (n := 64 * F) (G := G)
    have il := oi.2.1
    rw [pG_ok (T.ok o8), ob_some]
    generalize hM1 : sG (nT M (64 * F) G) 514 301 (some (sN (mS M))) = M1
    have gM : ∀ f a, ¬ (f = 514 ∧ a = 301) → mG M1 f a = mG M f a := fun f a h => by subst hM1; rw [mG_sG, if_neg h]; rfl
    have gN : mG M1 514 301 = some (sN (mS M)) := by subst hM1; rw [mG_sG, if_pos ⟨rfl, rfl⟩]
    have S1 : mS M1 = mS (nT M (64 * F) G) := by subst hM1; rfl
    have A1 : mA M1 = mA (nT M (64 * F) G) := by subst hM1; rfl
    have B1 : mB M1 = mB (nT M (64 * F) G) := by subst hM1; rfl
    have F1 : mF M1 = mF M := by subst hM1; rfl
    have ok1 : ∀ t a, okA (nT M (64 * F) G) t a → okA M1 t a := fun t a h => by unfold okA at *; rw [S1]; exact h
    have li1 : sLen (mS M1) ig = im := by rw [S1, (T.2 ig il).2.1]; exact li
    have le1 : sLen (mS M1) (sN (mS M)) = 64 * F := by rw [S1]; exact ln
    rw [x_keepL (F := F) (ek := sN (mS M)) fu (ok1 _ _ (T.ok o8)) (by rw [gM _ _ (by omega)]; exact gi) (ok1 _ _ (T.ok oi)) li1 l2 (by omega) gN (ok1 _ _ o2) (by rw [le1]; exact Nat.le_refl _) (by rw [le1]; omega) (by omega)]
    refine ⟨sN (mS M), 64 * F, _, rfl, gN, ok1 _ _ o2, ?_, ?_, fun j hj => ?_, ?_, ?_, fun t' a' o => ?_, fun f => ?_, gM _ _ (by omega), gM _ _ (by omega), Or.inr ⟨rfl, by omega⟩, ?_, ?_⟩
    · show 64 * F ≤ sLen (mS M1) _
      rw [le1]; exact Nat.le_refl _
    · show sLen (mS M1) _ ≤ _
      rw [le1]; omega
    · rw [mA_sF, mA_sC', if_pos ⟨rfl, by omega, by omega⟩, Nat.sub_zero, A1, nT_A (by omega)]
      exact hB _ (by omega)
    · rw [mF_sF, if_pos ⟨rfl, rfl⟩]
    · refine ⟨?_, fun a' ha => ?_⟩
      · show sN (mS M) ≤ sN (mS M1)
        rw [S1]; exact Nat.le_succ _
      · obtain ⟨t1, t2, t3, t4, t5, t6⟩ := T.2 a' ha
        refine ⟨?_, ?_, fun f h1 h2 => ?_, fun f h1 h2 => ?_, fun h1 => ?_, ?_⟩
        · show sTy (mS M1) a' = _
          rw [S1]; exact t1
        · show sLen (mS M1) a' = _
          rw [S1]; exact t2
        · rw [mF_sF, if_neg (fun e => h2 ⟨e.2, e.1⟩)]
          show mF M1 f a' = _
          rw [F1]
        · show mG M1 f a' = _
          exact gM f a' (fun e => h2 ⟨e.2, Or.inr e.1⟩)
        · funext j
          rw [mA_sF, mA_sC', if_neg (fun e => h1 e.1), A1, t5 h1]
        · show mB M1 a' = _
          rw [B1]; exact t6
    · have o : okA M1 t' a' := o
      unfold okA at o
      rw [S1] at o
      exact nT_100 t' a' o
    · rw [mF_sF, if_neg (by omega)]
      show mF M1 f 300 = _
      rw [F1]
    · show sN (mS M1) ≤ _
      rw [S1]; exact Nat.le_refl _
    · show sSl (mS M1) = _
      rw [S1]; rfl
/-- connections left, up to place k -/
def LvR (k : Nat) (M M' : Mm) : Prop := mS M' = mS M ∧ mG M' = mG M ∧ mB M' = mB M ∧ mA M' = mA M ∧ (∀ f a, f ≠ 64 → f ≠ 324 → mF M' f a = mF M f a) ∧ ∀ i c, i < k → mB M 318 i = some c → mF M' 64 c = 0
theorem x_leaves (fu : Nat) (hW : XW M) (hS : XS M) (hr : ∀ i c, mB M 318 i = some c → okA M 1 c) : ∀ n k M', LvR k M M' → k ≤ 16 → 16 < k + n → ∃ M'', fX9_restart_L2 fu n 317 (nI k) M' = some M'' ∧ LvR 16 M M''
  | 0, k, M', _, h1, h2 => absurd h2 (by omega)
  | n + 1, k, M', h, h1, h2 => by
    obtain ⟨l1, l2, l3, l4, l5, l6⟩ := h
    have ok : ∀ t a, okA M t a → okA M' t a := fun t a o => by unfold okA at *; rw [l1]; exact o
    rw [fX9_restart_L2]
    by_cases q : 16 ≤ k
    · have : k = 16 := by omega
      subst this
      exact ⟨M', by rw [if_pos (by decide)], l1, l2, l3, l4, l5, l6⟩
    · rw [if_neg (show ¬ (16 : Int32) ≤ nI k from nI_ge (b := 16) (by omega) (by decide)), gR_ok (ok _ _ (xw_ok317 hW)), ob_some, show mG M' 580 317 = some 318 by rw [l2]; exact xw_g580_317 hW, gB_ok (ok _ _ (xw_ok318 hW)) (by rw [l1, xw_ln318 hW]; omega) (by omega), ob_some, l3]
      unfold fX9_restart_L23
      rw [nI_1]
      cases hc : mB M 318 k with
      | none =>
        rw [if_pos rfl]
        refine x_leaves fu hW hS hr n (k + 1) M' ⟨l1, l2, l3, l4, l5, fun i c i1 i2 => ?_⟩ (by omega) (by omega)
        by_cases z : i = k
        · rw [z, hc] at i2; cases i2
        · exact l6 i c (by omega) i2
      | some c =>
        have oc := hr k c hc
        obtain ⟨-, -, x3, -, -, -, -, -, -, -, -, -, x13⟩ := hS.2.2 c oc
        rw [if_neg (by simp), rc_ok (ok _ _ oc), ob_some]
        unfold fX1_leave
        rw [pF_ok (ok _ _ oc), ob_some, gR_ok (show okA (sF M' 64 c 0) 1 c from ok _ _ oc), ob_some, show mG (sF M' 64 c 0) 81 c = some (c + 5) by show mG M' 81 c = _; rw [l2]; exact x3, pF_ok (show okA (sF M' 64 c 0) 5 (c + 5) from ok _ _ x13), ob_some, ob_some]
        refine x_leaves fu hW hS hr n (k + 1) (sF (sF M' 64 c 0) 324 (c + 5) 2147483647) ⟨l1, l2, l3, l4, fun f a f1 f2 => ?_, fun i c' i1 i2 => ?_⟩ (by omega) (by omega)
        · rw [mF_sF, if_neg (fun e => f2 e.1), mF_sF, if_neg (fun e => f1 e.1)]
          exact l5 f a f1 f2
        · rw [mF_sF, if_neg (by omega), mF_sF]
          by_cases z : c' = c
          · rw [if_pos ⟨rfl, z⟩]
          · rw [if_neg (fun e => z e.2)]
            refine l6 i c' ?_ i2
            apply Classical.byContradiction
            intro w
            have : i = k := by omega
            rw [this, hc] at i2
            exact z (Option.some.inj i2).symm
/-- all begun anew, in the class -/
def RsR (ip ma ga hi lo : Int32) (M M' : Mm) : Prop := mS M' = mS M ∧ mG M' = mG M ∧ mB M' = mB M ∧ (∀ a, a ≠ 305 → mA M' a = mA M a) ∧ (∀ j, j < 8 → mA M' 305 j = 0) ∧ (mF M' 641 304 = 0 ∧ mF M' 642 304 = 0 ∧ mF M' 643 304 = 0) ∧ (mF M' 257 307 = ip ∧ mF M' 262 307 = ma ∧ mF M' 263 307 = ga ∧ mF M' 258 307 = hi ∧ mF M' 259 307 = lo ∧ mF M' 264 307 = 1 ∧ mF M' 265 307 = 0 ∧ mF M' 260 307 = 0) ∧ mF M' 208 314 = 0 ∧ mF M' 712 300 = 1 ∧ (∀ i c, i < 16 → mB M 318 i = some c → mF M' 64 c = 0) ∧ mF M' 711 300 = mF M 711 300 ∧ mF M' 513 301 = mF M 513 301
theorem x_anew (fu : Nat) (hfu : 100 ≤ fu) (hW : XW M) (hS : XS M) (hr : ∀ i c, mB M 318 i = some c → okA M 1 c) (ip ma ga hi lo : Int32) : ∃ M1 M2 M3 M4 M5, fX10_restart fu 304 M = some M1 ∧ fX4_restart fu 307 ip ma ga hi lo M1 = some M2 ∧ fX3_restart fu 314 M2 = some M3 ∧ fX9_restart fu 317 M3 = some M4 ∧ pZ M4 11 712 (some 300) 1 = some M5 ∧ (XW M1 ∧ XW M2 ∧ XW M3 ∧ XW M5) ∧ RsR ip ma ga hi lo M M5 := by
  have o4 := xw_ok304 hW
  have o7 := xw_ok307 hW
  have o14 := xw_ok314 hW
  have ef := x_fill (M := M) fu (L := 8) (xw_ok305 hW) (xw_ln305 hW) (by decide) (by omega) 0
  refine ⟨sF (sF (sF (wA M 305 (fun j => if j < 8 then 0 else mA M 305 j)) 641 304 0) 642 304 0) 643 304 0, ?_⟩
  have e1 : fX10_restart fu 304 M = some (sF (sF (sF (wA M 305 (fun j => if j < 8 then 0 else mA M 305 j)) 641 304 0) 642 304 0) 643 304 0) := by
    unfold fX10_restart
    rw [gR_ok o4, ob_some, xw_g640_304 hW, ef, ob_some, pF_ok (show okA (wA M 305 _) 10 304 from o4), ob_some, pF_ok (show okA (sF (wA M 305 _) 641 304 0) 10 304 from o4), ob_some, pF_ok (show okA (sF (sF (wA M 305 _) 641 304 0) 642 304 0) 10 304 from o4), ob_some]
  generalize hM1 : sF (sF (sF (wA M 305 (fun j => if j < 8 then 0 else mA M 305 j)) 641 304 0) 642 304 0) 643 304 0 = M1 at e1
  have W1 : XW M1 := by subst hM1; exact hW
  have oM1 : okA M1 4 307 := xw_ok307 W1
  refine ⟨sF (sF (sF (sF (sF (sF (sF (sF M1 257 307 ip) 262 307 ma) 263 307 ga) 258 307 hi) 259 307 lo) 264 307 1) 265 307 0) 260 307 0, ?_⟩
  have e2 : fX4_restart fu 307 ip ma ga hi lo M1 = some (sF (sF (sF (sF (sF (sF (sF (sF M1 257 307 ip) 262 307 ma) 263 307 ga) 258 307 hi) 259 307 lo) 264 307 1) 265 307 0) 260 307 0) := by
    unfold fX4_restart
    rw [pF_ok oM1, ob_some, pF_ok (show okA (sF M1 257 307 ip) 4 307 from oM1), ob_some, pF_ok (show okA (sF (sF M1 257 307 ip) 262 307 ma) 4 307 from oM1), ob_some, pF_ok (show okA (sF (sF (sF M1 257 307 ip) 262 307 ma) 263 307 ga) 4 307 from oM1), ob_some, pF_ok (show okA (sF (sF (sF (sF M1 257 307 ip) 262 307 ma) 263 307 ga) 258 307 hi) 4 307 from oM1), ob_some, pF_ok (show okA (sF (sF (sF (sF (sF M1 257 307 ip) 262 307 ma) 263 307 ga) 258 307 hi) 259 307 lo) 4 307 from oM1), ob_some, pF_ok (show okA (sF (sF (sF (sF (sF (sF M1 257 307 ip) 262 307 ma) 263 307 ga) 258 307 hi) 259 307 lo) 264 307 1) 4 307 from oM1), ob_some, pF_ok (show okA (sF (sF (sF (sF (sF (sF (sF M1 257 307 ip) 262 307 ma) 263 307 ga) 258 307 hi) 259 307 lo) 264 307 1) 265 307 0) 4 307 from oM1), ob_some]
  generalize hM2 : sF (sF (sF (sF (sF (sF (sF (sF M1 257 307 ip) 262 307 ma) 263 307 ga) 258 307 hi) 259 307 lo) 264 307 1) 265 307 0) 260 307 0 = M2 at e2
  have W2 : XW M2 := by subst hM2; exact W1
  have e3 : fX3_restart fu 314 M2 = some (sF M2 208 314 0) := by
    unfold fX3_restart
    rw [pF_ok (xw_ok314 W2), ob_some]
  have W3 : XW (sF M2 208 314 0) := W2
  have S2 : mS (sF M2 208 314 0) = mS M := by subst hM2; subst hM1; rfl
  have G2 : mG (sF M2 208 314 0) = mG M := by subst hM2; subst hM1; rfl
  have B2 : mB (sF M2 208 314 0) = mB M := by subst hM2; subst hM1; rfl
  have A2 : mA (sF M2 208 314 0) = mA (wA M 305 (fun j => if j < 8 then 0 else mA M 305 j)) := by subst hM2; subst hM1; rfl
  obtain ⟨M4, e4, v1, v2, v3, v4, v5, v6⟩ := x_leaves (M := sF M2 208 314 0) fu W3 (XS_same S2 G2 hS) (fun i c hc => by
    rw [B2] at hc
    have := hr i c hc
    unfold okA at *
    rw [S2]
    exact this) fu 0 (sF M2 208 314 0) ⟨rfl, rfl, rfl, rfl, fun _ _ _ _ => rfl, fun i c hi => by omega⟩ (by decide) (by omega)
  have e4 : fX9_restart fu 317 (sF M2 208 314 0) = some M4 := e4
  have o4' : okA M4 11 300 := by
    have := xw_ok300 W3
    unfold okA at *
    rw [v1]
    exact this
  have W5 : XW (sF M4 712 300 1) := XW_ce2 hW (fun t a _ _ o => by unfold okA at *; show _ ∧ a < sN (mS M4) ∧ sTy (mS M4) a = t; rw [v1, S2]; exact o) (fun a _ _ => by show sLen (mS M4) a = _; rw [v1, S2]) (fun f a _ _ _ _ => by show mG M4 f a = _; rw [v2, G2]) (fun a i _ _ => by show mB M4 a i = _; rw [v3, B2])
  refine ⟨sF M2 208 314 0, M4, sF M4 712 300 1, e1, e2, e3, e4, pZ_ok o4' (Or.inr rfl), ⟨W1, W2, W3, W5⟩, v1.trans S2, v2.trans G2, v3.trans B2, fun a ha => ?_, fun j hj => ?_, ?_, ?_, ?_, ?_, fun i c hi hc => ?_, ?_, ?_⟩
  · rw [mA_sF, v4, A2, mA_wA_ne ha]
  · rw [mA_sF, v4, A2, mA_wA_self]
    exact if_pos hj
  · have z : ∀ f, 641 ≤ f → f ≤ 643 → mF (sF M4 712 300 1) f 304 = mF M1 f 304 := fun f f1 f2 => by
      rw [mF_sF, if_neg (by omega), v5 f 304 (by omega) (by omega), mF_sF, if_neg (by omega), ← hM2]
      repeat rw [mF_sF, if_neg (by omega)]
    rw [z 641 (by decide) (by decide), z 642 (by decide) (by decide), z 643 (by decide) (by decide), ← hM1]
    refine ⟨?_, ?_, ?_⟩
    · rw [mF_sF, if_neg (by omega), mF_sF, if_neg (by omega), mF_sF, if_pos ⟨rfl, rfl⟩]
    · rw [mF_sF, if_neg (by omega), mF_sF, if_pos ⟨rfl, rfl⟩]
    · rw [mF_sF, if_pos ⟨rfl, rfl⟩]
  · have z : ∀ f, 257 ≤ f → f ≤ 265 → mF (sF M4 712 300 1) f 307 = mF M2 f 307 := fun f f1 f2 => by
      rw [mF_sF, if_neg (by omega), v5 f 307 (by omega) (by omega), mF_sF, if_neg (by omega)]
    rw [z 257 (by decide) (by decide), z 262 (by decide) (by decide), z 263 (by decide) (by decide), z 258 (by decide) (by decide), z 259 (by decide) (by decide), z 264 (by decide) (by decide), z 265 (by decide) (by decide), z 260 (by decide) (by decide), ← hM2]
    refine ⟨?_, ?_, ?_, ?_, ?_, ?_, ?_, ?_⟩
    all_goals
      repeat (first | rw [mF_sF, if_pos ⟨rfl, rfl⟩] | rw [mF_sF, if_neg (by omega)])
  · rw [mF_sF, if_neg (by omega), v5 208 314 (by omega) (by omega), mF_sF, if_pos ⟨rfl, rfl⟩]
  · rw [mF_sF, if_pos ⟨rfl, rfl⟩]
  · rw [mF_sF, if_neg (by omega)]
    exact v6 i c hi (by rw [B2]; exact hc)
  · rw [mF_sF, if_neg (by omega), v5 711 300 (by omega) (by omega), mF_sF, if_neg (by omega), ← hM2]
    repeat rw [mF_sF, if_neg (by omega)]
    rw [← hM1]
    repeat rw [mF_sF, if_neg (by omega)]
    rfl
  · rw [mF_sF, if_neg (by omega), v5 513 301 (by omega) (by omega), mF_sF, if_neg (by omega), ← hM2]
    repeat rw [mF_sF, if_neg (by omega)]
    rw [← hM1]
    repeat rw [mF_sF, if_neg (by omega)]
    rfl
end Keep
