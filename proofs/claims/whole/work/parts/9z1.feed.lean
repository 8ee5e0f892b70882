/-! ===== part 9z1: feed, in the class ===== -/
theorem up4_b4 {g : Nat → Int32} {i j : Nat} {v : Int32} : up4 g i v j = if i ≤ j ∧ j < i + 4 then b4 v (j - i) else g j := by
  by_cases q : i ≤ j ∧ j < i + 4
  · rw [if_pos q]
    unfold up4 b4
    rcases (by omega : j = i ∨ j = i + 1 ∨ j = i + 2 ∨ j = i + 3) with e | e | e | e
    · subst e
      rw [if_pos rfl, if_pos (by omega)]
      rfl
    · subst e
      rw [if_neg (by omega), if_pos rfl, if_neg (by omega), if_pos (by omega)]
      rfl
    · subst e
      rw [if_neg (by omega), if_neg (by omega), if_pos rfl, if_neg (by omega), if_neg (by omega), if_pos (by omega)]
      rfl
    · subst e
      rw [if_neg (by omega), if_neg (by omega), if_neg (by omega), if_pos rfl, if_neg (by omega), if_neg (by omega), if_neg (by omega)]
  · rw [if_neg q]
    exact up4_o (by omega)
/-- twenty bytes at y -/
def p20 (g : Nat → Int32) (y : Nat) (a b c d e : Int32) : Nat → Int32 := fun j => if y ≤ j ∧ j < y + 20 then b20 a b c d e (j - y) else g j
theorem up20 (g : Nat → Int32) (y : Nat) (a b c d e : Int32) : up4 (up4 (up4 (up4 (up4 g y a) (y + 4) b) (y + 8) c) (y + 12) d) (y + 16) e = p20 g y a b c d e := by
  funext j
  rw [up4_b4, up4_b4, up4_b4, up4_b4, up4_b4]
  unfold p20 b20
  by_cases h5 : y + 16 ≤ j ∧ j < y + 16 + 4
  · rw [if_pos h5, if_pos (by omega), if_neg (by omega), if_neg (by omega), if_neg (by omega), if_neg (by omega)]
    congr 1
  rw [if_neg h5]
  by_cases h4 : y + 12 ≤ j ∧ j < y + 12 + 4
  · rw [if_pos h4, if_pos (by omega), if_neg (by omega), if_neg (by omega), if_neg (by omega), if_pos (by omega)]
    congr 1
  rw [if_neg h4]
  by_cases h3 : y + 8 ≤ j ∧ j < y + 8 + 4
  · rw [if_pos h3, if_pos (by omega), if_neg (by omega), if_neg (by omega), if_pos (by omega)]
    congr 1
  rw [if_neg h3]
  by_cases h2 : y + 4 ≤ j ∧ j < y + 4 + 4
  · rw [if_pos h2, if_pos (by omega), if_neg (by omega), if_pos (by omega)]
    congr 1
  rw [if_neg h2]
  by_cases h1 : y ≤ j ∧ j < y + 4
  · rw [if_pos h1, if_pos (by omega), if_pos (by omega)]
  rw [if_neg h1, if_neg (by omega)]
section Feed
variable {M : Mm} {tr ty : Nat}
theorem x_feedL (fu : Nat) (o3 : okA M 11 300) (hg : mG M 710 300 = some tr) (ot : okA M 100 tr) (hl : ty + 20 ≤ sLen (mS M) tr) (hb : sLen (mS M) tr ≤ 65540) (hy : mF M 711 300 = nI ty) (a b c d e : Int32) :
    fX11_feed_L55 fu 300 a b c d e M = some (nI (ty + 20), sF (wA M tr (p20 (mA M tr) ty a b c d e)) 711 300 (nI (ty + 20))) := by
  have ow : ∀ G, okA (wA M tr G) 11 300 := fun _ => o3
  have gw : ∀ G, mG (wA M tr G) 710 300 = some tr := fun _ => hg
  have yw : ∀ G, mF (wA M tr G) 711 300 = nI ty := fun _ => hy
  have tw : ∀ G, okA (wA M tr G) 100 tr := fun _ => ot
  have lw : ∀ G, sLen (mS (wA M tr G)) tr = sLen (mS M) tr := fun _ => rfl
  have n4 : ∀ k : Nat, nI ty + nI k = nI (ty + k) := fun k => nI_add ty k
  have st : ∀ (G : Nat → Int32) (k : Nat) (v : Int32), k + 4 ≤ 20 → fX11_putFour fu (some tr) (nI (ty + k)) v (wA M tr G) = some (wA M tr (up4 G (ty + k) v)) := fun G k v hk => by
    rw [x_put4 fu (tw G) (by rw [lw]; omega) (by rw [lw]; omega), mA_wA_self, wA_wA]
  unfold fX11_feed_L55
  rw [gR_ok o3, ob_some, hg, gI_ok o3, ob_some, hy, x_put4 fu ot (by omega) (by omega), ob_some]
  rw [gR_ok (ow _), ob_some, gw, gI_ok (ow _), ob_some, yw, show (4 : Int32) = nI 4 from rfl, n4, st _ 4 _ (by decide), ob_some]
  rw [gR_ok (ow _), ob_some, gw, gI_ok (ow _), ob_some, yw, show (8 : Int32) = nI 8 from rfl, n4, st _ 8 _ (by decide), ob_some]
  rw [gR_ok (ow _), ob_some, gw, gI_ok (ow _), ob_some, yw, show (12 : Int32) = nI 12 from rfl, n4, st _ 12 _ (by decide), ob_some]
  rw [gR_ok (ow _), ob_some, gw, gI_ok (ow _), ob_some, yw, show (16 : Int32) = nI 16 from rfl, n4, st _ 16 _ (by decide), ob_some]
  rw [gI_ok (ow _), ob_some, yw, show (20 : Int32) = nI 20 from rfl, n4, pF_ok (ow _), ob_some, gI_ok (show okA (sF (wA M tr _) 711 300 _) 11 300 from ow _), ob_some, mF_sF, if_pos ⟨rfl, rfl⟩, up20]
/-- what feed does in the class: the tray, old or new -/
def FdR (tr' ty n : Nat) (a b c d e : Int32) (tr : Nat) (M M' : Mm) : Prop := mG M' 710 300 = some tr' ∧ okA M' 100 tr' ∧ ty + 20 ≤ sLen (mS M') tr' ∧ 80 ≤ sLen (mS M') tr' ∧ sLen (mS M') tr' ≤ 65540 ∧ (∀ j, j < ty + 20 → mA M' tr' j = p20 (mA M tr) ty a b c d e j) ∧ mF M' 711 300 = nI (ty + 20) ∧ TrQ tr' M M' ∧ Nw100 M M' ∧ (∀ f, f ≠ 711 → mF M' f 300 = mF M f 300) ∧ mF M' 513 301 = mF M 513 301 ∧ mG M' 512 301 = mG M 512 301 ∧ mG M' 514 301 = mG M 514 301 ∧ ((tr' = tr ∧ n = 0) ∨ (tr' = sN (mS M) ∧ n ≤ 2 * ty + 60)) ∧ sN (mS M') ≤ sN (mS M) + 1 ∧ sSl (mS M') = sSl (mS M) + n
theorem x_feed (fu : Nat) (n450 : 450 ≤ sN (mS M)) (o3 : okA M 11 300) (hg : mG M 710 300 = some tr) (ot : okA M 100 tr) (hl : ty ≤ sLen (mS M) tr) (h80 : 80 ≤ sLen (mS M) tr) (hb : sLen (mS M) tr ≤ 65540) (hy : mF M 711 300 = nI ty) (r1 : sN (mS M) + 1 ≤ 600300) (r2 : sSl (mS M) + (2 * ty + 60) ≤ 7302250) (a b c d e : Int32) :
    (65540 < ty + 20 ∧ fX11_feed fu 300 a b c d e M = some (-1, M)) ∨ (ty + 20 ≤ 65540 ∧ ∃ tr' n M', fX11_feed fu 300 a b c d e M = some (nI (ty + 20), M') ∧ FdR tr' ty n a b c d e tr M M') := by
  have n4 : nI ty + (20 : Int32) = nI (ty + 20) := nI_add ty 20
  unfold fX11_feed
  simp only [gI_ok o3, gR_ok o3, hg, hy, ob_some, aL_ok ot rfl, n4]
  by_cases q : ty + 20 ≤ 65540
  · refine Or.inr ⟨q, ?_⟩
    rw [if_pos (show nI (ty + 20) ≤ (65540 : Int32) from nI_le (b := 65540) q (by decide))]
    by_cases z : ty + 20 ≤ sLen (mS M) tr
    · rw [if_pos (nI_le z (by omega)), x_feedL fu o3 hg ot z hb hy]
      refine ⟨tr, 0, _, rfl, hg, ot, z, h80, hb, fun j hj => ?_, ?_, ?_, fun t' a' o => Or.inl o.2.1, fun f hf => ?_, ?_, rfl, rfl, Or.inl ⟨rfl, rfl⟩, Nat.le_succ _, rfl⟩
      · rw [mA_sF, mA_wA_self]
      · rw [mF_sF, if_pos ⟨rfl, rfl⟩]
      · refine ⟨Nat.le_refl _, fun a' ha => ⟨rfl, rfl, fun f h1 h2 => ?_, fun _ _ _ => rfl, fun h1 => ?_, rfl⟩⟩
        · rw [mF_sF, if_neg (fun e => h1 ⟨e.2, Or.inl e.1⟩)]; rfl
        · rw [mA_sF, mA_wA_ne h1]
      · rw [mF_sF, if_neg (fun e => hf e.1)]; rfl
      · rw [mF_sF, if_neg (by omega)]; rfl
    · have mn : jmin (((2 : Int32) * nI (sLen (mS M) tr)) + (20 : Int32)) (65540 : Int32) = nI (min (2 * sLen (mS M) tr + 20) 65540) := by
        rw [show (2 : Int32) * nI (sLen (mS M) tr) = nI (2 * sLen (mS M) tr) from pk_mul 2 _, show nI (2 * sLen (mS M) tr) + (20 : Int32) = nI (2 * sLen (mS M) tr + 20) from nI_add _ 20]
        exact jmin_nI (b := 65540) (by omega) (by decide)
      obtain ⟨G, e1, e2⟩ := x_copyOf (M := M) fu (a := tr) (n := min (2 * sLen (mS M) tr + 20) 65540) ot hb (by omega) r1 (by omega)
      rw [if_neg (nI_ge (by omega) (by omega)), mn, e1, b2_some]
      generalize hn : min (2 * sLen (mS M) tr + 20) 65540 = n at e1 e2
      have q2 : ty + 20 ≤ n ∧ 80 ≤ n ∧ n ≤ 65540 ∧ n ≤ 2 * ty + 60 := by omega
      obtain ⟨o2, l2⟩ := nT_ok (M := M) (n := n) (G := G) (by omega)
      have T := nT_tr (M := M) (tr := sN (mS M)) (n := n) (G := G)
      have o4 : okA (nT M n G) 11 300 := T.ok o3
      rw [pG_ok o4, ob_some]
      generalize hM1 : sG (nT M n G) 710 300 (some (sN (mS M))) = M1
      have gM : ∀ f a, ¬ (f = 710 ∧ a = 300) → mG M1 f a = mG M f a := fun f a h => by subst hM1; rw [mG_sG, if_neg h]; rfl
      have S1 : mS M1 = mS (nT M n G) := by subst hM1; rfl
      have A1 : mA M1 = mA (nT M n G) := by subst hM1; rfl
      have B1 : mB M1 = mB (nT M n G) := by subst hM1; rfl
      have F1 : mF M1 = mF M := by subst hM1; rfl
      have ok1 : ∀ t a, okA (nT M n G) t a → okA M1 t a := fun t a h => by unfold okA at *; rw [S1]; exact h
      rw [x_feedL (tr := sN (mS M)) (ty := ty) fu (ok1 _ _ o4) (by subst hM1; rw [mG_sG, if_pos ⟨rfl, rfl⟩]) (ok1 _ _ o2) (by rw [S1, l2]; omega) (by rw [S1, l2]; omega) (by rw [F1]; exact hy)]
      refine ⟨sN (mS M), n, _, rfl, ?_, ok1 _ _ o2, ?_, ?_, ?_, fun j hj => ?_, ?_, ?_, fun t' a' o => ?_, fun f hf => ?_, ?_, ?_, ?_, Or.inr ⟨rfl, q2.2.2.2⟩, ?_, ?_⟩
      · show mG M1 710 300 = _
        subst hM1; rw [mG_sG, if_pos ⟨rfl, rfl⟩]
      · show ty + 20 ≤ sLen (mS M1) _
        rw [S1, l2]; omega
      · show 80 ≤ sLen (mS M1) _
        rw [S1, l2]; omega
      · show sLen (mS M1) _ ≤ 65540
        rw [S1, l2]; omega
      · rw [mA_sF, mA_wA_self, A1, nT_N]
        unfold p20
        by_cases z2 : ty ≤ j ∧ j < ty + 20
        · rw [if_pos z2, if_pos z2]
        · rw [if_neg z2, if_neg z2]
          exact e2 j (by omega) (by omega)
      · rw [mF_sF, if_pos ⟨rfl, rfl⟩]
      · refine ⟨?_, fun a' ha => ?_⟩
        · show sN (mS M) ≤ sN (mS M1)
          rw [S1]; exact Nat.le_succ _
        · obtain ⟨t1, t2, t3, t4, t5, t6⟩ := T.2 a' ha
          refine ⟨?_, ?_, fun f h1 h2 => ?_, fun f h1 h2 => ?_, fun h1 => ?_, ?_⟩
          · show sTy (mS M1) a' = _
            rw [S1]; exact t1
          · show sLen (mS M1) a' = _
            rw [S1]; exact t2
          · rw [mF_sF, if_neg (fun e => h1 ⟨e.2, Or.inl e.1⟩)]
            show mF M1 f a' = _
            rw [F1]
          · show mG M1 f a' = _
            exact gM f a' (fun e => h1 ⟨e.2, e.1⟩)
          · rw [mA_sF, mA_wA_ne h1, A1]
            exact t5 h1
          · show mB M1 a' = _
            rw [B1]; exact t6
      · have o : okA M1 t' a' := o
        unfold okA at o
        rw [S1] at o
        exact nT_100 t' a' o
      · rw [mF_sF, if_neg (fun e => hf e.1)]
        show mF M1 f 300 = _
        rw [F1]
      · rw [mF_sF, if_neg (by omega)]
        show mF M1 513 301 = _
        rw [F1]
      · exact gM 512 301 (by omega)
      · exact gM 514 301 (by omega)
      · show sN (mS M1) ≤ _
        rw [S1]; exact Nat.le_refl _
      · show sSl (mS M1) = _
        rw [S1]; rfl
  · refine Or.inl ⟨by omega, ?_⟩
    rw [if_neg (show ¬ nI (ty + 20) ≤ (65540 : Int32) from nI_ge (b := ty + 20) (a := 65540) (by omega) (by omega))]
end Feed
