/-! ===== part 99a: an answer is given, in the class, whole ===== -/
def FZ (c : Nat) (M M' : Mm) : Prop := mS M' = mS M ∧ mG M' = mG M ∧ mB M' = mB M ∧ (∀ f a, ¬ (74 ≤ f ∧ f ≤ 78 ∧ a = c) → mF M' f a = mF M f a) ∧ (∀ a, a ≠ c + 1 → a ≠ 305 → mA M' a = mA M a)
theorem FZ.xW {c : Nat} {A A' : Mm} (h : FZ c A A') (g : XW A) : XW A' := by
  unfold XW okA
  rw [h.1, h.2.1]
  exact g
theorem FZ.cN {c : Nat} {A A' : Mm} (h : FZ c A A') (g : CnO A c) : CnO A' c := by
  unfold CnO okA
  rw [h.1, h.2.1]
  exact g
section Give3
variable {c : Nat} {M : Mm} {st clo r ln ty : Nat} {v : Int32}
theorem x_give (fu : Nat) (hfu : 5000 ≤ fu) {ds dl : List Nat} {me pl : Nat} (hC : CnO M c) (hW : XW M) (hc : c ≠ 319) (hc2 : c + 1 ≠ 305) (hB : By M) (hst : stN st) (hme : mF M 453 319 = nI me) (hme1 : me ≤ 2) (hclo : clo = if (mF M 464 319 = 0 ∧ (mF M 465 319 ≠ 0 ∨ mF M 454 319 = 0)) ∧ ¬ (st = 400 ∨ st = 413 ∨ st = 431 ∨ st = 501 ∨ st = 500) then 0 else 1) (hix : st = 200 ∨ st = 304 → mF M 466 319 = nI r) (hmk : st = 200 ∨ st = 304 → ∀ M', FZ c M M' → fX8_markOf fu 301 (nI r) M' = some (v, M')) (hpl : st = 200 → ∀ M', FZ c M M' → fX8_placeOf fu 301 (nI r) M' = some (nI pl, M')) (hln : if st = 200 then (∀ M', FZ c M M' → fX8_sizeOf fu 301 (nI r) M' = some (nI ln, M')) else ln = 5 + txL (phN st)) (hty : if st = 200 then (∀ M', FZ c M M' → fX7_contentType fu 319 M' = some (some ty, M')) else ty = 34) (hty1 : ty < 50) (hty2 : txL ty ≤ 24) (hds : stX c (fun A => fX1_writeNumber fu c (nI st) A) ds) (hds1 : ds.length ≤ 3) (hdl : stX c (fun A => fX1_writeNumber fu c (nI ln) A) dl) (hdl1 : dl.length ≤ 5) :
    ∃ M', fX7_give fu 319 (some c) (nI st) M = some M' ∧ FZ c M M' ∧ By M' ∧ WX M' c (hdR st clo ty (decide (st = 200 ∨ st = 304)) v ds dl ++ ([13, 10] ++ (if (me ≠ 1 ∧ st ≠ 304) ∧ st ≠ 200 then ds ++ ([32] ++ (tl (phN st) ++ [10])) else []))) ∧ mF M' 76 c = (if (me ≠ 1 ∧ st ≠ 304) ∧ st = 200 then nI ln else 0) ∧ ((me ≠ 1 ∧ st ≠ 304) ∧ st = 200 → mF M' 75 c = nI pl) ∧ mF M' 77 c = mF M 69 c ∧ mF M' 74 c = nI clo ∧ (∀ i, mA M' 305 i = if i = 4 then mA M 305 4 + 1 else mA M 305 i) := by
  obtain ⟨p1, p2⟩ := ph_lt (st := st)
  have oc := hC.1
  have o7 := xw_ok319 hW
  have stlt : st < 1000 := by omega
  have hclo1 : clo ≤ 1 := by rw [hclo]; split <;> omega
  have hz : nI clo = 0 ∨ nI clo = 1 := by
    by_cases q : clo = 0
    · exact Or.inl (by rw [q]; rfl)
    · exact Or.inr (by rw [show clo = 1 by omega]; rfl)
  -- what is cleared
  generalize hM5 : sF (sF (sF (sF (sF (wA M 305 (fun j => if j = 4 then mA M 305 4 + 1 else mA M 305 j)) 77 c (mF M 69 c)) 78 c 0) 75 c 0) 76 c 0) 74 c 0 = M5
  have z5 : FZ c M M5 := by
    subst hM5
    refine ⟨rfl, rfl, rfl, fun f a n => ?_, fun a n1 n2 => ?_⟩
    · rw [mF_sF, if_neg (fun e => n ⟨by omega, by omega, e.2⟩), mF_sF, if_neg (fun e => n ⟨by omega, by omega, e.2⟩), mF_sF, if_neg (fun e => n ⟨by omega, by omega, e.2⟩), mF_sF, if_neg (fun e => n ⟨by omega, by omega, e.2⟩), mF_sF, if_neg (fun e => n ⟨by omega, by omega, e.2⟩)]
      rfl
    · funext j
      show (if a = 305 then _ else mA M a j) = _
      rw [if_neg n2]
  have b5 : By M5 := by
    subst hM5
    refine By_sF (By_sF (By_sF (By_sF (By_sF (By_wA hB (fun ht j => ?_))))))
    exact absurd ((xw_ok305 hW).2.2.symm.trans ht) (by decide)
  have f5 : mF M5 77 c = mF M 69 c ∧ mF M5 78 c = 0 ∧ mF M5 76 c = 0 ∧ (∀ i, mA M5 305 i = if i = 4 then mA M 305 4 + 1 else mA M 305 i) := by
    subst hM5
    refine ⟨?_, ?_, ?_, fun i => ?_⟩
    · rw [mF_sF, if_neg (by omega), mF_sF, if_neg (by omega), mF_sF, if_neg (by omega), mF_sF, if_neg (by omega), mF_sF, if_pos ⟨rfl, rfl⟩]
    · rw [mF_sF, if_neg (by omega), mF_sF, if_neg (by omega), mF_sF, if_neg (by omega), mF_sF, if_pos ⟨rfl, rfl⟩]
    · rw [mF_sF, if_neg (by omega), mF_sF, if_pos ⟨rfl, rfl⟩]
    · show (if (305 : Nat) = 305 then (if i = 4 then mA M 305 4 + 1 else mA M 305 i) else mA M 305 i) = _
      rw [if_pos rfl]
  have hW5 := z5.xW hW
  have hC5 := z5.cN hC
  have q7 := xw_ok319 hW5
  have e464 : mF M5 464 319 = mF M 464 319 := z5.2.2.2.1 _ _ (by omega)
  have e465 : mF M5 465 319 = mF M 465 319 := z5.2.2.2.1 _ _ (by omega)
  have e454 : mF M5 454 319 = mF M 454 319 := z5.2.2.2.1 _ _ (by omega)
  have per : fX7_isPersistent fu 319 M5 = some (if mF M 464 319 = 0 ∧ (mF M 465 319 ≠ 0 ∨ mF M 454 319 = 0) then 1 else 0, M5) := by
    unfold fX7_isPersistent
    rw [gI_ok (f := 464) q7, ob_some, e464, gI_ok (f := 465) q7, ob_some, e465, gI_ok (f := 454) q7, ob_some, e454, rN1, rN0]
    by_cases a1 : mF M 464 319 = 0
    · rw [if_pos a1]
      by_cases a2 : mF M 465 319 = 0
      · rw [if_pos a2]
        by_cases a3 : mF M 454 319 = 0
        · rw [if_pos a3, if_pos ⟨a1, Or.inr a3⟩]
        · rw [if_neg a3, if_neg (fun z => z.2.elim (fun y => y a2) a3)]
      · rw [if_neg a2, if_pos ⟨a1, Or.inl a2⟩]
    · rw [if_neg a1, if_neg (fun z => a1 z.1)]
  have lo : fX7_isBodyLeftOut fu (nI st) M5 = some (if st = 400 ∨ st = 413 ∨ st = 431 ∨ st = 501 then 0 else 1, M5) := by
    have ne : ∀ x, x < 1000 → st ≠ x → ¬ nI st = nI x := fun x hx hne z => hne ((nI_eq (by omega) (by omega)).mp z)
    unfold fX7_isBodyLeftOut
    rw [rN0, rN1]
    by_cases a1 : st = 400
    · rw [if_pos (show nI st = (400 : Int32) by rw [a1]; rfl), if_pos (by omega)]
    · rw [if_neg (show ¬ nI st = (400 : Int32) from ne 400 (by decide) a1)]
      by_cases a2 : st = 413
      · rw [if_pos (show nI st = (413 : Int32) by rw [a2]; rfl), if_pos (by omega)]
      · rw [if_neg (show ¬ nI st = (413 : Int32) from ne 413 (by decide) a2)]
        by_cases a3 : st = 431
        · rw [if_pos (show nI st = (431 : Int32) by rw [a3]; rfl), if_pos (by omega)]
        · rw [if_neg (show ¬ nI st = (431 : Int32) from ne 431 (by decide) a3)]
          by_cases a4 : st = 501
          · rw [if_pos (show nI st = (501 : Int32) by rw [a4]; rfl), if_pos (by omega)]
          · rw [if_neg (show ¬ nI st = (501 : Int32) from ne 501 (by decide) a4), if_neg (by omega)]
  have e0 : fX7_give fu 319 (some c) (nI st) M = fX7_give_L48 fu 319 (some c) (nI st) (some c) (nI clo) M5 := by
    unfold fX7_give
    rw [gR_ok o7, ob_some, xw_g449_319 hW, gR_ok (xw_ok304 hW), ob_some, xw_g640_304 hW, show (4 : Int32) = nI 4 from rfl, gA_ok (xw_ok305 hW) (by rw [xw_ln305 hW]; decide) (by decide), ob_some, pA_ok (xw_ok305 hW) (by rw [xw_ln305 hW]; decide) (by decide), ob_some, gI_ok (by exact oc), ob_some, rc_ok (by exact oc), ob_some]
    unfold fX1_clearAnswer
    rw [pF_ok (by exact oc), ob_some, pF_ok (by exact oc), ob_some, pF_ok (by exact oc), ob_some, pF_ok (by exact oc), ob_some, pZ_ok (by exact oc) (Or.inl rfl), ob_some]
    rw [ob_some, show sF (sF (sF (sF (sF (wA M 305 (fun j => if j = 4 then mA M 305 4 + 1 else mA M 305 j)) 77 c (mF (wA M 305 (fun j => if j = 4 then mA M 305 4 + 1 else mA M 305 j)) 69 c)) 78 c 0) 75 c 0) 76 c 0) 74 c 0 = M5 from hM5, rc_ok q7, ob_some]
    rw [per, b2_some, if10]
    unfold fX7_give_L43
    by_cases P : mF M 464 319 = 0 ∧ (mF M 465 319 ≠ 0 ∨ mF M 454 319 = 0)
    · rw [if_pos P, lo, b2_some]
      by_cases q : st = 400 ∨ st = 413 ∨ st = 431 ∨ st = 501
      · rw [if_pos q, if_pos rfl, show clo = 1 by rw [hclo, if_neg (fun z => z.2 (by omega))]]
        rfl
      · rw [if_neg q, if_neg (by decide)]
        by_cases q2 : st = 500
        · rw [if_pos (show nI st = (500 : Int32) by rw [q2]; rfl), show clo = 1 by rw [hclo, if_neg (fun z => z.2 (by omega))]]
          rfl
        · rw [if_neg (show ¬ nI st = (500 : Int32) from fun z => q2 ((nI_eq (b := 500) (by omega) (by decide)).mp z)), show clo = 0 by rw [hclo, if_pos ⟨P, by omega⟩]]
          rfl
    · rw [if_neg P, show clo = 1 by rw [hclo, if_neg (fun z => P z.1)]]
      rfl
  -- the writing begins
  have e1 : fX7_give_L48 fu 319 (some c) (nI st) (some c) (nI clo) M5 = fX7_give_L95 fu 319 (some c) (nI st) (some (phN st)) (if st = 200 then 1 else 0) (nI ln) (sF M5 74 c (nI clo)) := by
    have z0 : FZ c M (sF M5 74 c (nI clo)) := ⟨z5.1, z5.2.1, z5.2.2.1, fun f a n => by
      rw [mF_sF, if_neg (fun e => n ⟨by omega, by omega, e.2⟩)]
      exact z5.2.2.2.1 f a n, z5.2.2.2.2⟩
    have hW0 : XW (sF M5 74 c (nI clo)) := hW5
    unfold fX7_give_L48 fX7_give_L68
    rw [pZ_ok hC5.1 hz, ob_some, ph_okx fu hst, b2_some, if_neg (show ¬ (1 : Int32) = 0 by decide), if_pos rfl]
    by_cases q : st = 200
    · rw [if_pos q] at hln
      rw [if_pos (show nI st = (200 : Int32) by rw [q]; rfl), if_pos q, gR_ok (xw_ok319 hW0), ob_some, xw_g448_319 hW0, gI_ok (xw_ok319 hW0), ob_some, show mF (sF M5 74 c (nI clo)) 466 319 = nI r from (z0.2.2.2.1 _ _ (by omega)).trans (hix (Or.inl q)), rc_ok (xw_ok301 hW0), ob_some, hln _ z0, b2_some]
    · rw [if_neg q] at hln
      rw [if_neg (show ¬ nI st = (200 : Int32) from fun z => q ((nI_eq (b := 200) (by omega) (by decide)).mp z)), if_neg q, x_rcS p1, ob_some, x_len fu p1, b2_some, show nI (txL (phN st)) + (5 : Int32) = nI ln by rw [hln, Nat.add_comm]; exact nI_add _ 5]
  rw [e0, e1]
  generalize hM0 : sF M5 74 c (nI clo) = M0
  have z0 : FZ c M M0 := by
    subst hM0
    exact ⟨z5.1, z5.2.1, z5.2.2.1, fun f a n => by
      rw [mF_sF, if_neg (fun e => n ⟨by omega, by omega, e.2⟩)]
      exact z5.2.2.2.1 f a n, z5.2.2.2.2⟩
  have b0 : By M0 := by subst hM0; exact By_sF b5
  have f0 : mF M0 77 c = mF M 69 c ∧ mF M0 78 c = 0 ∧ mF M0 76 c = 0 ∧ mF M0 74 c = nI clo ∧ (∀ i, mA M0 305 i = if i = 4 then mA M 305 4 + 1 else mA M 305 i) := by
    subst hM0
    refine ⟨?_, ?_, ?_, ?_, f5.2.2.2⟩
    · rw [mF_sF, if_neg (by omega)]; exact f5.1
    · rw [mF_sF, if_neg (by omega)]; exact f5.2.1
    · rw [mF_sF, if_neg (by omega)]; exact f5.2.2.1
    · rw [mF_sF, if_pos ⟨rfl, rfl⟩]
  clear hM0 e0 e1
  have hW0 := z0.xW hW
  have hC0 := z0.cN hC
  have hw0 : WX M0 c [] := ⟨by rw [f0.2.1]; rfl, fun i hi => absurd hi (Nat.not_lt_zero _)⟩
  have zA : ∀ B, HM c M0 B → FZ c M B := fun B hB => ⟨hB.1.trans z0.1, hB.2.1.trans z0.2.1, hB.2.2.1.trans z0.2.2.1, fun f a n => (hB.2.2.2.1 f a (fun e => n ⟨by omega, by omega, e.2⟩)).trans (z0.2.2.2.1 f a n), fun a n1 n2 => (hB.2.2.2.2 a n1).trans (z0.2.2.2.2 a n1 n2)⟩
  have c1 := l_95 (ln := ln) hC0 hW0 fu hfu stlt hds hdl (ty := ty) (by
    by_cases q : st = 200
    · rw [if_pos q] at hty ⊢
      exact fun B hB => hty B (zA B hB)
    · rw [if_neg q] at hty ⊢
      exact hty) hty1
  have c2 := l_167 (ln := ln) (v := v) (r := r) hC0 hW0 fu hfu stlt (fun q => (z0.2.2.2.1 _ _ (by omega)).trans (hix q)) (fun q B hB => hmk q B (zA B hB)) hc
  have c3 := l_201 (st := st) (ln := ln) hC0 fu hfu stlt
  have c4 := l_215 (st := st) (ln := ln) hC0 fu hfu f0.2.2.2.1 hclo1
  have hlen := hdR_len (st := st) (clo := clo) (fi := decide (st = 200 ∨ st = 304)) (v := v) hds1 hdl1 hty1 hty2
  have same := hd_same (st := st) (clo := clo) (ty := ty) (v := v) (ds := ds) (dl := dl) rfl
  generalize hX1 : (tl 23 ++ (ds ++ (tl 24 ++ (tl (phN st) ++ (if st = 304 then [] else tl 25 ++ (dl ++ (tl 26 ++ tl ty))))))) = X1 at c1 same
  generalize hX2 : (if st = 200 ∨ st = 304 then tl 38 ++ (34 :: (hk' v ++ [34])) else []) = X2 at c2 same
  generalize hX3 : (if st = 405 then tl 39 else []) = X3 at c3 same
  generalize hX4 : (if clo = 0 then [] else tl 40) = X4 at c4 same
  have same' : (X1 ++ (X2 ++ (X3 ++ X4))) ++ tl 41 = hdR st clo ty (decide (st = 200 ∨ st = 304)) v ds dl ++ [13, 10] := by
    rw [← same]
    simp only [List.append_assoc]
  have lens : (X1 ++ (X2 ++ (X3 ++ X4))).length ≤ 182 := by
    have := congrArg List.length same'
    rw [List.length_append, List.length_append (as := hdR st clo ty (decide (st = 200 ∨ st = 304)) v ds dl)] at this
    have h2 : ([13, 10] : List Nat).length = 2 := rfl
    omega
  obtain ⟨M1, r1, r2, r3, r4⟩ := (c1.tr (c2.tr (c3.tr c4))) M0 [] HM.rf b0 hw0 (by
    show 0 + (X1 ++ (X2 ++ (X3 ++ X4))).length ≤ 256
    omega)
  have r4' : WX M1 c (X1 ++ (X2 ++ (X3 ++ X4))) := r4
  have z1 := zA M1 r2
  obtain ⟨M2, t1, t2, t3, t4, t5, t6, t7, t8⟩ := x_gend (ln := ln) (r := r) (pl := pl) (me := me) fu hfu (r2.cN hC0) (r2.xW hW0) hc r3 r4' hst ((z1.2.2.2.1 _ _ (by omega)).trans hme) hme1 (fun q => ⟨(z1.2.2.2.1 _ _ (by omega)).trans (hix (Or.inl q)), fun B hB => hpl q B (zA B (r2.tr hB))⟩) hds (by omega)
  obtain ⟨x1, -, -, -, -, -, -, x8⟩ := tx_sw
  rw [x1, x8, ← List.append_assoc, same', List.append_assoc] at t4
  refine ⟨M2, r1.trans t1, ⟨t2.1.trans z1.1, t2.2.1.trans z1.2.1, t2.2.2.1.trans z1.2.2.1, fun f a n => (t2.2.2.2.1 f a n).trans (z1.2.2.2.1 f a n), fun a n1 n2 => (t2.2.2.2.2 a n1).trans (z1.2.2.2.2 a n1 n2)⟩, t3, t4, ?_, t6, ?_, ?_, fun i => ?_⟩
  · rw [t5, r2.2.2.2.1 _ _ (by omega), f0.2.2.1]
  · rw [t7, r2.2.2.2.1 _ _ (by omega), f0.1]
  · rw [t8, r2.2.2.2.1 _ _ (by omega), f0.2.2.2.1]
  · rw [t2.2.2.2.2 305 (fun z => hc2 z.symm), r2.2.2.2.2 305 (fun z => hc2 z.symm)]
    exact f0.2.2.2.2 i
end Give3
