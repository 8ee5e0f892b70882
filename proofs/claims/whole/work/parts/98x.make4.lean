/-! ===== part 98x: an answer is made, in the reference, whole ===== -/
theorem tl_len : ∀ t, t < 50 → (tl t).length = txL t := by decide +kernel
theorem tx_l : txL 23 = 9 ∧ txL 45 ≤ 18 ∧ txL 46 ≤ 18 ∧ txL 47 ≤ 10 ∧ txL 48 ≤ 20 ∧ txL 49 ≤ 20 := by decide +kernel
/-- the lines of a head, the last left out -/
def hdR (st clo ty : Nat) (fi : Bool) (v : Int32) (ds dl : List Nat) : List Nat := (tl 23 ++ (ds ++ ([32] ++ (tl (phN st) ++ ([13, 10] ++ []))))) ++ ((if st = 304 then [] else tl 45 ++ (dl ++ ([13, 10] ++ (tl 46 ++ (tl ty ++ [13, 10]))))) ++ ((if fi then tl 47 ++ (hk' v ++ [34, 13, 10]) else []) ++ ((if st = 405 then tl 48 ++ [13, 10] else []) ++ (if clo = 0 then [] else tl 49 ++ [13, 10]))))
theorem len5 (a b c d e : List Nat) : (a ++ (b ++ (c ++ (d ++ e)))).length = a.length + (b.length + (c.length + (d.length + e.length))) := by
  rw [List.length_append, List.length_append, List.length_append, List.length_append]
theorem hdR_len {st clo ty : Nat} {fi : Bool} {v : Int32} {ds dl : List Nat} (h1 : ds.length ≤ 3) (h2 : dl.length ≤ 5) (h3 : ty < 50) (h4 : txL ty ≤ 24) : (hdR st clo ty fi v ds dl).length ≤ 180 := by
  obtain ⟨p1, p2⟩ := ph_lt (st := st)
  obtain ⟨x1, x2, x3, x4, x5, x6⟩ := tx_l
  have e23 := tl_len 23 (by decide)
  have e45 := tl_len 45 (by decide)
  have e46 := tl_len 46 (by decide)
  have e47 := tl_len 47 (by decide)
  have e48 := tl_len 48 (by decide)
  have e49 := tl_len 49 (by decide)
  have ep := tl_len _ p1
  have et := tl_len _ h3
  have eh : (hk' v).length = 8 := hk_len v 8 0
  have a1 : (tl 23 ++ (ds ++ ([32] ++ (tl (phN st) ++ ([13, 10] ++ []))))).length ≤ 46 := by
    simp only [List.length_append, List.length_cons, List.length_nil]
    omega
  have a2 : (if st = 304 then [] else tl 45 ++ (dl ++ ([13, 10] ++ (tl 46 ++ (tl ty ++ [13, 10]))))).length ≤ 69 := by
    split
    · exact Nat.zero_le _
    · simp only [List.length_append, List.length_cons, List.length_nil]
      omega
  have a3 : (if fi then tl 47 ++ (hk' v ++ [34, 13, 10]) else []).length ≤ 21 := by
    split
    · simp only [List.length_append, List.length_cons, List.length_nil]
      omega
    · exact Nat.zero_le _
  have a4 : (if st = 405 then tl 48 ++ [13, 10] else []).length ≤ 22 := by
    split
    · simp only [List.length_append, List.length_cons, List.length_nil]
      omega
    · exact Nat.zero_le _
  have a5 : (if clo = 0 then [] else tl 49 ++ [13, 10]).length ≤ 22 := by
    split
    · exact Nat.zero_le _
    · simp only [List.length_append, List.length_cons, List.length_nil]
      omega
  unfold hdR
  refine Nat.le_trans (Nat.le_of_eq (len5 _ _ _ _ _)) ?_
  omega
def FY (k : Nat) (A A' : Mm) : Prop := mS A' = mS A ∧ mG A' = mG A ∧ mB A' = mB A ∧ (∀ f a, ¬ (794 ≤ f ∧ f ≤ 798 ∧ a = 342 + 4 * k) → mF A' f a = mF A f a) ∧ (∀ a, a ≠ 343 + 4 * k → a ≠ 330 → mA A' a = mA A a)
theorem FY.rW {k : Nat} {A A' : Mm} (h : FY k A A') (g : RW A) : RW A' := by
  unfold RW okA
  rw [h.1, h.2.1, h.2.2.1]
  exact g
section Make4
variable {k : Nat} {A : Mm} {st clo : Nat} {ix : Int32}
theorem m_make (hk : k < 16) (fu : Nat) (hfu : 5000 ≤ fu) {ds dl : List Nat} {hd r ln ty : Nat} (hR : RW A) (hB : By A) (hst : mF A 1067 323 = nI st) (hst1 : stN st) (hhd : mF A 1068 323 = nI hd) (hhd1 : hd ≤ 1) (hclo : clo ≤ 1) (hix : (ix = -1 ∧ ln = 5 + txL (phN st)) ∨ (ix = nI r ∧ r < 64 ∧ mA A 328 r = nI ln)) (hds : stA k (fun A => fX16_sayNumber fu 323 (some (342 + 4 * k)) (nI st) A) ds) (hds1 : ds.length ≤ 3) (hdl : stA k (fun A => fX16_sayNumber fu 323 (some (342 + 4 * k)) (nI ln) A) dl) (hdl1 : dl.length ≤ 5) (hty : ∀ A', FY k A A' → fX16_type fu 323 ix A' = some (some ty, A')) (hty1 : ty < 50) (hty2 : txL ty ≤ 24) :
    ∃ A', fX16_make fu 323 (some (342 + 4 * k)) ix (nI clo) A = some A' ∧ FY k A A' ∧ By A' ∧ WA A' k (hdR st clo ty (decide (ix ≠ -1)) (mA A 329 r) ds dl ++ ([13, 10] ++ (if (hd = 0 ∧ st ≠ 304) ∧ ix = -1 then ds ++ ([32] ++ (tl (phN st) ++ [10])) else []))) ∧ mF A' 796 (342 + 4 * k) = (if (hd = 0 ∧ st ≠ 304) ∧ ix ≠ -1 then nI ln else 0) ∧ (ix ≠ -1 → mF A' 795 (342 + 4 * k) = mA A 327 r) ∧ mF A' 797 (342 + 4 * k) = mF A 773 (342 + 4 * k) ∧ mF A' 798 (342 + 4 * k) = nI clo ∧ (∀ i, mA A' 330 i = if i = 4 then mA A 330 4 + 1 else mA A 330 i) := by
  have o := rw_ok323 hR
  have oc := rw_cnO hR k hk
  have stlt : st < 1000 := by omega
  have hz : nI clo = 0 ∨ nI clo = 1 := by
    by_cases q : clo = 0
    · exact Or.inl (by rw [q]; rfl)
    · exact Or.inr (by rw [show clo = 1 by omega]; rfl)
  have e0 : fX16_make fu 323 (some (342 + 4 * k)) ix (nI clo) A = mkH fu k ix (nI clo) (sF (sF (sF (wA A 330 (fun j => if j = 4 then mA A 330 4 + 1 else mA A 330 j)) 797 (342 + 4 * k) (mF A 773 (342 + 4 * k))) 794 (342 + 4 * k) 0) 798 (342 + 4 * k) (nI clo)) := by
    rw [mk_eq (k := k) fu _ rfl, gR_ok o, ob_some, rw_g1041_323 hR, show (4 : Int32) = nI 4 from rfl, gA_ok (rw_ok330 hR) (by rw [rw_ln330 hR]; decide) (by decide), ob_some, pA_ok (rw_ok330 hR) (by rw [rw_ln330 hR]; decide) (by decide), ob_some, gI_ok (by exact oc), ob_some, pF_ok (by exact oc), ob_some, pF_ok (by exact oc), ob_some, pZ_ok (by exact oc) hz, ob_some]
    rfl
  rw [e0]
  generalize hA0 : sF (sF (sF (wA A 330 (fun j => if j = 4 then mA A 330 4 + 1 else mA A 330 j)) 797 (342 + 4 * k) (mF A 773 (342 + 4 * k))) 794 (342 + 4 * k) 0) 798 (342 + 4 * k) (nI clo) = A0
  have fy0 : FY k A A0 := by
    subst hA0
    refine ⟨rfl, rfl, rfl, fun f a n => ?_, fun a n1 n2 => ?_⟩
    · rw [mF_sF, if_neg (fun e => n ⟨by omega, by omega, e.2⟩), mF_sF, if_neg (fun e => n ⟨by omega, by omega, e.2⟩), mF_sF, if_neg (fun e => n ⟨by omega, by omega, e.2⟩)]
      rfl
    · funext j
      show (if a = 330 then _ else mA A a j) = _
      rw [if_neg n2]
  have hB0 : By A0 := by
    subst hA0
    refine By_sF (By_sF (By_sF (By_wA hB (fun ht j => ?_))))
    exact absurd ((rw_ok330 hR).2.2.symm.trans ht) (by decide)
  have hR0 := fy0.rW hR
  have hw0 : WA A0 k [] := by
    subst hA0
    refine ⟨?_, fun i hi => absurd hi (Nat.not_lt_zero _)⟩
    rw [mF_sF, if_neg (by omega), mF_sF, if_pos ⟨rfl, rfl⟩]
    rfl
  have e97 : mF A0 797 (342 + 4 * k) = mF A 773 (342 + 4 * k) := by
    subst hA0
    rw [mF_sF, if_neg (by omega), mF_sF, if_neg (by omega), mF_sF, if_pos ⟨rfl, rfl⟩]
  have e98 : mF A0 798 (342 + 4 * k) = nI clo := by
    subst hA0
    rw [mF_sF, if_pos ⟨rfl, rfl⟩]
  have e330 : ∀ i, mA A0 330 i = if i = 4 then mA A 330 4 + 1 else mA A 330 i := fun i => by
    subst hA0
    show (if (330 : Nat) = 330 then (if i = 4 then mA A 330 4 + 1 else mA A 330 i) else mA A 330 i) = _
    rw [if_pos rfl]
  clear hA0
  have s67 : mF A0 1067 323 = nI st := (fy0.2.2.2.1 _ _ (by omega)).trans hst
  have s68 : mF A0 1068 323 = nI hd := (fy0.2.2.2.1 _ _ (by omega)).trans hhd
  have s28 : mA A0 328 = mA A 328 := fy0.2.2.2.2 328 (by omega) (by decide)
  have s29 : mA A0 329 = mA A 329 := fy0.2.2.2.2 329 (by omega) (by decide)
  have s27 : mA A0 327 = mA A 327 := fy0.2.2.2.2 327 (by omega) (by decide)
  have hixr : ix = -1 ∨ (ix = nI r ∧ r < 64) := hix.elim (fun e => Or.inl e.1) (fun e => Or.inr ⟨e.1, e.2.1⟩)
  have fyA : ∀ B, HA k A0 B → FY k A B := fun B hB => ⟨hB.1.trans fy0.1, hB.2.1.trans fy0.2.1, hB.2.2.1.trans fy0.2.2.1, fun f a n => (hB.2.2.2.1 f a (fun e => n ⟨by omega, by omega, e.2⟩)).trans (fy0.2.2.2.1 f a n), fun a n1 n2 => (hB.2.2.2.2 a n1).trans (fy0.2.2.2.2 a n1 n2)⟩
  have c1 := k_head (clo := clo) hk hR0 fu hfu s67 hst1 (r := r) (ln := ln) (by rw [s28]; exact hix) hds
  have c2 := k_94 (clo := clo) (ix := ix) hk hR0 fu hfu s67 stlt hdl (fun B hB => hty B (fyA B hB)) hty1
  have c3 := k_149 (clo := clo) (len := nI ln) hk hR0 fu hfu hixr
  have c4 := k_205 (clo := clo) (ix := ix) (len := nI ln) hk hR0 fu hfu s67 stlt
  have c5 := k_228 (ix := ix) (len := nI ln) hk hR0 fu hfu hclo
  have fi : (if ix < 0 then [] else tl 47 ++ (hk' (mA A0 329 r) ++ [34, 13, 10])) = (if decide (ix ≠ -1) then tl 47 ++ (hk' (mA A 329 r) ++ [34, 13, 10]) else []) := by
    rw [s29]
    rcases hixr with z | ⟨z, hr⟩
    · subst z; rfl
    · have nm : ix ≠ -1 := fun y => by
        rw [z] at y
        exact absurd (show nI r < 0 by rw [y]; decide) (nI_pos (by omega))
      rw [if_neg (by rw [z]; exact nI_pos (by omega)), decide_eq_true nm, if_pos rfl]
  rw [fi] at c3
  have hlen := hdR_len (st := st) (clo := clo) (fi := decide (ix ≠ -1)) (v := mA A 329 r) hds1 hdl1 hty1 hty2
  obtain ⟨A1, r1, r2, r3, r4⟩ := (c1.tr (c2.tr (c3.tr (c4.tr c5)))) A0 [] HA.rf hB0 hw0 (by
    show 0 + (hdR st clo ty (decide (ix ≠ -1)) (mA A 329 r) ds dl).length ≤ 256
    omega)
  have r4' : WA A1 k (hdR st clo ty (decide (ix ≠ -1)) (mA A 329 r) ds dl) := r4
  obtain ⟨A2, t1, t2, t3, t4, t5, t6, t7, t8⟩ := m_mend (ln := ln) hk fu hfu (r2.rW hR0) r3 r4' ((r2.2.2.2.1 _ _ (by omega)).trans s67) hst1 ((r2.2.2.2.1 _ _ (by omega)).trans s68) hhd1 hixr hds (by omega)
  have fy1 := fyA A1 r2
  refine ⟨A2, r1.trans t1, ⟨t2.1.trans fy1.1, t2.2.1.trans fy1.2.1, t2.2.2.1.trans fy1.2.2.1, fun f a n => (t2.2.2.2.1 f a n).trans (fy1.2.2.2.1 f a n), fun a n1 n2 => (t2.2.2.2.2 a n1).trans (fy1.2.2.2.2 a n1 n2)⟩, t3, t4, t5, fun z => (t6 z).trans ?_, ?_, ?_, fun i => ?_⟩
  · rw [r2.2.2.2.2 327 (by omega), s27]
  · rw [t7, r2.2.2.2.1 _ _ (by omega), e97]
  · rw [t8, r2.2.2.2.1 _ _ (by omega), e98]
  · rw [t2.2.2.2.2 330 (by omega), r2.2.2.2.2 330 (by omega)]
    exact e330 i
end Make4
