/-! ===== part 98y: the head of an answer, in the class ===== -/
def stL (c : Nat) (M0 : Mm) (f K : Mm → Option Mm) (d : List Nat) : Prop := ∀ M l, HM c M0 M → By M → WX M c l → l.length + d.length ≤ 256 → ∃ M', f M = K M' ∧ HM c M0 M' ∧ By M' ∧ WX M' c (l ++ d)
theorem stL.id {c : Nat} {A0 : Mm} {f K : Mm → Option Mm} (h : ∀ A, HM c A0 A → f A = K A) : stL c A0 f K [] := fun A l hA hB hw _ => ⟨A, h A hA, hA, hB, by rw [List.append_nil]; exact hw⟩
theorem stL.tr {c : Nat} {A0 : Mm} {f g K : Mm → Option Mm} {d e : List Nat} (hf : stL c A0 f g d) (hg : stL c A0 g K e) : stL c A0 f K (d ++ e) := fun A l hA hB hw hl => by
  rw [List.length_append] at hl
  obtain ⟨A1, r1, r2, r3, r4⟩ := hf A l hA hB hw (by omega)
  obtain ⟨A2, s1, s2, s3, s4⟩ := hg A1 (l ++ d) r2 r3 r4 (by rw [List.length_append]; omega)
  exact ⟨A2, r1.trans s1, s2, s3, by rw [← List.append_assoc]; exact s4⟩
theorem stL.of {c : Nat} {A0 : Mm} {f g K : Mm → Option Mm} {d : List Nat} (h : stL c A0 g K d) (e : ∀ A, HM c A0 A → f A = g A) : stL c A0 f K d := fun A l hA hB hw hl => by
  obtain ⟨A', r1, r2⟩ := h A l hA hB hw hl
  exact ⟨A', (e A hA).trans r1, r2⟩
section Give
variable {c : Nat} {M0 : Mm} {st clo r ln ty : Nat} {v : Int32}
theorem stL_w (hC0 : CnO M0 c) {f : Nat → Mm → Option Mm} {d : List Nat} (K : Mm → Option Mm) (h : stX c (f c) d) : stL c M0 (fun A => (rc A 1 (some c)).bind fun q => (f q A).bind K) K d := fun A l hA hB hw hl => by
  have hC := hA.cN hC0
  obtain ⟨A', r1, r2, r3, r4⟩ := h A l hC hB hw hl
  refine ⟨A', ?_, hA.tr r2, r3, r4⟩
  show ((rc A 1 (some c)).bind fun q => (f q A).bind K) = _
  rw [rc_ok hC.1, ob_some, r1, ob_some]
theorem l_write (hC0 : CnO M0 c) (fu : Nat) (hfu : 5000 ≤ fu) {t : Nat} (ht : t < 50) (K : Mm → Option Mm) : stL c M0 (fun A => (rc A 1 (some c)).bind fun q => (fX1_write fu q (some t) A).bind K) K (tl t) := stL_w hC0 (f := fun q A => fX1_write fu q (some t) A) K (x_write fu (by omega) ht)
theorem l_num (hC0 : CnO M0 c) (fu : Nat) {x : Nat} {d : List Nat} (hd : stX c (fun A => fX1_writeNumber fu c (nI x) A) d) (K : Mm → Option Mm) : stL c M0 (fun A => (rc A 1 (some c)).bind fun q => (fX1_writeNumber fu q (nI x) A).bind K) K d := stL_w hC0 (f := fun q A => fX1_writeNumber fu q (nI x) A) K hd
theorem l_215 (hC0 : CnO M0 c) (fu : Nat) (hfu : 5000 ≤ fu) (hclo : mF M0 74 c = nI clo) (hclo1 : clo ≤ 1) : stL c M0 (fun A => fX7_give_L215 fu 319 (some c) (nI st) (nI ln) A) (fun A => fX7_give_L229 fu 319 (some c) (nI st) (nI ln) A) (if clo = 0 then [] else tl 40) := by
  have e : ∀ A, HM c M0 A → gI A 1 74 (some c) = some (nI clo) := fun A hA => by rw [gI_ok (hA.cN hC0).1, hA.2.2.2.1 _ _ (by omega), hclo]
  by_cases q : clo = 0
  · rw [if_pos q]
    refine stL.id (fun A hA => ?_)
    unfold fX7_give_L215
    rw [e A hA, ob_some, if_pos (show nI clo = 0 by rw [q]; rfl)]
  · rw [if_neg q]
    refine stL.of (l_write hC0 fu hfu (t := 40) (by decide) _) (fun A hA => ?_)
    unfold fX7_give_L215
    rw [e A hA, ob_some, if_neg (show ¬ nI clo = 0 from fun z => q ((nI_eq (b := 0) (by omega) (by decide)).mp z))]
theorem l_201 (hC0 : CnO M0 c) (fu : Nat) (hfu : 5000 ≤ fu) (hst : st < 1000) : stL c M0 (fun A => fX7_give_L201 fu 319 (some c) (nI st) (nI ln) A) (fun A => fX7_give_L215 fu 319 (some c) (nI st) (nI ln) A) (if st = 405 then tl 39 else []) := by
  by_cases q : st = 405
  · rw [if_pos q]
    refine stL.of (l_write hC0 fu hfu (t := 39) (by decide) _) (fun A hA => ?_)
    unfold fX7_give_L201
    rw [if_pos (show nI st = (405 : Int32) by rw [q]; rfl)]
  · rw [if_neg q]
    refine stL.id (fun A hA => ?_)
    unfold fX7_give_L201
    rw [if_neg (show ¬ nI st = (405 : Int32) from fun z => q ((nI_eq (b := 405) (by omega) (by decide)).mp z))]
theorem l_179 (hC0 : CnO M0 c) (hW0 : XW M0) (fu : Nat) (hfu : 5000 ≤ fu) (hr : c ≠ 319 → mF M0 466 319 = nI r) (hmk : ∀ A, HM c M0 A → fX8_markOf fu 301 (nI r) A = some (v, A)) (hc : c ≠ 319) : stL c M0 (fun A => fX7_give_L179 fu 319 (some c) (nI st) (nI ln) A) (fun A => fX7_give_L201 fu 319 (some c) (nI st) (nI ln) A) (tl 38 ++ (34 :: (hk' v ++ [34]))) := by
  have s2 : stL c M0 (fun A => (gR A 7 448 (some 319)).bind fun v3 => (gI A 7 466 (some 319)).bind fun v4 => (rc A 8 v3).bind fun q5 => b2 (fX8_markOf fu q5 v4 A) fun v7 M6 => (rc M6 1 (some c)).bind fun q8 => (fX1_writeMark fu q8 v7 M6).bind fun M9 => fX7_give_L201 fu 319 (some c) (nI st) (nI ln) M9) (fun A => fX7_give_L201 fu 319 (some c) (nI st) (nI ln) A) (34 :: (hk' v ++ [34])) := by
    refine stL.of (stL_w hC0 (f := fun q A => fX1_writeMark fu q v A) (fun A => fX7_give_L201 fu 319 (some c) (nI st) (nI ln) A) (x_mark fu (by omega) v)) (fun A hA => ?_)
    have hW := hA.xW hW0
    rw [gR_ok (xw_ok319 hW), ob_some, xw_g448_319 hW, gI_ok (xw_ok319 hW), ob_some, hA.2.2.2.1 _ _ (by omega), hr hc, rc_ok (xw_ok301 hW), ob_some, hmk A hA, b2_some]
  exact (l_write hC0 fu hfu (t := 38) (by decide) _).tr s2
theorem l_167 (hC0 : CnO M0 c) (hW0 : XW M0) (fu : Nat) (hfu : 5000 ≤ fu) (hst : st < 1000) (hr : st = 200 ∨ st = 304 → mF M0 466 319 = nI r) (hmk : st = 200 ∨ st = 304 → ∀ A, HM c M0 A → fX8_markOf fu 301 (nI r) A = some (v, A)) (hc : c ≠ 319) : stL c M0 (fun A => fX7_give_L167 fu 319 (some c) (nI st) (if st = 200 then 1 else 0) (nI ln) A) (fun A => fX7_give_L201 fu 319 (some c) (nI st) (nI ln) A) (if st = 200 ∨ st = 304 then tl 38 ++ (34 :: (hk' v ++ [34])) else []) := by
  by_cases q : st = 200 ∨ st = 304
  · rw [if_pos q]
    refine stL.of (l_179 hC0 hW0 fu hfu (fun _ => hr q) (hmk q) hc) (fun A hA => ?_)
    unfold fX7_give_L167
    by_cases q2 : st = 200
    · rw [if_pos q2, if_neg (by decide)]
    · rw [if_neg q2, if_pos rfl, if_pos (show nI st = (304 : Int32) by rw [show st = 304 by omega]; rfl)]
  · rw [if_neg q]
    refine stL.id (fun A hA => ?_)
    unfold fX7_give_L167
    rw [if_neg (show ¬ st = 200 from fun z => q (Or.inl z)), if_pos rfl, if_neg (show ¬ nI st = (304 : Int32) from fun z => q (Or.inr ((nI_eq (b := 304) (by omega) (by decide)).mp z)))]
theorem l_95 (hC0 : CnO M0 c) (hW0 : XW M0) (fu : Nat) (hfu : 5000 ≤ fu) (hst : st < 1000) {ds dl : List Nat} (hds : stX c (fun A => fX1_writeNumber fu c (nI st) A) ds) (hdl : stX c (fun A => fX1_writeNumber fu c (nI ln) A) dl) (hty : if st = 200 then (∀ A, HM c M0 A → fX7_contentType fu 319 A = some (some ty, A)) else ty = 34) (hty1 : ty < 50) : stL c M0 (fun A => fX7_give_L95 fu 319 (some c) (nI st) (some (phN st)) (if st = 200 then 1 else 0) (nI ln) A) (fun A => fX7_give_L167 fu 319 (some c) (nI st) (if st = 200 then 1 else 0) (nI ln) A) (tl 23 ++ (ds ++ (tl 24 ++ (tl (phN st) ++ (if st = 304 then [] else tl 25 ++ (dl ++ (tl 26 ++ tl ty))))))) := by
  obtain ⟨p1, p2⟩ := ph_lt (st := st)
  have s5 : stL c M0 (fun M8 => if nI st = (304 : Int32) then fX7_give_L167 fu 319 (some c) (nI st) (if st = 200 then 1 else 0) (nI ln) M8 else (rc M8 1 (some c)).bind fun q9 => (fX1_write fu q9 (some 25) M8).bind fun M10 => (rc M10 1 (some c)).bind fun q11 => (fX1_writeNumber fu q11 (nI ln) M10).bind fun M12 => (rc M12 1 (some c)).bind fun q13 => (fX1_write fu q13 (some 26) M12).bind fun M14 => if (if st = 200 then (1 : Int32) else 0) = 0 then fX7_give_L164 fu 319 (some c) (nI st) (if st = 200 then 1 else 0) (nI ln) (some c) (some 34) M14 else (rc M14 7 (some 319)).bind fun q15 => b2 (fX7_contentType fu q15 M14) fun v17 M16 => fX7_give_L164 fu 319 (some c) (nI st) (if st = 200 then 1 else 0) (nI ln) (some c) v17 M16) (fun A => fX7_give_L167 fu 319 (some c) (nI st) (if st = 200 then 1 else 0) (nI ln) A) (if st = 304 then [] else tl 25 ++ (dl ++ (tl 26 ++ tl ty))) := by
    by_cases q : st = 304
    · rw [if_pos q]
      exact stL.id (fun A hA => by rw [if_pos (show nI st = (304 : Int32) by rw [q]; rfl)])
    · rw [if_neg q]
      have s6 : stL c M0 (fun M14 => if (if st = 200 then (1 : Int32) else 0) = 0 then fX7_give_L164 fu 319 (some c) (nI st) (if st = 200 then 1 else 0) (nI ln) (some c) (some 34) M14 else (rc M14 7 (some 319)).bind fun q15 => b2 (fX7_contentType fu q15 M14) fun v17 M16 => fX7_give_L164 fu 319 (some c) (nI st) (if st = 200 then 1 else 0) (nI ln) (some c) v17 M16) (fun A => fX7_give_L167 fu 319 (some c) (nI st) (if st = 200 then 1 else 0) (nI ln) A) (tl ty) := by
        refine stL.of (l_write hC0 fu hfu hty1 _) (fun A hA => ?_)
        rw [if10]
        by_cases q2 : st = 200
        · rw [if_pos q2] at hty
          rw [if_pos q2, rc_ok (xw_ok319 (hA.xW hW0)), ob_some, hty A hA, b2_some]
          rfl
        · rw [if_neg q2] at hty
          rw [if_neg q2, hty]
          rfl
      refine stL.of ((l_write hC0 fu hfu (t := 25) (by decide) _).tr ((l_num hC0 fu hdl _).tr ((l_write hC0 fu hfu (t := 26) (by decide) _).tr s6))) (fun A hA => ?_)
      rw [if_neg (show ¬ nI st = (304 : Int32) from fun z => q ((nI_eq (b := 304) (by omega) (by decide)).mp z))]
  exact (l_write hC0 fu hfu (t := 23) (by decide) _).tr ((l_num hC0 fu hds _).tr ((l_write hC0 fu hfu (t := 24) (by decide) _).tr ((l_write hC0 fu hfu p1 _).tr s5)))
end Give
/-- both heads are the same -/
theorem tx_sw : tl 24 = [32] ∧ [13, 10] ++ tl 45 = tl 25 ∧ [13, 10] ++ tl 46 = tl 26 ∧ [13, 10] ++ tl 47 = tl 38 ++ [34] ∧ [13, 10] ++ tl 48 = tl 39 ∧ [13, 10] ++ tl 49 = tl 40 ∧ tl 41 = [13, 10] ++ [13, 10] ∧ tl 42 = [10] := by decide +kernel
theorem hd_same {st clo ty : Nat} {v : Int32} {ds dl : List Nat} {fi : Bool} (hfi : fi = decide (st = 200 ∨ st = 304)) : (tl 23 ++ (ds ++ (tl 24 ++ (tl (phN st) ++ (if st = 304 then [] else tl 25 ++ (dl ++ (tl 26 ++ tl ty))))))) ++ ((if st = 200 ∨ st = 304 then tl 38 ++ (34 :: (hk' v ++ [34])) else []) ++ ((if st = 405 then tl 39 else []) ++ ((if clo = 0 then [] else tl 40) ++ tl 41))) = hdR st clo ty fi v ds dl ++ [13, 10] := by
  obtain ⟨x1, x2, x3, x4, x5, x6, x7, x8⟩ := tx_sw
  have s2 : [13, 10] ++ (if st = 304 then [] else tl 45 ++ (dl ++ ([13, 10] ++ (tl 46 ++ (tl ty ++ [13, 10]))))) = (if st = 304 then [] else tl 25 ++ (dl ++ (tl 26 ++ tl ty))) ++ [13, 10] := by
    split
    · rfl
    · rw [← x2, ← x3]
      simp only [List.append_assoc]
  have s3 : [13, 10] ++ (if fi then tl 47 ++ (hk' v ++ [34, 13, 10]) else []) = (if st = 200 ∨ st = 304 then tl 38 ++ (34 :: (hk' v ++ [34])) else []) ++ [13, 10] := by
    by_cases q : st = 200 ∨ st = 304
    · rw [hfi, decide_eq_true q, if_pos rfl, if_pos q, ← List.append_assoc, x4]
      simp only [List.append_assoc, List.cons_append, List.nil_append]
    · rw [hfi, decide_eq_false q, if_neg (by decide), if_neg q]
      rfl
  have s4 : [13, 10] ++ (if st = 405 then tl 48 ++ [13, 10] else []) = (if st = 405 then tl 39 else []) ++ [13, 10] := by
    split
    · rw [← x5, List.append_assoc]
    · rfl
  have s5 : [13, 10] ++ (if clo = 0 then [] else tl 49 ++ [13, 10]) = (if clo = 0 then [] else tl 40) ++ [13, 10] := by
    split
    · rfl
    · rw [← x6, List.append_assoc]
  unfold hdR
  rw [x1, x7]
  generalize (if st = 304 then [] else tl 45 ++ (dl ++ ([13, 10] ++ (tl 46 ++ (tl ty ++ [13, 10]))))) = R2 at s2 ⊢
  generalize (if st = 304 then [] else tl 25 ++ (dl ++ (tl 26 ++ tl ty))) = X2 at s2 ⊢
  generalize (if fi then tl 47 ++ (hk' v ++ [34, 13, 10]) else []) = R3 at s3 ⊢
  generalize (if st = 200 ∨ st = 304 then tl 38 ++ (34 :: (hk' v ++ [34])) else []) = X3 at s3 ⊢
  generalize (if st = 405 then tl 48 ++ [13, 10] else []) = R4 at s4 ⊢
  generalize (if st = 405 then tl 39 else []) = X4 at s4 ⊢
  generalize (if clo = 0 then [] else tl 49 ++ [13, 10]) = R5 at s5 ⊢
  generalize (if clo = 0 then [] else tl 40) = X5 at s5 ⊢
  have key : [13, 10] ++ (R2 ++ (R3 ++ (R4 ++ (R5 ++ [13, 10])))) = X2 ++ (X3 ++ (X4 ++ (X5 ++ ([13, 10] ++ [13, 10])))) := by
    rw [← List.append_assoc, s2, List.append_assoc, ← List.append_assoc [13, 10] R3, s3, List.append_assoc, ← List.append_assoc [13, 10] R4, s4, List.append_assoc, ← List.append_assoc [13, 10] R5, s5, List.append_assoc]
  simp only [List.append_assoc, List.append_nil]
  rw [← key]
