/-! ===== part 98z: an answer is given, in the class ===== -/
def FGX (c : Nat) (M M' : Mm) : Prop := mS M' = mS M ∧ mG M' = mG M ∧ mB M' = mB M ∧ (∀ f a, ¬ (74 ≤ f ∧ f ≤ 78 ∧ a = c) → mF M' f a = mF M f a) ∧ (∀ a, a ≠ c + 1 → mA M' a = mA M a)
theorem FGX.tr {c : Nat} {A A' A'' : Mm} (h : FGX c A A') (g : FGX c A' A'') : FGX c A A'' := ⟨g.1.trans h.1, g.2.1.trans h.2.1, g.2.2.1.trans h.2.2.1, fun f a n => (g.2.2.2.1 f a n).trans (h.2.2.2.1 f a n), fun a n => (g.2.2.2.2 a n).trans (h.2.2.2.2 a n)⟩
theorem HM.gx {c : Nat} {A A' : Mm} (h : HM c A A') : FGX c A A' := ⟨h.1, h.2.1, h.2.2.1, fun f a n => h.2.2.2.1 f a (fun e => n ⟨by omega, by omega, e.2⟩), h.2.2.2.2⟩
theorem FGX.s {c f : Nat} {A : Mm} (v : Int32) (h : 74 ≤ f) (h2 : f ≤ 78) : FGX c A (sF A f c v) := ⟨rfl, rfl, rfl, fun g a n => by rw [mF_sF, if_neg (fun e => n ⟨by omega, by omega, e.2⟩)], fun _ _ => rfl⟩
section Give2
variable {c : Nat} {M0 : Mm} {st clo r ln ty : Nat} {v : Int32}
theorem ph_okx (fu : Nat) (h : stN st) (A : Mm) : fX7_phrase fu (nI st) A = some (some (phN st), A) := (ph_same fu (nI st) A).symm.trans (ph_ok fu h A)
theorem l_text (hC0 : CnO M0 c) (fu : Nat) (hfu : 5000 ≤ fu) (hst : stN st) (h200 : st ≠ 200) {ds : List Nat} (hds : stX c (fun A => fX1_writeNumber fu c (nI st) A) ds) : stL c M0 (fun A => fX7_giveBody fu 319 (some c) (nI st) (nI ln) A) (fun A => some A) (ds ++ (tl 24 ++ (tl (phN st) ++ tl 42))) := by
  obtain ⟨p1, p2⟩ := ph_lt (st := st)
  have s3 : stL c M0 (fun M4 => b2 (fX7_phrase fu (nI st) M4) fun v6 M5 => (rc M5 1 (some c)).bind fun q7 => (fX1_write fu q7 v6 M5).bind fun M8 => (rc M8 1 (some c)).bind fun q9 => (fX1_write fu q9 (some 42) M8).bind fun M10 => some M10) (fun A => some A) (tl (phN st) ++ tl 42) := stL.of ((l_write hC0 fu hfu p1 _).tr (l_write hC0 fu hfu (t := 42) (by decide) (fun A => some A))) (fun A hA => by
    rw [ph_okx fu hst, b2_some])
  refine stL.of ((l_num hC0 fu hds _).tr ((l_write hC0 fu hfu (t := 24) (by decide) _).tr s3)) (fun A hA => ?_)
  unfold fX7_giveBody
  rw [if_neg (show ¬ nI st = (200 : Int32) from fun z => h200 ((nI_eq (b := 200) (by omega) (by decide)).mp z))]
theorem x_gend (fu : Nat) (hfu : 5000 ≤ fu) {M : Mm} {l ds : List Nat} {me pl : Nat} (hC : CnO M c) (hW : XW M) (hc : c ≠ 319) (hB : By M) (hw : WX M c l) (hst : stN st) (hme : mF M 453 319 = nI me) (hme1 : me ≤ 2) (hpl : st = 200 → mF M 466 319 = nI r ∧ ∀ M', HM c M M' → fX8_placeOf fu 301 (nI r) M' = some (nI pl, M')) (hds : stX c (fun A => fX1_writeNumber fu c (nI st) A) ds) (hl : l.length + ds.length + 50 ≤ 256) :
    ∃ M', fX7_give_L229 fu 319 (some c) (nI st) (nI ln) M = some M' ∧ FGX c M M' ∧ By M' ∧ WX M' c (l ++ (tl 41 ++ (if (me ≠ 1 ∧ st ≠ 304) ∧ st ≠ 200 then ds ++ (tl 24 ++ (tl (phN st) ++ tl 42)) else []))) ∧ mF M' 76 c = (if (me ≠ 1 ∧ st ≠ 304) ∧ st = 200 then nI ln else mF M 76 c) ∧ ((me ≠ 1 ∧ st ≠ 304) ∧ st = 200 → mF M' 75 c = nI pl) ∧ mF M' 77 c = mF M 77 c ∧ mF M' 74 c = mF M 74 c := by
  obtain ⟨p1, p2⟩ := ph_lt (st := st)
  have t41 := tl_len 41 (by decide)
  have t24 := tl_len 24 (by decide)
  have t42 := tl_len 42 (by decide)
  have tph := tl_len _ p1
  have tx : txL 41 = 4 ∧ txL 24 = 1 ∧ txL 42 = 1 := by decide +kernel
  obtain ⟨M1, r1, r2, r3, r4⟩ := x_write fu (by omega) (c := c) (t := 41) (by decide) M l hC hB hw (by omega)
  have hC1 := r2.cN hC
  have hW1 := r2.xW hW
  have o7 := xw_ok319 hW1
  have e453 : mF M1 453 319 = nI me := (r2.2.2.2.1 _ _ (by omega)).trans hme
  have stlt : st < 1000 := by omega
  have e0 : fX7_give_L229 fu 319 (some c) (nI st) (nI ln) M = (if me ≠ 1 ∧ st ≠ 304 then fX7_giveBody fu 319 (some c) (nI st) (nI ln) M1 else some M1) := by
    unfold fX7_give_L229
    rw [rc_ok hC.1, ob_some, show fX1_write fu c (some 41) M = some M1 from r1, ob_some]
    by_cases q : st = 304
    · rw [if_pos (show nI st = (304 : Int32) by rw [q]; rfl), if_neg (fun z => z.2 q)]
    · rw [if_neg (show ¬ nI st = (304 : Int32) from fun z => q ((nI_eq (b := 304) (by omega) (by decide)).mp z)), gI_ok o7, ob_some, e453]
      by_cases q2 : me = 1
      · rw [if_pos (show nI me = (1 : Int32) by rw [q2]; rfl), if_neg (fun z => z.1 q2)]
      · rw [if_neg (show ¬ nI me = (1 : Int32) from fun z => q2 ((nI_eq (b := 1) (by omega) (by decide)).mp z)), if_pos ⟨q2, q⟩, rc_ok o7, ob_some]
        exact ob_id _
  rw [e0]
  by_cases q : me ≠ 1 ∧ st ≠ 304
  · rw [if_pos q]
    by_cases q2 : st = 200
    · obtain ⟨k1, k2⟩ := hpl q2
      have e466 : mF M1 466 319 = nI r := (r2.2.2.2.1 _ _ (by omega)).trans k1
      have f0 : fX7_giveBody fu 319 (some c) (nI st) (nI ln) M1 = some (sF (sF M1 75 c (nI pl)) 76 c (nI ln)) := by
        unfold fX7_giveBody
        rw [if_pos (show nI st = (200 : Int32) by rw [q2]; rfl), gR_ok o7, ob_some, xw_g448_319 hW1, gI_ok o7, ob_some, e466, rc_ok (xw_ok301 hW1), ob_some, k2 M1 r2, b2_some, pF_ok hC1.1, ob_some, pF_ok (by exact hC1.1), ob_some]
      rw [f0, if_neg (show ¬ ((me ≠ 1 ∧ st ≠ 304) ∧ st ≠ 200) from fun z => z.2 q2), if_pos (show (me ≠ 1 ∧ st ≠ 304) ∧ st = 200 from ⟨q, q2⟩)]
      refine ⟨_, rfl, (r2.gx.tr (FGX.s _ (by decide) (by decide))).tr (FGX.s _ (by decide) (by decide)), By_sF (By_sF r3), ?_, by rw [mF_sF, if_pos ⟨rfl, rfl⟩], fun _ => by rw [mF_sF, if_neg (by omega), mF_sF, if_pos ⟨rfl, rfl⟩], ?_, ?_⟩
      · rw [List.append_nil]
        refine ⟨?_, r4.2⟩
        rw [mF_sF, if_neg (by omega), mF_sF, if_neg (by omega)]
        exact r4.1
      · rw [mF_sF, if_neg (by omega), mF_sF, if_neg (by omega)]
        exact r2.2.2.2.1 _ _ (by omega)
      · rw [mF_sF, if_neg (by omega), mF_sF, if_neg (by omega)]
        exact r2.2.2.2.1 _ _ (by omega)
    · rw [if_pos (show (me ≠ 1 ∧ st ≠ 304) ∧ st ≠ 200 from ⟨q, q2⟩), if_neg (show ¬ ((me ≠ 1 ∧ st ≠ 304) ∧ st = 200) from fun z => q2 z.2)]
      obtain ⟨M2, s1, s2, s3, s4⟩ := l_text (M0 := M1) (ln := ln) hC1 fu hfu hst q2 hds M1 (l ++ tl 41) HM.rf r3 r4 (by
        rw [List.length_append, List.length_append, List.length_append, List.length_append]
        omega)
      refine ⟨M2, s1, r2.gx.tr s2.gx, s3, by rw [← List.append_assoc]; exact s4, ?_, fun z => absurd z.2 q2, ?_, ?_⟩
      · exact (s2.2.2.2.1 _ _ (by omega)).trans (r2.2.2.2.1 _ _ (by omega))
      · exact (s2.2.2.2.1 _ _ (by omega)).trans (r2.2.2.2.1 _ _ (by omega))
      · exact (s2.2.2.2.1 _ _ (by omega)).trans (r2.2.2.2.1 _ _ (by omega))
  · rw [if_neg q, if_neg (show ¬ ((me ≠ 1 ∧ st ≠ 304) ∧ st ≠ 200) from fun z => q z.1), if_neg (show ¬ ((me ≠ 1 ∧ st ≠ 304) ∧ st = 200) from fun z => q z.1)]
    exact ⟨M1, rfl, r2.gx, r3, by rw [List.append_nil]; exact r4, r2.2.2.2.1 _ _ (by omega), fun z => absurd z.1 q, r2.2.2.2.1 _ _ (by omega), r2.2.2.2.1 _ _ (by omega)⟩
end Give2
