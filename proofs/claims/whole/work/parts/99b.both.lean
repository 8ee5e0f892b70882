/-! ===== part 99b: an answer, in both ===== -/
theorem FY.rf {k : Nat} {A : Mm} : FY k A A := ⟨rfl, rfl, rfl, fun _ _ _ => rfl, fun _ _ _ => rfl⟩
theorem FZ.rf {c : Nat} {A : Mm} : FZ c A A := ⟨rfl, rfl, rfl, fun _ _ _ => rfl, fun _ _ _ => rfl⟩
theorem FI_y {F ek im k c : Nat} {A M A' M' : Mm} (hf : FI F ek im A M) (hC : CnO M c) (hW : XW M) (fA : FY k A A') (fM : FZ c M M') : FI F ek im A' M' := by
  obtain ⟨s1, s2, s3, s4, s5, s6, s7⟩ := hf.sp
  have n1 : ek ≠ c + 1 := fun z => s4 (by rw [z]; exact hC.1.2.2)
  have n2 : ek ≠ 305 := fun z => by
    have h1 := hf.oe.2.2
    rw [z] at h1
    exact absurd ((xw_ok305 hW).2.2.symm.trans h1) (by decide)
  have e : mA M' ek = mA M ek := fM.2.2.2.2 ek n1 n2
  have a : ∀ x, x < 330 → mA A' x = mA A x := fun x hx => fA.2.2.2.2 x (by omega) (by omega)
  refine FI.mk hf.le ?_ ?_ ?_ ?_ ?_ ?_ ?_ ?_ ?_ ?_ ?_
  · rw [fA.2.2.2.1 _ _ (by omega)]; exact hf.ca
  · rw [fM.2.2.2.1 _ _ (by omega)]; exact hf.cm
  · rw [fM.2.1]; exact hf.ge
  · unfold okA; rw [fM.1]; exact hf.oe
  · rw [fM.1]; exact hf.l1
  · rw [fM.1]; exact hf.l2
  · rw [e, a 326 (by decide)]; exact hf.nm
  · rw [e, a 327 (by decide), a 328 (by decide), a 329 (by decide)]; exact hf.nu
  · rw [a 327 (by decide), a 328 (by decide)]; exact hf.pl
  · rw [e]; exact hf.na
  · rw [fM.1]; exact hf.sp
theorem PT_y {k c La L : Nat} {P : Nat → Nat} {A M A' M' : Mm} (h : PT A M La L P) (hC : CnO M c) (hW : XW M) (hk : k < 16) (fA : FY k A A') (fM : FZ c M M') : PT A' M' La L P := by
  have n1 : (321 : Nat) ≠ c + 1 := fun z => by
    have h1 := hC.1.2.2
    rw [show c = 320 by omega] at h1
    exact absurd ((xw_ok320 hW).2.2.symm.trans h1) (by decide)
  refine ⟨?_, ?_, ?_, ?_⟩
  · rw [fA.2.2.2.1 _ _ (by omega)]; exact h.1
  · rw [fM.2.2.2.1 _ _ (by omega)]; exact h.2.1
  · rw [fA.2.2.2.2 341 (by omega) (by decide)]; exact h.2.2.1
  · rw [fM.2.2.2.2 321 n1 (by decide)]; exact h.2.2.2
theorem hdR_304 {clo ty ty' : Nat} {fi : Bool} {v : Int32} {ds dl dl' : List Nat} : hdR 304 clo ty fi v ds dl = hdR 304 clo ty' fi v ds dl' := by
  unfold hdR
  rw [if_pos rfl, if_pos rfl]
section Both
variable {k c F ek im st clo r me : Nat} {A M : Mm}
/-- what a given answer is, in both -/
def GV (k c im clo : Nat) (A M A' M' : Mm) (hl bl bp : Nat) : Prop := FY k A A' ∧ FZ c M M' ∧ By A' ∧ By M' ∧ (1 ≤ hl ∧ hl ≤ 256) ∧ mF A' 794 (342 + 4 * k) = nI hl ∧ mF M' 78 c = nI hl ∧ (∀ j, j < hl → mA A' (343 + 4 * k) j = mA M' (c + 1) j) ∧ bl ≤ 65535 ∧ mF A' 796 (342 + 4 * k) = nI bl ∧ mF M' 76 c = nI bl ∧ (bl ≠ 0 → mF A' 795 (342 + 4 * k) = nI bp ∧ mF M' 75 c = nI bp ∧ bp + bl ≤ im) ∧ mF A' 797 (342 + 4 * k) = mF A 773 (342 + 4 * k) ∧ mF M' 77 c = mF M 69 c ∧ mF A' 798 (342 + 4 * k) = nI clo ∧ mF M' 74 c = nI clo ∧ (∀ i, mA A' 330 i = if i = 4 then mA A 330 4 + 1 else mA A 330 i) ∧ (∀ i, mA M' 305 i = if i = 4 then mA M 305 4 + 1 else mA M 305 i)
theorem W_len {A M : Mm} {l : List Nat} (ha : WA A k l) (hm : WX M c l) : mF A 794 (342 + 4 * k) = nI l.length ∧ mF M 78 c = nI l.length ∧ ∀ j, j < l.length → mA A (343 + 4 * k) j = mA M (c + 1) j := ⟨ha.1, hm.1, fun j hj => (ha.2 j hj).trans (hm.2 j hj).symm⟩
theorem sp_give (fu : Nat) (hfu : 5000 ≤ fu) (hk : k < 16) (hR : RW A) (hB : By A) (hW : XW M) (hBM : By M) (hC : CnO M c) (hc : c ≠ 319) (hc2 : c + 1 ≠ 305) (hst : stN st) (s1 : mF A 1067 323 = nI st) (s2 : mF A 1068 323 = nI (if me = 1 then 1 else 0)) (m2 : mF M 453 319 = nI me) (me1 : me ≤ 2) (hclo : clo = if (mF M 464 319 = 0 ∧ (mF M 465 319 ≠ 0 ∨ mF M 454 319 = 0)) ∧ ¬ (st = 400 ∨ st = 413 ∨ st = 431 ∨ st = 501 ∨ st = 500) then 0 else 1) (hfile : st = 200 ∨ st = 304 → r < F ∧ mF M 466 319 = nI r ∧ ∃ L P, 1 ≤ L ∧ L ≤ 47 ∧ PT A M L L P ∧ mtch M ek L P r) (hf : FI F ek im A M) (him : im ≤ 65535) :
    ∃ A' M' hl bl bp, fX16_make fu 323 (some (342 + 4 * k)) (if st = 200 ∨ st = 304 then nI r else -1) (nI clo) A = some A' ∧ fX7_give fu 319 (some c) (nI st) M = some M' ∧ GV k c im clo A M A' M' hl bl bp := by
  obtain ⟨p1, p2⟩ := ph_lt (st := st)
  have hF := hf.le
  have hclo1 : clo ≤ 1 := by rw [hclo]; split <;> omega
  have hhd1 : (if me = 1 then 1 else 0) ≤ 1 := by split <;> omega
  have hd0 : (if me = 1 then 1 else 0) = 0 ↔ me ≠ 1 := by
    by_cases q : me = 1
    · rw [if_pos q]; exact ⟨fun z => by omega, fun z => absurd q z⟩
    · rw [if_neg q]; exact ⟨fun _ => q, fun _ => rfl⟩
  have stlt : st < 1000 := by clear hfile hclo; omega
  obtain ⟨ds, d1, d2, d3, d4, d5⟩ := num_ex fu (Nat.le_trans (by decide) hfu) (x := st) (Nat.lt_trans stlt (by decide))
  have ds3 := d2 stlt
  by_cases q : st = 200 ∨ st = 304
  · obtain ⟨f1, f2, L, P, f3, f4, f5, f6⟩ := hfile q
    clear hfile
    obtain ⟨pl, ln, g1, g2, g3⟩ := hf.pl r f1
    have nm : nI r ≠ -1 := fun y => absurd (show nI r < 0 by rw [y]; decide) (nI_pos (by omega))
    obtain ⟨dl, h1, h2, h3, h4, h5⟩ := num_ex fu (by omega) (x := ln) (by omega)
    obtain ⟨dx, i1, i2, i3, i4, i5⟩ := num_ex fu (by omega) (x := 5 + txL (phN st)) (by omega)
    obtain ⟨y1, y2⟩ := tyN_lt (L := L) (P := P)
    have tyA : ∀ A', FY k A A' → fX16_type fu 323 (nI r) A' = some (some (tyN L P), A') := fun A' hA' => (sp_type fu hfu (hA'.rW hR) hW (FI_y hf hC hW hA' FZ.rf) (PT_y f5 hC hW hk hA' FZ.rf) f4 f1 f6).1
    have fz : ∀ M', FZ c M M' → FI F ek im A M' ∧ XW M' ∧ PT A M' L L P ∧ mtch M' ek L P r := fun M' hM' => by
      have e := FI_y hf hC hW (FY.rf (k := k)) hM'
      refine ⟨e, hM'.xW hW, PT_y f5 hC hW hk (FY.rf (k := k)) hM', fun j hj => ?_⟩
      rw [← e.nm r j f1 hj, hf.nm r j f1 hj]
      exact f6 j hj
    have mkX : ∀ M', FZ c M M' → fX8_markOf fu 301 (nI r) M' = some (mA A 329 r, M') := fun M' hM' => (x_markOf fu (fz M' hM').2.1 (fz M' hM').1 f1).1
    have plX : ∀ M', FZ c M M' → fX8_placeOf fu 301 (nI r) M' = some (nI pl, M') := fun M' hM' => by rw [← g1]; exact (x_markOf fu (fz M' hM').2.1 (fz M' hM').1 f1).2.1
    have szX : ∀ M', FZ c M M' → fX8_sizeOf fu 301 (nI r) M' = some (nI ln, M') := fun M' hM' => by rw [← g2]; exact (x_markOf fu (fz M' hM').2.1 (fz M' hM').1 f1).2.2
    have tyX : ∀ M', FZ c M M' → fX7_contentType fu 319 M' = some (some (tyN L P), M') := fun M' hM' => (sp_type fu hfu hR (fz M' hM').2.1 (fz M' hM').1 (fz M' hM').2.2.1 f4 f1 (fz M' hM').2.2.2).2
    obtain ⟨A', a1, a2, a3, a4, a5, a6, a7, a8, a9⟩ := m_make (ix := nI r) (r := r) hk fu hfu hR hB s1 hst s2 hhd1 hclo1 (Or.inr ⟨rfl, by omega, g2⟩) (d4 k hk) ds3 (h4 k hk) (h3 (by omega)) tyA y1 y2
    rw [if_pos q]
    by_cases q2 : st = 200
    · obtain ⟨M', b1, b2, b3, b4, b5, b6, b7, b8, b9⟩ := x_give (r := r) (pl := pl) (ln := ln) (ty := tyN L P) (v := mA A 329 r) fu hfu hC hW hc hc2 hBM hst m2 me1 hclo (fun _ => f2) (fun _ => mkX) (fun _ => plX) (by rw [if_pos q2]; exact szX) (by rw [if_pos q2]; exact tyX) y1 y2 (d5 c) ds3 (h5 c) (h3 (by omega))
      rw [if_neg (fun z => nm z.2), show decide (nI r ≠ -1) = decide (st = 200 ∨ st = 304) by rw [decide_eq_true q, decide_eq_true nm]] at a4
      rw [if_neg (fun z => z.2 q2)] at b4
      obtain ⟨w1, w2, w3⟩ := W_len a4 b4
      have hlen := hdR_len (st := st) (clo := clo) (ty := tyN L P) (fi := decide (st = 200 ∨ st = 304)) (v := mA A 329 r) ds3 (h3 (by omega)) y1 y2
      refine ⟨A', M', _, (if me ≠ 1 then ln else 0), pl, a1, b1, a2, b2, a3, b3, ?_, w1, w2, w3, ?_, ?_, ?_, fun z => ?_, a7, b7, a8, b8, a9, b9⟩
      · rw [List.length_append]
        refine ⟨?_, ?_⟩
        · show 1 ≤ _ + 2
          omega
        · show _ + 2 ≤ 256
          omega
      · split <;> omega
      · rw [a5]
        by_cases z : me = 1
        · rw [if_neg (fun y => hd0.mp y.1.1 z), if_neg (fun y => y z)]; rfl
        · rw [if_pos ⟨⟨hd0.mpr z, by omega⟩, nm⟩, if_pos z]
      · rw [b5]
        by_cases z : me = 1
        · rw [if_neg (fun y => y.1.1 z), if_neg (fun y => y z)]; rfl
        · rw [if_pos ⟨⟨z, by omega⟩, q2⟩, if_pos z]
      · have z' : me ≠ 1 := fun y => z (by rw [if_neg (fun x => x y)])
        refine ⟨(a6 nm).trans g1, b6 ⟨⟨z', by omega⟩, q2⟩, ?_⟩
        rw [if_pos z']
        exact g3
    · have q3 : st = 304 := by omega
      obtain ⟨M', b1, b2, b3, b4, b5, b6, b7, b8, b9⟩ := x_give (r := r) (pl := pl) (ln := 5 + txL (phN st)) (ty := 34) (v := mA A 329 r) fu hfu hC hW hc hc2 hBM hst m2 me1 hclo (fun _ => f2) (fun _ => mkX) (fun _ => plX) (by rw [if_neg q2]) (by rw [if_neg q2]) (by decide) (by decide +kernel) (d5 c) ds3 (i5 c) (i3 (by omega))
      rw [if_neg (fun z => nm z.2), show decide (nI r ≠ -1) = decide (st = 200 ∨ st = 304) by rw [decide_eq_true q, decide_eq_true nm]] at a4
      rw [if_neg (fun z => z.1.2 q3)] at b4
      have e34 : hdR st clo 34 (decide (st = 200 ∨ st = 304)) (mA A 329 r) ds dx = hdR st clo (tyN L P) (decide (st = 200 ∨ st = 304)) (mA A 329 r) ds dl := by
        generalize decide (st = 200 ∨ st = 304) = fi
        subst q3
        exact hdR_304
      rw [e34] at b4
      obtain ⟨w1, w2, w3⟩ := W_len a4 b4
      have hlen := hdR_len (st := st) (clo := clo) (ty := tyN L P) (fi := decide (st = 200 ∨ st = 304)) (v := mA A 329 r) ds3 (h3 (by omega)) y1 y2
      refine ⟨A', M', _, 0, 0, a1, b1, a2, b2, a3, b3, ?_, w1, w2, w3, by decide, ?_, ?_, fun z => absurd rfl z, a7, b7, a8, b8, a9, b9⟩
      · rw [List.length_append]
        refine ⟨?_, ?_⟩
        · show 1 ≤ _ + 2
          omega
        · show _ + 2 ≤ 256
          omega
      · rw [a5, if_neg (fun y => y.1.2 q3)]; rfl
      · rw [b5, if_neg (fun y => q2 y.2)]; rfl
  · clear hfile
    obtain ⟨dl, h1, h2, h3, h4, h5⟩ := num_ex fu (by omega) (x := 5 + txL (phN st)) (by omega)
    rw [if_neg q]
    have n2 : st ≠ 200 := fun z => q (Or.inl z)
    have n3 : st ≠ 304 := fun z => q (Or.inr z)
    obtain ⟨A', a1, a2, a3, a4, a5, a6, a7, a8, a9⟩ := m_make (ix := -1) (r := 0) (ty := 34) (ln := 5 + txL (phN st)) hk fu hfu hR hB s1 hst s2 hhd1 hclo1 (Or.inl ⟨rfl, rfl⟩) (d4 k hk) ds3 (h4 k hk) (h3 (by omega)) (fun A' _ => by unfold fX16_type; rw [if_pos (by decide)]) (by decide) (by decide +kernel)
    obtain ⟨M', b1, b2, b3, b4, b5, b6, b7, b8, b9⟩ := x_give (r := 0) (pl := 0) (ln := 5 + txL (phN st)) (ty := 34) (v := mA A 329 0) fu hfu hC hW hc hc2 hBM hst m2 me1 hclo (fun z => absurd z q) (fun z => absurd z q) (fun z => absurd z n2) (by rw [if_neg n2]) (by rw [if_neg n2]) (by decide) (by decide +kernel) (d5 c) ds3 (h5 c) (h3 (by omega))
    have et : (if ((if me = 1 then 1 else 0) = 0 ∧ st ≠ 304) ∧ (-1 : Int32) = -1 then ds ++ ([32] ++ (tl (phN st) ++ [10])) else []) = (if (me ≠ 1 ∧ st ≠ 304) ∧ st ≠ 200 then ds ++ ([32] ++ (tl (phN st) ++ [10])) else []) := by
      by_cases z : me = 1
      · rw [if_neg (fun y => hd0.mp y.1.1 z), if_neg (fun y => y.1.1 z)]
      · rw [if_pos ⟨⟨hd0.mpr z, n3⟩, rfl⟩, if_pos ⟨⟨z, n3⟩, n2⟩]
    rw [et, show decide ((-1 : Int32) ≠ -1) = decide (st = 200 ∨ st = 304) by rw [decide_eq_false q]; rfl] at a4
    obtain ⟨w1, w2, w3⟩ := W_len a4 b4
    have hlen := hdR_len (st := st) (clo := clo) (ty := 34) (fi := decide (st = 200 ∨ st = 304)) (v := mA A 329 0) ds3 (h3 (by omega)) (by decide) (by decide +kernel)
    have tph := tl_len _ p1
    refine ⟨A', M', _, 0, 0, a1, b1, a2, b2, a3, b3, ?_, w1, w2, w3, by decide, ?_, ?_, fun z => absurd rfl z, a7, b7, a8, b8, a9, b9⟩
    · have : (if (me ≠ 1 ∧ st ≠ 304) ∧ st ≠ 200 then ds ++ ([32] ++ (tl (phN st) ++ [10])) else []).length ≤ 36 := by
        split
        · simp only [List.length_append, List.length_cons, List.length_nil]
          omega
        · exact Nat.zero_le _
      rw [List.length_append, List.length_append]
      refine ⟨?_, ?_⟩
      · show 1 ≤ _ + (2 + _)
        omega
      · show _ + (2 + _) ≤ 256
        omega
    · rw [a5, if_neg (fun y => y.2 rfl)]; rfl
    · rw [b5, if_neg (fun y => n2 y.2)]; rfl
end Both
