/-! ===== part 98w: an answer is made, in the reference ===== -/
def FX (k : Nat) (A A' : Mm) : Prop := mS A' = mS A ∧ mG A' = mG A ∧ mB A' = mB A ∧ (∀ f a, ¬ (794 ≤ f ∧ f ≤ 798 ∧ a = 342 + 4 * k) → mF A' f a = mF A f a) ∧ (∀ a, a ≠ 343 + 4 * k → mA A' a = mA A a)
theorem FX.tr {k : Nat} {A A' A'' : Mm} (h : FX k A A') (g : FX k A' A'') : FX k A A'' := ⟨g.1.trans h.1, g.2.1.trans h.2.1, g.2.2.1.trans h.2.2.1, fun f a n => (g.2.2.2.1 f a n).trans (h.2.2.2.1 f a n), fun a n => (g.2.2.2.2 a n).trans (h.2.2.2.2 a n)⟩
theorem HA.fx {k : Nat} {A A' : Mm} (h : HA k A A') : FX k A A' := ⟨h.1, h.2.1, h.2.2.1, fun f a n => h.2.2.2.1 f a (fun e => n ⟨by omega, by omega, e.2⟩), h.2.2.2.2⟩
theorem FX.s {k f : Nat} {A : Mm} (v : Int32) (h : 794 ≤ f) (h2 : f ≤ 798) : FX k A (sF A f (342 + 4 * k) v) := ⟨rfl, rfl, rfl, fun g a n => by rw [mF_sF, if_neg (fun e => n ⟨by omega, by omega, e.2⟩)], fun _ _ => rfl⟩
section Make3
variable {k : Nat} {A0 : Mm} {st clo : Nat} {ix : Int32}
def mt4 (fu k : Nat) (M11 : Mm) : Option Mm := (rc M11 16 (some 323)).bind fun q12 => (fX16_code fu q12 (some (342 + 4 * k)) (10 : Int32) M11).bind fun M13 => some M13
def mt3 (fu k : Nat) (v9 : Option Nat) (M8 : Mm) : Option Mm := (rc M8 16 (some 323)).bind fun q10 => (fX16_say fu q10 (some (342 + 4 * k)) v9 M8).bind (mt4 fu k)
def mt2 (fu k : Nat) (M6 : Mm) : Option Mm := (gI M6 16 1067 (some 323)).bind fun v7 => b2 (fX16_phrase fu v7 M6) fun v9 M8 => mt3 fu k v9 M8
def mt1 (fu k : Nat) (M4 : Mm) : Option Mm := (rc M4 16 (some 323)).bind fun q5 => (fX16_code fu q5 (some (342 + 4 * k)) (32 : Int32) M4).bind (mt2 fu k)
def mt0 (fu k : Nat) (M1 : Mm) : Option Mm := (gI M1 16 1067 (some 323)).bind fun v2 => (rc M1 16 (some 323)).bind fun q3 => (fX16_sayNumber fu q3 (some (342 + 4 * k)) v2 M1).bind (mt1 fu k)
theorem k_text (hk : k < 16) (hR0 : RW A0) (fu : Nat) (hfu : 5000 ≤ fu) (hst : mF A0 1067 323 = nI st) (hst1 : stN st) {ds : List Nat} (hd : stA k (fun A => fX16_sayNumber fu 323 (some (342 + 4 * k)) (nI st) A) ds) : stK k A0 (mt0 fu k) (fun A => some A) (ds ++ ([32] ++ (tl (phN st) ++ [10]))) := by
  obtain ⟨p1, p2⟩ := ph_lt (st := st)
  have s4 : stK k A0 (mt4 fu k) (fun A => some A) [10] := k_code hk hR0 fu hfu (v := 10) (by decide) (fun A => some A)
  have s3 : stK k A0 (mt2 fu k) (mt4 fu k) (tl (phN st)) := stK.of (k_say hk hR0 fu hfu p1 (mt4 fu k)) (fun A hA => by
    unfold mt2
    rw [m_1067 hR0 hst hA, ob_some, ph_ok fu hst1, b2_some]
    rfl)
  have s2 : stK k A0 (mt1 fu k) (mt2 fu k) [32] := k_code hk hR0 fu hfu (v := 32) (by decide) (mt2 fu k)
  have s1 : stK k A0 (mt0 fu k) (mt1 fu k) ds := stK.of (k_num hR0 fu hd (mt1 fu k)) (fun A hA => by
    unfold mt0
    rw [m_1067 hR0 hst hA, ob_some])
  exact s1.tr (s2.tr (s3.tr s4))
theorem WA.s {A : Mm} {l : List Nat} {f : Nat} {v : Int32} (h : WA A k l) (hf : f ≠ 794) : WA (sF A f (342 + 4 * k) v) k l := ⟨by rw [mF_sF, if_neg (fun e => hf e.1.symm)]; exact h.1, h.2⟩
theorem m_mend (hk : k < 16) (fu : Nat) (hfu : 5000 ≤ fu) {A : Mm} {l ds : List Nat} {hd r ln : Nat} (hR : RW A) (hB : By A) (hw : WA A k l) (hst : mF A 1067 323 = nI st) (hst1 : stN st) (hhd : mF A 1068 323 = nI hd) (hhd1 : hd ≤ 1) (hix : ix = -1 ∨ (ix = nI r ∧ r < 64)) (hds : stA k (fun A => fX16_sayNumber fu 323 (some (342 + 4 * k)) (nI st) A) ds) (hl : l.length + ds.length + 40 ≤ 256) :
    ∃ A', fX16_make_L245 fu 323 (some (342 + 4 * k)) ix (nI ln) A = some A' ∧ FX k A A' ∧ By A' ∧ WA A' k (l ++ ([13, 10] ++ (if (hd = 0 ∧ st ≠ 304) ∧ ix = -1 then ds ++ ([32] ++ (tl (phN st) ++ [10])) else []))) ∧ mF A' 796 (342 + 4 * k) = (if (hd = 0 ∧ st ≠ 304) ∧ ix ≠ -1 then nI ln else 0) ∧ (ix ≠ -1 → mF A' 795 (342 + 4 * k) = mA A 327 r) ∧ mF A' 797 (342 + 4 * k) = mF A 797 (342 + 4 * k) ∧ mF A' 798 (342 + 4 * k) = mF A 798 (342 + 4 * k) := by
  obtain ⟨A1, r1, r2, r3, r4⟩ := m_line fu hk A l hR hB hw (by show l.length + 2 ≤ 256; omega)
  have hR1 := r2.rW hR
  have o := rw_ok323 hR1
  have oc := rw_cnO hR1 k hk
  have stlt : st < 1000 := by omega
  have e67 : mF A1 1067 323 = nI st := (r2.2.2.2.1 _ _ (by omega)).trans hst
  have e68 : mF A1 1068 323 = nI hd := (r2.2.2.2.1 _ _ (by omega)).trans hhd
  have tlen : (tl (phN st)).length ≤ 31 := by
    have : ∀ t, t < 50 → (tl t).length = txL t := by decide +kernel
    rw [this _ ph_lt.1]
    exact ph_lt.2
  have e0 : fX16_make_L245 fu 323 (some (342 + 4 * k)) ix (nI ln) A = fX16_make_L272 fu 323 (some (342 + 4 * k)) ix (nI ln) (if hd = 0 ∧ st ≠ 304 then 1 else 0) A1 := by
    unfold fX16_make_L245 fX16_make_L271
    rw [rc_ok (rw_ok323 hR), ob_some, show fX16_line fu 323 (some (342 + 4 * k)) A = some A1 from r1, ob_some, gI_ok (f := 1068) o, ob_some, e68]
    by_cases q : hd = 0
    · rw [if_pos (show nI hd = 0 by rw [q]; rfl), gI_ok (f := 1067) o, ob_some, e67]
      by_cases q2 : st = 304
      · rw [if_pos (show nI st = (304 : Int32) by rw [q2]; rfl), if_neg (fun z => z.2 q2)]
      · rw [if_neg (show ¬ nI st = (304 : Int32) from fun z => q2 ((nI_eq (b := 304) (by omega) (by decide)).mp z)), if_pos ⟨q, q2⟩]
    · rw [if_neg (show ¬ nI hd = 0 from fun z => q ((nI_eq (b := 0) (by omega) (by decide)).mp z)), if_neg (fun z => q z.1)]
  rw [e0]
  have r4' : WA A1 k (l ++ [13, 10]) := r4
  rcases hix with q | ⟨q, hr⟩
  · -- no file
    subst q
    have f0 : fX16_make_L272 fu 323 (some (342 + 4 * k)) (-1) (nI ln) (if hd = 0 ∧ st ≠ 304 then 1 else 0) A1 = (if hd = 0 ∧ st ≠ 304 then mt0 fu k (sF (sF A1 795 (342 + 4 * k) 0) 796 (342 + 4 * k) 0) else some (sF (sF A1 795 (342 + 4 * k) 0) 796 (342 + 4 * k) 0)) := by
      unfold fX16_make_L272 fX16_make_L289 fX16_make_L307 fX16_make_L308
      rw [if_pos (by decide), pF_ok oc, ob_some, if_pos (show (-1 : Int32) < 0 by decide), ite_self, pF_ok (by exact oc), ob_some, if10, if_neg (show ¬ (0 : Int32) ≤ -1 by decide)]
      rfl
    rw [f0]
    by_cases q : hd = 0 ∧ st ≠ 304
    · rw [if_pos q, if_pos ⟨q, rfl⟩, if_neg (fun z => z.2 rfl)]
      obtain ⟨A2, s1, s2, s3, s4⟩ := k_text (A0 := sF (sF A1 795 (342 + 4 * k) 0) 796 (342 + 4 * k) 0) hk hR1 fu hfu (by rw [mF_sF, if_neg (by omega), mF_sF, if_neg (by omega)]; exact e67) hst1 hds (sF (sF A1 795 (342 + 4 * k) 0) 796 (342 + 4 * k) 0) (l ++ [13, 10]) HA.rf (By_sF (By_sF r3)) ((r4'.s (by decide)).s (by decide)) (by
        rw [List.length_append, List.length_append, List.length_append, List.length_append]
        show l.length + 2 + (ds.length + (1 + ((tl (phN st)).length + 1))) ≤ 256
        omega)
      refine ⟨A2, s1, ((r2.fx.tr (FX.s _ (by decide) (by decide))).tr (FX.s _ (by decide) (by decide))).tr s2.fx, s3, by rw [← List.append_assoc]; exact s4, ?_, fun z => absurd rfl z, ?_, ?_⟩
      · rw [s2.2.2.2.1 _ _ (by omega), mF_sF, if_pos ⟨rfl, rfl⟩]
      · rw [s2.2.2.2.1 _ _ (by omega), mF_sF, if_neg (by omega), mF_sF, if_neg (by omega)]
        exact r2.2.2.2.1 _ _ (by omega)
      · rw [s2.2.2.2.1 _ _ (by omega), mF_sF, if_neg (by omega), mF_sF, if_neg (by omega)]
        exact r2.2.2.2.1 _ _ (by omega)
    · rw [if_neg q, if_neg (fun z => q z.1), if_neg (fun z => q z.1)]
      refine ⟨_, rfl, (r2.fx.tr (FX.s _ (by decide) (by decide))).tr (FX.s _ (by decide) (by decide)), By_sF (By_sF r3), by rw [List.append_nil]; exact (r4'.s (by decide)).s (by decide), by rw [mF_sF, if_pos ⟨rfl, rfl⟩], fun z => absurd rfl z, ?_, ?_⟩
      · rw [mF_sF, if_neg (by omega), mF_sF, if_neg (by omega)]
        exact r2.2.2.2.1 _ _ (by omega)
      · rw [mF_sF, if_neg (by omega), mF_sF, if_neg (by omega)]
        exact r2.2.2.2.1 _ _ (by omega)
  · have nm : ix ≠ -1 := fun z => by
      rw [q] at z
      exact absurd (show nI r < 0 by rw [z]; decide) (nI_pos (by omega))
    have np : ¬ nI r < 0 := nI_pos (by omega)
    have n0 : (0 : Int32) ≤ nI r := nI_le (a := 0) (by omega) (by omega)
    have f0 : fX16_make_L272 fu 323 (some (342 + 4 * k)) ix (nI ln) (if hd = 0 ∧ st ≠ 304 then 1 else 0) A1 = some (sF (sF A1 795 (342 + 4 * k) (mA A1 327 r)) 796 (342 + 4 * k) (if hd = 0 ∧ st ≠ 304 then nI ln else 0)) := by
      unfold fX16_make_L272 fX16_make_L289 fX16_make_L307 fX16_make_L308
      rw [q, if_neg np, gR_ok o, ob_some, rw_g1038_323 hR1, gA_ok (rw_ok327 hR1) (by rw [rw_ln327 hR1]; omega) (by omega), ob_some, pF_ok oc, ob_some, if_neg np, pF_ok (by exact oc), ob_some, pF_ok (by exact oc), ob_some, if_pos n0, if_pos n0, ite_self, ite_self, if10]
      split <;> rfl
    rw [f0, if_neg (show ¬ ((hd = 0 ∧ st ≠ 304) ∧ ix = -1) from fun z => nm z.2)]
    refine ⟨_, rfl, (r2.fx.tr (FX.s _ (by decide) (by decide))).tr (FX.s _ (by decide) (by decide)), By_sF (By_sF r3), by rw [List.append_nil]; exact (r4'.s (by decide)).s (by decide), ?_, fun _ => ?_, ?_, ?_⟩
    · rw [mF_sF, if_pos ⟨rfl, rfl⟩]
      by_cases z : hd = 0 ∧ st ≠ 304
      · rw [if_pos z, if_pos ⟨z, nm⟩]
      · rw [if_neg z, if_neg (fun y => z y.1)]
    · rw [mF_sF, if_neg (by omega), mF_sF, if_pos ⟨rfl, rfl⟩]
      exact congrFun (r2.2.2.2.2 327 (by omega)) r
    · rw [mF_sF, if_neg (by omega), mF_sF, if_neg (by omega)]
      exact r2.2.2.2.1 _ _ (by omega)
    · rw [mF_sF, if_neg (by omega), mF_sF, if_neg (by omega)]
      exact r2.2.2.2.1 _ _ (by omega)
end Make3
