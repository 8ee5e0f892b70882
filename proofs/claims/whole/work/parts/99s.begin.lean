/-! ===== part 99s: a connection begins: what is written, in both ===== -/
section Begin
variable {A M B X : Mm}
/-- the fields of a new connection in the reference, up to its option; behind it -/
def bg1 (B : Mm) (k : Nat) (sn fp sq iss wi : Int32) : Mm := (sF (sF (sF (sF (sF (sF (sF (sF (sF (sF (sF (sF (sF B 768 (342 + 4 * k) 1) 769 (342 + 4 * k) sn) 770 (342 + 4 * k) fp) 802 (342 + 4 * k) sq) 804 (342 + 4 * k) (sq + 1)) 803 (342 + 4 * k) (sq + 1)) 771 (342 + 4 * k) iss) 772 (342 + 4 * k) iss) 773 (342 + 4 * k) iss) 774 (342 + 4 * k) iss) 775 (342 + 4 * k) wi) 776 (342 + 4 * k) sq) 777 (342 + 4 * k) 0)
def bg2 (B : Mm) (k : Nat) (iss ms cw : Int32) : Mm := (sF (sF (sF (sF (sF (sF (sF (sF (sF (sF (sF (sF (sF (sF (sF (sF (sF (sF (sF (sF B 778 (342 + 4 * k) ms) 779 (342 + 4 * k) cw) 780 (342 + 4 * k) 65535) 781 (342 + 4 * k) 1000) 784 (342 + 4 * k) 0) 785 (342 + 4 * k) 0) 786 (342 + 4 * k) 0) 789 (342 + 4 * k) 0) 791 (342 + 4 * k) 0) 792 (342 + 4 * k) 0) 794 (342 + 4 * k) 0) 796 (342 + 4 * k) 0) 797 (342 + 4 * k) (iss + 1)) 798 (342 + 4 * k) 0) 799 (342 + 4 * k) 0) 806 (342 + 4 * k) 0) 807 (342 + 4 * k) 0) 808 (342 + 4 * k) 0) 809 (342 + 4 * k) 0) 805 (342 + 4 * k) 4096)
theorem bg1_ff (B : Mm) (k : Nat) (sn fp sq iss wi : Int32) : FF (fun f => 768 ≤ f ∧ f ≤ 813) (342 + 4 * k) B (bg1 B k sn fp sq iss wi) := by
  unfold bg1
  exact (((((((((((((FF.s _ (by omega)).tr (FF.s _ (by omega))).tr (FF.s _ (by omega))).tr (FF.s _ (by omega))).tr (FF.s _ (by omega))).tr (FF.s _ (by omega))).tr (FF.s _ (by omega))).tr (FF.s _ (by omega))).tr (FF.s _ (by omega))).tr (FF.s _ (by omega))).tr (FF.s _ (by omega))).tr (FF.s _ (by omega))).tr (FF.s _ (by omega)))
theorem bg2_ff (B : Mm) (k : Nat) (iss ms cw : Int32) : FF (fun f => 768 ≤ f ∧ f ≤ 813) (342 + 4 * k) B (bg2 B k iss ms cw) := by
  unfold bg2
  exact ((((((((((((((((((((FF.s _ (by omega)).tr (FF.s _ (by omega))).tr (FF.s _ (by omega))).tr (FF.s _ (by omega))).tr (FF.s _ (by omega))).tr (FF.s _ (by omega))).tr (FF.s _ (by omega))).tr (FF.s _ (by omega))).tr (FF.s _ (by omega))).tr (FF.s _ (by omega))).tr (FF.s _ (by omega))).tr (FF.s _ (by omega))).tr (FF.s _ (by omega))).tr (FF.s _ (by omega))).tr (FF.s _ (by omega))).tr (FF.s _ (by omega))).tr (FF.s _ (by omega))).tr (FF.s _ (by omega))).tr (FF.s _ (by omega))).tr (FF.s _ (by omega)))
/-- all of it -/
def bgA (B : Mm) (k : Nat) (sn fp sq iss wi ms cw : Int32) : Mm := wA (bg2 (bg1 B k sn fp sq iss wi) k iss ms cw) (345 + 4 * k) (fun j => if j < 4096 then 0 else mA B (345 + 4 * k) j)
theorem bgA_v (B : Mm) (k : Nat) (sn fp sq iss wi ms cw : Int32) : mF (bgA B k sn fp sq iss wi ms cw) 768 (342 + 4 * k) = 1 ∧ mF (bgA B k sn fp sq iss wi ms cw) 769 (342 + 4 * k) = sn ∧ mF (bgA B k sn fp sq iss wi ms cw) 770 (342 + 4 * k) = fp ∧ mF (bgA B k sn fp sq iss wi ms cw) 771 (342 + 4 * k) = iss ∧ mF (bgA B k sn fp sq iss wi ms cw) 772 (342 + 4 * k) = iss ∧ mF (bgA B k sn fp sq iss wi ms cw) 773 (342 + 4 * k) = iss ∧ mF (bgA B k sn fp sq iss wi ms cw) 774 (342 + 4 * k) = iss ∧ mF (bgA B k sn fp sq iss wi ms cw) 775 (342 + 4 * k) = wi ∧ mF (bgA B k sn fp sq iss wi ms cw) 776 (342 + 4 * k) = sq ∧ mF (bgA B k sn fp sq iss wi ms cw) 777 (342 + 4 * k) = 0 ∧ mF (bgA B k sn fp sq iss wi ms cw) 778 (342 + 4 * k) = ms ∧ mF (bgA B k sn fp sq iss wi ms cw) 779 (342 + 4 * k) = cw ∧ mF (bgA B k sn fp sq iss wi ms cw) 780 (342 + 4 * k) = 65535 ∧ mF (bgA B k sn fp sq iss wi ms cw) 781 (342 + 4 * k) = 1000 ∧ mF (bgA B k sn fp sq iss wi ms cw) 784 (342 + 4 * k) = 0 ∧ mF (bgA B k sn fp sq iss wi ms cw) 785 (342 + 4 * k) = 0 ∧ mF (bgA B k sn fp sq iss wi ms cw) 786 (342 + 4 * k) = 0 ∧ mF (bgA B k sn fp sq iss wi ms cw) 789 (342 + 4 * k) = 0 ∧ mF (bgA B k sn fp sq iss wi ms cw) 791 (342 + 4 * k) = 0 ∧ mF (bgA B k sn fp sq iss wi ms cw) 792 (342 + 4 * k) = 0 ∧ mF (bgA B k sn fp sq iss wi ms cw) 794 (342 + 4 * k) = 0 ∧ mF (bgA B k sn fp sq iss wi ms cw) 796 (342 + 4 * k) = 0 ∧ mF (bgA B k sn fp sq iss wi ms cw) 797 (342 + 4 * k) = (iss + 1) ∧ mF (bgA B k sn fp sq iss wi ms cw) 798 (342 + 4 * k) = 0 ∧ mF (bgA B k sn fp sq iss wi ms cw) 799 (342 + 4 * k) = 0 ∧ mF (bgA B k sn fp sq iss wi ms cw) 802 (342 + 4 * k) = sq ∧ mF (bgA B k sn fp sq iss wi ms cw) 803 (342 + 4 * k) = (sq + 1) ∧ mF (bgA B k sn fp sq iss wi ms cw) 804 (342 + 4 * k) = (sq + 1) ∧ mF (bgA B k sn fp sq iss wi ms cw) 805 (342 + 4 * k) = 4096 ∧ mF (bgA B k sn fp sq iss wi ms cw) 806 (342 + 4 * k) = 0 ∧ mF (bgA B k sn fp sq iss wi ms cw) 807 (342 + 4 * k) = 0 ∧ mF (bgA B k sn fp sq iss wi ms cw) 808 (342 + 4 * k) = 0 ∧ mF (bgA B k sn fp sq iss wi ms cw) 809 (342 + 4 * k) = 0 := by
  unfold bgA bg2 bg1
  rw [mF_wA]
  refine ⟨?_, ?_, ?_, ?_, ?_, ?_, ?_, ?_, ?_, ?_, ?_, ?_, ?_, ?_, ?_, ?_, ?_, ?_, ?_, ?_, ?_, ?_, ?_, ?_, ?_, ?_, ?_, ?_, ?_, ?_, ?_, ?_, ?_⟩ <;> simp only [mF_sF, reduceIte, Nat.reduceEqDiff, Nat.reduceAdd, Nat.reduceMul, Nat.reduceLT, Nat.reduceLeDiff, and_true, true_and, and_false, false_and, and_self, ne_eq, not_true_eq_false, not_false_eq_true, Option.some.injEq, reduceCtorEq]
theorem bgA_o {k f a : Nat} {sn fp sq iss wi ms cw : Int32} (h : ¬ ((768 ≤ f ∧ f ≤ 813) ∧ a = 342 + 4 * k)) : mF (bgA B k sn fp sq iss wi ms cw) f a = mF B f a := by
  unfold bgA
  rw [mF_wA, (bg2_ff _ k iss ms cw).2.2.2.2 f a h, (bg1_ff B k sn fp sq iss wi).2.2.2.2 f a h]
/-- the reference writes them -/
theorem m_begin (fu : Nat) (hfu : 5000 ≤ fu) {k ms : Nat} {sn fp sq wi iss : Int32} (hk : k < 16) (hR : RW B) (e1 : mF B 1054 323 = sn) (e2 : mF B 1056 323 = fp) (e3 : mF B 1058 323 = sq) (e4 : mF B 1061 323 = wi) (e5 : (64000 : Int32) * mF B 1036 323 + (250 : Int32) * mF B 1034 323 = iss) (om : fX16_optionMss fu 323 (bg1 B k sn fp sq iss wi) = some (nI ms, bg1 B k sn fp sq iss wi)) (hms : ms ≤ 1460) :
    ((pF B 12 768 (some (342 + 4 * k)) (1 : Int32)).bind fun M6 =>
    (gI M6 16 1054 (some 323)).bind fun v7 =>
    (pF M6 12 769 (some (342 + 4 * k)) v7).bind fun M8 =>
    (gI M8 16 1056 (some 323)).bind fun v9 =>
    (pF M8 12 770 (some (342 + 4 * k)) v9).bind fun M10 =>
    (gI M10 16 1058 (some 323)).bind fun v11 =>
    (pF M10 12 802 (some (342 + 4 * k)) v11).bind fun M12 =>
    (gI M12 16 1058 (some 323)).bind fun v13 =>
    (pF M12 12 804 (some (342 + 4 * k)) (v13 + (1 : Int32))).bind fun M14 =>
    (gI M14 12 804 (some (342 + 4 * k))).bind fun v15 =>
    (pF M14 12 803 (some (342 + 4 * k)) v15).bind fun M16 =>
    (gI M16 16 1036 (some 323)).bind fun v17 =>
    (gI M16 16 1034 (some 323)).bind fun v18 =>
    (pF M16 12 771 (some (342 + 4 * k)) (((64000 : Int32) * v17) + ((250 : Int32) * v18))).bind fun M19 =>
    (gI M19 12 771 (some (342 + 4 * k))).bind fun v20 =>
    (pF M19 12 772 (some (342 + 4 * k)) v20).bind fun M21 =>
    (gI M21 12 771 (some (342 + 4 * k))).bind fun v22 =>
    (pF M21 12 773 (some (342 + 4 * k)) v22).bind fun M23 =>
    (gI M23 12 771 (some (342 + 4 * k))).bind fun v24 =>
    (pF M23 12 774 (some (342 + 4 * k)) v24).bind fun M25 =>
    (gI M25 16 1061 (some 323)).bind fun v26 =>
    (pF M25 12 775 (some (342 + 4 * k)) v26).bind fun M27 =>
    (gI M27 16 1058 (some 323)).bind fun v28 =>
    (pF M27 12 776 (some (342 + 4 * k)) v28).bind fun M29 =>
    (pF M29 12 777 (some (342 + 4 * k)) (0 : Int32)).bind fun M30 =>
    (rc M30 16 (some 323)).bind fun q31 =>
    b2 (fX16_optionMss fu q31  M30) fun v33 M32 =>
    (pF M32 12 778 (some (342 + 4 * k)) v33).bind fun M34 =>
    (gI M34 12 778 (some (342 + 4 * k))).bind fun v35 =>
    if (1095 : Int32) < v35 then (
    (gI M34 12 778 (some (342 + 4 * k))).bind fun v36 =>
    fX16_alone_L255 fu 323 (some (342 + 4 * k)) (some (342 + 4 * k)) ((3 : Int32) * v36) M34)
    else (
    (gI M34 12 778 (some (342 + 4 * k))).bind fun v37 =>
    fX16_alone_L255 fu 323 (some (342 + 4 * k)) (some (342 + 4 * k)) ((4 : Int32) * v37) M34)) = fX16_synAck fu 323 (some (342 + 4 * k)) (bgA B k sn fp sq iss wi (nI ms) (nI (if 1095 < ms then 3 * ms else 4 * ms))) := by
  have o := rw_ok323 hR
  have hA := rw_cnO hR k hk
  have z0 : ∀ (Y : Mm) f, okA Y 12 (342 + 4 * k) → pZ Y 12 f (some (342 + 4 * k)) (0 : Int32) = some (sF Y f (342 + 4 * k) 0) := fun Y f h => pZ_ok h (Or.inl rfl)
  -- the option's place
  have p1 : ∀ {β : Type} (K : Mm → Option β), ((pF B 12 768 (some (342 + 4 * k)) (1 : Int32)).bind fun M6 => (gI M6 16 1054 (some 323)).bind fun v7 => (pF M6 12 769 (some (342 + 4 * k)) v7).bind fun M8 => (gI M8 16 1056 (some 323)).bind fun v9 => (pF M8 12 770 (some (342 + 4 * k)) v9).bind fun M10 => (gI M10 16 1058 (some 323)).bind fun v11 => (pF M10 12 802 (some (342 + 4 * k)) v11).bind fun M12 => (gI M12 16 1058 (some 323)).bind fun v13 => (pF M12 12 804 (some (342 + 4 * k)) (v13 + (1 : Int32))).bind fun M14 => (gI M14 12 804 (some (342 + 4 * k))).bind fun v15 => (pF M14 12 803 (some (342 + 4 * k)) v15).bind fun M16 => (gI M16 16 1036 (some 323)).bind fun v17 => (gI M16 16 1034 (some 323)).bind fun v18 => (pF M16 12 771 (some (342 + 4 * k)) (((64000 : Int32) * v17) + ((250 : Int32) * v18))).bind fun M19 => (gI M19 12 771 (some (342 + 4 * k))).bind fun v20 => (pF M19 12 772 (some (342 + 4 * k)) v20).bind fun M21 => (gI M21 12 771 (some (342 + 4 * k))).bind fun v22 => (pF M21 12 773 (some (342 + 4 * k)) v22).bind fun M23 => (gI M23 12 771 (some (342 + 4 * k))).bind fun v24 => (pF M23 12 774 (some (342 + 4 * k)) v24).bind fun M25 => (gI M25 16 1061 (some 323)).bind fun v26 => (pF M25 12 775 (some (342 + 4 * k)) v26).bind fun M27 => (gI M27 16 1058 (some 323)).bind fun v28 => (pF M27 12 776 (some (342 + 4 * k)) v28).bind fun M29 => (pF M29 12 777 (some (342 + 4 * k)) (0 : Int32)).bind fun M30 => K M30) = K (bg1 B k sn fp sq iss wi) := fun K => by
    simp only [pF_ok, gI_ok, ok_sF, o, hA, ob_some, mF_sF, reduceIte, Nat.reduceEqDiff, Nat.reduceAdd, Nat.reduceMul, Nat.reduceLT, Nat.reduceLeDiff, and_true, true_and, and_false, false_and, and_self, ne_eq, not_true_eq_false, not_false_eq_true, Option.some.injEq, reduceCtorEq, e1, e2, e3, e4, e5]
    rfl
  refine (p1 _).trans ?_
  have hR1 : RW (bg1 B k sn fp sq iss wi) := (bg1_ff B k sn fp sq iss wi).rW hR
  have oc1 := rw_cnO hR1 k hk
  have hiss : mF (bg1 B k sn fp sq iss wi) 771 (342 + 4 * k) = iss := by unfold bg1; simp only [mF_sF, reduceIte, Nat.reduceEqDiff, Nat.reduceAdd, Nat.reduceMul, Nat.reduceLT, Nat.reduceLeDiff, and_true, true_and, and_false, false_and, and_self, ne_eq, not_true_eq_false, not_false_eq_true, Option.some.injEq, reduceCtorEq]
  generalize hB1 : bg1 B k sn fp sq iss wi = B1 at om hR1 oc1 hiss
  rw [rc_ok (rw_ok323 hR1), ob_some, om, b2_some, pF_ok oc1, ob_some]
  have e78 : mF (sF B1 778 (342 + 4 * k) (nI ms)) 778 (342 + 4 * k) = nI ms := by rw [mF_sF, if_pos ⟨rfl, rfl⟩]
  have o78 : okA (sF B1 778 (342 + 4 * k) (nI ms)) 12 (342 + 4 * k) := oc1
  rw [gI_ok o78, ob_some, e78]
  have tail : ∀ cw : Int32, fX16_alone_L255 fu 323 (some (342 + 4 * k)) (some (342 + 4 * k)) cw (sF B1 778 (342 + 4 * k) (nI ms)) = fX16_alone_L360 fu fu 323 (some (342 + 4 * k)) 0 (bg2 B1 k iss (nI ms) cw) := fun cw => by
    unfold fX16_alone_L255
    simp only [pF_ok, z0, gI_ok, ok_sF, oc1, ob_some, mF_sF, reduceIte, Nat.reduceEqDiff, Nat.reduceAdd, Nat.reduceMul, Nat.reduceLT, Nat.reduceLeDiff, and_true, true_and, and_false, false_and, and_self, ne_eq, not_true_eq_false, not_false_eq_true, Option.some.injEq, reduceCtorEq, hiss]
    rfl
  have fin : ∀ cw : Int32, fX16_alone_L360 fu fu 323 (some (342 + 4 * k)) 0 (bg2 B1 k iss (nI ms) cw) = fX16_synAck fu 323 (some (342 + 4 * k)) (wA (bg2 B1 k iss (nI ms) cw) (345 + 4 * k) (fun j => if j < 4096 then 0 else mA B (345 + 4 * k) j)) := fun cw => by
    have hR2 : RW (bg2 B1 k iss (nI ms) cw) := (bg2_ff B1 k iss (nI ms) cw).rW hR1
    have eA : mA (bg2 B1 k iss (nI ms) cw) (345 + 4 * k) = mA B (345 + 4 * k) := by rw [(bg2_ff B1 k iss (nI ms) cw).2.2.2.1, ← hB1, (bg1_ff B k sn fp sq iss wi).2.2.2.1]
    generalize bg2 B1 k iss (nI ms) cw = B2 at hR2 eA
    have H := lp (fun m i => fX16_alone_L360 fu m 323 (some (342 + 4 * k)) (nI i) (wA B2 (345 + 4 * k) (fun j => if j < i then 0 else mA B2 (345 + 4 * k) j))) (i := 0) (k := 4096) (by decide) (fun m i _ hi => by
      have hR' : RW (wA B2 (345 + 4 * k) (fun j => if j < i then 0 else mA B2 (345 + 4 * k) j)) := hR2
      show fX16_alone_L360 fu (m + 1) _ _ _ _ = fX16_alone_L360 fu m _ _ _ _
      rw [fX16_alone_L360, if_neg (show ¬ (4096 : Int32) ≤ nI i from nI_ge (b := 4096) hi (by decide)), gR_ok (rw_cnO hR' k hk), ob_some, rw_cnTg hR' k hk, pA_ok (rw_cnT hR' k hk) (by rw [rw_cnTl hR' k hk]; omega) (by omega), ob_some, nI_1, wA_wA, mA_wA_self]
      congr 2
      funext j
      by_cases e : j = i
      · rw [if_pos e, if_pos (by omega)]; decide
      · rw [if_neg e]
        by_cases e2 : j < i
        · rw [if_pos e2, if_pos (by omega)]
        · rw [if_neg e2, if_neg (by omega)])
    have h2 := H (fu - 4096)
    simp only [Nat.sub_zero, Nat.not_lt_zero, if_false] at h2
    rw [show fu - 4096 + 4096 = fu by omega] at h2
    rw [show (fun j => mA B2 (345 + 4 * k) j) = mA B2 (345 + 4 * k) from rfl, wA_mA] at h2
    refine Eq.trans h2 ?_
    have hR' : RW (wA B2 (345 + 4 * k) (fun j => if j < 4096 then 0 else mA B2 (345 + 4 * k) j)) := hR2
    rw [show fu - 4096 = fu - 4097 + 1 by omega, fX16_alone_L360, if_pos (by decide), rc_ok (rw_ok323 hR'), ob_some, eA]
    cases fX16_synAck fu 323 (some (342 + 4 * k)) (wA B2 (345 + 4 * k) (fun j => if j < 4096 then 0 else mA B (345 + 4 * k) j)) <;> rfl
  have e3' : (3 : Int32) * nI ms = nI (3 * ms) := pk_mul 3 ms
  have e4' : (4 : Int32) * nI ms = nI (4 * ms) := pk_mul 4 ms
  unfold bgA
  rw [hB1]
  by_cases q : 1095 < ms
  · rw [if_pos (show (1095 : Int32) < nI ms from nI_lt (a := 1095) q (by omega)), ob_some, e3', if_pos q, tail, fin]
  · rw [if_neg (show ¬ (1095 : Int32) < nI ms from nI_nlt (a := 1095) (by omega) (by decide)), ob_some, e4', if_neg q, tail, fin]

end Begin
