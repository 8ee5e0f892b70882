/-! ===== part 98v: the head of an answer, in the reference, to its end ===== -/
abbrev stN (st : Nat) : Prop := st = 200 ∨ st = 304 ∨ st = 400 ∨ st = 404 ∨ st = 405 ∨ st = 413 ∨ st = 431 ∨ st = 500 ∨ st = 501
def phN (st : Nat) : Nat := if st = 200 then 14 else if st = 304 then 15 else if st = 400 then 16 else if st = 404 then 17 else if st = 405 then 18 else if st = 413 then 19 else if st = 431 then 20 else if st = 500 then 21 else 22
theorem ph_ok (fu : Nat) {st : Nat} (h : stN st) (A : Mm) : fX16_phrase fu (nI st) A = some (some (phN st), A) := by
  rcases h with e | e | e | e | e | e | e | e | e <;> subst e <;> rfl
theorem ph_lt {st : Nat} : phN st < 50 ∧ txL (phN st) ≤ 31 := by
  have : ∀ t, t < 23 → 14 ≤ t → txL t ≤ 31 := by decide +kernel
  have h : 14 ≤ phN st ∧ phN st ≤ 22 := by
    unfold phN
    repeat' split
    all_goals omega
  exact ⟨by omega, this _ (by omega) h.1⟩
section Make2
variable {k : Nat} {A0 : Mm} {st clo : Nat} {ix : Int32}
theorem k_num (hR0 : RW A0) (fu : Nat) {x : Nat} {d : List Nat} (hd : stA k (fun A => fX16_sayNumber fu 323 (some (342 + 4 * k)) (nI x) A) d) (K : Mm → Option Mm) : stK k A0 (fun A => (rc A 16 (some 323)).bind fun q => (fX16_sayNumber fu q (some (342 + 4 * k)) (nI x) A).bind K) K d := stK_w hR0 (f := fun q A => fX16_sayNumber fu q (some (342 + 4 * k)) (nI x) A) K hd
theorem k_94 (hk : k < 16) (hR0 : RW A0) (fu : Nat) (hfu : 5000 ≤ fu) (hst : mF A0 1067 323 = nI st) (hst1 : st < 1000) {ln ty : Nat} {dl : List Nat} (hd : stA k (fun A => fX16_sayNumber fu 323 (some (342 + 4 * k)) (nI ln) A) dl) (hty : ∀ A, HA k A0 A → fX16_type fu 323 ix A = some (some ty, A)) (hty1 : ty < 50) : stK k A0 (fun A => fX16_make_L94 fu 323 (some (342 + 4 * k)) ix (nI clo) (nI ln) A) (fun A => fX16_make_L149 fu 323 (some (342 + 4 * k)) ix (nI clo) (nI ln) A) (if st = 304 then [] else tl 45 ++ (dl ++ ([13, 10] ++ (tl 46 ++ (tl ty ++ [13, 10]))))) := by
  by_cases q : st = 304
  · rw [if_pos q]
    refine stK.id (fun A hA => ?_)
    unfold fX16_make_L94
    rw [m_1067 hR0 hst hA, ob_some, if_pos (show nI st = (304 : Int32) by rw [q]; rfl)]
  · rw [if_neg q]
    have step : stK k A0 (fun A => (rc A 16 (some 323)).bind fun q10 => b2 (fX16_type fu q10 ix A) fun v12 M11 => (rc M11 16 (some 323)).bind fun q13 => (fX16_say fu q13 (some (342 + 4 * k)) v12 M11).bind fun M14 => (rc M14 16 (some 323)).bind fun q15 => (fX16_line fu q15 (some (342 + 4 * k)) M14).bind fun M16 => fX16_make_L149 fu 323 (some (342 + 4 * k)) ix (nI clo) (nI ln) M16) (fun A => fX16_make_L149 fu 323 (some (342 + 4 * k)) ix (nI clo) (nI ln) A) (tl ty ++ [13, 10]) := by
      refine stK.of ((k_say hk hR0 fu hfu hty1 _).tr (k_line hk hR0 fu hfu _)) (fun A hA => ?_)
      rw [rc_ok (rw_ok323 (hA.rW hR0)), ob_some, hty A hA, b2_some, rc_ok (rw_ok323 (hA.rW hR0))]
    refine stK.of ((k_say hk hR0 fu hfu (t := 45) (by decide) _).tr ((k_num hR0 fu hd _).tr ((k_line hk hR0 fu hfu _).tr ((k_say hk hR0 fu hfu (t := 46) (by decide) _).tr step)))) (fun A hA => ?_)
    unfold fX16_make_L94
    rw [m_1067 hR0 hst hA, ob_some, if_neg (show ¬ nI st = (304 : Int32) from fun z => q ((nI_eq (b := 304) (by omega) (by decide)).mp z))]
/-- the first line -/
def mkT (fu k : Nat) (ix clo : Int32) (M21 : Mm) : Option Mm :=
    if ix < 0 then (
    (gI M21 16 1067 (some 323)).bind fun v22 =>
    b2 (fX16_phrase fu v22 M21) fun v24 M23 =>
    (rcS v24).bind fun q25 =>
    b2 (fJ0_length_8abf5 fu q25 M23) fun v27 M26 =>
    fX16_make_L94 fu 323 (some (342 + 4 * k)) ix clo ((5 : Int32) + v27) M26)
    else (
    (gR M21 16 1039 (some 323)).bind fun v28 =>
    (gA M21 101 v28 ix).bind fun v29 =>
    fX16_make_L94 fu 323 (some (342 + 4 * k)) ix clo v29 M21)
def mk5 (fu k : Nat) (ix clo : Int32) (M19 : Mm) : Option Mm := (rc M19 16 (some 323)).bind fun q20 => (fX16_line fu q20 (some (342 + 4 * k)) M19).bind (mkT fu k ix clo)
def mk4 (fu k : Nat) (ix clo : Int32) (v17 : Option Nat) (M16 : Mm) : Option Mm := (rc M16 16 (some 323)).bind fun q18 => (fX16_say fu q18 (some (342 + 4 * k)) v17 M16).bind (mk5 fu k ix clo)
def mk3 (fu k : Nat) (ix clo : Int32) (M14 : Mm) : Option Mm := (gI M14 16 1067 (some 323)).bind fun v15 => b2 (fX16_phrase fu v15 M14) fun v17 M16 => mk4 fu k ix clo v17 M16
def mk2 (fu k : Nat) (ix clo : Int32) (M12 : Mm) : Option Mm := (rc M12 16 (some 323)).bind fun q13 => (fX16_code fu q13 (some (342 + 4 * k)) (32 : Int32) M12).bind (mk3 fu k ix clo)
def mk1 (fu k : Nat) (ix clo : Int32) (M9 : Mm) : Option Mm := (gI M9 16 1067 (some 323)).bind fun v10 => (rc M9 16 (some 323)).bind fun q11 => (fX16_sayNumber fu q11 (some (342 + 4 * k)) v10 M9).bind (mk2 fu k ix clo)
def mkH (fu k : Nat) (ix clo : Int32) (M7 : Mm) : Option Mm := (rc M7 16 (some 323)).bind fun q8 => (fX16_say fu q8 (some (342 + 4 * k)) (some 23) M7).bind (mk1 fu k ix clo)
theorem k_head (hk : k < 16) (hR0 : RW A0) (fu : Nat) (hfu : 5000 ≤ fu) (hst : mF A0 1067 323 = nI st) (hst1 : stN st) {r ln : Nat} (hix : (ix = -1 ∧ ln = 5 + txL (phN st)) ∨ (ix = nI r ∧ r < 64 ∧ mA A0 328 r = nI ln)) {ds : List Nat} (hd : stA k (fun A => fX16_sayNumber fu 323 (some (342 + 4 * k)) (nI st) A) ds) : stK k A0 (mkH fu k ix (nI clo)) (fun A => fX16_make_L94 fu 323 (some (342 + 4 * k)) ix (nI clo) (nI ln) A) (tl 23 ++ (ds ++ ([32] ++ (tl (phN st) ++ ([13, 10] ++ []))))) := by
  obtain ⟨p1, p2⟩ := ph_lt (st := st)
  have sT : stK k A0 (mkT fu k ix (nI clo)) (fun A => fX16_make_L94 fu 323 (some (342 + 4 * k)) ix (nI clo) (nI ln) A) [] := stK.id (fun A hA => by
    unfold mkT
    rcases hix with ⟨e1, e2⟩ | ⟨e1, e2, e3⟩
    · rw [if_pos (by rw [e1]; decide), m_1067 hR0 hst hA, ob_some, ph_ok fu hst1, b2_some, x_rcS p1, ob_some, x_len fu p1, b2_some, show (5 : Int32) + nI (txL (phN st)) = nI ln by rw [e2]; exact nI_add 5 _]
    · have hR := hA.rW hR0
      have e4 : mA A 328 r = nI ln := (congrFun (hA.2.2.2.2 328 (by omega)) r).trans e3
      rw [e1, if_neg (nI_pos (by omega)), gR_ok (rw_ok323 hR), ob_some, rw_g1039_323 hR, gA_ok (rw_ok328 hR) (by rw [rw_ln328 hR]; omega) (by omega), ob_some, e4])
  have s5 : stK k A0 (mk5 fu k ix (nI clo)) _ [13, 10] := k_line hk hR0 fu hfu (mkT fu k ix (nI clo))
  have s4 : stK k A0 (mk4 fu k ix (nI clo) (some (phN st))) _ _ := k_say hk hR0 fu hfu p1 (mk5 fu k ix (nI clo))
  have s3 : stK k A0 (mk3 fu k ix (nI clo)) (mk5 fu k ix (nI clo)) (tl (phN st)) := stK.of s4 (fun A hA => by
    unfold mk3
    rw [m_1067 hR0 hst hA, ob_some, ph_ok fu hst1, b2_some])
  have s2 : stK k A0 (mk2 fu k ix (nI clo)) _ [32] := k_code hk hR0 fu hfu (v := 32) (by decide) (mk3 fu k ix (nI clo))
  have s1 : stK k A0 (mk1 fu k ix (nI clo)) (mk2 fu k ix (nI clo)) ds := stK.of (k_num hR0 fu hd (mk2 fu k ix (nI clo))) (fun A hA => by
    unfold mk1
    rw [m_1067 hR0 hst hA, ob_some])
  have s0 : stK k A0 (mkH fu k ix (nI clo)) _ (tl 23) := k_say hk hR0 fu hfu (t := 23) (by decide) (mk1 fu k ix (nI clo))
  exact s0.tr (s1.tr (s2.tr (s3.tr (s5.tr sT))))
theorem mk_eq (fu : Nat) (c : Nat) (a1 : c = 342 + 4 * k) (clo : Int32) (A : Mm) : fX16_make fu 323 (some c) ix clo A = (gR A 16 1041 (some 323)).bind fun v1 => (gA A 101 v1 (4 : Int32)).bind fun v2 => (pA A 101 v1 (4 : Int32) (v2 + (1 : Int32))).bind fun M3 => (gI M3 12 773 (some c)).bind fun v4 => (pF M3 12 797 (some c) v4).bind fun M5 => (pF M5 12 794 (some c) (0 : Int32)).bind fun M6 => (pZ M6 12 798 (some c) clo).bind fun M7 => mkH fu k ix clo M7 := by
  subst a1
  rfl
end Make2
