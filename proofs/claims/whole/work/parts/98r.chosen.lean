/-! ===== part 98r: what is answered, in both ===== -/
theorem FI_q {F ek im : Nat} {A M A' M' : Mm} (hf : FI F ek im A M) (fA : FQA A A') (fM : FQM M M') : FI F ek im A' M' := by
  obtain ⟨s1, s2, s3, s4, s5, s6, s7⟩ := hf.sp
  have e : mA M' ek = mA M ek := fM.2.2.2.2 ek s6 s7
  have a : ∀ x, x ≠ 340 → x ≠ 341 → mA A' x = mA A x := fA.2.2.2.2
  refine FI.mk hf.le ?_ ?_ ?_ ?_ ?_ ?_ ?_ ?_ ?_ ?_ ?_
  · rw [fA.2.2.2.1 _ _ (by omega)]; exact hf.ca
  · rw [fM.2.2.2.1 _ _ (by omega)]; exact hf.cm
  · rw [fM.2.1]; exact hf.ge
  · unfold okA; rw [fM.1]; exact hf.oe
  · rw [fM.1]; exact hf.l1
  · rw [fM.1]; exact hf.l2
  · rw [e, a 326 (by decide) (by decide)]; exact hf.nm
  · rw [e, a 327 (by decide) (by decide), a 328 (by decide) (by decide), a 329 (by decide) (by decide)]; exact hf.nu
  · rw [a 327 (by decide) (by decide), a 328 (by decide) (by decide)]; exact hf.pl
  · rw [e]; exact hf.na
  · rw [fM.1]; exact hf.sp
theorem JI_q {im ig : Nat} {A M A' M' : Mm} (hj : JI im ig A M) (fA : FQA A A') (fM : FQM M M') : JI im ig A' M' := by
  obtain ⟨j1, j2, j3, j4, j5, j6, j7, j8, j9, j10, j11, j12⟩ := hj
  refine ⟨?_, ?_, ?_, j4, ?_, j6, ?_, ?_, ?_, ?_, j11, j12⟩
  · rw [fM.2.1]; exact j1
  · unfold okA; rw [fM.1]; exact j2
  · rw [fM.1]; exact j3
  · rw [fA.2.2.2.2 325 (by decide) (by decide), fM.2.2.2.2 ig j11 j12]; exact j5
  · rw [fM.1]; exact j7
  · rw [fM.1]; exact j8
  · rw [fM.1]; exact j9
  · rw [fM.1]; exact j10
/-- the answer's status and file, in both -/
def CH (F ek : Nat) (A M A' M' : Mm) (st r : Nat) : Prop := FQA A A' ∧ FQM M M' ∧ (∀ f, f ≠ 1067 → f ≠ 1083 → mF A' f 323 = mF A f 323) ∧ (∀ f, f ≠ 452 → f ≠ 466 → mF M' f 319 = mF M f 319) ∧ By A' ∧ By M' ∧ mF A' 1067 323 = nI st ∧ (st = 200 ∨ st = 304 ∨ st = 400 ∨ st = 404 ∨ st = 405 ∨ st = 413 ∨ st = 500 ∨ st = 501) ∧ (st = 200 ∨ st = 304 → r < F ∧ mF M' 466 319 = nI r ∧ ∃ L P, 1 ≤ L ∧ L ≤ 47 ∧ PT A' M' L L P ∧ mtch M' ek L P r)
section Chosen
variable {H : Nat → Nat} {n F ek im ig : Nat}
theorem m_122 (fu : Nat) {A : Mm} (hR : RW A) {st : Nat} (h : st = 400 ∨ st = 405 ∨ st = 413 ∨ st = 501) : fX16_chosen_L122 fu 323 (sF A 1067 323 (nI st)) = some (-1, sF A 1067 323 (nI st)) := by
  have o := rw_ok323 hR
  unfold fX16_chosen_L122
  rw [gI_ok (by exact o), ob_some, show mF (sF A 1067 323 (nI st)) 1067 323 = nI st from by rw [mF_sF, if_pos ⟨rfl, rfl⟩], if_neg (fun e => by have := (nI_eq (b := 0) (by omega) (by decide)).mp e; omega)]
theorem CH_early {A M : Mm} {st : Nat} (hB : By A) (hBM : By M) (h : st = 400 ∨ st = 405 ∨ st = 413 ∨ st = 501) : CH F ek A M (sF A 1067 323 (nI st)) M st 0 :=
  ⟨FQA.s _ (by decide), FQM.rf, fun f f1 f2 => by rw [mF_sF, if_neg (fun e => f1 e.1)], fun _ _ _ => rfl, By_sF hB, hBM, by rw [mF_sF, if_pos ⟨rfl, rfl⟩], by omega, fun e => by omega⟩
theorem sp_chosen (fu : Nat) (hfu : 70000 ≤ fu) {A M : Mm} {a b to : Nat} (hR : RW A) (hB : By A) (hW : XW M) (hBM : By M) (h : HD H n A M) (hr : RLok H to a b) (hto : to < n) (e1 : (mF A 1080 323) = nI (a + 1)) (e2 : (mF A 1081 323) = nI b) (e3 : (mF M 455 319) = nI (a + 1)) (e4 : (mF M 456 319) = nI b) (hp : PR A M n) (s0 : mF A 1067 323 = 0) (o1 : mF A 1069 323 = nI (oldN H to)) (o2 : mF M 454 319 = nI (oldN H to)) (m1 : mF A 1084 323 = if meN H a = 2 then 1 else 0) (m2 : mF M 453 319 = nI (meN H a)) (hj : JI im ig A M) (hf : FI F ek im A M) :
    ∃ A' M' st r, CH F ek A M A' M' st r ∧ fX16_chosen fu 323 A = some (if st = 200 ∨ st = 304 then nI r else -1, A') ∧ fX7_verdict fu 319 M = some (nI st, M') := by
  have hn := h.1
  have o := rw_ok323 hR
  have o7 := xw_ok319 hW
  obtain ⟨xh, xh1, xh2, xh3⟩ := hp.ho
  obtain ⟨xe, xe1, xe2, xe3⟩ := hp.en
  obtain ⟨xl, xl1, xl2, xl3, xl4, xl5⟩ := hp.le
  obtain ⟨xm, xm1, xm2, xm3, xm4⟩ := hp.ma
  have me3 : meN H a ≤ 2 := by unfold meN; split <;> (try split) <;> omega
  have old01 : oldN H to = 0 ∨ oldN H to = 1 := by unfold oldN; split <;> omega
  -- an early end
  have early : ∀ st, (st = 400 ∨ st = 405 ∨ st = 413 ∨ st = 501) → fX16_chosen fu 323 A = fX16_chosen_L122 fu 323 (sF A 1067 323 (nI st)) → fX7_verdict fu 319 M = some (nI st, M) → ∃ A' M' st r, CH F ek A M A' M' st r ∧ fX16_chosen fu 323 A = some (if st = 200 ∨ st = 304 then nI r else -1, A') ∧ fX7_verdict fu 319 M = some (nI st, M') := fun st hst g1 g2 =>
    ⟨_, _, st, 0, CH_early hB hBM hst, by rw [g1, m_122 fu hR hst, if_neg (by omega)], g2⟩
  -- the Host fields
  by_cases q1 : 1 < xh ∨ (oldN H to = 0 ∧ xh = 0)
  · refine early 400 (Or.inl rfl) ?_ ?_
    · unfold fX16_chosen fX16_chosen_L22
      rw [gI_ok o, ob_some, xh2, pF_ok o, ob_some]
      by_cases z : 1 < xh
      · rw [if_pos (show (1 : Int32) < nI xh from nI_lt (a := 1) z (by omega))]
        rfl
      · obtain ⟨z1, z2⟩ := q1.elim (fun e => absurd e z) id
        rw [if_neg (show ¬ (1 : Int32) < nI xh from nI_nlt (a := 1) (by omega) (by omega)), gI_ok o, ob_some, o1, z1, if_pos (by decide), ob_some, z2, if_pos (by decide)]
        rfl
    · unfold fX7_verdict
      rw [gI_ok o7, ob_some, o2]
      rcases old01 with z | z
      · rw [z, if_pos (by decide), gI_ok o7, ob_some, xh3, if_neg (show ¬ nI xh = (1 : Int32) from fun e => by have := (nI_eq (b := 1) (by omega) (by decide)).mp e; omega)]
        rfl
      · rw [z, if_neg (by decide), gI_ok o7, ob_some, xh3, if_neg (show ¬ nI xh ≤ (1 : Int32) from nI_ge (a := 1) (by omega) (by omega))]
        rfl
  have gA : fX16_chosen fu 323 A = fX16_chosen_L32 fu 323 A := by
    unfold fX16_chosen
    rw [gI_ok o, ob_some, xh2, if_neg (show ¬ (1 : Int32) < nI xh from nI_nlt (a := 1) (by omega) (by omega)), gI_ok o, ob_some, o1, ob_some]
    rcases old01 with z | z
    · rw [z, if_pos (by decide), if_neg (show ¬ nI xh = (0 : Int32) from fun e => by have := (nI_eq (b := 0) (by omega) (by decide)).mp e; omega)]
    · rw [z, if_neg (by decide)]
  have gX : fX7_verdict fu 319 M = fX7_verdict_L30 fu 319 M := by
    unfold fX7_verdict
    rw [gI_ok o7, ob_some, o2, gI_ok o7, ob_some, xh3, ob_some]
    rcases old01 with z | z
    · rw [z, if_pos (by decide), if_pos (show nI xh = (1 : Int32) by rw [show xh = 1 by omega]; rfl)]
    · rw [z, if_neg (by decide), if_pos (show nI xh ≤ (1 : Int32) from nI_le (b := 1) (by omega) (by decide))]
  by_cases q2 : xe = 0
  rotate_left
  · refine early 501 (by omega) ?_ ?_
    · rw [gA]
      unfold fX16_chosen_L32
      rw [gI_ok o, ob_some, xe3, if_neg q2, if_neg (by decide), pF_ok o, ob_some]
      rfl
    · rw [gX]
      unfold fX7_verdict_L30
      rw [gI_ok o7, ob_some, xe2, if_neg (show ¬ nI xe ≤ 0 from nI_ge (a := 0) (b := xe) (by omega) (by omega))]
      rfl
  by_cases q3 : 1 < xl
  · refine early 400 (by omega) ?_ ?_
    · rw [gA]
      unfold fX16_chosen_L32 fX16_chosen_L64
      rw [gI_ok o, ob_some, xe3, if_pos q2, if_pos rfl, gI_ok o, ob_some, xl2, if_pos (show (1 : Int32) < nI xl from nI_lt (a := 1) q3 (by omega)), pF_ok o, ob_some]
      rfl
    · rw [gX]
      unfold fX7_verdict_L30
      rw [gI_ok o7, ob_some, xe2, q2, if_pos (by decide), gI_ok o7, ob_some, xl3, if_pos (show (1 : Int32) < nI xl from nI_lt (a := 1) q3 (by omega))]
      rfl
  -- the length
  obtain ⟨B1, B2⟩ : ((mF A 1076 323 ≠ 0 ∧ mF M 460 319 = -1) ∨ (mF A 1076 323 = 0 ∧ mF A 1077 323 ≠ 0 ∧ ∃ V, 65536 < V ∧ V < 1000000000 ∧ mF M 460 319 = nI V) ∨ (mF A 1076 323 = 0 ∧ mF A 1077 323 = 0 ∧ ∃ V, V ≤ 65536 ∧ mF M 460 319 = nI V)) ∧ True := by
    refine ⟨?_, trivial⟩
    by_cases z : xl = 0
    · obtain ⟨w1, w2, w3, w4⟩ := xl4 z
      exact Or.inr (Or.inr ⟨w1, w2, 0, by omega, w4⟩)
    · rcases xl5 (by omega) with w | ⟨w1, V, w2, w3, w4⟩
      · exact Or.inl w
      · rcases w4 with ⟨u1, u2⟩ | ⟨u1, u2, u3⟩
        · exact Or.inr (Or.inl ⟨w1, u2, V, u1, w2, w3⟩)
        · exact Or.inr (Or.inr ⟨w1, u2, V, u1, w3⟩)
  have hA1 : fX16_chosen fu 323 A = (gI A 16 1076 (some 323)).bind fun v3 => if v3 = 0 then ((gI A 16 1077 (some 323)).bind fun v4 => if v4 = 0 then ((gI A 16 1084 (some 323)).bind fun v5 => if v5 = 0 then ((rc A 16 (some 323)).bind fun q6 => b2 (fX16_unfolded fu q6 A) fun v8 M7 => if v8 = 0 then ((pF M7 16 1067 (some 323) (400 : Int32)).bind fun M9 => fX16_chosen_L122 fu 323 M9) else fX16_chosen_L122 fu 323 M7) else ((pF A 16 1067 (some 323) (405 : Int32)).bind fun M10 => fX16_chosen_L122 fu 323 M10)) else ((pF A 16 1067 (some 323) (413 : Int32)).bind fun M11 => fX16_chosen_L122 fu 323 M11)) else fX16_chosen_L64 fu 323 A := by
    rw [gA]
    unfold fX16_chosen_L32
    rw [gI_ok (f := 1078) o, ob_some, xe3, if_pos q2, if_pos rfl, gI_ok (f := 1073) o, ob_some, xl2, if_neg (show ¬ (1 : Int32) < nI xl from nI_nlt (a := 1) (by omega) (by omega))]
  have hX1 : fX7_verdict fu 319 M = if 0 ≤ mF M 460 319 then (if mF M 460 319 ≤ (65536 : Int32) then (if meN H a = 2 then some ((405 : Int32), M) else b2 (fX7_readPath fu 319 M) fun v8 M7 => if v8 = 0 then some ((400 : Int32), M7) else ((gI M7 7 452 (some 319)).bind fun v9 => if v9 ≤ (47 : Int32) then ((gR M7 7 448 (some 319)).bind fun v10 => (gR M7 7 451 (some 319)).bind fun v11 => (gI M7 7 452 (some 319)).bind fun v12 => (rc M7 8 v10).bind fun q13 => b2 (fX8_find fu q13 v11 v12 M7) fun v15 M14 => fX7_verdict_L125 fu 319 (some 319) v15 M14) else fX7_verdict_L125 fu 319 (some 319) (-1 : Int32) M7)) else some ((413 : Int32), M)) else some ((400 : Int32), M) := by
    rw [gX]
    unfold fX7_verdict_L30
    rw [gI_ok (f := 458) o7, ob_some, xe2, q2, if_pos (by decide), gI_ok (f := 459) o7, ob_some, xl3, if_neg (show ¬ (1 : Int32) < nI xl from nI_nlt (a := 1) (by omega) (by omega)), gI_ok (f := 460) o7, ob_some, ob_some, gI_ok (f := 453) o7, ob_some, m2, rc_ok o7, ob_some]
    by_cases z : meN H a = 2
    · rw [if_pos (show nI (meN H a) = (2 : Int32) by rw [z]; rfl), if_pos z]
    · rw [if_neg (show ¬ nI (meN H a) = (2 : Int32) from fun e => z ((nI_eq (b := 2) (by omega) (by decide)).mp e)), if_neg z]
  rcases B1 with ⟨w1, w2⟩ | ⟨w1, w2, V, w3, w4, w5⟩ | ⟨w1, w2, V, w3, w4⟩
  · refine early 400 (by omega) ?_ ?_
    · rw [hA1, gI_ok o, ob_some, if_neg w1]
      unfold fX16_chosen_L64
      rw [pF_ok o, ob_some]
      rfl
    · rw [hX1, w2, if_neg (by decide)]
      rfl
  · refine early 413 (by omega) ?_ ?_
    · rw [hA1, gI_ok (f := 1076) o, ob_some, if_pos w1, gI_ok (f := 1077) o, ob_some, if_neg w2, pF_ok o, ob_some]
      rfl
    · rw [hX1, w5, if_pos (show (0 : Int32) ≤ nI V from nI_le (a := 0) (by omega) (by omega)), if_neg (show ¬ nI V ≤ (65536 : Int32) from nI_ge (a := 65536) w3 (by omega))]
      rfl
  rw [gI_ok (f := 1076) o, ob_some, if_pos w1, gI_ok (f := 1077) o, ob_some, if_pos w2, gI_ok (f := 1084) o, ob_some, m1] at hA1
  rw [w4, if_pos (show (0 : Int32) ≤ nI V from nI_le (a := 0) (by omega) (by omega)), if_pos (show nI V ≤ (65536 : Int32) from nI_le (b := 65536) w3 (by decide))] at hX1
  by_cases q4 : meN H a = 2
  · refine early 405 (by omega) ?_ ?_
    · rw [hA1, if_pos q4, if_neg (by decide), pF_ok o, ob_some]
      rfl
    · rw [hX1, if_pos q4]
      rfl
  rw [if_neg q4, if_pos rfl, rc_ok o, ob_some] at hA1
  rw [if_neg q4] at hX1
  -- the path
  obtain ⟨A1, M1, g1, g2, g3, g4, g5⟩ := sp_path fu (by omega) hR hB hW hBM h hr hto e1 e2 e3 e4
  have hR1 := g1.fq.rW hR
  have hW1 := g2.fq.xW hW
  have p1 := rw_ok323 hR1
  have p7 := xw_ok319 hW1
  rcases g5 with ⟨u1, u2⟩ | ⟨u1, u2, L, P, hL1, hL2, hpt⟩
  · rw [u1, b2_some, if_pos rfl, pF_ok p1, ob_some] at hA1
    rw [u2, b2_some, if_pos rfl] at hX1
    refine ⟨sF A1 1067 323 (nI 400), M1, 400, 0, ⟨g1.fq.tr (FQA.s _ (by decide)), g2.fq, fun f f1 f2 => ?_, fun f f1 f2 => g2.2.2.2.1 f _ (fun e => f1 e.1), By_sF g3, g4, ?_, by omega, fun e => by omega⟩, by rw [hA1, if_neg (by omega)]; exact m_122 fu hR1 (st := 400) (Or.inl rfl), hX1⟩
    · rw [mF_sF, if_neg (fun e => f1 e.1)]
      exact g1.2.2.2.1 f _ (fun e => f2 e.1)
    · rw [mF_sF, if_pos ⟨rfl, rfl⟩]
  rw [u1, b2_some, if_neg (by decide)] at hA1
  have hf1 := FI_q hf g1.fq g2.fq
  have hj1 := JI_q hj g1.fq g2.fq
  obtain ⟨r, r1, r2, r3, r4⟩ := sp_named fu (by omega) hR1 hW1 g4 hf1 hpt hL2
  have hFle := hf.le
  have hX2 : fX7_verdict fu 319 M = fX7_verdict_L125 fu 319 (some 319) (if r < F then nI r else -1) M1 := by
    rw [hX1, u2, b2_some, if_neg (by decide), gI_ok p7, ob_some, hpt.2.1]
    by_cases z : L ≤ 47
    · rw [if_pos z] at r3
      rw [if_pos (show nI (min L 48) ≤ (47 : Int32) from nI_le (b := 47) (by omega) (by decide)), gR_ok p7, ob_some, xw_g448_319 hW1, gR_ok p7, ob_some, xw_g451_319 hW1, ob_some, rc_ok (xw_ok301 hW1), ob_some, show min L 48 = L by omega, r3, b2_some]
    · rw [if_neg z] at r3
      have : (-1 : Int32) = (if r < F then nI r else -1) := (Prod.mk.inj (Option.some.inj r3)).1
      rw [if_neg (show ¬ nI (min L 48) ≤ (47 : Int32) from nI_ge (a := 47) (by omega) (by omega)), ← this]
  have s1 : mF A1 1067 323 = 0 := (g1.2.2.2.1 _ _ (by omega)).trans s0
  unfold fX16_chosen_L122 at hA1
  rw [gI_ok p1, ob_some, s1, if_pos rfl, rc_ok p1, ob_some, r2, b2_some] at hA1
  unfold fX7_verdict_L125 at hX2
  rw [pF_ok p7, ob_some] at hX2
  -- what is other in the end
  have fin : ∀ st, (st = 200 ∨ st = 304 ∨ st = 404 ∨ st = 500) → (st = 200 ∨ st = 304 → r < F) → CH F ek A M (sF A1 1067 323 (nI st)) (sF M1 466 319 (if r < F then nI r else -1)) st r := fun st h1 h2 => by
    refine ⟨g1.fq.tr (FQA.s _ (by decide)), g2.fq.tr (FQM.s _ (by decide) (by decide)), fun f f1 f2 => ?_, fun f f1 f2 => ?_, By_sF g3, By_sF g4, by rw [mF_sF, if_pos ⟨rfl, rfl⟩], by omega, fun e => ?_⟩
    · rw [mF_sF, if_neg (fun e => f1 e.1)]
      exact g1.2.2.2.1 f _ (fun e => f2 e.1)
    · rw [mF_sF, if_neg (fun e => f2 e.1)]
      exact g2.2.2.2.1 f _ (fun e => f1 e.1)
    · have hrF := h2 e
      obtain ⟨z1, z2⟩ := r4 hrF
      refine ⟨hrF, by rw [mF_sF, if_pos ⟨rfl, rfl⟩, if_pos hrF], L, P, hL1, z1, ⟨?_, ?_, hpt.2.2.1, hpt.2.2.2⟩, z2⟩
      · rw [mF_sF, if_neg (by omega)]; exact hpt.1
      · rw [mF_sF, if_neg (by omega)]; exact hpt.2.1
  have L221 : ∀ st ix, st = 404 ∨ st = 500 → fX16_chosen_L221 fu 323 ix (sF A1 1067 323 (nI st)) = some (-1, sF A1 1067 323 (nI st)) := fun st ix hst => by
    have e : mF (sF A1 1067 323 (nI st)) 1067 323 = nI st := by rw [mF_sF, if_pos ⟨rfl, rfl⟩]
    unfold fX16_chosen_L221
    rw [gI_ok (by exact p1), ob_some, ob_some, e]
    rcases hst with z | z
    · rw [z, if_neg (by decide), if_neg (by decide)]
    · rw [z, if_neg (by decide), if_neg (by decide)]
  have L218 : ∀ st ix, st = 200 ∨ st = 304 → fX16_chosen_L218 fu 323 ix (some 323) (nI st) A1 = some (ix, sF A1 1067 323 (nI st)) := fun st ix hst => by
    have e : mF (sF A1 1067 323 (nI st)) 1067 323 = nI st := by rw [mF_sF, if_pos ⟨rfl, rfl⟩]
    unfold fX16_chosen_L218 fX16_chosen_L221
    rw [pF_ok p1, ob_some, gI_ok (by exact p1), ob_some, ob_some, e]
    rcases hst with z | z
    · rw [z, if_pos (by decide)]
    · rw [z, if_neg (by decide), if_pos (by decide)]
  have e466 : mF (sF M1 466 319 (if r < F then nI r else -1)) 466 319 = (if r < F then nI r else -1) := by rw [mF_sF, if_pos ⟨rfl, rfl⟩]
  rw [gI_ok (by exact p7), ob_some, e466] at hX2
  by_cases q5 : r < F
  rotate_left
  · rw [if_neg q5, if_neg (by decide), pF_ok p1, ob_some] at hA1
    rw [if_neg q5, if_neg (by decide)] at hX2
    have := fin 404 (by omega) (fun e => by omega)
    rw [if_neg q5] at this
    exact ⟨_, _, 404, r, this, by rw [hA1, if_neg (by omega)]; exact L221 404 _ (Or.inl rfl), hX2⟩
  rw [if_pos q5] at hA1 hX2 fin
  have q5' : 0 ≤ nI r := nI_le (a := 0) (by omega) (by omega)
  rw [if_pos q5'] at hA1 hX2
  obtain ⟨p, l, k1, k2, k3⟩ := hf1.pl r q5
  have him := hj1.2.2.2.1
  rw [gR_ok p1, ob_some, rw_g1038_323 hR1, gA_ok (rw_ok327 hR1) (by rw [rw_ln327 hR1]; omega) (by omega), ob_some, k1, ob_some, gA_ok (rw_ok327 hR1) (by rw [rw_ln327 hR1]; omega) (by omega), ob_some, k1, gR_ok p1, ob_some, rw_g1039_323 hR1, gA_ok (rw_ok328 hR1) (by rw [rw_ln328 hR1]; omega) (by omega), ob_some, k2, rc_ok p1, ob_some, nI_add, m_check fu hfu hR1 (by omega) (by omega), b2_some, gR_ok p1, ob_some, rw_g1040_323 hR1, gA_ok (rw_ok329 hR1) (by rw [rw_ln329 hR1]; omega) (by omega), ob_some, show p + l - p = l by omega] at hA1
  -- the class, with the file noted
  have hf2 : FI F ek im A1 (sF M1 466 319 (nI r)) := FI_q hf1 FQA.rf (FQM.s _ (by decide) (by decide))
  have hj2 : JI im ig A1 (sF M1 466 319 (nI r)) := JI_q hj1 FQA.rf (FQM.s _ (by decide) (by decide))
  have hW2 : XW (sF M1 466 319 (nI r)) := hW1
  have p7' := xw_ok319 hW2
  obtain ⟨t1, t2, t3⟩ := x_markOf fu hW2 hf2 q5
  have whole : fX8_isWhole fu 301 (nI r) (sF M1 466 319 (nI r)) = some (if crB (mA A1 325) p l ^^^ (-1 : Int32) = mA A1 329 r then 1 else 0, sF M1 466 319 (nI r)) := by
    unfold fX8_isWhole
    rw [rc_ok (xw_ok301 hW2), ob_some, t2, b2_some, rc_ok (xw_ok301 hW2), ob_some, t3, b2_some, rc_ok (xw_ok301 hW2), ob_some, k1, k2, x_check fu hfu hW2 hj2 k3, b2_some, rc_ok (xw_ok301 hW2), ob_some, t1, b2_some, rN1, rN0]
    split <;> rfl
  rw [gR_ok p7', ob_some, show mG (sF M1 466 319 (nI r)) 448 319 = some 301 from xw_g448_319 hW2, ob_some, rc_ok (xw_ok301 hW2), ob_some, whole, b2_some, if10] at hX2
  by_cases q6 : crB (mA A1 325) p l ^^^ (-1 : Int32) = mA A1 329 r
  rotate_left
  · rw [if_neg q6, pF_ok p1, ob_some] at hA1
    rw [if_neg q6] at hX2
    exact ⟨_, _, 500, r, fin 500 (by omega) (fun e => by omega), by rw [hA1, if_neg (by omega)]; exact L221 500 _ (Or.inr rfl), hX2⟩
  have am : mF A1 1074 323 = nI xm := (g1.2.2.2.1 _ _ (by omega)).trans xm2
  have mm : mF (sF M1 466 319 (nI r)) 461 319 = nI xm := by rw [mF_sF, if_neg (by omega)]; exact (g2.2.2.2.1 _ _ (by omega)).trans xm3
  rw [if_pos q6, gI_ok (f := 1074) p1, ob_some, am] at hA1
  rw [if_pos q6, gI_ok (f := 461) p7', ob_some, mm] at hX2
  unfold fX16_chosen_L215 at hA1
  have ok200 : fX16_chosen fu 323 A = fX16_chosen_L218 fu 323 (nI r) (some 323) (200 : Int32) A1 → fX7_verdict fu 319 M = some ((200 : Int32), sF M1 466 319 (nI r)) → ∃ A' M' st r, CH F ek A M A' M' st r ∧ fX16_chosen fu 323 A = some (if st = 200 ∨ st = 304 then nI r else -1, A') ∧ fX7_verdict fu 319 M = some (nI st, M') := fun h1 h2 =>
    ⟨_, _, 200, r, fin 200 (by omega) (fun _ => q5), by rw [h1, if_pos (Or.inl rfl)]; exact L218 200 (nI r) (Or.inl rfl), h2⟩
  by_cases q7 : xm = 1
  rotate_left
  · have q7' : ¬ nI xm = (1 : Int32) := fun e => q7 ((nI_eq (b := 1) (by omega) (by decide)).mp e)
    rw [if_neg q7'] at hA1 hX2
    exact ok200 hA1 hX2
  have q7' : nI xm = (1 : Int32) := by rw [q7]; rfl
  obtain ⟨f, t, f1, f2, f3, f4, f5, f6⟩ := xm4 (by omega)
  rw [if_pos q7', rc_ok p1, ob_some] at hA1
  rw [if_pos q7', rc_ok p7', ob_some] at hX2
  have oM : ∀ f', f' ≠ 452 → f' ≠ 466 → mF (sF M1 466 319 (nI r)) f' 319 = mF M f' 319 := fun f' y1 y2 => by
    rw [mF_sF, if_neg (fun e => y2 e.1)]
    exact g2.2.2.2.1 f' _ (fun e => y1 e.1)
  have oA : ∀ f', f' ≠ 1083 → mF A1 f' 323 = mF A f' 323 := fun f' y1 => g1.2.2.2.1 f' _ (fun e => y1 e.1)
  have hH1 : HD H n A1 M1 := h.gg g1 g2
  have hH2 : HD H n A1 (sF M1 466 319 (nI r)) := hH1
  rcases sp_mark fu (by omega) hR1 g3 hW2 hH2 hf2 f1 f2 q5 ((oA _ (by decide)).trans f3) ((oA _ (by decide)).trans f5) ((oM _ (by decide) (by decide)).trans f4) ((oM _ (by decide) (by decide)).trans f6) (by rw [mF_sF, if_pos ⟨rfl, rfl⟩]) with ⟨y1, y2⟩ | ⟨y1, y2⟩
  · rw [y1, b2_some, if_neg (by decide)] at hA1
    rw [y2, b2_some, if_neg (by decide)] at hX2
    exact ⟨_, _, 304, r, fin 304 (by omega) (fun _ => q5), by rw [hA1, if_pos (Or.inr rfl)]; exact L218 304 (nI r) (Or.inr rfl), hX2⟩
  · rw [y1, b2_some, if_pos rfl] at hA1
    rw [y2, b2_some, if_pos rfl] at hX2
    exact ok200 hA1 hX2
end Chosen
