/-! ===== part 98s: codes of a head are written, in both ===== -/
def HA (k : Nat) (A A' : Mm) : Prop := mS A' = mS A ∧ mG A' = mG A ∧ mB A' = mB A ∧ (∀ f a, ¬ (f = 794 ∧ a = 342 + 4 * k) → mF A' f a = mF A f a) ∧ (∀ a, a ≠ 343 + 4 * k → mA A' a = mA A a)
def HM (c : Nat) (M M' : Mm) : Prop := mS M' = mS M ∧ mG M' = mG M ∧ mB M' = mB M ∧ (∀ f a, ¬ (f = 78 ∧ a = c) → mF M' f a = mF M f a) ∧ (∀ a, a ≠ c + 1 → mA M' a = mA M a)
theorem HA.rf {k : Nat} {A : Mm} : HA k A A := ⟨rfl, rfl, rfl, fun _ _ _ => rfl, fun _ _ => rfl⟩
theorem HM.rf {c : Nat} {A : Mm} : HM c A A := ⟨rfl, rfl, rfl, fun _ _ _ => rfl, fun _ _ => rfl⟩
theorem HA.tr {k : Nat} {A A' A'' : Mm} (h : HA k A A') (g : HA k A' A'') : HA k A A'' := ⟨g.1.trans h.1, g.2.1.trans h.2.1, g.2.2.1.trans h.2.2.1, fun f a n => (g.2.2.2.1 f a n).trans (h.2.2.2.1 f a n), fun a n => (g.2.2.2.2 a n).trans (h.2.2.2.2 a n)⟩
theorem HM.tr {k : Nat} {A A' A'' : Mm} (h : HM k A A') (g : HM k A' A'') : HM k A A'' := ⟨g.1.trans h.1, g.2.1.trans h.2.1, g.2.2.1.trans h.2.2.1, fun f a n => (g.2.2.2.1 f a n).trans (h.2.2.2.1 f a n), fun a n => (g.2.2.2.2 a n).trans (h.2.2.2.2 a n)⟩
theorem HA.rW {k : Nat} {A A' : Mm} (h : HA k A A') (g : RW A) : RW A' := by
  unfold RW okA
  rw [h.1, h.2.1, h.2.2.1]
  exact g
theorem HM.xW {k : Nat} {A A' : Mm} (h : HM k A A') (g : XW A) : XW A' := by
  unfold XW okA
  rw [h.1, h.2.1]
  exact g
theorem HM.cN {k : Nat} {A A' : Mm} (h : HM k A A') (g : CnO A k) : CnO A' k := by
  unfold CnO okA
  rw [h.1, h.2.1]
  exact g
/-- what stands in a head -/
def WA (A : Mm) (k : Nat) (l : List Nat) : Prop := mF A 794 (342 + 4 * k) = nI l.length ∧ ∀ i, i < l.length → mA A (343 + 4 * k) i = nI (l.getD i 0)
def WX (M : Mm) (c : Nat) (l : List Nat) : Prop := mF M 78 c = nI l.length ∧ ∀ i, i < l.length → mA M (c + 1) i = nI (l.getD i 0)
theorem gd_app (l : List Nat) (v i : Nat) (h : i < l.length + 1) : (l ++ [v]).getD i 0 = if i = l.length then v else l.getD i 0 := by
  rw [List.getD_eq_getElem?_getD, List.getD_eq_getElem?_getD, List.getElem?_append]
  by_cases q : i < l.length
  · rw [if_pos q, if_neg (by omega)]
  · have : i = l.length := by omega
    subst this
    simp
def stA (k : Nat) (f : Mm → Option Mm) (d : List Nat) : Prop := ∀ A l, RW A → By A → WA A k l → l.length + d.length ≤ 256 → ∃ A', f A = some A' ∧ HA k A A' ∧ By A' ∧ WA A' k (l ++ d)
def stX (c : Nat) (f : Mm → Option Mm) (d : List Nat) : Prop := ∀ M l, CnO M c → By M → WX M c l → l.length + d.length ≤ 256 → ∃ M', f M = some M' ∧ HM c M M' ∧ By M' ∧ WX M' c (l ++ d)
theorem stA.seq {k : Nat} {f g : Mm → Option Mm} {d e : List Nat} (hf : stA k f d) (hg : stA k g e) : stA k (fun A => (f A).bind g) (d ++ e) := fun A l hR hB hw hl => by
  rw [List.length_append] at hl
  obtain ⟨A1, r1, r2, r3, r4⟩ := hf A l hR hB hw (by omega)
  obtain ⟨A2, s1, s2, s3, s4⟩ := hg A1 (l ++ d) (r2.rW hR) r3 r4 (by rw [List.length_append]; omega)
  refine ⟨A2, ?_, r2.tr s2, s3, by rw [← List.append_assoc]; exact s4⟩
  show (f A).bind g = _
  rw [r1, ob_some, s1]
theorem stX.seq {c : Nat} {f g : Mm → Option Mm} {d e : List Nat} (hf : stX c f d) (hg : stX c g e) : stX c (fun A => (f A).bind g) (d ++ e) := fun A l hR hB hw hl => by
  rw [List.length_append] at hl
  obtain ⟨A1, r1, r2, r3, r4⟩ := hf A l hR hB hw (by omega)
  obtain ⟨A2, s1, s2, s3, s4⟩ := hg A1 (l ++ d) (r2.cN hR) r3 r4 (by rw [List.length_append]; omega)
  refine ⟨A2, ?_, r2.tr s2, s3, by rw [← List.append_assoc]; exact s4⟩
  show (f A).bind g = _
  rw [r1, ob_some, s1]
theorem m_code (fu : Nat) {k : Nat} (hk : k < 16) {v : Nat} (hv : v < 128) : stA k (fun A => fX16_code fu 323 (some (342 + 4 * k)) (nI v) A) [v] := fun A l hR hB hw hl => by
  have hl' : l.length + 1 ≤ 256 := hl
  have o := rw_cnO hR k hk
  have oh := rw_cnH hR k hk
  show ∃ A', fX16_code fu 323 (some (342 + 4 * k)) (nI v) A = some A' ∧ _
  unfold fX16_code
  rw [gR_ok o, ob_some, rw_cnHg hR k hk, gI_ok o, ob_some, hw.1, sml hv, sml hv, pA_ok oh (by rw [rw_cnHl hR k hk]; omega) (by omega), ob_some, gI_ok (by exact o), ob_some, show mF (wA A (343 + 4 * k) (fun j => if j = l.length then nI v else mA A (343 + 4 * k) j)) 794 (342 + 4 * k) = nI l.length from hw.1, nI_1, pF_ok (by exact o), ob_some]
  refine ⟨_, rfl, ⟨rfl, rfl, rfl, fun f a n => by rw [mF_sF, if_neg n]; rfl, fun a n => ?_⟩, By_sF (By_wA hB (fun ht j => ?_)), ?_, fun i hi => ?_⟩
  · funext j
    show (if a = 343 + 4 * k then _ else mA A a j) = _
    rw [if_neg n]
  · show isB (if j = l.length then nI v else mA A (343 + 4 * k) j)
    split
    · exact isB_nI hv
    · exact hB _ j ht
  · rw [mF_sF, if_pos ⟨rfl, rfl⟩, List.length_append]
    rfl
  · rw [List.length_append] at hi
    have hi' : i < l.length + 1 := hi
    rw [gd_app l v i hi']
    show (if 343 + 4 * k = 343 + 4 * k then (if i = l.length then nI v else mA A (343 + 4 * k) i) else mA A (343 + 4 * k) i) = _
    rw [if_pos rfl]
    by_cases z : i = l.length
    · rw [if_pos z, if_pos z]
    · rw [if_neg z, if_neg z]
      exact hw.2 i (by omega)
theorem x_code (fu : Nat) {c : Nat} {v : Nat} (hv : v < 128) : stX c (fun A => fX1_writeCode fu c (nI v) A) [v] := fun A l hR hB hw hl => by
  have hl' : l.length + 1 ≤ 256 := hl
  obtain ⟨o, g79, -, -, oh, ln, -⟩ := hR
  show ∃ A', fX1_writeCode fu c (nI v) A = some A' ∧ _
  unfold fX1_writeCode
  rw [gI_ok o, ob_some, hw.1, if_neg (show ¬ (256 : Int32) ≤ nI l.length from nI_ge (b := 256) (by omega) (by decide)), gR_ok o, ob_some, g79, ob_some, sml hv, sml hv, pA_ok oh (by rw [ln]; omega) (by omega), ob_some, gI_ok (by exact o), ob_some, show mF (wA A (c + 1) (fun j => if j = l.length then nI v else mA A (c + 1) j)) 78 c = nI l.length from hw.1, nI_1, pF_ok (by exact o), ob_some]
  refine ⟨_, rfl, ⟨rfl, rfl, rfl, fun f a n => by rw [mF_sF, if_neg n]; rfl, fun a n => ?_⟩, By_sF (By_wA hB (fun ht j => ?_)), ?_, fun i hi => ?_⟩
  · funext j
    show (if a = c + 1 then _ else mA A a j) = _
    rw [if_neg n]
  · show isB (if j = l.length then nI v else mA A (c + 1) j)
    split
    · exact isB_nI hv
    · exact hB _ j ht
  · rw [mF_sF, if_pos ⟨rfl, rfl⟩, List.length_append]
    rfl
  · rw [List.length_append] at hi
    have hi' : i < l.length + 1 := hi
    rw [gd_app l v i hi']
    show (if c + 1 = c + 1 then (if i = l.length then nI v else mA A (c + 1) i) else mA A (c + 1) i) = _
    rw [if_pos rfl]
    by_cases z : i = l.length
    · rw [if_pos z, if_pos z]
    · rw [if_neg z, if_neg z]
      exact hw.2 i (by omega)
theorem stA.nil {k : Nat} {f : Mm → Option Mm} (h : ∀ A, RW A → f A = some A) : stA k f [] := fun A l hR hB hw hl => ⟨A, h A hR, HA.rf, hB, by rw [List.append_nil]; exact hw⟩
theorem stX.nil {c : Nat} {f : Mm → Option Mm} (h : ∀ A, CnO A c → f A = some A) : stX c f [] := fun A l hR hB hw hl => ⟨A, h A hR, HM.rf, hB, by rw [List.append_nil]; exact hw⟩
theorem stA.of {k : Nat} {f g : Mm → Option Mm} {d : List Nat} (h : stA k g d) (e : ∀ A, RW A → f A = g A) : stA k f d := fun A l hR hB hw hl => by
  obtain ⟨A', r1, r2⟩ := h A l hR hB hw hl
  exact ⟨A', (e A hR).trans r1, r2⟩
theorem stX.of {c : Nat} {f g : Mm → Option Mm} {d : List Nat} (h : stX c g d) (e : ∀ A, CnO A c → f A = g A) : stX c f d := fun A l hR hB hw hl => by
  obtain ⟨A', r1, r2⟩ := h A l hR hB hw hl
  exact ⟨A', (e A hR).trans r1, r2⟩
/-- the codes of a text from j on -/
def tk (t : Nat) : Nat → Nat → List Nat
  | _, 0 => []
  | j, d + 1 => txC t j :: tk t (j + 1) d
def tl (t : Nat) : List Nat := tk t 0 (txL t)
theorem m_say (fu : Nat) (hfu : 100 ≤ fu) {k : Nat} (hk : k < 16) {t : Nat} (ht : t < 50) : stA k (fun A => fX16_say fu 323 (some (342 + 4 * k)) (some t) A) (tl t) := by
  have hb := (tx_ok t ht).1
  have loop : ∀ d j m, j + d = txL t → d ≤ m → stA k (fun A => fX16_say_L2 fu (m + 1) 323 (some (342 + 4 * k)) (some t) (nI j) A) (tk t j d) := by
    intro d
    induction d with
    | zero =>
      intro j m h1 h2
      refine stA.nil (fun A hR => ?_)
      rw [fX16_say_L2, x_rcS ht, ob_some, x_len fu ht, b2_some, if_pos (nI_le (by omega) (by omega))]
    | succ d ih =>
      intro j m h1 h2
      have hc := ((tx_ok t ht).2 j (by omega)).2.2
      have := (m_code fu hk hc).seq (ih (j + 1) (m - 1) (by omega) (by omega))
      rw [show m - 1 + 1 = m by omega] at this
      refine stA.of this (fun A hR => ?_)
      rw [fX16_say_L2, x_rcS ht, ob_some, x_len fu ht, b2_some, if_neg (nI_ge (by omega) (by omega)), ob_some, x_char fu ht (by omega), b2_some, rc_ok (rw_ok323 hR), ob_some, nI_1]
  have := loop (txL t) 0 (fu - 1) (by omega) (by omega)
  rw [show fu - 1 + 1 = fu by omega] at this
  exact this
theorem x_write (fu : Nat) (hfu : 100 ≤ fu) {c : Nat} {t : Nat} (ht : t < 50) : stX c (fun A => fX1_write fu c (some t) A) (tl t) := by
  have hb := (tx_ok t ht).1
  have loop : ∀ d j m, j + d = txL t → d ≤ m → stX c (fun A => fX1_write_L2 fu (m + 1) c (some t) (nI j) A) (tk t j d) := by
    intro d
    induction d with
    | zero =>
      intro j m h1 h2
      refine stX.nil (fun A hR => ?_)
      rw [fX1_write_L2, x_rcS ht, ob_some, x_len fu ht, b2_some, if_pos (nI_le (by omega) (by omega))]
    | succ d ih =>
      intro j m h1 h2
      have hc := ((tx_ok t ht).2 j (by omega)).2.2
      have := (x_code fu (c := c) hc).seq (ih (j + 1) (m - 1) (by omega) (by omega))
      rw [show m - 1 + 1 = m by omega] at this
      refine stX.of this (fun A hR => ?_)
      rw [fX1_write_L2, x_rcS ht, ob_some, x_len fu ht, b2_some, if_neg (nI_ge (by omega) (by omega)), ob_some, x_char fu ht (by omega), b2_some, rc_ok hR.1, ob_some, nI_1]
  have := loop (txL t) 0 (fu - 1) (by omega) (by omega)
  rw [show fu - 1 + 1 = fu by omega] at this
  exact this
theorem ob_id (x : Option Mm) : (x.bind fun M => some M) = x := by cases x <;> rfl
theorem stA.fin {k : Nat} {f : Mm → Option Mm} {d : List Nat} (h : stA k f d) : stA k (fun A => (f A).bind fun M => some M) d := stA.of h (fun A _ => ob_id _)
theorem stX.fin {k : Nat} {f : Mm → Option Mm} {d : List Nat} (h : stX k f d) : stX k (fun A => (f A).bind fun M => some M) d := stX.of h (fun A _ => ob_id _)
/-- behind a test for null -/
theorem stA.rc {k : Nat} {f : Nat → Mm → Option Mm} {d : List Nat} (h : stA k (f 323) d) : stA k (fun A => (rc A 16 (some 323)).bind fun q => f q A) d := stA.of h (fun A hR => by rw [rc_ok (rw_ok323 hR), ob_some])
theorem stX.rc {c : Nat} {f : Nat → Mm → Option Mm} {d : List Nat} (h : stX c (f c) d) : stX c (fun A => (rc A 1 (some c)).bind fun q => f q A) d := stX.of h (fun A hR => by rw [rc_ok hR.1, ob_some])
theorem m_line (fu : Nat) {k : Nat} (hk : k < 16) : stA k (fun A => fX16_line fu 323 (some (342 + 4 * k)) A) [13, 10] :=
  (m_code fu hk (v := 13) (by decide)).seq (stA.rc (f := fun q A => (fX16_code fu q (some (342 + 4 * k)) (10 : Int32) A).bind fun M => some M) (m_code fu hk (v := 10) (by decide)).fin) |>.rc (f := fun q A => (fX16_code fu q (some (342 + 4 * k)) (13 : Int32) A).bind fun M2 => (Jvm.Pilot.CWebHostLaw_law_r9009_0f0280.rc M2 16 (some 323)).bind fun q3 => (fX16_code fu q3 (some (342 + 4 * k)) (10 : Int32) M2).bind fun M4 => some M4)
/-- the digits of a number from the e-th on -/
def dd (x : Nat) : Nat → List Nat
  | 0 => [48 + x / 10 ^ 0 % 10]
  | e + 1 => (48 + x / 10 ^ (e + 1) % 10) :: dd x e
theorem dd_len (x : Nat) : ∀ e, (dd x e).length = e + 1
  | 0 => rfl
  | e + 1 => by show (dd x e).length + 1 = _; rw [dd_len x e]
theorem p10 {e : Nat} (h : e ≤ 8) : 10 ^ e ≤ 100000000 ∧ 0 < 10 ^ e := ⟨Nat.pow_le_pow_right (n := 10) (by decide) h, Nat.pos_of_ne_zero (by simp)⟩
theorem dg_code {x p : Nat} (hx : x < 1000000000) (h0 : 0 < p) (hp : p < 2 ^ 30) : (48 : Int32) + irm (nI x / nI p) (10 : Int32) = nI (48 + x / p % 10) := by
  rw [pk_div (by omega) h0 (by omega), show irm (nI (x / p)) (10 : Int32) = nI (x / p % 10) from irm_nI (d := 10) (by have := Nat.div_le_self x p; omega) (by decide) (by decide)]
  exact nI_add 48 _
theorem m_digits (fu : Nat) {k : Nat} (hk : k < 16) {x : Nat} (hx : x < 1000000000) : ∀ e m, e ≤ 8 → e + 1 ≤ m → stA k (fun A => fX16_sayNumber_L21 fu (m + 1) 323 (some (342 + 4 * k)) (nI x) (nI (10 ^ e)) A) (dd x e) := by
  intro e
  induction e with
  | zero =>
    intro m h1 h2
    refine stA.of (m_code fu hk (v := 48 + x / 10 ^ 0 % 10) (by omega)) (fun A hR => ?_)
    rw [fX16_sayNumber_L21, if_neg (show ¬ nI (10 ^ 0) ≤ 0 by decide), if_neg (by decide), rc_ok (rw_ok323 hR), ob_some, dg_code hx (by decide) (by decide), show nI (10 ^ 0) / (10 : Int32) = 0 by decide, show m = (m - 1) + 1 by omega]
    cases fX16_code fu 323 (some (342 + 4 * k)) (nI (48 + x / 10 ^ 0 % 10)) A with
    | none => rfl
    | some B => rw [ob_some, fX16_sayNumber_L21, if_pos (show (0 : Int32) ≤ 0 by decide)]
  | succ e ih =>
    intro m h1 h2
    obtain ⟨p1, p2⟩ := p10 h1
    have := (m_code fu hk (v := 48 + x / 10 ^ (e + 1) % 10) (by omega)).seq (ih (m - 1) (by omega) (by omega))
    rw [show m - 1 + 1 = m by omega] at this
    refine stA.of this (fun A hR => ?_)
    have ed : nI (10 ^ (e + 1)) / (10 : Int32) = nI (10 ^ e) := by
      rw [show nI (10 ^ (e + 1)) / (10 : Int32) = nI (10 ^ (e + 1) / 10) from pk_div (d := 10) (by omega) (by decide) (by decide), Nat.pow_succ, Nat.mul_div_cancel _ (by decide)]
    rw [fX16_sayNumber_L21, if_neg (show ¬ nI (10 ^ (e + 1)) ≤ 0 from nI_ge (a := 0) p2 (by omega)), if_neg (fun z => by have := (nI_eq (b := 0) (by omega) (by decide)).mp z; omega), rc_ok (rw_ok323 hR), ob_some, dg_code hx p2 (by omega), ed]
theorem x_digits (fu : Nat) {c : Nat} {x : Nat} (hx : x < 1000000000) : ∀ e m, e ≤ 8 → e + 1 ≤ m → stX c (fun A => fX1_writeNumber_L24 fu (m + 1) c (nI x) (nI (10 ^ e)) A) (dd x e) := by
  intro e
  induction e with
  | zero =>
    intro m h1 h2
    refine stX.of (x_code fu (v := 48 + x / 10 ^ 0 % 10) (by omega)) (fun A hR => ?_)
    rw [fX1_writeNumber_L24, if_neg (show ¬ nI (10 ^ 0) ≤ 0 by decide), if_neg (by decide), rc_ok hR.1, ob_some, dg_code hx (by decide) (by decide), show nI (10 ^ 0) / (10 : Int32) = 0 by decide, show m = (m - 1) + 1 by omega]
    cases fX1_writeCode fu c (nI (48 + x / 10 ^ 0 % 10)) A with
    | none => rfl
    | some B => rw [ob_some, fX1_writeNumber_L24, if_pos (show (0 : Int32) ≤ 0 by decide)]
  | succ e ih =>
    intro m h1 h2
    obtain ⟨p1, p2⟩ := p10 h1
    have := (x_code fu (c := c) (v := 48 + x / 10 ^ (e + 1) % 10) (by omega)).seq (ih (m - 1) (by omega) (by omega))
    rw [show m - 1 + 1 = m by omega] at this
    refine stX.of this (fun A hR => ?_)
    have ed : nI (10 ^ (e + 1)) / (10 : Int32) = nI (10 ^ e) := by
      rw [show nI (10 ^ (e + 1)) / (10 : Int32) = nI (10 ^ (e + 1) / 10) from pk_div (d := 10) (by omega) (by decide) (by decide), Nat.pow_succ, Nat.mul_div_cancel _ (by decide)]
    rw [fX1_writeNumber_L24, if_neg (show ¬ nI (10 ^ (e + 1)) ≤ 0 from nI_ge (a := 0) p2 (by omega)), if_neg (fun z => by have := (nI_eq (b := 0) (by omega) (by decide)).mp z; omega), rc_ok hR.1, ob_some, dg_code hx p2 (by omega), ed]
/-- the number of digits, less one -/
theorem dn_ex {x : Nat} (hx : x < 1000000000) : ∃ e, e ≤ 8 ∧ x < 10 ^ (e + 1) ∧ ∀ i, i < e → 10 ^ (i + 1) ≤ x := by
  rcases fst_or (fun e => x < 10 ^ (e + 1)) 9 with ⟨e, e1, e2, e3⟩ | hno
  · exact ⟨e, by omega, e2, fun i hi => by have := e3 i hi; omega⟩
  · exact absurd (by omega) (hno 8 (by decide))
/-- a number is written, in both -/
theorem num_ex (fu : Nat) (hfu : 100 ≤ fu) {x : Nat} (hx : x < 1000000000) : ∃ d : List Nat, d.length ≤ 9 ∧ (x < 1000 → d.length ≤ 3) ∧ (x < 100000 → d.length ≤ 5) ∧ (∀ k, k < 16 → stA k (fun A => fX16_sayNumber fu 323 (some (342 + 4 * k)) (nI x) A) d) ∧ (∀ c, stX c (fun A => fX1_writeNumber fu c (nI x) A) d) := by
  obtain ⟨e, e1, e2, e3⟩ := dn_ex hx
  refine ⟨dd x e, by rw [dd_len]; omega, fun h => ?_, fun h => ?_, fun k hk => ?_, fun c => ?_⟩
  · rw [dd_len]
    by_cases q : e ≤ 2
    · omega
    · have := e3 2 (by omega); omega
  · rw [dd_len]
    by_cases q : e ≤ 4
    · omega
    · have := e3 4 (by omega); omega
  · have h1 := m_digits fu hk hx e (fu - 1) e1 (by omega)
    rw [show fu - 1 + 1 = fu by omega] at h1
    refine stA.of h1 (fun A hR => ?_)
    have := lp (fun m j => fX16_sayNumber_L2 fu m 323 (some (342 + 4 * k)) (nI x) (nI (10 ^ j)) A) (i := 0) (k := e) (by omega) (fun m j _ hj => by
      obtain ⟨p1, p2⟩ := p10 (e := j) (by omega)
      have h10 := e3 j hj
      rw [Nat.pow_succ] at h10
      have hd : 10 ≤ x / 10 ^ j := (Nat.le_div_iff_mul_le p2).mpr (by omega)
      rw [fX16_sayNumber_L2, if_neg (fun z => by have := (nI_eq (b := 0) (by omega) (by decide)).mp z; omega), pk_div (by omega) p2 (by omega), if_neg (show ¬ nI (x / 10 ^ j) < (10 : Int32) from nI_nlt (b := 10) hd (by have := Nat.div_le_self x (10 ^ j); omega)), show nI (10 ^ j) * (10 : Int32) = nI (10 ^ (j + 1)) by rw [show (10 : Int32) = nI 10 from rfl, pk_mul, Nat.pow_succ]]) (fu - e)
    rw [show fu - e + (e - 0) = fu by omega] at this
    refine Eq.trans this ?_
    obtain ⟨p1, p2⟩ := p10 e1
    rw [Nat.pow_succ] at e2
    have hd : x / 10 ^ e < 10 := (Nat.div_lt_iff_lt_mul p2).mpr (by omega)
    show fX16_sayNumber_L2 fu (fu - e) 323 (some (342 + 4 * k)) (nI x) (nI (10 ^ e)) A = _
    rw [show fu - e = (fu - e - 1) + 1 by omega, fX16_sayNumber_L2, if_neg (fun z => by have := (nI_eq (b := 0) (by omega) (by decide)).mp z; omega), pk_div (by omega) p2 (by omega), if_pos (show nI (x / 10 ^ e) < (10 : Int32) from nI_lt (b := 10) hd (by decide))]
  · have h1 := x_digits fu (c := c) hx e (fu - 1) e1 (by omega)
    rw [show fu - 1 + 1 = fu by omega] at h1
    refine stX.of h1 (fun A hR => ?_)
    have e10 : nI x / (10 : Int32) = nI (x / 10) := pk_div (d := 10) (by omega) (by decide) (by decide)
    have := lp (fun m j => fX1_writeNumber_L2 fu m c (nI x) (nI (10 ^ j)) A) (i := 0) (k := e) (by omega) (fun m j _ hj => by
      obtain ⟨p1, p2⟩ := p10 (e := j) (by omega)
      have h10 := e3 j hj
      rw [Nat.pow_succ] at h10
      rw [fX1_writeNumber_L2, e10, if_neg (nI_nlt (by omega) (by omega)), if_neg (show ¬ (1000000000 : Int32) ≤ nI (10 ^ j) from nI_ge (b := 1000000000) (by omega) (by decide)), show nI (10 ^ j) * (10 : Int32) = nI (10 ^ (j + 1)) by rw [show (10 : Int32) = nI 10 from rfl, pk_mul, Nat.pow_succ]]) (fu - e)
    rw [show fu - e + (e - 0) = fu by omega] at this
    refine Eq.trans this ?_
    obtain ⟨p1, p2⟩ := p10 e1
    rw [Nat.pow_succ] at e2
    show fX1_writeNumber_L2 fu (fu - e) c (nI x) (nI (10 ^ e)) A = _
    rw [show fu - e = (fu - e - 1) + 1 by omega, fX1_writeNumber_L2, e10, if_pos (nI_lt (by omega) (by omega))]
