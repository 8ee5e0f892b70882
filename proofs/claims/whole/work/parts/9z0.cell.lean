/-! ===== part 9z0: a new row of bytes in the class (written by gen/mk9z0.py) ===== -/
theorem XW_ce2 {A A1 : Mm} (h : XW A) (ok : ∀ t a, 300 ≤ a → a < 323 → okA A t a → okA A1 t a) (ln : ∀ a, 300 ≤ a → a < 323 → sLen (mS A1) a = sLen (mS A) a) (g : ∀ f a, 300 ≤ a → a < 323 → ¬ (a = 300 ∧ f = 710) → ¬ (a = 301 ∧ (f = 512 ∨ f = 514)) → mG A1 f a = mG A f a) (b : ∀ a i, 300 ≤ a → a < 323 → mB A1 a i = mB A a i) : XW A1 := by
  obtain ⟨h0, h1, h2, h3, h4, h5, h6, h7, h8, h9, h10, h11, h12, h13, h14, h15, h16, h17, h18, h19, h20, h21, h22, h23, h24, h25, h26, h27, h28, h29, h30, h31, h32, h33, h34, h35, h36, h37, h38, h39, h40, h41, h42, h43, h44, h45, h46, h47, h48, h49, h50, h51, h52, h53, h54, h55, h56, h57, h58, h59, h60, h61, h62, h63, -⟩ := h
  exact ⟨ok _ _ (by omega) (by omega) h0, (g _ _ (by omega) (by omega) (by omega) (by omega)).trans h1, (g _ _ (by omega) (by omega) (by omega) (by omega)).trans h2, (g _ _ (by omega) (by omega) (by omega) (by omega)).trans h3, (g _ _ (by omega) (by omega) (by omega) (by omega)).trans h4, (g _ _ (by omega) (by omega) (by omega) (by omega)).trans h5, (g _ _ (by omega) (by omega) (by omega) (by omega)).trans h6, ok _ _ (by omega) (by omega) h7, ok _ _ (by omega) (by omega) h8, (ln _ (by omega) (by omega)).trans h9, ok _ _ (by omega) (by omega) h10, (ln _ (by omega) (by omega)).trans h11, ok _ _ (by omega) (by omega) h12, (g _ _ (by omega) (by omega) (by omega) (by omega)).trans h13, (g _ _ (by omega) (by omega) (by omega) (by omega)).trans h14, ok _ _ (by omega) (by omega) h15, (ln _ (by omega) (by omega)).trans h16, ok _ _ (by omega) (by omega) h17, (ln _ (by omega) (by omega)).trans h18, ok _ _ (by omega) (by omega) h19, (g _ _ (by omega) (by omega) (by omega) (by omega)).trans h20, (g _ _ (by omega) (by omega) (by omega) (by omega)).trans h21, (g _ _ (by omega) (by omega) (by omega) (by omega)).trans h22, (g _ _ (by omega) (by omega) (by omega) (by omega)).trans h23, (g _ _ (by omega) (by omega) (by omega) (by omega)).trans h24, (g _ _ (by omega) (by omega) (by omega) (by omega)).trans h25, (g _ _ (by omega) (by omega) (by omega) (by omega)).trans h26, ok _ _ (by omega) (by omega) h27, (ln _ (by omega) (by omega)).trans h28, ok _ _ (by omega) (by omega) h29, (ln _ (by omega) (by omega)).trans h30, ok _ _ (by omega) (by omega) h31, (ln _ (by omega) (by omega)).trans h32, ok _ _ (by omega) (by omega) h33, (ln _ (by omega) (by omega)).trans h34, ok _ _ (by omega) (by omega) h35, (ln _ (by omega) (by omega)).trans h36, ok _ _ (by omega) (by omega) h37, (ln _ (by omega) (by omega)).trans h38, ok _ _ (by omega) (by omega) h39, (g _ _ (by omega) (by omega) (by omega) (by omega)).trans h40, (g _ _ (by omega) (by omega) (by omega) (by omega)).trans h41, (g _ _ (by omega) (by omega) (by omega) (by omega)).trans h42, ok _ _ (by omega) (by omega) h43, (ln _ (by omega) (by omega)).trans h44, ok _ _ (by omega) (by omega) h45, (ln _ (by omega) (by omega)).trans h46, ok _ _ (by omega) (by omega) h47, (g _ _ (by omega) (by omega) (by omega) (by omega)).trans h48, (g _ _ (by omega) (by omega) (by omega) (by omega)).trans h49, (g _ _ (by omega) (by omega) (by omega) (by omega)).trans h50, (g _ _ (by omega) (by omega) (by omega) (by omega)).trans h51, (g _ _ (by omega) (by omega) (by omega) (by omega)).trans h52, ok _ _ (by omega) (by omega) h53, (ln _ (by omega) (by omega)).trans h54, ok _ _ (by omega) (by omega) h55, (g _ _ (by omega) (by omega) (by omega) (by omega)).trans h56, (g _ _ (by omega) (by omega) (by omega) (by omega)).trans h57, (g _ _ (by omega) (by omega) (by omega) (by omega)).trans h58, (g _ _ (by omega) (by omega) (by omega) (by omega)).trans h59, ok _ _ (by omega) (by omega) h60, (ln _ (by omega) (by omega)).trans h61, ok _ _ (by omega) (by omega) h62, (ln _ (by omega) (by omega)).trans h63, trivial⟩
/-- nothing of the class is other but the tray, the image, the entries, their sizes and the flag, and the row tr; cells may be new -/
def TrQ (tr : Nat) (M M' : Mm) : Prop := sN (mS M) ≤ sN (mS M') ∧ ∀ a, a < sN (mS M) → sTy (mS M') a = sTy (mS M) a ∧ sLen (mS M') a = sLen (mS M) a ∧ (∀ f, ¬ (a = 300 ∧ (f = 711 ∨ f = 712)) → ¬ (a = 301 ∧ f = 513) → mF M' f a = mF M f a) ∧ (∀ f, ¬ (a = 300 ∧ f = 710) → ¬ (a = 301 ∧ (f = 512 ∨ f = 514)) → mG M' f a = mG M f a) ∧ (a ≠ tr → mA M' a = mA M a) ∧ mB M' a = mB M a
/-- new cells are rows of bytes -/
def Nw100 (M M' : Mm) : Prop := ∀ t a, okA M' t a → a < sN (mS M) ∨ t = 100
section Cell
variable {A M M' : Mm} {KN KS t T im ig F ek ty nw tr : Nat}
theorem TrQ.ok (h : TrQ tr M M') {t a : Nat} (o : okA M t a) : okA M' t a := ⟨o.1, by have := o.2.1; have := h.1; omega, by rw [(h.2 a o.2.1).1]; exact o.2.2⟩
theorem XW_tr (h : TrQ tr M M') (hW : XW M) (n : 450 ≤ sN (mS M)) : XW M' :=
  XW_ce2 hW (fun _ _ _ _ o => h.ok o) (fun a h1 h2 => (h.2 a (by omega)).2.1) (fun f a h1 h2 h3 h4 => (h.2 a (by omega)).2.2.2.1 f h3 h4) (fun a i h1 h2 => by rw [(h.2 a (by omega)).2.2.2.2.2])
theorem XS_tr (h : TrQ tr M M') (nw : Nw100 M M') (hW : XW M) (hS : XS M) : XS M' := by
  have ok := fun {t a : Nat} (o : okA M t a) => h.ok o
  have old : ∀ t a, okA M' t a → t ≠ 100 → okA M t a := fun t a o ht => by
    rcases nw t a o with q | q
    · exact ⟨o.1, q, by rw [← (h.2 a q).1]; exact o.2.2⟩
    · exact absurd q ht
  have ne : ∀ t a, okA M t a → t ≠ 11 → t ≠ 8 → a ≠ 300 ∧ a ≠ 301 := fun t a o h1 h2 => ⟨fun e => h1 (by rw [← o.2.2, e]; exact (xw_ok300 hW).2.2), fun e => h2 (by rw [← o.2.2, e]; exact (xw_ok301 hW).2.2)⟩
  have g : ∀ t a f, okA M t a → t ≠ 11 → t ≠ 8 → mG M' f a = mG M f a := fun t a f o h1 h2 => by
    obtain ⟨q1, q2⟩ := ne t a o h1 h2
    exact (h.2 a o.2.1).2.2.2.1 f (fun e => q1 e.1) (fun e => q2 e.1)
  have ln : ∀ t a, okA M t a → sLen (mS M') a = sLen (mS M) a := fun t a o => (h.2 a o.2.1).2.1
  refine ⟨fun p hp => ?_, fun d hd => ?_, fun c hc => ?_⟩
  · have hp := old _ _ hp (by decide)
    obtain ⟨y1, y2, y3⟩ := hS.1 p hp
    exact ⟨by rw [g _ _ _ hp (by decide) (by decide)]; exact y1, ok y2, by rw [ln _ _ y2]; exact y3⟩
  · have hd := old _ _ hd (by decide)
    obtain ⟨y1, y2, y3, y4, y5, y6⟩ := hS.2.1 d hd
    exact ⟨by rw [g _ _ _ hd (by decide) (by decide)]; exact y1, by rw [g _ _ _ hd (by decide) (by decide)]; exact y2, ok y3, by rw [ln _ _ y3]; exact y4, ok y5, by rw [ln _ _ y5]; exact y6⟩
  · have hc := old _ _ hc (by decide)
    obtain ⟨y1, y2, y3, y4, y5, y6, y7, y8, y9, y10, y11, y12, y13⟩ := hS.2.2 c hc
    exact ⟨by rw [g _ _ _ hc (by decide) (by decide)]; exact y1, by rw [g _ _ _ hc (by decide) (by decide)]; exact y2, by rw [g _ _ _ hc (by decide) (by decide)]; exact y3, ok y4, by rw [ln _ _ y4]; exact y5, ok y6, by rw [g _ _ _ y6 (by decide) (by decide)]; exact y7, by rw [g _ _ _ y6 (by decide) (by decide)]; exact y8, ok y9, by rw [ln _ _ y9]; exact y10, ok y11, by rw [ln _ _ y11]; exact y12, ok y13⟩
theorem XRR_tr {KN' KS' : Nat} (h : TrQ tr M M') (hX : XRR KN KS M) (h1 : KN + sN (mS M') ≤ KN' + sN (mS M)) (h2 : KS + sSl (mS M') ≤ KS' + sSl (mS M)) (h3 : KN' ≤ 600300) (h4 : KS' ≤ 7302250) : XRR KN' KS' M' := by
  obtain ⟨nr, nw', nd, nc, x1, x2, x3, x4, r6, r13, r16, r18, x5, x6, x7, x8, x9, x10⟩ := hX
  have b : ∀ a, 300 ≤ a → a < 323 → mB M' a = mB M a := fun a q1 q2 => (h.2 a (by omega)).2.2.2.2.2
  have h0 := h.1
  refine ⟨nr, nw', nd, nc, x1, x2, x3, x4, rowN_same (b 306 (by decide) (by decide)) (fun a q => h.ok q) r6, rowN_same (b 313 (by decide) (by decide)) (fun a q => h.ok q) r13, rowN_same (b 316 (by decide) (by decide)) (fun a q => h.ok q) r16, rowN_same (b 318 (by decide) (by decide)) (fun a q => h.ok q) r18, ?_, by omega, by omega, h3, h4, by omega⟩
  rw [b 306 (by decide) (by decide), b 313 (by decide) (by decide)]
  exact x5
theorem XRR_K {KN' KS' : Nat} (hX : XRR KN KS M) (h1 : KN ≤ KN') (h2 : KS ≤ KS') (h3 : KN' ≤ 600300) (h4 : KS' ≤ 7302250) : XRR KN' KS' M := by
  obtain ⟨nr, nw', nd, nc, x1, x2, x3, x4, r6, r13, r16, r18, x5, x6, x7, x8, x9, x10⟩ := hX
  exact ⟨nr, nw', nd, nc, x1, x2, x3, x4, r6, r13, r16, r18, x5, by omega, by omega, h3, h4, x10⟩
theorem JJ_K {KN' KS' : Nat} (h : JJ A M KN KS t T im ig F ek ty nw) (h1 : KN ≤ KN') (h2 : KS ≤ KS') (h3 : KN' ≤ 600300) (h4 : KS' ≤ 7302250) : JJ A M KN' KS' t T im ig F ek ty nw := by
  obtain ⟨y1, y2, y3, y4, y5⟩ := h.jl
  exact JJ.mk ⟨y1, y2, y3, XRR_K y4 h1 h2 h3 h4, y5⟩ h.ba h.bm h.jn h.jd h.ji h.fi h.nw h.n2 h.cc h.uq h.zb h.tr h.ts
/-- a new row of n bytes -/
def nT (M : Mm) (n : Nat) (G : Nat → Int32) : Mm := wA (nA M 100 n) (sN (mS M)) G
theorem nT_A {n a : Nat} {G : Nat → Int32} (h : a ≠ sN (mS M)) : mA (nT M n G) a = mA M a := by
  funext j
  show (if a = sN (mS M) then G j else if a = sN (mS M) then 0 else M.2.2.1 a j) = M.2.2.1 a j
  rw [if_neg h, if_neg h]
theorem nT_N {n : Nat} {G : Nat → Int32} : mA (nT M n G) (sN (mS M)) = G := mA_wA_self _ _ _
theorem nT_B {n a : Nat} {G : Nat → Int32} (h : a ≠ sN (mS M)) : mB (nT M n G) a = mB M a := by
  funext j
  show (if a = sN (mS M) then none else M.2.2.2.1 a j) = M.2.2.2.1 a j
  rw [if_neg h]
theorem nT_S {n a : Nat} {G : Nat → Int32} (h : a ≠ sN (mS M)) : sTy (mS (nT M n G)) a = sTy (mS M) a ∧ sLen (mS (nT M n G)) a = sLen (mS M) a :=
  ⟨show (if a = sN (mS M) then 100 else (mS M).1 a) = (mS M).1 a from if_neg h, show (if a = sN (mS M) then n else (mS M).2.1 a) = (mS M).2.1 a from if_neg h⟩
theorem nT_tr {n : Nat} {G : Nat → Int32} : TrQ tr M (nT M n G) := by
  refine ⟨Nat.le_succ _, fun a ha => ?_⟩
  have q : a ≠ sN (mS M) := by omega
  exact ⟨(nT_S q).1, (nT_S q).2, fun _ _ _ => rfl, fun _ _ _ => rfl, fun _ => nT_A q, nT_B q⟩
theorem nT_ok {n : Nat} {G : Nat → Int32} (h : 300 ≤ sN (mS M)) : okA (nT M n G) 100 (sN (mS M)) ∧ sLen (mS (nT M n G)) (sN (mS M)) = n :=
  ⟨⟨h, Nat.lt_succ_self _, show (if sN (mS M) = sN (mS M) then 100 else (mS M).1 _) = 100 from if_pos rfl⟩, show (if sN (mS M) = sN (mS M) then n else (mS M).2.1 _) = n from if_pos rfl⟩
theorem nT_100 {n : Nat} {G : Nat → Int32} : Nw100 M (nT M n G) := fun t a o => by
  by_cases q : a = sN (mS M)
  · right
    have := o.2.2
    rw [q] at this
    exact this.symm.trans (show (if sN (mS M) = sN (mS M) then 100 else (mS M).1 _) = 100 from if_pos rfl)
  · left
    have : a < sN (mS M) + 1 := o.2.1
    omega
/-- Arrays.copyOf -/
theorem x_copyOf (fu : Nat) {a n : Nat} (o : okA M 100 a) (hl : sLen (mS M) a ≤ 65540) (hn : n ≤ 65540) (r1 : sN (mS M) + 1 ≤ 600300) (r2 : sSl (mS M) + n ≤ 7302250) : ∃ G, fJ7_copyOf_9075b fu (some a) (nI n) M = some (some (sN (mS M)), nT M n G) ∧ ∀ j, j < n → j < sLen (mS M) a → G j = mA M a j := by
  have h3 := o.1
  have h4 := o.2.1
  unfold fJ7_copyOf_9075b
  by_cases q : n = sLen (mS M) a
  · refine ⟨mA M a, ?_, fun _ _ _ => rfl⟩
    have e : nC M a = nT M n (mA M a) := by
      subst q
      unfold nC nT wA nA
      congr 1
      congr 1
      congr 1
      funext b j
      by_cases z : b = sN (mS M)
      · rw [if_pos z, if_pos z]; rfl
      · rw [if_neg z, if_neg z]
        exact (if_neg z).symm
    have e2 : clnB M (some a) = some (sN (mS M), nT M n (mA M a)) := by
      rw [← e]
      exact if_pos ⟨o, r1, by rw [← q]; exact r2⟩
    rw [aL_ok o rfl, ob_some, if_pos (by rw [q]), e2, b2_some, rc_ok (nT_ok (by omega)).1, ob_some]
  · refine ⟨fun j => if j < min (sLen (mS M) a) n then mA M a j else 0, ?_, fun j h1 h2 => if_pos (by omega)⟩
    have o1 : okA (nA M 100 n) 100 a := ⟨o.1, Nat.lt_succ_of_lt o.2.1, (nT_S (M := M) (n := n) (G := fun _ => 0) (by omega)).1.trans o.2.2⟩
    have l1 : sLen (mS (nA M 100 n)) a = sLen (mS M) a := (nT_S (M := M) (n := n) (G := fun _ => 0) (by omega)).2
    obtain ⟨o2, l2⟩ := nT_ok (M := M) (n := n) (G := fun _ => 0) (by omega)
    have o2 : okA (nA M 100 n) 100 (sN (mS M)) := o2
    have l2 : sLen (mS (nA M 100 n)) (sN (mS M)) = n := l2
    have mn : jmin (nI (sLen (mS M) a)) (nI n) = nI (min (sLen (mS M) a) n) := jmin_nI (by omega) (by omega)
    rw [aL_ok o rfl, ob_some, if_neg (fun e => q ((nI_eq (by omega) (by omega)).mp e)), mkA_at 100 (by omega) r1 r2, b2_some, aL_ok o1 l1, ob_some, mn, show (0 : Int32) = nI 0 from rfl, cpB_ok o1 o2 (by omega) (by rw [l1]; omega) (by rw [l2]; omega) (by rw [l1]; omega) (by rw [l2]; omega), ob_some]
    congr 2
    unfold nT wA sC
    congr 1
    congr 1
    congr 1
    funext b j
    show (if b = sN (mS M) ∧ 0 ≤ j ∧ j < 0 + min (sLen (mS M) a) n then (if a = sN (mS M) then 0 else M.2.2.1 a (0 + (j - 0))) else if b = sN (mS M) then 0 else M.2.2.1 b j) = if b = sN (mS M) then (if j < min (sLen (mS M) a) n then M.2.2.1 a j else 0) else if b = sN (mS M) then 0 else M.2.2.1 b j
    by_cases z : b = sN (mS M)
    · rw [if_pos z]
      by_cases z2 : j < min (sLen (mS M) a) n
      · rw [if_pos ⟨z, by omega, by omega⟩, if_pos z, if_pos z2, if_neg (by omega), Nat.zero_add, Nat.sub_zero]
      · rw [if_neg (fun e => z2 (by omega)), if_pos z, if_neg z2]
    · rw [if_neg (fun e => z e.1), if_neg z, if_neg z]
end Cell
