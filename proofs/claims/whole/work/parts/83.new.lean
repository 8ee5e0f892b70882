/-! ===== part 83: what may have changed; new cells ===== -/
/-- of the reference: fields in P and rows in Q may be other than they were -/
def FA (P : Nat → Nat → Prop) (Q : Nat → Prop) (A A' : Mm) : Prop := mS A' = mS A ∧ mG A' = mG A ∧ mB A' = mB A ∧ (∀ f a, ¬ P f a → mF A' f a = mF A f a) ∧ (∀ a, ¬ Q a → mA A' a = mA A a)
/-- of the class, of the cells that were there: P looks at the cell's kind too, Q at the kinds of the two cells before a row -/
def FM (P : Nat → Nat → Nat → Prop) (G : Nat → Nat → Prop) (B : Nat → Prop) (Q : Nat → Nat → Nat → Nat → Prop) (M M' : Mm) : Prop := sN (mS M) ≤ sN (mS M') ∧ (∀ a, a < sN (mS M) → sTy (mS M') a = sTy (mS M) a ∧ sLen (mS M') a = sLen (mS M) a) ∧ (∀ f a, a < sN (mS M) → ¬ G f a → mG M' f a = mG M f a) ∧
  (∀ a, a < sN (mS M) → ¬ B a → mB M' a = mB M a) ∧ (∀ f a, a < sN (mS M) → ¬ P (sTy (mS M) a) f a → mF M' f a = mF M f a) ∧ (∀ a, a < sN (mS M) → ¬ Q (sTy (mS M) (a - 2)) (sTy (mS M) (a - 1)) (sTy (mS M) a) a → mA M' a = mA M a)
section Fr2
variable {A A' A'' M M' M'' : Mm} {P P' : Nat → Nat → Prop} {Q Q' : Nat → Prop} {PM PM' : Nat → Nat → Nat → Prop} {G G' : Nat → Nat → Prop} {B B' : Nat → Prop} {QM QM' : Nat → Nat → Nat → Nat → Prop}
theorem FA.rf : FA P Q A A := ⟨rfl, rfl, rfl, fun _ _ _ => rfl, fun _ _ => rfl⟩
theorem FA.tr (h : FA P Q A A') (g : FA P Q A' A'') : FA P Q A A'' := by
  obtain ⟨a1, a2, a3, a4, a5⟩ := h
  obtain ⟨b1, b2, b3, b4, b5⟩ := g
  exact ⟨b1.trans a1, b2.trans a2, b3.trans a3, fun f a h => (b4 f a h).trans (a4 f a h), fun a h => (b5 a h).trans (a5 a h)⟩
theorem FA.mono (hP : ∀ f a, P f a → P' f a) (hQ : ∀ a, Q a → Q' a) (h : FA P Q A A') : FA P' Q' A A' := by
  obtain ⟨a1, a2, a3, a4, a5⟩ := h
  exact ⟨a1, a2, a3, fun f a h => a4 f a (fun e => h (hP f a e)), fun a h => a5 a (fun e => h (hQ a e))⟩
theorem FM.rf : FM PM G B QM M M := ⟨Nat.le_refl _, fun _ _ => ⟨rfl, rfl⟩, fun _ _ _ _ => rfl, fun _ _ _ => rfl, fun _ _ _ _ => rfl, fun _ _ _ => rfl⟩
theorem FM.tr (h : FM PM G B QM M M') (g : FM PM G B QM M' M'') : FM PM G B QM M M'' := by
  obtain ⟨a1, a2, a3, a4, a5, a6⟩ := h
  obtain ⟨b1, b2, b3, b4, b5, b6⟩ := g
  refine ⟨by omega, fun a h => ⟨(b2 a (by omega)).1.trans (a2 a h).1, (b2 a (by omega)).2.trans (a2 a h).2⟩, fun f a h n => (b3 f a (by omega) n).trans (a3 f a h n), fun a h n => (b4 a (by omega) n).trans (a4 a h n), fun f a h n => (b5 f a (by omega) (by rw [(a2 a h).1]; exact n)).trans (a5 f a h n), fun a h n => (b6 a (by omega) (by rw [(a2 a h).1, (a2 (a - 1) (by omega)).1, (a2 (a - 2) (by omega)).1]; exact n)).trans (a6 a h n)⟩
theorem FM.mono (hP : ∀ t f a, PM t f a → PM' t f a) (hG : ∀ f a, G f a → G' f a) (hB : ∀ a, B a → B' a) (hQ : ∀ u t s a, QM u t s a → QM' u t s a) (h : FM PM G B QM M M') : FM PM' G' B' QM' M M' := by
  obtain ⟨a1, a2, a3, a4, a5, a6⟩ := h
  exact ⟨a1, a2, fun f a h n => a3 f a h (fun e => n (hG f a e)), fun a h n => a4 a h (fun e => n (hB a e)), fun f a h n => a5 f a h (fun e => n (hP _ f a e)), fun a h n => a6 a h (fun e => n (hQ _ _ _ a e))⟩
theorem FM.ok (h : FM PM G B QM M M') {t a : Nat} (ha : okA M t a) : okA M' t a := okA_mono h.1 h.2.1 ha
end Fr2
def PL (f a : Nat) : Prop := (896 ≤ f ∧ f < 1024) ∨ f = 1047 ∨ f = 1048 ∨ f = 1049
def QL (a : Nat) : Prop := (331 ≤ a ∧ a ≤ 334) ∨ (422 ≤ a ∧ a < 438)
def PLx (t f a : Nat) : Prop := t = 6 ∨ (256 ≤ f ∧ f < 320) ∨ (640 ≤ f ∧ f < 704)
def QLx (u t s a : Nat) : Prop := t = 6 ∨ (308 ≤ a ∧ a ≤ 312)
def BLx (a : Nat) : Prop := a = 306 ∨ a = 313
def noG (f a : Nat) : Prop := False
theorem FrA.gen {A A' : Mm} (h : FrA A A') : FA PL QL A A' := by
  obtain ⟨a1, a2, a3, a4, a5, a6, -⟩ := h
  refine ⟨a1, a2, a3, fun f a n => ?_, fun a n => a6 a (by unfold QL at n; omega) (by unfold QL at n; omega)⟩
  unfold PL at n
  by_cases c : f < 896
  · exact a4 f a c
  · exact a5 f a (by omega) (by omega) (by omega) (by omega)
theorem FrM.gen {M M' : Mm} (h : FrM M M') : FM PLx noG BLx QLx M M' := by
  obtain ⟨b1, b2, b3, b4, b5, b6⟩ := h
  refine ⟨b1, b2, fun f a h _ => b3 f a h, fun a h n => b4 a h (fun e => n (Or.inl e)) (fun e => n (Or.inr e)), fun f a h n => ?_, fun a h n => ?_⟩
  · unfold PLx at n
    exact b5 f a h (fun e => n (Or.inl e)) (by omega) (by omega)
  · unfold QLx at n
    exact b6 a h (by omega) (by omega) (fun e => n (Or.inl e))
/-- the old cells are as they were -/
def Ext (n : Nat) (M M1 : Mm) : Prop := n ≤ sN (mS M1) ∧ ∀ a, a < n → sTy (mS M1) a = sTy (mS M) a ∧ sLen (mS M1) a = sLen (mS M) a ∧ (∀ f, mF M1 f a = mF M f a) ∧ (∀ f, mG M1 f a = mG M f a) ∧ mA M1 a = mA M a ∧ mB M1 a = mB M a
section Exts
variable {M M1 : Mm} {n : Nat}
theorem Ext.rf (h : n ≤ sN (mS M)) : Ext n M M := ⟨h, fun _ _ => ⟨rfl, rfl, fun _ => rfl, fun _ => rfl, rfl, rfl⟩⟩
theorem Ext.o (h : Ext n M M1) (t k : Nat) : Ext n M (nO M1 t k) := by
  obtain ⟨h1, h2⟩ := h
  refine ⟨by show n ≤ sN (mS M1) + 1; omega, fun a ha => ?_⟩
  obtain ⟨q1, q2, q3, q4, q5, q6⟩ := h2 a ha
  have hne : ¬ a = sN (mS M1) := by omega
  refine ⟨?_, ?_, fun f => ?_, fun f => ?_, q5, q6⟩
  · show (if a = sN (mS M1) then t else sTy (mS M1) a) = _
    rw [if_neg hne]; exact q1
  · show (if a = sN (mS M1) then 0 else sLen (mS M1) a) = _
    rw [if_neg hne]; exact q2
  · show (if a = sN (mS M1) then 0 else mF M1 f a) = _
    rw [if_neg hne]; exact q3 f
  · show (if a = sN (mS M1) then none else mG M1 f a) = _
    rw [if_neg hne]; exact q4 f
theorem Ext.a (h : Ext n M M1) (t k : Nat) : Ext n M (nA M1 t k) := by
  obtain ⟨h1, h2⟩ := h
  refine ⟨by show n ≤ sN (mS M1) + 1; omega, fun a ha => ?_⟩
  obtain ⟨q1, q2, q3, q4, q5, q6⟩ := h2 a ha
  have hne : ¬ a = sN (mS M1) := by omega
  refine ⟨?_, ?_, q3, q4, ?_, ?_⟩
  · show (if a = sN (mS M1) then t else sTy (mS M1) a) = _
    rw [if_neg hne]; exact q1
  · show (if a = sN (mS M1) then k else sLen (mS M1) a) = _
    rw [if_neg hne]; exact q2
  · rw [← q5]
    funext j
    show (if a = sN (mS M1) then 0 else mA M1 a j) = _
    rw [if_neg hne]
  · rw [← q6]
    funext j
    show (if a = sN (mS M1) then none else mB M1 a j) = _
    rw [if_neg hne]
theorem Ext.g (h : Ext n M M1) {f c : Nat} (v : Option Nat) (hc : n ≤ c) : Ext n M (sG M1 f c v) := by
  obtain ⟨h1, h2⟩ := h
  refine ⟨h1, fun a ha => ?_⟩
  obtain ⟨q1, q2, q3, q4, q5, q6⟩ := h2 a ha
  refine ⟨q1, q2, q3, fun f' => ?_, q5, q6⟩
  rw [mG_sG, if_neg (by omega)]; exact q4 f'
end Exts
/-- a new datagram, a new connection -/
def nDg (M : Mm) : Mm := sG (nA (sG (nA (nO M 2 9) 100 4096) 128 (sN (mS M)) (some (sN (mS M) + 1))) 101 128) 136 (sN (mS M)) (some (sN (mS M) + 2))
def nCn (M : Mm) : Mm := sG (nO (sG (sG (nA (sG (nA (nO (sG (nA (nO M 1 20) 100 256) 79 (sN (mS M)) (some (sN (mS M) + 1))) 0 10) 100 4096) 5 (sN (mS M) + 2) (some (sN (mS M) + 3))) 101 128) 6 (sN (mS M) + 2) (some (sN (mS M) + 4))) 80 (sN (mS M)) (some (sN (mS M) + 2))) 5 14) 81 (sN (mS M)) (some (sN (mS M) + 5))
section New
variable {M : Mm}
theorem nDg_ext : Ext (sN (mS M)) M (nDg M) := ((((Ext.rf (Nat.le_refl _)).o 2 9).a 100 4096).g _ (Nat.le_refl _) |>.a 101 128).g _ (Nat.le_refl _)
theorem nCn_ext : Ext (sN (mS M)) M (nCn M) := (((((((((Ext.rf (Nat.le_refl _)).o 1 20).a 100 256).g _ (Nat.le_refl _) |>.o 0 10).a 100 4096).g _ (by omega)).a 101 128).g _ (by omega)).g _ (Nat.le_refl _) |>.o 5 14).g _ (Nat.le_refl _)
theorem nDg_N : sN (mS (nDg M)) = sN (mS M) + 3 := rfl
theorem nDg_S : sSl (mS (nDg M)) = sSl (mS M) + 4233 := rfl
theorem nCn_N : sN (mS (nCn M)) = sN (mS M) + 6 := rfl
theorem nCn_S : sSl (mS (nCn M)) = sSl (mS M) + 4524 := rfl
theorem nDg_T : sTy (mS (nDg M)) (sN (mS M)) = 2 ∧ sTy (mS (nDg M)) (sN (mS M) + 1) = 100 ∧ sTy (mS (nDg M)) (sN (mS M) + 2) = 101 ∧ sLen (mS (nDg M)) (sN (mS M) + 1) = 4096 ∧ sLen (mS (nDg M)) (sN (mS M) + 2) = 128 := by
  refine ⟨?_, ?_, ?_, ?_, ?_⟩
  · show (if sN (mS M) = sN (mS M) + 1 + 1 then 101 else if sN (mS M) = sN (mS M) + 1 then 100 else if sN (mS M) = sN (mS M) then 2 else _) = _
    rw [if_neg (by omega), if_neg (by omega), if_pos rfl]
  · show (if sN (mS M) + 1 = sN (mS M) + 1 + 1 then 101 else if sN (mS M) + 1 = sN (mS M) + 1 then 100 else _) = _
    rw [if_neg (by omega), if_pos rfl]
  · show (if sN (mS M) + 2 = sN (mS M) + 1 + 1 then 101 else _) = _
    rw [if_pos rfl]
  · show (if sN (mS M) + 1 = sN (mS M) + 1 + 1 then 128 else if sN (mS M) + 1 = sN (mS M) + 1 then 4096 else _) = _
    rw [if_neg (by omega), if_pos rfl]
  · show (if sN (mS M) + 2 = sN (mS M) + 1 + 1 then 128 else _) = _
    rw [if_pos rfl]
theorem nDg_G : mG (nDg M) 128 (sN (mS M)) = some (sN (mS M) + 1) ∧ mG (nDg M) 136 (sN (mS M)) = some (sN (mS M) + 2) := by
  unfold nDg
  constructor
  · rw [mG_sG, if_neg (by omega)]
    show mG (sG (nA (nO M 2 9) 100 4096) 128 (sN (mS M)) (some (sN (mS M) + 1))) 128 (sN (mS M)) = _
    rw [mG_sG, if_pos ⟨rfl, rfl⟩]
  · rw [mG_sG, if_pos ⟨rfl, rfl⟩]
theorem nCn_T : sTy (mS (nCn M)) (sN (mS M)) = 1 ∧ sTy (mS (nCn M)) (sN (mS M) + 1) = 100 ∧ sTy (mS (nCn M)) (sN (mS M) + 2) = 0 ∧ sTy (mS (nCn M)) (sN (mS M) + 3) = 100 ∧ sTy (mS (nCn M)) (sN (mS M) + 4) = 101 ∧ sTy (mS (nCn M)) (sN (mS M) + 5) = 5 ∧ sLen (mS (nCn M)) (sN (mS M) + 1) = 256 ∧ sLen (mS (nCn M)) (sN (mS M) + 3) = 4096 ∧ sLen (mS (nCn M)) (sN (mS M) + 4) = 128 := by
  have T : ∀ a, sTy (mS (nCn M)) a = (if a = sN (mS M) + 5 then 5 else if a = sN (mS M) + 4 then 101 else if a = sN (mS M) + 3 then 100 else if a = sN (mS M) + 2 then 0 else if a = sN (mS M) + 1 then 100 else if a = sN (mS M) then 1 else sTy (mS M) a) := fun a => rfl
  have L : ∀ a, sLen (mS (nCn M)) a = (if a = sN (mS M) + 5 then 0 else if a = sN (mS M) + 4 then 128 else if a = sN (mS M) + 3 then 4096 else if a = sN (mS M) + 2 then 0 else if a = sN (mS M) + 1 then 256 else if a = sN (mS M) then 0 else sLen (mS M) a) := fun a => rfl
  refine ⟨?_, ?_, ?_, ?_, ?_, ?_, ?_, ?_, ?_⟩
  · rw [T, if_neg (by omega), if_neg (by omega), if_neg (by omega), if_neg (by omega), if_neg (by omega), if_pos rfl]
  · rw [T, if_neg (by omega), if_neg (by omega), if_neg (by omega), if_neg (by omega), if_pos rfl]
  · rw [T, if_neg (by omega), if_neg (by omega), if_neg (by omega), if_pos rfl]
  · rw [T, if_neg (by omega), if_neg (by omega), if_pos rfl]
  · rw [T, if_neg (by omega), if_pos rfl]
  · rw [T, if_pos rfl]
  · rw [L, if_neg (by omega), if_neg (by omega), if_neg (by omega), if_neg (by omega), if_pos rfl]
  · rw [L, if_neg (by omega), if_neg (by omega), if_pos rfl]
  · rw [L, if_neg (by omega), if_pos rfl]
theorem mG_nA (M : Mm) (t k : Nat) : mG (nA M t k) = mG M := rfl
theorem mG_nO (M : Mm) (t k f b : Nat) : mG (nO M t k) f b = if b = sN (mS M) then none else mG M f b := rfl
theorem nCn_G : mG (nCn M) 79 (sN (mS M)) = some (sN (mS M) + 1) ∧ mG (nCn M) 80 (sN (mS M)) = some (sN (mS M) + 2) ∧ mG (nCn M) 81 (sN (mS M)) = some (sN (mS M) + 5) ∧ mG (nCn M) 5 (sN (mS M) + 2) = some (sN (mS M) + 3) ∧ mG (nCn M) 6 (sN (mS M) + 2) = some (sN (mS M) + 4) := by
  unfold nCn
  refine ⟨?_, ?_, ?_, ?_, ?_⟩
  · rw [mG_sG, if_neg (by omega), mG_nO, if_neg (by show ¬ sN (mS M) = sN (mS M) + 5; omega), mG_sG, if_neg (by omega), mG_sG, if_neg (by omega), mG_nA, mG_sG, if_neg (by omega), mG_nA, mG_nO, if_neg (by show ¬ sN (mS M) = sN (mS M) + 2; omega), mG_sG, if_pos ⟨rfl, rfl⟩]
  · rw [mG_sG, if_neg (by omega), mG_nO, if_neg (by show ¬ sN (mS M) = sN (mS M) + 5; omega), mG_sG, if_pos ⟨rfl, rfl⟩]
  · rw [mG_sG, if_pos ⟨rfl, rfl⟩]
  · rw [mG_sG, if_neg (by omega), mG_nO, if_neg (by show ¬ sN (mS M) + 2 = sN (mS M) + 5; omega), mG_sG, if_neg (by omega), mG_sG, if_neg (by omega), mG_nA, mG_sG, if_pos ⟨rfl, rfl⟩]
  · rw [mG_sG, if_neg (by omega), mG_nO, if_neg (by show ¬ sN (mS M) + 2 = sN (mS M) + 5; omega), mG_sG, if_neg (by omega), mG_sG, if_pos ⟨rfl, rfl⟩]
theorem mkO_at (c : Nat) (h1 : sN (mS M) + 1 ≤ 600300) (h2 : sSl (mS M) + clN c ≤ 7302250) : mkO M c = some (sN (mS M), nO M c (clN c)) := by
  unfold mkO
  rw [if_pos ⟨h1, h2⟩]
theorem mkA_at (t : Nat) {k : Nat} (hk : k < 2 ^ 31) (h1 : sN (mS M) + 1 ≤ 600300) (h2 : sSl (mS M) + k ≤ 7302250) : mkA M t (nI k) = some (sN (mS M), nA M t k) := by
  unfold mkA
  rw [nI_clamp hk, if_pos ⟨nI_pos hk, h1, h2⟩]
theorem x_newDg (fu : Nat) (h0 : 300 ≤ sN (mS M)) (h1 : sN (mS M) + 3 ≤ 600300) (h2 : sSl (mS M) + 4233 ≤ 7302250) : ∃ M1, mkO M 2 = some (sN (mS M), M1) ∧ fX2_init fu (sN (mS M)) M1 = some (nDg M) := by
  have e9 : clN 2 = 9 := by decide
  refine ⟨nO M 2 9, ?_, ?_⟩
  · rw [mkO_at 2 (by omega) (by rw [e9]; omega), e9]
  unfold fX2_init
  have t1 : okA (nA (nO M 2 9) 100 4096) 2 (sN (mS M)) := by
    refine ⟨h0, by show sN (mS M) < sN (mS M) + 1 + 1; omega, ?_⟩
    show (if sN (mS M) = sN (mS M) + 1 then 100 else if sN (mS M) = sN (mS M) then 2 else _) = _
    rw [if_neg (by omega), if_pos rfl]
  have a1 : mkA (nO M 2 9) 100 (4096 : Int32) = some (sN (mS M) + 1, nA (nO M 2 9) 100 4096) := mkA_at (M := nO M 2 9) 100 (k := 4096) (by decide) (by show sN (mS M) + 1 + 1 ≤ 600300; omega) (by show sSl (mS M) + 9 + 4096 ≤ 7302250; omega)
  have a2 : mkA (sG (nA (nO M 2 9) 100 4096) 128 (sN (mS M)) (some (sN (mS M) + 1))) 101 (128 : Int32) = some (sN (mS M) + 2, nA (sG (nA (nO M 2 9) 100 4096) 128 (sN (mS M)) (some (sN (mS M) + 1))) 101 128) := mkA_at (M := sG (nA (nO M 2 9) 100 4096) 128 (sN (mS M)) (some (sN (mS M) + 1))) 101 (k := 128) (by decide) (by show sN (mS M) + 1 + 1 + 1 ≤ 600300; omega) (by show sSl (mS M) + 9 + 4096 + 128 ≤ 7302250; omega)
  have t2 : okA (nA (sG (nA (nO M 2 9) 100 4096) 128 (sN (mS M)) (some (sN (mS M) + 1))) 101 128) 2 (sN (mS M)) := by
    refine ⟨h0, by show sN (mS M) < sN (mS M) + 1 + 1 + 1; omega, ?_⟩
    show (if sN (mS M) = sN (mS M) + 1 + 1 then 101 else if sN (mS M) = sN (mS M) + 1 then 100 else if sN (mS M) = sN (mS M) then 2 else _) = _
    rw [if_neg (by omega), if_neg (by omega), if_pos rfl]
  rw [a1, b2_some, pG_ok t1, ob_some, a2, b2_some, pG_ok t2, ob_some]
  rfl
end New
