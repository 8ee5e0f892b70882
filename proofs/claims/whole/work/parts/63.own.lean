/-! ===== part 63: whose cells are written: the class writes its own, the reference its own ===== -/
def RM (a : Nat) : Prop := 323 ≤ a ∧ a < 450
def RX (a : Nat) : Prop := (300 ≤ a ∧ a < 323) ∨ 450 ≤ a
def TM (c : Nat) : Prop := 12 ≤ c ∧ c ≤ 16
def TX (c : Nat) : Prop := c ≤ 11
/-- a reference into a region, or none -/
def inR (R : Nat → Prop) (o : Option Nat) : Prop := ∀ b, o = some b → R b
/-- a byte; rows of bytes hold bytes -/
def isB (v : Int32) : Prop := Int8.toInt32 (Int32.toInt8 v) = v
def By (M : Mm) : Prop := ∀ a i, sTy (mS M) a = 100 → isB (mA M a i)
theorem isB_w (v : Int32) : isB (Int8.toInt32 (Int32.toInt8 v)) := by
  unfold isB
  simp
theorem isB_0 : isB 0 := rfl
/-- objects of kinds T lie in R, and from R references lead into R alone -/
def Bd (R T : Nat → Prop) (M : Mm) : Prop :=
  (∀ a c, okA M c a → T c → R a) ∧ (∀ f a b, R a → mG M f a = some b → R b) ∧ (∀ a i b, R a → mB M a i = some b → R b) ∧ 450 ≤ sN (mS M) ∧ By M
/-- what lies outside R is as it was; kinds and lengths stay; cells are only added -/
def Sm (R : Nat → Prop) (M M' : Mm) : Prop :=
  (∀ f a, ¬ R a → mF M' f a = mF M f a) ∧ (∀ f a, ¬ R a → mG M' f a = mG M f a) ∧ (∀ a i, ¬ R a → mA M' a i = mA M a i) ∧ (∀ a i, ¬ R a → mB M' a i = mB M a i) ∧
  (∀ a, a < sN (mS M) → sTy (mS M') a = sTy (mS M) a ∧ sLen (mS M') a = sLen (mS M) a) ∧ sN (mS M) ≤ sN (mS M') ∧ (¬ R 450 → mS M' = mS M) ∧ (∀ a, sN (mS M) ≤ a → a < sN (mS M') → ¬ (12 ≤ sTy (mS M') a ∧ sTy (mS M') a ≤ 16))
section Own
variable {R T : Nat → Prop} {M M1 M2 M' : Mm}
theorem Sm.rf : Sm R M M := ⟨fun _ _ _ => rfl, fun _ _ _ => rfl, fun _ _ _ => rfl, fun _ _ _ => rfl, fun _ _ => ⟨rfl, rfl⟩, Nat.le_refl _, fun _ => rfl, fun a h1 h2 => absurd h2 (Nat.not_lt.mpr h1)⟩
theorem Sm.tr (h : Sm R M M1) (g : Sm R M1 M2) : Sm R M M2 := by
  obtain ⟨a1, a2, a3, a4, a5, a6, a7, a8⟩ := h
  obtain ⟨b1, b2, b3, b4, b5, b6, b7, b8⟩ := g
  refine ⟨fun f a n => (b1 f a n).trans (a1 f a n), fun f a n => (b2 f a n).trans (a2 f a n), fun a i n => (b3 a i n).trans (a3 a i n), fun a i n => (b4 a i n).trans (a4 a i n), fun a n => ⟨(b5 a (by omega)).1.trans (a5 a n).1, (b5 a (by omega)).2.trans (a5 a n).2⟩, by omega, fun n => (b7 n).trans (a7 n), fun a h1 h2 => ?_⟩
  by_cases q : a < sN (mS M1)
  · rw [(b5 a q).1]
    exact a8 a h1 q
  · exact b8 a (by omega) h2
theorem inR_none : inR R none := fun b h => by cases h
theorem inR_some {a : Nat} (h : R a) : inR R (some a) := fun b e => by cases e; exact h
theorem gR_in {c f : Nat} {o v : Option Nat} (hB : Bd R T M) (hT : T c) (h : gR M c f o = some v) : inR R v := by
  obtain ⟨a, rfl, ha, rfl⟩ := gR_some h
  exact fun b hb => hB.2.1 f a b (hB.1 a c ha hT) hb
theorem gB_in {t : Nat} {o v : Option Nat} {i : Int32} (hB : Bd R T M) (ho : inR R o) (h : gB M t o i = some v) : inR R v := by
  obtain ⟨a, rfl, ha, rfl⟩ := gB_some h
  exact fun b hb => hB.2.2.1 a _ b (ho a rfl) hb
theorem rc_in {c b : Nat} {o : Option Nat} (hB : Bd R T M) (hT : T c) (h : rc M c o = some b) : R b := by
  obtain ⟨rfl, ha⟩ := rc_some h
  exact hB.1 b c ha hT
theorem sF_own {f a : Nat} {v : Int32} (hB : Bd R T M) (ha : R a) : Sm R M (sF M f a v) ∧ Bd R T (sF M f a v) := by
  refine ⟨⟨fun g b n => ?_, fun _ _ _ => rfl, fun _ _ _ => rfl, fun _ _ _ => rfl, fun _ _ => ⟨rfl, rfl⟩, Nat.le_refl _, fun _ => rfl, fun a h1 h2 => absurd h2 (Nat.not_lt.mpr h1)⟩, hB⟩
  rw [mF_sF, if_neg]
  rintro ⟨-, rfl⟩
  exact n ha
theorem pF_own {c f : Nat} {o : Option Nat} {v : Int32} (hB : Bd R T M) (hT : T c) (h : pF M c f o v = some M') : Sm R M M' ∧ Bd R T M' := by
  obtain ⟨a, rfl, ha, rfl⟩ := pF_some h
  exact sF_own hB (hB.1 a c ha hT)
theorem pZ_own {c f : Nat} {o : Option Nat} {v : Int32} (hB : Bd R T M) (hT : T c) (h : pZ M c f o v = some M') : Sm R M M' ∧ Bd R T M' := by
  unfold pZ at h
  by_cases hv : v = 0 ∨ v = 1
  · rw [if_pos hv] at h
    exact pF_own hB hT h
  · rw [if_neg hv] at h
    cases h
theorem pG_own {c f : Nat} {o v : Option Nat} (hB : Bd R T M) (hT : T c) (hv : inR R v) (h : pG M c f o v = some M') : Sm R M M' ∧ Bd R T M' := by
  obtain ⟨a, rfl, ha, rfl⟩ := pG_some h
  have hR := hB.1 a c ha hT
  refine ⟨⟨fun _ _ _ => rfl, fun g b n => ?_, fun _ _ _ => rfl, fun _ _ _ => rfl, fun _ _ => ⟨rfl, rfl⟩, Nat.le_refl _, fun _ => rfl, fun a h1 h2 => absurd h2 (Nat.not_lt.mpr h1)⟩, hB.1, fun g b d hb hd => ?_, hB.2.2⟩
  · rw [mG_sG, if_neg]
    rintro ⟨-, rfl⟩
    exact n hR
  · rw [mG_sG] at hd
    by_cases e : g = f ∧ b = a
    · rw [if_pos e] at hd
      exact hv d hd
    · rw [if_neg e] at hd
      exact hB.2.1 g b d hb hd
theorem sA_own {a i : Nat} {v : Int32} (hB : Bd R T M) (ha : R a) (hv : sTy (mS M) a = 100 → isB v) : Sm R M (sA M a i v) ∧ Bd R T (sA M a i v) := by
  refine ⟨⟨fun _ _ _ => rfl, fun _ _ _ => rfl, fun b j n => ?_, fun _ _ _ => rfl, fun _ _ => ⟨rfl, rfl⟩, Nat.le_refl _, fun _ => rfl, fun a h1 h2 => absurd h2 (Nat.not_lt.mpr h1)⟩, hB.1, hB.2.1, hB.2.2.1, hB.2.2.2.1, fun b j hb => ?_⟩
  · rw [mA_sA, if_neg]
    rintro ⟨rfl, -⟩
    exact n ha
  · rw [mA_sA]
    by_cases e : b = a ∧ j = i
    · rw [if_pos e]; exact hv (e.1 ▸ hb)
    · rw [if_neg e]; exact hB.2.2.2.2 b j hb
theorem pA_own {t : Nat} {o : Option Nat} {i v : Int32} (hB : Bd R T M) (ho : inR R o) (ht : t ≠ 100) (h : pA M t o i v = some M') : Sm R M M' ∧ Bd R T M' := by
  obtain ⟨a, rfl, ha, rfl⟩ := pA_some h
  exact sA_own hB (ho a rfl) (fun e => absurd (ha.1.2.2.symm.trans e) ht)
theorem pA_ownB {o : Option Nat} {i v : Int32} (hB : Bd R T M) (ho : inR R o) (h : pA M 100 o i (Int8.toInt32 (Int32.toInt8 v)) = some M') : Sm R M M' ∧ Bd R T M' := by
  obtain ⟨a, rfl, ha, rfl⟩ := pA_some h
  exact sA_own hB (ho a rfl) (fun _ => isB_w v)
theorem pB_own {c : Nat} {o v : Option Nat} {i : Int32} (hB : Bd R T M) (ho : inR R o) (hv : inR R v) (h : pB M c o i v = some M') : Sm R M M' ∧ Bd R T M' := by
  obtain ⟨a, rfl, ha, -, rfl⟩ := pB_some h
  have hR := ho a rfl
  refine ⟨⟨fun _ _ _ => rfl, fun _ _ _ => rfl, fun _ _ _ => rfl, fun b j n => ?_, fun _ _ => ⟨rfl, rfl⟩, Nat.le_refl _, fun _ => rfl, fun a h1 h2 => absurd h2 (Nat.not_lt.mpr h1)⟩, hB.1, hB.2.1, fun b j d hb hd => ?_, hB.2.2.2⟩
  · rw [mB_sB, if_neg]
    rintro ⟨rfl, -⟩
    exact n hR
  · rw [mB_sB] at hd
    by_cases e : b = a ∧ j = i.toNatClampNeg
    · rw [if_pos e] at hd
      exact hv d hd
    · rw [if_neg e] at hd
      exact hB.2.2.1 b j d hb hd
theorem cpB_own {src dst : Option Nat} {sp dp n : Int32} (hB : Bd R T M) (ho : inR R dst) (h : cpB M src sp dst dp n = some M') : Sm R M M' ∧ Bd R T M' := by
  obtain ⟨a, b, rfl, rfl, ha, -, -, -, -, -, -, -, rfl⟩ := cpB_some h
  refine ⟨⟨fun _ _ _ => rfl, fun _ _ _ => rfl, fun c j n => ?_, fun _ _ _ => rfl, fun _ _ => ⟨rfl, rfl⟩, Nat.le_refl _, fun _ => rfl, fun a h1 h2 => absurd h2 (Nat.not_lt.mpr h1)⟩, hB.1, hB.2.1, hB.2.2.1, hB.2.2.2.1, fun c j hc => ?_⟩
  · show (if c = b ∧ _ then _ else _) = _
    rw [if_neg]
    · rfl
    · rintro ⟨rfl, -⟩
      exact n (ho _ rfl)
  · show isB (if c = b ∧ _ then _ else _)
    split
    · exact hB.2.2.2.2 a _ ha.2.2
    · exact hB.2.2.2.2 c j hc
end Own
section OwnX
variable {M M' : Mm}
theorem new_own {t len k : Nat} (hB : Bd RX TX M) (ht : ¬ (12 ≤ t ∧ t ≤ 16)) (hS : mS M' = nSh (mS M) t len k) (hF : ∀ f a, a ≠ sN (mS M) → mF M' f a = mF M f a) (hG : ∀ f a, a ≠ sN (mS M) → mG M' f a = mG M f a) (hA : ∀ a i, a ≠ sN (mS M) → mA M' a i = mA M a i) (hBB : ∀ a i, a ≠ sN (mS M) → mB M' a i = mB M a i)
    (hG0 : ∀ f, mG M' f (sN (mS M)) = none ∨ mG M' f (sN (mS M)) = mG M f (sN (mS M))) (hB0 : ∀ i, mB M' (sN (mS M)) i = none ∨ mB M' (sN (mS M)) i = mB M (sN (mS M)) i) (hY : ∀ i, t = 100 → isB (mA M' (sN (mS M)) i)) : Sm RX M M' ∧ Bd RX TX M' ∧ RX (sN (mS M)) := by
  obtain ⟨b1, b2, b3, b4, b5⟩ := hB
  have hR : RX (sN (mS M)) := Or.inr b4
  have eN : sN (mS M') = sN (mS M) + 1 := by rw [hS]; rfl
  have eT : ∀ a, sTy (mS M') a = if a = sN (mS M) then t else sTy (mS M) a := fun a => by rw [hS]; rfl
  have eL : ∀ a, sLen (mS M') a = if a = sN (mS M) then len else sLen (mS M) a := fun a => by rw [hS]; rfl
  refine ⟨⟨fun f a n => hF f a (fun e => n (e ▸ hR)), fun f a n => hG f a (fun e => n (e ▸ hR)), fun a i n => hA a i (fun e => n (e ▸ hR)), fun a i n => hBB a i (fun e => n (e ▸ hR)), fun a h => ⟨by rw [eT, if_neg (by omega)], by rw [eL, if_neg (by omega)]⟩, by omega, fun n => absurd (Or.inr (Nat.le_refl 450)) n, fun a h1 h2 => by rw [eT, if_pos (by omega)]; exact ht⟩, ⟨fun a c ho hT => ?_, fun f a b ha hb => ?_, fun a i b ha hb => ?_, by omega, fun a i ha => ?_⟩, hR⟩
  · by_cases e : a = sN (mS M)
    · rw [e]; exact hR
    · obtain ⟨h1, h2, h3⟩ := ho
      rw [eT, if_neg e] at h3
      exact b1 a c ⟨h1, by omega, h3⟩ hT
  · by_cases e : a = sN (mS M)
    · subst e
      rcases hG0 f with h | h
      · rw [h] at hb; cases hb
      · rw [h] at hb; exact b2 f _ b ha hb
    · rw [hG f a e] at hb; exact b2 f a b ha hb
  · by_cases e : a = sN (mS M)
    · subst e
      rcases hB0 i with h | h
      · rw [h] at hb; cases hb
      · rw [h] at hb; exact b3 _ i b ha hb
    · rw [hBB a i e] at hb; exact b3 a i b ha hb
  · by_cases e : a = sN (mS M)
    · subst e
      exact hY i (by rw [eT, if_pos rfl] at ha; exact ha)
    · rw [eT, if_neg e] at ha
      rw [hA a i e]; exact b5 a i ha
theorem mkO_own {c a : Nat} (hB : Bd RX TX M) (hc : c < 12) (h : mkO M c = some (a, M')) : Sm RX M M' ∧ Bd RX TX M' ∧ RX a := by
  obtain ⟨-, h2⟩ := ite_some h
  obtain ⟨rfl, rfl⟩ := Prod.mk.inj h2
  refine new_own (t := c) (len := 0) (k := clN c) hB (by omega) rfl (fun f a n => ?_) (fun f a n => ?_) (fun _ _ _ => rfl) (fun _ _ _ => rfl) (fun f => Or.inl ?_) (fun _ => Or.inr rfl) (fun i e => by omega)
  · show (if a = sN (mS M) then _ else _) = _
    rw [if_neg n]; rfl
  · show (if a = sN (mS M) then _ else _) = _
    rw [if_neg n]; rfl
  · show (if sN (mS M) = sN (mS M) then _ else _) = _
    rw [if_pos rfl]
theorem mkA_own {t a : Nat} {n : Int32} (hB : Bd RX TX M) (ht : ¬ (12 ≤ t ∧ t ≤ 16)) (h : mkA M t n = some (a, M')) : Sm RX M M' ∧ Bd RX TX M' ∧ RX a := by
  obtain ⟨-, rfl, rfl⟩ := mkA_some h
  refine new_own (t := t) (len := n.toNatClampNeg) (k := n.toNatClampNeg) hB ht rfl (fun _ _ _ => rfl) (fun _ _ _ => rfl) (fun a i n => ?_) (fun a i n => ?_) (fun _ => Or.inr rfl) (fun i => Or.inl ?_) (fun i e => ?_)
  · show (if a = sN (mS M) then _ else _) = _
    rw [if_neg n]; rfl
  · show (if a = sN (mS M) then _ else _) = _
    rw [if_neg n]; rfl
  · show (if sN (mS M) = sN (mS M) then _ else _) = _
    rw [if_pos rfl]
  · show isB (if sN (mS M) = sN (mS M) then _ else _)
    rw [if_pos rfl]; exact isB_0
theorem clnB_own {src : Option Nat} {a : Nat} (hB : Bd RX TX M) (h : clnB M src = some (a, M')) : Sm RX M M' ∧ Bd RX TX M' ∧ RX a := by
  obtain ⟨q, rfl, hq, -, -, rfl, rfl⟩ := clnB_some h
  refine new_own (t := 100) (len := sLen (mS M) q) (k := sLen (mS M) q) hB (by decide) rfl (fun _ _ _ => rfl) (fun _ _ _ => rfl) (fun a i n => ?_) (fun a i n => ?_) (fun _ => Or.inr rfl) (fun i => Or.inl ?_) (fun i e => ?_)
  · show (if a = sN (mS M) then _ else _) = _
    rw [if_neg n]; rfl
  · show (if a = sN (mS M) then _ else _) = _
    rw [if_neg n]; rfl
  · show (if sN (mS M) = sN (mS M) then _ else _) = _
    rw [if_pos rfl]
  · show isB (if sN (mS M) = sN (mS M) then _ else _)
    rw [if_pos rfl]; exact hB.2.2.2.2 q i hq.2.2
end OwnX
