/-! ===== part 07: rows of the judgement for arrays and for what is made ===== -/
/-- a place in an array of kind t -/
def inA (M : Mm) (t a : Nat) (i : Int32) : Prop := (300 ≤ a ∧ a < sN (mS M) ∧ sTy (mS M) a = t) ∧ ¬ i < 0 ∧ i.toNatClampNeg < sLen (mS M) a
def gA (M : Mm) (t : Nat) (o : Option Nat) (i : Int32) : Option Int32 := match o with
  | none => none
  | some a => if (300 ≤ a ∧ a < sN (mS M) ∧ sTy (mS M) a = t) ∧ ¬ i < 0 ∧ i.toNatClampNeg < sLen (mS M) a then some (mA M a i.toNatClampNeg) else none
def pA (M : Mm) (t : Nat) (o : Option Nat) (i : Int32) (v : Int32) : Option Mm := match o with
  | none => none
  | some a => if (300 ≤ a ∧ a < sN (mS M) ∧ sTy (mS M) a = t) ∧ ¬ i < 0 ∧ i.toNatClampNeg < sLen (mS M) a then some (sA M a i.toNatClampNeg v) else none
def gB (M : Mm) (t : Nat) (o : Option Nat) (i : Int32) : Option (Option Nat) := match o with
  | none => none
  | some a => if (300 ≤ a ∧ a < sN (mS M) ∧ sTy (mS M) a = t) ∧ ¬ i < 0 ∧ i.toNatClampNeg < sLen (mS M) a then some (mB M a i.toNatClampNeg) else none
/-- an object of class c goes into an array of such -/
def pB (M : Mm) (c : Nat) (o : Option Nat) (i : Int32) (v : Option Nat) : Option Mm := match o with
  | none => none
  | some a => if ((300 ≤ a ∧ a < sN (mS M) ∧ sTy (mS M) a = 110 + c) ∧ ¬ i < 0 ∧ i.toNatClampNeg < sLen (mS M) a) ∧ (match v with | none => true | some b => decide (300 ≤ b ∧ b < sN (mS M) ∧ sTy (mS M) b = c)) = true then some (sB M a i.toNatClampNeg v) else none
/-- an array's length -/
def aL (M : Mm) (t : Nat) (o : Option Nat) : Option Int32 := match o with
  | none => none
  | some a => if 300 ≤ a ∧ a < sN (mS M) ∧ sTy (mS M) a = t then some (nI (sLen (mS M) a)) else none
/-- a new object of class c, a new array of kind t -/
def mkO (M : Mm) (c : Nat) : Option (Nat × Mm) := if sN (mS M) + 1 ≤ 600300 ∧ sSl (mS M) + clN c ≤ 7302250 then some (sN (mS M), nO M c (clN c)) else none
def mkA (M : Mm) (t : Nat) (n : Int32) : Option (Nat × Mm) := if ¬ n < 0 ∧ sN (mS M) + 1 ≤ 600300 ∧ sSl (mS M) + n.toNatClampNeg ≤ 7302250 then some (sN (mS M), nA M t n.toNatClampNeg) else none
section Rows7
variable {x : GX} {cc : ByteArray} {own : String} {rt : Option FieldType} {fr lc n0 sl0 pc : Nat} {M : Mm} {L : List (Nat × PV)} {st : List PV}
theorem ite_some {c : Prop} [Decidable c] {α : Type} {a v : α} (h : (if c then some a else none) = some v) : c ∧ a = v := by
  by_cases hc : c
  · rw [if_pos hc] at h; exact ⟨hc, Option.some.inj h⟩
  · rw [if_neg hc] at h; cases h
theorem gA_some {t : Nat} {o : Option Nat} {i v : Int32} (h : gA M t o i = some v) : ∃ a, o = some a ∧ inA M t a i ∧ v = mA M a i.toNatClampNeg := by
  cases o with
  | none => cases h
  | some a => obtain ⟨h1, h2⟩ := ite_some h; exact ⟨a, rfl, h1, h2.symm⟩
theorem pA_some {M' : Mm} {t : Nat} {o : Option Nat} {i v : Int32} (h : pA M t o i v = some M') : ∃ a, o = some a ∧ inA M t a i ∧ M' = sA M a i.toNatClampNeg v := by
  cases o with
  | none => cases h
  | some a => obtain ⟨h1, h2⟩ := ite_some h; exact ⟨a, rfl, h1, h2.symm⟩
theorem gB_some {t : Nat} {o v : Option Nat} {i : Int32} (h : gB M t o i = some v) : ∃ a, o = some a ∧ inA M t a i ∧ v = mB M a i.toNatClampNeg := by
  cases o with
  | none => cases h
  | some a => obtain ⟨h1, h2⟩ := ite_some h; exact ⟨a, rfl, h1, h2.symm⟩
theorem aL_some {t : Nat} {o : Option Nat} {v : Int32} (h : aL M t o = some v) : ∃ a, o = some a ∧ (300 ≤ a ∧ a < sN (mS M) ∧ sTy (mS M) a = t) ∧ v = nI (sLen (mS M) a) := by
  cases o with
  | none => cases h
  | some a => obtain ⟨h1, h2⟩ := ite_some h; exact ⟨a, rfl, h1, h2.symm⟩
theorem inA_not {t a : Nat} {i : Int32} {cA : ClassId} {f : Nat → Value} (h : inA M t a i) : ¬ (i < 0 ∨ (arrV cA (sLen (mS M) a) f).slots.size ≤ i.toNatClampNeg) := by
  rw [arrV_size]
  obtain ⟨-, h1, h2⟩ := h
  rintro (h3 | h3)
  · exact h1 h3
  · omega
theorem g_baload (X : Cx x cc own rt n0 sl0 fr lc) {o : Option Nat} {i v : Int32} (hg : gA M 100 o i = some v) (hd : decode cc pc = .ok (.baload, 1)) (kk : Gw x M (pc + 1) L (pI v :: st)) : Gw x M pc L (pI i :: pR o :: st) := fun H locs ls hw hl => by
  obtain ⟨a, rfl, ha, rfl⟩ := gA_some hg
  exact W.bald X.1.1 X.1.2.1 (rep_ints hw.1 (by decide) ha.1) ((X.2.1.2 0 _ rfl).1 _ _) (fun h => by cases h) (inA_not ha) (arrV_read _ _ ha.2.2) rfl rfl hd (kk H locs ls hw hl)
theorem g_zaload (X : Cx x cc own rt n0 sl0 fr lc) {o : Option Nat} {i v : Int32} (hg : gA M 102 o i = some v) (hd : decode cc pc = .ok (.baload, 1)) (kk : Gw x M (pc + 1) L (pI v :: st)) : Gw x M pc L (pI i :: pR o :: st) := fun H locs ls hw hl => by
  obtain ⟨a, rfl, ha, rfl⟩ := gA_some hg
  exact W.zald X.1.1 X.1.2.1 (rep_ints hw.1 (by decide) ha.1) ((X.2.1.2 2 _ rfl).1 _ _) (fun h => by cases h) (inA_not ha) (arrV_read _ _ ha.2.2) rfl rfl hd (kk H locs ls hw hl)
theorem g_iaload (X : Cx x cc own rt n0 sl0 fr lc) {o : Option Nat} {i v : Int32} (hg : gA M 101 o i = some v) (hd : decode cc pc = .ok (.iaload, 1)) (kk : Gw x M (pc + 1) L (pI v :: st)) : Gw x M pc L (pI i :: pR o :: st) := fun H locs ls hw hl => by
  obtain ⟨a, rfl, ha, rfl⟩ := gA_some hg
  exact W.iald X.1.1 X.1.2.1 (rep_ints hw.1 (by decide) ha.1) ((X.2.1.2 1 _ rfl).1 _ _) (fun h => by cases h) (inA_not ha) (arrV_read _ _ ha.2.2) rfl rfl hd (kk H locs ls hw hl)
theorem g_aaload (X : Cx x cc own rt n0 sl0 fr lc) {t k : Nat} {ty : FieldType} {o v : Option Nat} {i : Int32} (hk : (tyL (xA x))[k]? = some (xA x t, ty)) (hty : ty.isReference = true) (ht : 110 ≤ t) (hg : gB M t o i = some v) (hd : decode cc pc = .ok (.aaload, 1)) (kk : Gw x M (pc + 1) L (pR v :: st)) : Gw x M pc L (pI i :: pR o :: st) := fun H locs ls hw hl => by
  obtain ⟨a, rfl, ha, rfl⟩ := gB_some hg
  exact W.aald X.1.1 X.1.2.1 (rep_refs hw.1 ht ha.1) ((X.2.1.2 k _ hk).1 _ _) hty (fun h => by cases h) (inA_not ha) (arrV_read _ _ ha.2.2) rfl rfl hd (kk H locs ls hw hl)
theorem rep_arr {E : Nat → Nat} {D : va_G} {dA : Nat → ClassId} {lo : Nat} {H0 H : Heap} {M : Mm} {t a : Nat} (h : Rep E D dA lo H0 M H) (ht : 100 ≤ t) (ha : 300 ≤ a ∧ a < sN (mS M) ∧ sTy (mS M) a = t) : ∃ f, H[E a]? = some (arrV (dA t) (sLen (mS M) a) f) := by
  by_cases h2 : t < 110
  · exact ⟨_, rep_ints h ⟨ht, h2⟩ ha⟩
  · exact ⟨_, rep_refs h (by omega) ha⟩
theorem g_alen (X : Cx x cc own rt n0 sl0 fr lc) {t k : Nat} {ty : FieldType} {o : Option Nat} {v : Int32} (hk : (tyL (xA x))[k]? = some (xA x t, ty)) (ht : 100 ≤ t) (hg : aL M t o = some v) (hd : decode cc pc = .ok (.arraylength, 1)) (kk : Gw x M (pc + 1) L (pI v :: st)) : Gw x M pc L (pR o :: st) := fun H locs ls hw hl => by
  obtain ⟨a, rfl, ha, rfl⟩ := aL_some hg
  obtain ⟨f, hf⟩ := rep_arr hw.1 ht ha
  exact W.alen (n := nI (sLen (mS M) a)) X.1.1 X.1.2.1 hf ((X.2.1.2 k _ hk).1 _ _) (by rw [arrV_size]; rfl) rfl rfl hd (kk H locs ls hw hl)
theorem rep_setA {E : Nat → Nat} {D : va_G} {dA : Nat → ClassId} {lo : Nat} {H0 H H' : Heap} {M : Mm} {t a : Nat} {i v : Int32} (h : Rep E D dA lo H0 M H) (ht : 100 ≤ t ∧ t < 110) (hv9 : t = 100 → fits .byte (.int v) = true) (ha : inA M t a i) (hs : H'.size = H.size) (ho : ∀ q, q ≠ E a → H'[q]? = H[q]?)
    (h2 : H'[E a]? = some ((arrV (dA t) (sLen (mS M) a) (fun j => .int (mA M a j))).setSlot i.toNatClampNeg (.int v))) : Rep E D dA lo H0 (sA M a i.toNatClampNeg v) H' ∧ ∀ k, hsum k H' = hsum k H := by
  obtain ⟨⟨a1, a2, a3⟩, b1, b2⟩ := ha
  have h1 := rep_ints h ht ⟨a1, a2, a3⟩
  refine rep_set (M' := sA M a i.toNatClampNeg v) h a1 a2 rfl hs ho h1 h2 (by simp [Cell.setSlot]) ⟨fun q => ?_, fun _ _ => ?_, fun q => ?_⟩ (fun b hb r => ⟨r.1, fun q q2 => ?_, r.2.2⟩) (fun hy b j hb => ?_)
  · have : sTy (mS M) a < 100 := q
    omega
  · unfold RepI
    rw [h2, arrV_store]
    show some _ = some (arrV (dA (sTy (mS M) a)) (sLen (mS M) a) _)
    rw [a3]
    congr 2
    funext j
    unfold updV mA sA
    by_cases hj : j = i.toNatClampNeg
    · simp [hj]
    · simp [hj]
  · have : 110 ≤ sTy (mS M) a := q
    omega
  · have h9 := r.2.1 q q2
    unfold RepI at h9 ⊢
    rw [h9]
    show some (arrV _ _ _) = some (arrV (dA (sTy (mS M) b)) (sLen (mS M) b) _)
    congr 2
    funext j
    unfold mA sA
    simp [hb]
  · have hb' : sTy (mS M) b = 100 := hb
    unfold mA sA
    by_cases h9 : b = a ∧ j = i.toNatClampNeg
    · simp only [if_pos h9]
      exact hv9 (by rw [← a3, ← h9.1]; exact hb')
    · simp only [if_neg h9]
      exact hy b j hb'
theorem g_stA {H : Heap} {locs : List Loc} {ls : Array Slot} {t a : Nat} {i v : Int32} (hw : Way x M H locs) (hl : lv_has ls (xn x) (lvM (xE x) L)) (ht : 100 ≤ t ∧ t < 110) (hv9 : t = 100 → fits .byte (.int v) = true) (ha : inA M t a i) (kk : Gw x (sA M a i.toNatClampNeg v) (pc + 1) L st) :
    ∀ H' : Heap, H'[xE x a]? = some ((arrV (xA x t) (sLen (mS M) a) (fun j => .int (mA M a j))).setSlot i.toNatClampNeg (.int v)) → H'.size = H.size → (∀ q, q ≠ xE x a → H'[q]? = H[q]?) →
      W (xp x) (xl x) (xe x) (xR x) (xs x) (xm x) (xa x) (xb x) (xt x) (xc x) H' (locs ++ [⟨xE x a, i.toNatClampNeg⟩]) (H.size - (xs x).heap.size) (hsum (xs x).heap.size H) (xQ x) (F0 (xm x) (pc + 1) ls (st.map (pv (xE x)))) := by
  intro H' e1 e2 e3
  have hr := rep_setA hw.1 ht hv9 ha e2 e3 e1
  exact W.cs (by rw [e2]) (hr.2 _).symm (kk H' _ ls (way_set hw ha.1.1 e2 hr) hl)
theorem g_bastore (X : Cx x cc own rt n0 sl0 fr lc) {o : Option Nat} {i v : Int32} {M' : Mm} (hg : pA M 100 o i v.toInt8.toInt32 = some M') (hd : decode cc pc = .ok (.bastore, 1)) (kk : Gw x M' (pc + 1) L st) : Gw x M pc L (pI v :: pI i :: pR o :: st) := fun H locs ls hw hl => by
  obtain ⟨a, rfl, ha, rfl⟩ := pA_some hg
  exact W.bast X.1.1 X.1.2.1 (rep_ints hw.1 (by decide) ha.1) ((X.2.1.2 0 _ rfl).1 _ _) (fun h => by cases h) (inA_not ha) rfl rfl hd (g_stA hw hl (by decide) (fun _ => pk_fb v) ha kk)
theorem g_iastore (X : Cx x cc own rt n0 sl0 fr lc) {o : Option Nat} {i v : Int32} {M' : Mm} (hg : pA M 101 o i v = some M') (hd : decode cc pc = .ok (.iastore, 1)) (kk : Gw x M' (pc + 1) L st) : Gw x M pc L (pI v :: pI i :: pR o :: st) := fun H locs ls hw hl => by
  obtain ⟨a, rfl, ha, rfl⟩ := pA_some hg
  exact W.iast X.1.1 X.1.2.1 (rep_ints hw.1 (by decide) ha.1) ((X.2.1.2 1 _ rfl).1 _ _) (fun h => by cases h) (inA_not ha) rfl rfl hd (g_stA hw hl (by decide) (fun h => by omega) ha kk)
theorem g_zastore (X : Cx x cc own rt n0 sl0 fr lc) {o : Option Nat} {i v : Int32} {M' : Mm} (hg : pA M 102 o i (v &&& 1) = some M') (hd : decode cc pc = .ok (.bastore, 1)) (kk : Gw x M' (pc + 1) L st) : Gw x M pc L (pI v :: pI i :: pR o :: st) := fun H locs ls hw hl => by
  obtain ⟨a, rfl, ha, rfl⟩ := pA_some hg
  exact W.zast X.1.1 X.1.2.1 (rep_ints hw.1 (by decide) ha.1) ((X.2.1.2 2 _ rfl).1 _ _) (fun h => by cases h) (inA_not ha) rfl rfl hd (g_stA hw hl (by decide) (fun h => by omega) ha kk)
theorem pB_some {M' : Mm} {c : Nat} {o v : Option Nat} {i : Int32} (h : pB M c o i v = some M') : ∃ a, o = some a ∧ inA M (110 + c) a i ∧ (∀ b, v = some b → 300 ≤ b ∧ b < sN (mS M) ∧ sTy (mS M) b = c) ∧ M' = sB M a i.toNatClampNeg v := by
  cases o with
  | none => cases h
  | some a =>
    obtain ⟨⟨h1, h2⟩, h3⟩ := ite_some h
    refine ⟨a, rfl, h1, fun b hb => ?_, h3.symm⟩
    subst hb
    exact of_decide_eq_true h2
theorem rep_setB {E : Nat → Nat} {D : va_G} {dA : Nat → ClassId} {lo : Nat} {H0 H H' : Heap} {M : Mm} {t a : Nat} {i : Int32} {v : Option Nat} (h : Rep E D dA lo H0 M H) (ht : 110 ≤ t) (ha : inA M t a i) (hs : H'.size = H.size) (ho : ∀ q, q ≠ E a → H'[q]? = H[q]?)
    (h2 : H'[E a]? = some ((arrV (dA t) (sLen (mS M) a) (fun j => pv E (pR (mB M a j)))).setSlot i.toNatClampNeg (pv E (pR v)))) : Rep E D dA lo H0 (sB M a i.toNatClampNeg v) H' ∧ ∀ k, hsum k H' = hsum k H := by
  obtain ⟨⟨a1, a2, a3⟩, b1, b2⟩ := ha
  have h1 := rep_refs h ht ⟨a1, a2, a3⟩
  refine rep_set (M' := sB M a i.toNatClampNeg v) h a1 a2 rfl hs ho h1 h2 (by simp [Cell.setSlot]) ⟨fun q => ?_, fun q q2 => ?_, fun _ => ?_⟩ (fun b hb r => ⟨r.1, r.2.1, fun q => ?_⟩) (fun hy => hy)
  · have : sTy (mS M) a < 100 := q
    omega
  · have : sTy (mS M) a < 110 := q2
    omega
  · unfold RepR
    rw [h2, arrV_store]
    show some _ = some (arrV (dA (sTy (mS M) a)) (sLen (mS M) a) _)
    rw [a3]
    congr 2
    funext j
    unfold updV mB sB
    by_cases hj : j = i.toNatClampNeg
    · simp [hj]
    · simp [hj]
  · have h9 := r.2.2 q
    unfold RepR at h9 ⊢
    rw [h9]
    show some (arrV _ _ _) = some (arrV (dA (sTy (mS M) b)) (sLen (mS M) b) _)
    congr 2
    funext j
    unfold mB sB
    simp [hb]
theorem g_aastore (X : Cx x cc own rt n0 sl0 fr lc) {c k : Nat} {C : String} {T : u_T} {N : Nat} (hc : clT[c]? = some (C, T, N)) (h17 : c < 17) (hk : (tyL (xA x))[k]? = some (xA x (110 + c), .object C)) {o v : Option Nat} {i : Int32} {M' : Mm} (hg : pB M c o i v = some M') (hd : decode cc pc = .ok (.aastore, 1)) (kk : Gw x M' (pc + 1) L st) : Gw x M pc L (pR v :: pI i :: pR o :: st) := fun H locs ls hw hl => by
  obtain ⟨a, rfl, ha, hv, rfl⟩ := pB_some hg
  have hgo : ∀ H' : Heap, H'[xE x a]? = some ((arrV (xA x (110 + c)) (sLen (mS M) a) (fun j => pv (xE x) (pR (mB M a j)))).setSlot i.toNatClampNeg (pv (xE x) (pR v))) → H'.size = H.size → (∀ q, q ≠ xE x a → H'[q]? = H[q]?) →
      W (xp x) (xl x) (xe x) (xR x) (xs x) (xm x) (xa x) (xb x) (xt x) (xc x) H' (locs ++ [⟨xE x a, i.toNatClampNeg⟩]) (H.size - (xs x).heap.size) (hsum (xs x).heap.size H) (xQ x) (F0 (xm x) (pc + 1) ls (st.map (pv (xE x)))) := by
    intro H' e1 e2 e3
    have hr := rep_setB hw.1 (by omega) ha e2 e3 e1
    exact W.cs (by rw [e2]) (hr.2 _).symm (kk H' _ ls (way_set hw ha.1.1 e2 hr) hl)
  cases v with
  | none => exact va_WaastN (C := C) X.1.1 X.1.2.1 (rep_refs hw.1 (by omega) ha.1) ((X.2.1.2 k _ hk).1 _ _) (fun h => by cases h) (inA_not ha) rfl rfl hd hgo
  | some b =>
    obtain ⟨cellV, g1, g2, g3, -⟩ := rep_obj (c := c) hw.1 (by omega) (hv b rfl)
    have hcls := (X.2.1.1 c _ hc).2
    obtain ⟨kA, comp, k1, k2, k3, -⟩ := (X.2.1.2 k _ hk).2
    have hcomp : comp = (xD x).1 c := Option.some.inj (k3.symm.trans hcls.1)
    subst hcomp
    obtain ⟨kC, hkC, -⟩ := hcls.2
    exact W.aast X.1.1 X.1.2.1 (rep_refs hw.1 (by omega) ha.1) (fun q h => by cases h) (fun h => by cases h) k1 k2 rfl hkC ⟨ha.2.1, by rw [arrV_size]; exact ha.2.2⟩ g1 (fun q h => by rw [g3] at h; cases h) (by rw [g2]; exact hkC) (by rw [g2]; exact va_assign hcls) rfl rfl hd hgo
/-- what is made: the new cell lies behind all others -/
theorem rep_new {E : Nat → Nat} {D : va_G} {dA : Nat → ClassId} {lo : Nat} {H0 H H' : Heap} {M M' : Mm} {cell : Cell} {t len k : Nat} (h : Rep E D dA lo H0 M H) (hlo : lo ≤ H.size) (hS : mS M' = nSh (mS M) t len k) (hn : sN (mS M) + 1 ≤ 600300) (hsl : sSl (mS M) + k ≤ 7302250) (hs : H'.size = H.size + 1)
    (hc : H'[H.size]? = some cell) (ho : ∀ q, q < H.size → H'[q]? = H[q]?) (hk : cell.slots.size = k) (hself : RepAt E D dA M' (sN (mS M)) H') (hrest : ∀ b, b < sN (mS M) → RepAt E D dA M b H → RepAt E D dA M' b H) (hby : BytesOk M → BytesOk M') : Rep E D dA lo H0 M' H' := by
  obtain ⟨hE, ⟨n1, n2, n3⟩, hsz, hsm, hat, hold⟩ := h
  have eN : sN (mS M') = sN (mS M) + 1 := by rw [hS]; rfl
  have eS : sSl (mS M') = sSl (mS M) + k := by rw [hS]; rfl
  refine ⟨hE, ⟨by omega, by omega, by omega⟩, by omega, ?_, ?_, ?_, hby hold.2⟩
  · rw [hsum_push hlo hs hc ho, hsm, hk, eS]
  · intro b hb hbn
    by_cases hb2 : b = sN (mS M)
    · rw [hb2]; exact hself
    · have hbl : b < sN (mS M) := by omega
      have h9 := hE.1 b hb
      have hq : H'[E b]? = H[E b]? := ho _ (by omega)
      obtain ⟨r1, r2, r3⟩ := hrest b hbl (hat b hb hbl)
      exact ⟨fun q => (r1 q).kept hq, fun q q2 => hq.trans (r2 q q2), fun q => hq.trans (r3 q)⟩
  · intro q hq
    rw [ho q (by omega)]
    exact hold.1 q hq
theorem way_new {H H' : Heap} {locs : List Loc} {M' : Mm} {cell : Cell} {k : Nat} (X : Cx x cc own rt n0 sl0 fr lc) (hw : Way x M H locs) (hr : Rep (xE x) (xD x) (xA x) (xo x) (xH x) M' H') (hs : H'.size = H.size + 1) (hc : H'[H.size]? = some cell) (ho : ∀ q, q < H.size → H'[q]? = H[q]?) (hk : cell.slots.size = k) :
    Way x M' H' locs ∧ hsum (xs x).heap.size H' = hsum (xs x).heap.size H + k ∧ H'.size - (xs x).heap.size = H.size - (xs x).heap.size + 1 := by
  obtain ⟨h1, h2, h3, h4⟩ := hw
  have e1 := hsum_push h2 hs hc ho
  have hlo : xo x ≤ H.size := by
    have := X.2.2.2.1
    have := X.2.2.2.2.2.1
    omega
  have e2 := hsum_push hlo hs hc ho
  refine ⟨⟨hr, by omega, by omega, h4⟩, by omega, by omega⟩
theorem Cx.room {H : Heap} {locs : List Loc} {k : Nat} (X : Cx x cc own rt n0 sl0 fr lc) (hw : Way x M H locs) (hn : sN (mS M) + 1 ≤ 600300) (hsl : sSl (mS M) + k ≤ 7302250) : H.size - (xs x).heap.size + 1 ≤ (xR x).cells ∧ hsum (xs x).heap.size H + k ≤ (xR x).slots ∧ xo x ≤ H.size ∧ xE x (sN (mS M)) = H.size := by
  obtain ⟨⟨hE, ⟨n1, n2, n3⟩, hsz, hsm, -⟩, h2, h3, -⟩ := hw
  obtain ⟨-, -, -, e1, e2, e3, e4, e5, -⟩ := X
  rw [e4, e5]
  have h9 := hE.1 _ n1
  refine ⟨by omega, by omega, by omega, by omega⟩
theorem fVal_nO_ne {E : Nat → Nat} {M : Mm} {c0 k0 c k b : Nat} (h : b ≠ sN (mS M)) : fVal E (nO M c0 k0) c k b = fVal E M c k b := by
  unfold fVal mF mG nO
  simp only [h, if_false]
theorem g_new (X : Cx x cc own rt n0 sl0 fr lc) {c k : Nat} {C : String} {T : u_T} {ty : Nat → FieldType} {N idx a : Nat} {M' : Mm} (F : FK c k C T ty N) (hR : ∀ i, i < N → (isRf c i = true ∧ defaultValue (ty i) = .null) ∨ (isRf c i = false ∧ defaultValue (ty i) = .int 0)) (hg : mkO M c = some (a, M'))
    (hclink : Cond.classLink own idx C ∈ tbG) (hins : Cond.instantiable C N ∈ tbG) (hini : Cond.initialized C ∈ tbG) (hd : decode cc pc = .ok (.new idx, 3)) (kk : Gw x M' (pc + 3) L (pR (some a) :: st)) : Gw x M pc L st := fun H locs ls hw hl => by
  obtain ⟨⟨hn, hsl⟩, he⟩ := ite_some hg
  obtain ⟨rfl, rfl⟩ := Prod.mk.inj he
  obtain ⟨hc, hin, -, hN, h17, hty, hnm⟩ := F
  obtain ⟨r1, r2, r3, r4⟩ := X.room hw hn hsl
  rw [← hN] at r2 hsl
  have hKn := X.2.1.1 c _ hc
  obtain ⟨hSl, hfc, kC, hkC, hkind⟩ := hKn
  refine W.newc X.1.1 X.1.2.1 X.1.2.2.2.1 (X.w hclink) (X.w hins) (X.w hini) rfl hd r1 r2 fun cC kC' f1 f2 f3 f4 => ?_
  have hcc : cC = (xD x).1 c := Option.some.inj (f1.symm.trans hfc)
  subst hcc
  generalize hH1 : H.push ({ cls := (xD x).1 c, slots := kC'.instanceTypes.map defaultValue, vm := .none } : Cell) = H1
  have z1 : H1.size = H.size + 1 := by rw [← hH1, Array.size_push]
  have e1 : H1[H.size]? = some (blank ((xD x).1 c) kC') := by rw [← hH1, Array.getElem?_push_size]; rfl
  have o1 : ∀ q : Nat, q < H.size → H1[q]? = H[q]? := fun q hq => by rw [← hH1, Array.getElem?_push, if_neg (Nat.ne_of_lt hq)]
  have hsz : (blank ((xD x).1 c) kC').slots.size = N := by simp [blank, f4]
  have hb := u_born (o := H.size) (H := H1) ty X.1.2.2.2.2 hin ⟨hSl, hfc, kC, hkC, hkind⟩ f2 e1 hty
  have hr : Rep (xE x) (xD x) (xA x) (xo x) (xH x) (nO M c (clN c)) H1 := by
    refine rep_new (t := c) (len := 0) (k := N) hw.1 r3 (by rw [hN]; rfl) hn hsl z1 e1 o1 hsz ⟨fun _ => ?_, fun q q2 => ?_, fun q => ?_⟩ (fun b hb0 r => ?_) (fun hy b j hb => ?_)
    · have e9 : sTy (mS (nO M c (clN c))) (sN (mS M)) = c := by simp [nO, nSh, sTy, mS, sN]
      unfold RepO
      rw [e9, r4, ← hN]
      refine hb.to (fun i hi => ?_)
      have hz : fVal (xE x) (nO M c N) c i (sN (mS M)) = if isRf c i = true then .null else .int 0 := by
        unfold fVal mF mG nO
        simp only [if_true]
        rfl
      rw [hz]
      rcases hR i hi with ⟨q1, q2⟩ | ⟨q1, q2⟩
      · rw [if_pos q1, q2]
      · rw [if_neg (by rw [q1]; exact Bool.false_ne_true), q2]
    · have e9 : sTy (mS (nO M c (clN c))) (sN (mS M)) = c := by simp [nO, nSh, sTy, mS, sN]
      omega
    · have e9 : sTy (mS (nO M c (clN c))) (sN (mS M)) = c := by simp [nO, nSh, sTy, mS, sN]
      omega
    · have hne : b ≠ sN (mS M) := by omega
      have t9 : sTy (mS (nO M c (clN c))) b = sTy (mS M) b := by
        show (if b = sN (mS M) then c else (mS M).1 b) = _
        rw [if_neg hne]; rfl
      have l9 : sLen (mS (nO M c (clN c))) b = sLen (mS M) b := by
        show (if b = sN (mS M) then 0 else (mS M).2.1 b) = _
        rw [if_neg hne]; rfl
      refine ⟨fun q => ?_, fun q q2 => ?_, fun q => ?_⟩
      · rw [t9] at q
        unfold RepO
        rw [t9]
        exact (r.1 q).to (fun i _ => (fVal_nO_ne hne).symm)
      · rw [t9] at q q2
        unfold RepI
        rw [t9, l9]
        exact r.2.1 q q2
      · rw [t9] at q
        unfold RepR
        rw [t9, l9]
        exact r.2.2 q
    · have hb' : (if b = sN (mS M) then c else (mS M).1 b) = 100 := hb
      by_cases h9 : b = sN (mS M)
      · rw [if_pos h9] at hb'; omega
      · rw [if_neg h9] at hb'
        exact hy b j hb'
  obtain ⟨w1, w2, w3⟩ := way_new X hw hr z1 e1 o1 hsz
  have h9 := kk H1 locs ls w1 hl
  refine W.cs w3.symm w2.symm ?_
  have e0 : pv (xE x) (pR (some (sN (mS M)))) = .ref H.size := by show Value.ref (xE x _) = _; rw [r4]
  have h8 : xW x H1 locs (F0 (xm x) (pc + 3) ls (pv (xE x) (pR (some (sN (mS M)))) :: st.map (pv (xE x)))) := h9
  rw [e0] at h8
  exact h8
end Rows7
