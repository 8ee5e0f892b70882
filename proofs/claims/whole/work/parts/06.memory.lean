/-! ===== part 06: rows of the judgement for memory ===== -/
/-- a plain address of a cell of kind t -/
def okA (M : Mm) (t a : Nat) : Prop := 300 ≤ a ∧ a < sN (mS M) ∧ sTy (mS M) a = t
/-- reading and writing, none where the machine would throw or the address is of another kind -/
def gI (M : Mm) (c f : Nat) (o : Option Nat) : Option Int32 := match o with
  | none => none
  | some a => if 300 ≤ a ∧ a < sN (mS M) ∧ sTy (mS M) a = c then some (mF M f a) else none
def gR (M : Mm) (c f : Nat) (o : Option Nat) : Option (Option Nat) := match o with
  | none => none
  | some a => if 300 ≤ a ∧ a < sN (mS M) ∧ sTy (mS M) a = c then some (mG M f a) else none
def pF (M : Mm) (c f : Nat) (o : Option Nat) (v : Int32) : Option Mm := match o with
  | none => none
  | some a => if 300 ≤ a ∧ a < sN (mS M) ∧ sTy (mS M) a = c then some (sF M f a v) else none
/-- a boolean field: only 0 or 1 -/
def pZ (M : Mm) (c f : Nat) (o : Option Nat) (v : Int32) : Option Mm := if v = 0 ∨ v = 1 then pF M c f o v else none
def pG (M : Mm) (c f : Nat) (o : Option Nat) (v : Option Nat) : Option Mm := match o with
  | none => none
  | some a => if 300 ≤ a ∧ a < sN (mS M) ∧ sTy (mS M) a = c then some (sG M f a v) else none
/-- what a field is: class number c, place k -/
def FK (c k : Nat) (C : String) (T : u_T) (ty : Nat → FieldType) (N : Nat) : Prop :=
  clT[c]? = some (C, T, N) ∧ (∀ w ∈ u_ws C T N, w ∈ tbG) ∧ k < N ∧ N = clN c ∧ c < 17 ∧ (∀ i, i < N → parseFieldDescriptor (T i).2.2.1 = some (ty i)) ∧ (∀ a, a < N → ∀ b, b < N → a ≠ b → (T a).2.1 ≠ (T b).2.1)
section Rows6
variable {x : GX} {cc : ByteArray} {own : String} {rt : Option FieldType} {fr lc n0 sl0 pc : Nat} {M : Mm} {L : List (Nat × PV)} {st : List PV}
theorem gI_some {M : Mm} {c f : Nat} {o : Option Nat} {v : Int32} (h : gI M c f o = some v) : ∃ a, o = some a ∧ (300 ≤ a ∧ a < sN (mS M) ∧ sTy (mS M) a = c) ∧ v = mF M f a := by
  cases o with
  | none => cases h
  | some a =>
    unfold gI at h
    by_cases hc : 300 ≤ a ∧ a < sN (mS M) ∧ sTy (mS M) a = c
    · simp only [if_pos hc] at h
      exact ⟨a, rfl, hc, (Option.some.inj h).symm⟩
    · simp only [if_neg hc] at h
      cases h
theorem gR_some {M : Mm} {c f : Nat} {o v : Option Nat} (h : gR M c f o = some v) : ∃ a, o = some a ∧ (300 ≤ a ∧ a < sN (mS M) ∧ sTy (mS M) a = c) ∧ v = mG M f a := by
  cases o with
  | none => cases h
  | some a =>
    unfold gR at h
    by_cases hc : 300 ≤ a ∧ a < sN (mS M) ∧ sTy (mS M) a = c
    · simp only [if_pos hc] at h
      exact ⟨a, rfl, hc, (Option.some.inj h).symm⟩
    · simp only [if_neg hc] at h
      cases h
theorem pF_some {M M' : Mm} {c f : Nat} {o : Option Nat} {v : Int32} (h : pF M c f o v = some M') : ∃ a, o = some a ∧ (300 ≤ a ∧ a < sN (mS M) ∧ sTy (mS M) a = c) ∧ M' = sF M f a v := by
  cases o with
  | none => cases h
  | some a =>
    unfold pF at h
    by_cases hc : 300 ≤ a ∧ a < sN (mS M) ∧ sTy (mS M) a = c
    · simp only [if_pos hc] at h
      exact ⟨a, rfl, hc, (Option.some.inj h).symm⟩
    · simp only [if_neg hc] at h
      cases h
theorem pG_some {M M' : Mm} {c f : Nat} {o v : Option Nat} (h : pG M c f o v = some M') : ∃ a, o = some a ∧ (300 ≤ a ∧ a < sN (mS M) ∧ sTy (mS M) a = c) ∧ M' = sG M f a v := by
  cases o with
  | none => cases h
  | some a =>
    unfold pG at h
    by_cases hc : 300 ≤ a ∧ a < sN (mS M) ∧ sTy (mS M) a = c
    · simp only [if_pos hc] at h
      exact ⟨a, rfl, hc, (Option.some.inj h).symm⟩
    · simp only [if_neg hc] at h
      cases h
/-- the value of a field, read -/
theorem g_get (X : Cx x cc own rt n0 sl0 fr lc) {c k : Nat} {C : String} {T : u_T} {ty : Nat → FieldType} {N : Nat} (F : FK c k C T ty N) {a idx : Nat} {v : PV} (ha : 300 ≤ a ∧ a < sN (mS M) ∧ sTy (mS M) a = c)
    (hlink : Cond.fieldLink own idx (T k).1 (T k).2.1 (T k).2.2.1 ∈ tbG) (hv : ∀ E, fVal E M c k a = pv E v) (hd : decode cc pc = .ok (.getfield idx, 3)) (kk : Gw x M (pc + 3) L (v :: st)) : Gw x M pc L (pR (some a) :: st) := fun H locs ls hw hl => by
  obtain ⟨hc, hin, hk, hN, h17, -, -⟩ := F
  obtain ⟨cell, q1, q2, q3, q4⟩ := rep_obj (c := c) hw.1 (by omega) ha
  obtain ⟨hS, hfc, kC, hkC, hkind⟩ := X.2.1.1 c _ hc
  obtain ⟨cf, kf, fi, f, hi, hsl⟩ := hS k hk
  refine W.getf (v := pv (xE x) v) X.1.1 X.1.2.1 X.1.2.2.2.1 (X.w hlink) hi (u_facts hfc hkC (u_lays X.1.2.2.2.2 hin hk) hi).1 q1 (by rw [q3]; exact fun h => by cases h) ?_ rfl rfl hd (kk H locs ls hw hl)
  rw [hsl, q4 k (by omega)]
  exact congrArg some (hv _)
theorem g_getI (X : Cx x cc own rt n0 sl0 fr lc) {c k f : Nat} {C : String} {T : u_T} {ty : Nat → FieldType} {N : Nat} (F : FK c k C T ty N) (hf : 64 * c + k = f) (hr : isRf c k = false) {o : Option Nat} {idx : Nat} {v : Int32} (hg : gI M c f o = some v)
    (hlink : Cond.fieldLink own idx (T k).1 (T k).2.1 (T k).2.2.1 ∈ tbG) (hd : decode cc pc = .ok (.getfield idx, 3)) (kk : Gw x M (pc + 3) L (pI v :: st)) : Gw x M pc L (pR o :: st) := by
  obtain ⟨a, rfl, ha, rfl⟩ := gI_some hg
  subst hf
  exact g_get X F ha hlink (fun E => by unfold fVal; rw [if_neg (by rw [hr]; exact Bool.false_ne_true)]; rfl) hd kk
theorem g_getR (X : Cx x cc own rt n0 sl0 fr lc) {c k f : Nat} {C : String} {T : u_T} {ty : Nat → FieldType} {N : Nat} (F : FK c k C T ty N) (hf : 64 * c + k = f) (hr : isRf c k = true) {o v : Option Nat} {idx : Nat} (hg : gR M c f o = some v)
    (hlink : Cond.fieldLink own idx (T k).1 (T k).2.1 (T k).2.2.1 ∈ tbG) (hd : decode cc pc = .ok (.getfield idx, 3)) (kk : Gw x M (pc + 3) L (pR v :: st)) : Gw x M pc L (pR o :: st) := by
  obtain ⟨a, rfl, ha, rfl⟩ := gR_some hg
  subst hf
  exact g_get X F ha hlink (fun E => by unfold fVal; rw [if_pos hr]) hd kk
theorem fVal_sF_ne {E : Nat → Nat} {M : Mm} {f a c k b : Nat} {v : Int32} (h : b ≠ a) : fVal E (sF M f a v) c k b = fVal E M c k b := by
  unfold fVal mF sF
  simp only [h, and_false, if_false]
  rfl
theorem fVal_sG_ne {E : Nat → Nat} {M : Mm} {f a c k b : Nat} {v : Option Nat} (h : b ≠ a) : fVal E (sG M f a v) c k b = fVal E M c k b := by
  unfold fVal mG sG
  simp only [h, and_false, if_false]
  rfl
theorem fVal_sF {E : Nat → Nat} {M : Mm} {a c k j : Nat} {v : Int32} (hr : isRf c k = false) : fVal E (sF M (64 * c + k) a v) c j a = updV (fun i => fVal E M c i a) k (.int v) j := by
  by_cases hj : j = k
  · subst hj
    unfold fVal updV mF sF
    simp [hr]
  · have hne : ¬ 64 * c + j = 64 * c + k := by omega
    unfold fVal updV mF sF
    simp only [hj, hne, false_and, if_false]
    rfl
theorem fVal_sG {E : Nat → Nat} {M : Mm} {a c k j : Nat} {v : Option Nat} (hr : isRf c k = true) : fVal E (sG M (64 * c + k) a v) c j a = updV (fun i => fVal E M c i a) k (pv E (pR v)) j := by
  by_cases hj : j = k
  · subst hj
    unfold fVal updV mG sG
    simp [hr]
  · have hne : ¬ 64 * c + j = 64 * c + k := by omega
    unfold fVal updV mG sG
    simp only [hj, hne, false_and, if_false]
    rfl
/-- an object's cell changes in one field -/
theorem rep_put {E : Nat → Nat} {D : va_G} {dA : Nat → ClassId} {lo : Nat} {H0 H H' : Heap} {M M' : Mm} {c k a : Nat} {v : Value} {cell : Cell} (h : Rep E D dA lo H0 M H) (ha : 300 ≤ a ∧ a < sN (mS M) ∧ sTy (mS M) a = c) (h17 : c < 17) (hS : mS M' = mS M)
    (hA : mA M' = mA M) (hB : mB M' = mB M) (hs : H'.size = H.size) (ho : ∀ q, q ≠ E a → H'[q]? = H[q]?) (h1 : H[E a]? = some cell) (h2 : H'[E a]? = some (cell.setSlot (D.2 c k) v)) (hcls : cell.cls = D.1 c) (hvm : cell.vm = .none)
    (hslots : ∀ j, j < clN c → (cell.setSlot (D.2 c k) v).slots[D.2 c j]? = some (updV (fun i => fVal E M c i a) k v j))
    (hv : ∀ j, fVal E M' c j a = updV (fun i => fVal E M c i a) k v j) (hne : ∀ b c' j, b ≠ a → fVal E M' c' j b = fVal E M c' j b) : Rep E D dA lo H0 M' H' ∧ ∀ k, hsum k H' = hsum k H := by
  obtain ⟨a1, a2, a3⟩ := ha
  refine rep_set h a1 a2 hS hs ho h1 h2 (by simp [Cell.setSlot]) ⟨fun _ => ?_, fun q => ?_, fun q => ?_⟩ (fun b hb r => ⟨fun q => ?_, fun q q2 => ?_, fun q => ?_⟩) (fun hy b i hb => by rw [hS] at hb; rw [hA]; exact hy b i hb)
  · unfold RepO
    rw [hS, a3]
    exact ⟨_, h2, hcls, hvm, fun j hj => (hslots j hj).trans (congrArg some (hv j).symm)⟩
  · rw [hS, a3] at q; omega
  · rw [hS, a3] at q; omega
  · unfold RepO
    rw [hS] at q ⊢
    obtain ⟨cl, r1, r2, r3, r4⟩ := r.1 q
    exact ⟨cl, r1, r2, r3, fun j hj => by rw [r4 j hj]; exact congrArg some (hne b _ j hb).symm⟩
  · rw [hS] at q q2
    unfold RepI
    rw [hS, hA]
    exact r.2.1 q q2
  · rw [hS] at q
    unfold RepR
    rw [hS, hB]
    exact r.2.2 q
/-- putfield, of any kind: the row of the machine, the new memory's picture -/
theorem g_put (X : Cx x cc own rt n0 sl0 fr lc) {c k : Nat} {C : String} {T : u_T} {ty : Nat → FieldType} {N : Nat} (F : FK c k C T ty N) {a idx : Nat} {v : PV} {M' : Mm} (ha : 300 ≤ a ∧ a < sN (mS M) ∧ sTy (mS M) a = c)
    (hlink : Cond.fieldLink own idx (T k).1 (T k).2.1 (T k).2.2.1 ∈ tbG) (hfin : (T k).2.2.2 = false ∨ ((T k).2.2.2 = true ∧ (xt x).name = "<init>" ∧ (T k).1 = own)) (hn : narrow (ty k) (pv (xE x) v) = pv (xE x) v) (hfit : fits (ty k) (pv (xE x) v) = true)
    (hS : mS M' = mS M) (hA : mA M' = mA M) (hB : mB M' = mB M) (hv : ∀ j, fVal (xE x) M' c j a = updV (fun i => fVal (xE x) M c i a) k (pv (xE x) v) j) (hne : ∀ b c' j, b ≠ a → fVal (xE x) M' c' j b = fVal (xE x) M c' j b)
    (hd : decode cc pc = .ok (.putfield idx, 3)) (kk : Gw x M' (pc + 3) L st) : Gw x M pc L (v :: pR (some a) :: st) := fun H locs ls hw hl => by
  obtain ⟨hc, hin, hk, hN, h17, hty, hnm⟩ := F
  have hap := va_apart (own := own) X.1.2.2.2.2 hin ty hty hnm X.2.1 hc
  obtain ⟨cell, q1, q2, q3, q4⟩ := rep_obj (c := c) hw.1 (by omega) ha
  rw [← hN] at q4
  obtain ⟨hSl, hfc, kC, hkC, hkind⟩ := X.2.1.1 c _ hc
  obtain ⟨cf, kf, fi, f, hi, hsl⟩ := hSl k hk
  have hlay := X.1.2.2.2.2 _ (hin _ (u_in_lay hk))
  have hst := (u_facts hfc hkC (u_lays X.1.2.2.2.2 hin hk) hi).1
  have hfs : f.slot < cell.slots.size := by rw [hsl]; exact k2_hasslot (q4 k hk)
  have hgo : ∀ H' : Heap, H'[xE x a]? = some (cell.setSlot f.slot (pv (xE x) v)) → H'.size = H.size → (∀ q, q ≠ xE x a → H'[q]? = H[q]?) → W (xp x) (xl x) (xe x) (xR x) (xs x) (xm x) (xa x) (xb x) (xt x) (xc x) H' (locs ++ [⟨xE x a, f.slot⟩]) (H.size - (xs x).heap.size) (hsum (xs x).heap.size H) (xQ x) (F0 (xm x) (pc + 3) ls (st.map (pv (xE x)))) := by
    intro H' e1 e2 e3
    rw [hsl] at e1
    have hr := rep_put (k := k) (M' := M') hw.1 ha h17 hS hA hB e2 e3 q1 e1 q2 q3 (fun j hj => t_set q4 hap hk _ j (by omega)) hv hne
    have hw' := way_set (k := f.slot) hw ha.1 e2 hr
    have h9 := kk H' _ ls hw' hl
    exact W.cs (by rw [e2]) (hr.2 _).symm h9
  rcases hfin with hfin | ⟨hfin, hin2, hdecl⟩
  · unfold u_lay at hlay
    rw [if_neg (by rw [hfin]; decide)] at hlay
    have h6 := u_store hfc hkC hkind hlay hi (hty k hk) hn hfit
    exact W.putK X.1.1 X.1.2.1 (f := f) ⟨X.1.2.2.2.1, X.w hlink, ⟨_, _, _, hi⟩, hst⟩ (by rw [q2]; exact h6) q1 q3 hfs rfl rfl hd hgo
  · unfold u_lay at hlay
    rw [if_pos hfin] at hlay
    have hcf : (xm x).cls = cf := by
      obtain ⟨_, _, c', _, _, _, -, -, hf', -, -, -, hown2, -⟩ := Cond.laysFinal_spec hlay
      have e1 : c' = cf := by have := hi.symm.trans hf'; simp at this; exact this.1.symm
      rw [hdecl] at hown2
      rw [← e1]; exact Option.some.inj (X.1.2.2.2.1.symm.trans hown2)
    have h6 := u_fits hfc hkC hkind (Or.inr hlay) hi (hty k hk) hn hfit
    exact W.putFinK X.1.1 X.1.2.1 X.1.2.2.2.1 (X.w hlink) hi hst hcf hin2 (by rw [q2]; exact h6) q1 q3 hfs rfl rfl hd hgo
theorem g_putI (X : Cx x cc own rt n0 sl0 fr lc) {c k f : Nat} {C : String} {T : u_T} {ty : Nat → FieldType} {N : Nat} (F : FK c k C T ty N) (hf : 64 * c + k = f) (hr : isRf c k = false) (hty : ty k = .int) {o : Option Nat} {idx : Nat} {v : Int32} {M' : Mm} (hg : pF M c f o v = some M')
    (hlink : Cond.fieldLink own idx (T k).1 (T k).2.1 (T k).2.2.1 ∈ tbG) (hfin : (T k).2.2.2 = false ∨ ((T k).2.2.2 = true ∧ (xt x).name = "<init>" ∧ (T k).1 = own)) (hd : decode cc pc = .ok (.putfield idx, 3)) (kk : Gw x M' (pc + 3) L st) : Gw x M pc L (pI v :: pR o :: st) := by
  obtain ⟨a, rfl, ha, rfl⟩ := pF_some hg
  subst hf
  exact g_put (M' := sF M (64 * c + k) a v) X F ha hlink hfin (by rw [hty]; rfl) (by rw [hty]; rfl) rfl rfl rfl (fun j => fVal_sF hr) (fun b c' j hb => fVal_sF_ne hb) hd kk
theorem g_putZ (X : Cx x cc own rt n0 sl0 fr lc) {c k f : Nat} {C : String} {T : u_T} {ty : Nat → FieldType} {N : Nat} (F : FK c k C T ty N) (hf : 64 * c + k = f) (hr : isRf c k = false) (hty : ty k = .boolean) {o : Option Nat} {idx : Nat} {v : Int32} {M' : Mm} (hg : pZ M c f o v = some M')
    (hlink : Cond.fieldLink own idx (T k).1 (T k).2.1 (T k).2.2.1 ∈ tbG) (hfin : (T k).2.2.2 = false ∨ ((T k).2.2.2 = true ∧ (xt x).name = "<init>" ∧ (T k).1 = own)) (hd : decode cc pc = .ok (.putfield idx, 3)) (kk : Gw x M' (pc + 3) L st) : Gw x M pc L (pI v :: pR o :: st) := by
  unfold pZ at hg
  by_cases hb : v = 0 ∨ v = 1
  · rw [if_pos hb] at hg
    obtain ⟨a, rfl, ha, rfl⟩ := pF_some hg
    subst hf
    exact g_put (M' := sF M (64 * c + k) a v) X F ha hlink hfin (by rw [hty]; rcases hb with rfl | rfl <;> rfl) (by rw [hty]; rcases hb with rfl | rfl <;> rfl) rfl rfl rfl (fun j => fVal_sF hr) (fun b c' j hb => fVal_sF_ne hb) hd kk
  · rw [if_neg hb] at hg
    cases hg
theorem g_putG (X : Cx x cc own rt n0 sl0 fr lc) {c k f : Nat} {C : String} {T : u_T} {ty : Nat → FieldType} {N : Nat} (F : FK c k C T ty N) (hf : 64 * c + k = f) (hr : isRf c k = true) (hty : (ty k).isReference = true) {o v : Option Nat} {idx : Nat} {M' : Mm} (hg : pG M c f o v = some M')
    (hlink : Cond.fieldLink own idx (T k).1 (T k).2.1 (T k).2.2.1 ∈ tbG) (hfin : (T k).2.2.2 = false ∨ ((T k).2.2.2 = true ∧ (xt x).name = "<init>" ∧ (T k).1 = own)) (hd : decode cc pc = .ok (.putfield idx, 3)) (kk : Gw x M' (pc + 3) L st) : Gw x M pc L (pR v :: pR o :: st) := by
  obtain ⟨a, rfl, ha, rfl⟩ := pG_some hg
  subst hf
  exact g_put (M' := sG M (64 * c + k) a v) X F ha hlink hfin (by generalize ty k = z at hty; cases z <;> cases v <;> first | rfl | cases hty) (by generalize ty k = z at hty; cases z <;> cases v <;> first | rfl | cases hty) rfl rfl rfl (fun j => fVal_sG hr) (fun b c' j hb => fVal_sG_ne hb) hd kk
end Rows6
