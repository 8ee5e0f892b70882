/-! ===== part 12: texts, statics, copies ===== -/
/-- a text's own bytes (plain address 100 + k), its coder; what lies in the bytes of a text -/
def gSv (o : Option Nat) : Option (Option Nat) := match o with
  | none => none
  | some k => if k < strB.length then some (some (100 + k)) else none
def gSc (o : Option Nat) : Option Int32 := match o with
  | none => none
  | some k => if k < strB.length then some 0 else none
def rcS (o : Option Nat) : Option Nat := match o with
  | none => none
  | some k => if k < strB.length then some k else none
def aLS (o : Option Nat) : Option Int32 := match o with
  | none => none
  | some a => if 100 ≤ a ∧ a - 100 < strB.length then some (nI (strB.getD (a - 100) []).length) else none
def gAS (o : Option Nat) (i : Int32) : Option Int32 := match o with
  | none => none
  | some a => if (100 ≤ a ∧ a - 100 < strB.length) ∧ ¬ i < 0 ∧ i.toNatClampNeg < (strB.getD (a - 100) []).length then some ((strB.getD (a - 100) []).getD i.toNatClampNeg 0) else none
/-- the table of steps -/
def gST (i : Int32) : Option Int32 := if ¬ i < 0 ∧ i.toNatClampNeg < 16 then some (stpT.getD i.toNatClampNeg 0) else none
/-- a copy between two different rows of bytes -/
def cpB (M : Mm) (src : Option Nat) (sp : Int32) (dst : Option Nat) (dp n : Int32) : Option Mm := match src, dst with
  | some a, some b => if (300 ≤ a ∧ a < sN (mS M) ∧ sTy (mS M) a = 100) ∧ (300 ≤ b ∧ b < sN (mS M) ∧ sTy (mS M) b = 100) ∧ a ≠ b ∧ ¬ sp < 0 ∧ ¬ dp < 0 ∧ ¬ n < 0 ∧ sp.toNatClampNeg + n.toNatClampNeg ≤ sLen (mS M) a ∧ dp.toNatClampNeg + n.toNatClampNeg ≤ sLen (mS M) b then some (sC M a sp.toNatClampNeg b dp.toNatClampNeg n.toNatClampNeg) else none
  | _, _ => none
/-- a row of bytes, once more -/
def clB (M : Mm) (src : Option Nat) : Option (Nat × Mm) := match src with
  | none => none
  | some a => if (300 ≤ a ∧ a < sN (mS M) ∧ sTy (mS M) a = 100) ∧ sN (mS M) + 1 ≤ 600300 ∧ sSl (mS M) + sLen (mS M) a ≤ 7302250 then some (sN (mS M), sC (nA M 100 (sLen (mS M) a)) a 0 (sN (mS M)) 0 (sLen (mS M) a)) else none
section Rows12
variable {x : GX} {cc : ByteArray} {own : String} {rt : Option FieldType} {fr lc n0 sl0 pc : Nat} {M M' : Mm} {L : List (Nat × PV)} {st : List PV} {ro : Option PV}
theorem way_old {H : Heap} {locs : List Loc} (hw : Way x M H locs) : ∀ a : Nat, a < (xH x).size → ¬ (fun q => xo x ≤ q) a → H[a]? = (xH x)[a]? := fun a _ h => hw.1.2.2.2.2.2.1 a (by simpa using h)
theorem g_ldcS (X : Cx x cc own rt n0 sl0 fr lc) {i k : Nat} {tx : String} (hq : (own, i, tx, k) ∈ strW) (hd : decode cc pc = .ok (.ldc i, 2)) (kk : Gw x M (pc + 2) L (pR (some k) :: st)) : Gw x M pc L st := fun H locs ls hw hl =>
  va_ldcS X.1.1 X.1.2.1 X.1.2.2.2.1 (X.2.2.1.2.2.1 _ hq) hd (kk H locs ls hw hl)
theorem g_ldcwS (X : Cx x cc own rt n0 sl0 fr lc) {i k : Nat} {tx : String} (hq : (own, i, tx, k) ∈ strW) (hd : decode cc pc = .ok (.ldc_w i, 3)) (kk : Gw x M (pc + 3) L (pR (some k) :: st)) : Gw x M pc L st := fun H locs ls hw hl => by
  have hZ := X.2.2.1.2.2.1 _ hq
  obtain ⟨hx, hb, -, hown, -⟩ := X.1
  intro T hT XS
  obtain ⟨t, a1, b1⟩ := kk H locs ls hw hl T hT XS
  refine ⟨t, ?_, b1⟩
  obtain ⟨k9, cf, i9, a', hk, hcf, hcp, -, hr, hev'⟩ := Cond.stringRef_spec hown hZ.1
  cases hZ.2.symm.trans hev'
  obtain ⟨k', hk', he⟩ := XS.warmed.alike.2.2 _ _ hk
  have hr' : k'.resolved[i]? = some (some (.string (xE x k))) := by
    rcases XS.warmed.entry hk hk' i with h | ⟨h, -⟩
    · rw [h]; exact hr
    · rw [hr] at h; cases h
  jvm_step XS.here [hx, hb, hd, ldc_w.wp_string (e := xe x) (s := T) (f := F0 (xm x) pc ls (st.map (pv (xE x)))) XS.here.top hk' (by rw [he]; exact hcf) hcp hr']
  exact a1
theorem g_getOF (X : Cx x cc own rt n0 sl0 fr lc) {k idx : Nat} {n d : String} {v : PV} (hk : va_OF "java/lang/String" n d (pv (xE x) v) (xE x k) (fun q => xo x ≤ q) (xs x) (xH x)) (hlink : Cond.fieldLink own idx "java/lang/String" n d ∈ tbG) (hd : decode cc pc = .ok (.getfield idx, 3)) (kk : Gw x M (pc + 3) L (v :: st)) : Gw x M pc L (pR (some k) :: st) := fun H locs ls hw hl => by
  obtain ⟨cf, k9, fi, f, cell, h1, h2, h3, h4, h5, h6⟩ := hk.kept (way_old hw)
  exact W.getf X.1.1 X.1.2.1 X.1.2.2.2.1 (X.w hlink) h1 h2 h3 h4 (v := pv (xE x) v) h5 rfl rfl hd (kk H locs ls hw hl)
theorem g_strV (X : Cx x cc own rt n0 sl0 fr lc) {o v : Option Nat} {idx : Nat} (hg : gSv o = some v) (hlink : Cond.fieldLink own idx "java/lang/String" "value" "[B" ∈ tbG) (hd : decode cc pc = .ok (.getfield idx, 3)) (kk : Gw x M (pc + 3) L (pR v :: st)) : Gw x M pc L (pR o :: st) := by
  cases o with
  | none => cases hg
  | some k =>
    obtain ⟨h1, rfl⟩ := ite_some hg
    exact g_getOF X (v := pR (some (100 + k))) (X.2.2.1.2.2.2.1 k h1).2.2.1 hlink hd kk
theorem g_strC (X : Cx x cc own rt n0 sl0 fr lc) {o : Option Nat} {v : Int32} {idx : Nat} (hg : gSc o = some v) (hlink : Cond.fieldLink own idx "java/lang/String" "coder" "B" ∈ tbG) (hd : decode cc pc = .ok (.getfield idx, 3)) (kk : Gw x M (pc + 3) L (pI v :: st)) : Gw x M pc L (pR o :: st) := by
  cases o with
  | none => cases hg
  | some k =>
    obtain ⟨h1, rfl⟩ := ite_some hg
    exact g_getOF X (v := pI 0) (X.2.2.1.2.2.2.1 k h1).2.1 hlink hd kk
theorem g_alenS (X : Cx x cc own rt n0 sl0 fr lc) {o : Option Nat} {v : Int32} (hg : aLS o = some v) (hd : decode cc pc = .ok (.arraylength, 1)) (kk : Gw x M (pc + 1) L (pI v :: st)) : Gw x M pc L (pR o :: st) := fun H locs ls hw hl => by
  cases o with
  | none => cases hg
  | some a =>
    obtain ⟨⟨h0, h1⟩, rfl⟩ := ite_some hg
    obtain ⟨k, rfl⟩ : ∃ k, a = 100 + k := ⟨a - 100, by omega⟩
    rw [Nat.add_sub_cancel_left] at h1 kk
    obtain ⟨cell, q1, q2, q3, q4, q5, q6, q7⟩ := (X.2.2.1.2.2.2.1 k h1).2.2.2.kept (way_old hw)
    exact W.alen (n := nI (strB.getD k []).length) X.1.1 X.1.2.1 q1 q2 q5 rfl rfl hd (kk H locs ls hw hl)
theorem g_baloadS (X : Cx x cc own rt n0 sl0 fr lc) {o : Option Nat} {i v : Int32} (hg : gAS o i = some v) (hd : decode cc pc = .ok (.baload, 1)) (kk : Gw x M (pc + 1) L (pI v :: st)) : Gw x M pc L (pI i :: pR o :: st) := fun H locs ls hw hl => by
  cases o with
  | none => cases hg
  | some a =>
    obtain ⟨⟨⟨h0, h1⟩, h2, h3⟩, rfl⟩ := ite_some hg
    obtain ⟨k, rfl⟩ : ∃ k, a = 100 + k := ⟨a - 100, by omega⟩
    rw [Nat.add_sub_cancel_left] at h1 h3 kk
    obtain ⟨cell, q1, q2, q3, q4, q5, q6, q7⟩ := (X.2.2.1.2.2.2.1 k h1).2.2.2.kept (way_old hw)
    exact W.bald X.1.1 X.1.2.1 q1 q2 q3 (by rintro (h9 | h9); exact h2 h9; omega) (q6 _ h3) rfl rfl hd (kk H locs ls hw hl)
theorem g_gets (X : Cx x cc own rt n0 sl0 fr lc) {C n d : String} {idx : Nat} {v : PV} (hZ : va_Z C n d (pv (xE x) v) (fun q => xo x ≤ q) (xs x) (xH x)) (hlink : Cond.fieldLink own idx C n d ∈ tbG) (hd : decode cc pc = .ok (.getstatic idx, 3)) (kk : Gw x M (pc + 3) L (v :: st)) : Gw x M pc L st := fun H locs ls hw hl => by
  obtain ⟨cf, kf, fi, f, a, cell, h1, h2, h3, h4, h5, h6, h7, h8⟩ := hZ.kept (way_old hw)
  exact W.gets X.1.1 X.1.2.1 X.1.2.2.2.1 (X.w hlink) h1 h2 h3 h4 h5 (fun e => by rw [e] at h6; cases h6) h7 rfl hd (kk H locs ls hw hl)
theorem g_getsC (X : Cx x cc own rt n0 sl0 fr lc) {idx : Nat} (hlink : Cond.fieldLink own idx "java/lang/String" "COMPACT_STRINGS" "Z" ∈ tbG) (hd : decode cc pc = .ok (.getstatic idx, 3)) (kk : Gw x M (pc + 3) L (pI 1 :: st)) : Gw x M pc L st := g_gets X (v := pI 1) X.2.2.1.2.2.2.2.1 hlink hd kk
theorem g_getsT (X : Cx x cc own rt n0 sl0 fr lc) {idx : Nat} (hlink : Cond.fieldLink own idx "WebHost$Store" "CHECK_STEPS" "[I" ∈ tbG) (hd : decode cc pc = .ok (.getstatic idx, 3)) (kk : Gw x M (pc + 3) L (pR (some 200) :: st)) : Gw x M pc L st := g_gets X (v := pR (some 200)) X.2.2.1.2.2.2.2.2.1 hlink hd kk
theorem g_getsF (X : Cx x cc own rt n0 sl0 fr lc) {idx : Nat} (hlink : Cond.fieldLink own idx "jdk/internal/util/Preconditions" "SIOOBE_FORMATTER" "Ljava/util/function/BiFunction;" ∈ tbG) (hd : decode cc pc = .ok (.getstatic idx, 3)) (kk : ∀ o : Option Nat, Gw x M (pc + 3) L (pR o :: st)) : Gw x M pc L st := by
  obtain ⟨o, ho⟩ := X.2.2.1.2.2.2.2.2.2.2.1
  exact g_gets X (v := pR o) ho hlink hd (kk o)
theorem g_ialoadT (X : Cx x cc own rt n0 sl0 fr lc) {i v : Int32} (hg : gST i = some v) (hd : decode cc pc = .ok (.iaload, 1)) (kk : Gw x M (pc + 1) L (pI v :: st)) : Gw x M pc L (pI i :: pR (some 200) :: st) := fun H locs ls hw hl => by
  obtain ⟨⟨h2, h3⟩, rfl⟩ := ite_some hg
  obtain ⟨cell, q1, q2, q3, q4, q5, q6, q7⟩ := X.2.2.1.2.2.2.2.2.2.1.kept (way_old hw)
  exact W.iald X.1.1 X.1.2.1 q1 q2 q3 (by rintro (h9 | h9); exact h2 h9; omega) (q6 _ h3) rfl rfl hd (kk H locs ls hw hl)
theorem rcS_some {k : Nat} {o : Option Nat} (h : rcS o = some k) : o = some k ∧ k < strB.length := by
  cases o with
  | none => cases h
  | some a =>
    obtain ⟨h1, h2⟩ := ite_some h
    subst h2
    exact ⟨rfl, h1⟩
/-- invokevirtual on a text -/
theorem g_callVS (X : Cx x cc own rt n0 sl0 fr lc) {y : MethodName} {code : ByteArray} {maxL idx f2 l2 n b : Nat} {o : Option Nat} {ret : Option FieldType} {as as' : List PV} (hb : rcS o = some b) (hM : Ct (xl x) (xE x) (xD x) (xA x) (xo x) (xH x) y code maxL ret f2 l2 (pR (some b) :: as) M ro M') (hcw : Cond.code y code maxL ret ∈ tbG)
    (hlink : Cond.methodLink own idx y ∈ tbG) (hst : Cond.instanceMethod y ∈ tbG) (hsel : Cond.selects "java/lang/String" y y ∈ tbG) (hini : Cond.initialized "java/lang/String" ∈ tbG) (hy : y.cls = "java/lang/String" ∧ y.cls ≠ "java/lang/invoke/MethodHandle" ∧ y.cls ≠ "java/lang/invoke/VarHandle" ∧ (parseMethodDescriptor y.desc).map (fun d => d.parameters.length) = some n) (hn : as.length = n) (hrev : as.reverse = as')
    (hroom : f2 + 1 ≤ fr ∧ 8 + (maxL + 11) + l2 ≤ lc) (hst8 : (st.map pcat).sum ≤ 8) (hd : decode cc pc = .ok (.invokevirtual idx, 3)) (kk : Gw x M' (pc + 3) L (ro.toList ++ st)) : Gw x M pc L (as' ++ pR o :: st) := fun H locs ls hw hl => by
  subst hrev
  obtain ⟨rfl, hk⟩ := rcS_some hb
  obtain ⟨cell, q1, q2, q3, -⟩ := (X.2.2.1.2.2.2.1 b hk).1.kept (way_old hw)
  refine g_after X hl hw.2.2.2 (va_runV (As := as.map (pv (xE x))) (b := xE x b) X.1 hM (cwV (C := "java/lang/String") n X.1.2.2.2.2 (tbG_good _ (fun w hw => ?_)) rfl rfl rfl hy ⟨by rw [X.2.2.2.2.2.2.2.2.2.2.1]; exact hroom.1, by rw [X.2.2.2.2.2.2.2.2.2.2.2]; exact hroom.2⟩) ⟨ct_blind, ⟨cell, q1, q2, q3⟩, ct_pre (as := pR (some b) :: as) X hw⟩ rfl (by simpa using hn) hl.1 (by simp [pv]) (st_room hst8) hd (ct_room X hw)) kk
  simp only [wsV, List.cons_append, List.nil_append, List.mem_cons] at hw
  rcases hw with rfl | rfl | rfl | rfl | rfl | hw
  · exact hlink
  · exact hst
  · exact hsel
  · exact hini
  · exact hcw
  · exact hw
end Rows12
