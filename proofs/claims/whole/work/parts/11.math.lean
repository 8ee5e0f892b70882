/-! ===== part 11: Math's own methods ===== -/
abbrev jmax (a b : Int32) : Int32 := if a < b then b else a
abbrev jmin (a b : Int32) : Int32 := if b < a then b else a
abbrev jabs (a : Int32) : Int32 := if 0 ≤ a then a else 0 - a
abbrev jmaxL (a b : Int64) : Int64 := if b < a then a else b
abbrev jminL (a b : Int64) : Int64 := if b < a then b else a
section Rows11
variable {x : GX} {cc : ByteArray} {own : String} {rt : Option FieldType} {fr lc n0 sl0 pc : Nat} {M : Mm} {L : List (Nat × PV)} {st : List PV}
theorem Cx.tight (X : Cx x cc own rt n0 sl0 fr lc) {H : Heap} {locs : List Loc} (hw : Way x M H locs) : H.size - (xs x).heap.size ≤ (xR x).cells ∧ hsum (xs x).heap.size H ≤ (xR x).slots := by
  rw [X.2.2.2.2.2.2.1, X.2.2.2.2.2.2.2.1]
  exact Ends.cells X hw
theorem g_mmax (X : Cx x cc own rt n0 sl0 fr lc) {idx : Nat} {a b : Int32} (hlink : Cond.methodLink own idx Lib.Math.max.name ∈ tbG) (hst : Cond.static Lib.Math.max.name ∈ tbG) (hini : Cond.initialized "java/lang/Math" ∈ tbG) (hcode : Cond.code Lib.Math.max.name Lib.Math.max.code 2 (some .int) ∈ tbG)
    (hroom : 1 ≤ fr ∧ (st.map pcat).sum + 13 ≤ lc) (hd : decode cc pc = .ok (.invokestatic idx, 3)) (kk : Gw x M (pc + 3) L (pI (jmax a b) :: st)) : Gw x M pc L (pI b :: pI a :: st) := fun H locs ls hw hl =>
  va_mmax X.1.1 X.1.2.1 (X.1.2.2.1.trans hl.1.symm) X.1.2.2.2.1 (X.w hlink) (X.w hst) (X.w hini) (X.w hcode) (by rw [X.2.2.2.2.2.2.2.2.2.2.1]; exact hroom.1) (by rw [X.2.2.2.2.2.2.2.2.2.2.2, pv_cats]; exact hroom.2) (X.tight hw).1 (X.tight hw).2 hd (kk H locs ls hw hl)
theorem g_mmin (X : Cx x cc own rt n0 sl0 fr lc) {idx : Nat} {a b : Int32} (hlink : Cond.methodLink own idx Lib.Math.min.name ∈ tbG) (hst : Cond.static Lib.Math.min.name ∈ tbG) (hini : Cond.initialized "java/lang/Math" ∈ tbG) (hcode : Cond.code Lib.Math.min.name Lib.Math.min.code 2 (some .int) ∈ tbG)
    (hroom : 1 ≤ fr ∧ (st.map pcat).sum + 13 ≤ lc) (hd : decode cc pc = .ok (.invokestatic idx, 3)) (kk : Gw x M (pc + 3) L (pI (jmin a b) :: st)) : Gw x M pc L (pI b :: pI a :: st) := fun H locs ls hw hl =>
  va_mmin X.1.1 X.1.2.1 (X.1.2.2.1.trans hl.1.symm) X.1.2.2.2.1 (X.w hlink) (X.w hst) (X.w hini) (X.w hcode) (by rw [X.2.2.2.2.2.2.2.2.2.2.1]; exact hroom.1) (by rw [X.2.2.2.2.2.2.2.2.2.2.2, pv_cats]; exact hroom.2) (X.tight hw).1 (X.tight hw).2 hd (kk H locs ls hw hl)
theorem g_mabs (X : Cx x cc own rt n0 sl0 fr lc) {idx : Nat} {a : Int32} (hlink : Cond.methodLink own idx Lib.Math.abs.name ∈ tbG) (hst : Cond.static Lib.Math.abs.name ∈ tbG) (hini : Cond.initialized "java/lang/Math" ∈ tbG) (hcode : Cond.code Lib.Math.abs.name Lib.Math.abs.code 1 (some .int) ∈ tbG)
    (hroom : 1 ≤ fr ∧ (st.map pcat).sum + 13 ≤ lc) (hd : decode cc pc = .ok (.invokestatic idx, 3)) (kk : Gw x M (pc + 3) L (pI (jabs a) :: st)) : Gw x M pc L (pI a :: st) := fun H locs ls hw hl =>
  va_mabs X.1.1 X.1.2.1 (X.1.2.2.1.trans hl.1.symm) X.1.2.2.2.1 (X.w hlink) (X.w hst) (X.w hini) (X.w hcode) (by rw [X.2.2.2.2.2.2.2.2.2.2.1]; exact hroom.1) (by rw [X.2.2.2.2.2.2.2.2.2.2.2, pv_cats]; exact hroom.2) (X.tight hw).1 (X.tight hw).2 hd (kk H locs ls hw hl)
theorem g_mmaxL (X : Cx x cc own rt n0 sl0 fr lc) {idx : Nat} {a b : Int64} (hlink : Cond.methodLink own idx Lib.MathLoose.max_long.x ∈ tbG) (hst : Cond.static Lib.MathLoose.max_long.x ∈ tbG) (hini : Cond.initialized "java/lang/Math" ∈ tbG) (hcode : Cond.code Lib.MathLoose.max_long.x Lib.MathLoose.max_long.code 4 (some .long) ∈ tbG)
    (hroom : 1 ≤ fr ∧ (st.map pcat).sum + 15 ≤ lc) (hd : decode cc pc = .ok (.invokestatic idx, 3)) (kk : Gw x M (pc + 3) L (pL (jmaxL a b) :: st)) : Gw x M pc L (pL b :: pL a :: st) := fun H locs ls hw hl =>
  va_mmax_long X.1.1 X.1.2.1 (X.1.2.2.1.trans hl.1.symm) X.1.2.2.2.1 (X.w hlink) (X.w hst) (X.w hini) (X.w hcode) (by rw [X.2.2.2.2.2.2.2.2.2.2.1]; exact hroom.1) (by rw [X.2.2.2.2.2.2.2.2.2.2.2, pv_cats]; exact hroom.2) (X.tight hw).1 (X.tight hw).2 hd (kk H locs ls hw hl)
theorem g_mminL (X : Cx x cc own rt n0 sl0 fr lc) {idx : Nat} {a b : Int64} (hlink : Cond.methodLink own idx Lib.MathLoose.min_long.x ∈ tbG) (hst : Cond.static Lib.MathLoose.min_long.x ∈ tbG) (hini : Cond.initialized "java/lang/Math" ∈ tbG) (hcode : Cond.code Lib.MathLoose.min_long.x Lib.MathLoose.min_long.code 4 (some .long) ∈ tbG)
    (hroom : 1 ≤ fr ∧ (st.map pcat).sum + 15 ≤ lc) (hd : decode cc pc = .ok (.invokestatic idx, 3)) (kk : Gw x M (pc + 3) L (pL (jminL a b) :: st)) : Gw x M pc L (pL b :: pL a :: st) := fun H locs ls hw hl =>
  va_mmin_long X.1.1 X.1.2.1 (X.1.2.2.1.trans hl.1.symm) X.1.2.2.2.1 (X.w hlink) (X.w hst) (X.w hini) (X.w hcode) (by rw [X.2.2.2.2.2.2.2.2.2.2.1]; exact hroom.1) (by rw [X.2.2.2.2.2.2.2.2.2.2.2, pv_cats]; exact hroom.2) (X.tight hw).1 (X.tight hw).2 hd (kk H locs ls hw hl)
end Rows11
