/-! ===== part 14: switches by cases ===== -/
def AllNe (v : Int32) : Nat → Prop
  | 0 => True
  | n + 1 => AllNe v n ∧ ¬ v = nI n
theorem allNe_at {v : Int32} : ∀ {n : Nat}, AllNe v n → ∀ k, k < n → ¬ v = nI k
  | 0, _, k, hk => absurd hk (Nat.not_lt_zero k)
  | n + 1, h, k, hk => by
    by_cases e : k = n
    · rw [e]; exact h.2
    · exact allNe_at h.1 k (by omega)
section Rows14
variable {x : GX} {cc : ByteArray} {own : String} {rt : Option FieldType} {fr lc n0 sl0 pc : Nat} {M M' : Mm} {L : List (Nat × PV)} {st : List PV}
theorem g_tab (X : Cx x cc own rt n0 sl0 fr lc) {dflt hi : Int} {offs : Array Int} {len : Nat} {v : Int32} (k : Nat) {off : Int} {tgt : Nat} (hv : v = nI k) (hk : k < 2147483648) (hk2 : (k : Int) ≤ hi) (hd : decode cc pc = .ok (.tableswitch dflt 0 hi offs, len)) (ho : offs[k]? = some off) (ht : (pc : Int) + off = (tgt : Int)) (kk : Gw x M tgt L st) : Gw x M pc L (pI v :: st) := by
  subst hv
  have e : (nI k).toInt = (k : Int) := nI_toInt hk
  exact g_tableIn X hd (by rw [e]; omega) (by rw [e]; omega) (by rw [e]; simpa using ho) ht kk
theorem g_tabD (X : Cx x cc own rt n0 sl0 fr lc) {dflt hi : Int} {offs : Array Int} {len : Nat} {v : Int32} (n : Nat) {tgt : Nat} (hn : hi + 1 = (n : Int)) (hv : AllNe v n) (hd : decode cc pc = .ok (.tableswitch dflt 0 hi offs, len)) (ht : (pc : Int) + dflt = (tgt : Int)) (kk : Gw x M tgt L st) : Gw x M pc L (pI v :: st) := by
  refine g_tableOut X hd ?_ ht kk
  by_cases h0 : v < 0
  · exact Or.inl (by simpa using Int32.lt_iff_toInt_lt.mp h0)
  · obtain ⟨j, hj, rfl⟩ := nI_of h0
    have e : (nI j).toInt = (j : Int) := nI_toInt hj
    rw [e]
    by_cases hjn : j < n
    · exact absurd rfl (allNe_at hv j hjn)
    · exact Or.inr (by omega)
theorem g_look (X : Cx x cc own rt n0 sl0 fr lc) {dflt : Int} {ps : Array (Int × Int)} {len : Nat} {v w : Int32} {off : Int} {tgt : Nat} (hv : v = w) (hd : decode cc pc = .ok (.lookupswitch dflt ps, len)) (hp : (ps.toList.zip (ps.toList.drop 1)).all (fun (a, next) => a.1 < next.1) = true) (ho : Op.lookupswitch.offset ps.toList dflt w.toInt = off) (ht : (pc : Int) + off = (tgt : Int)) (k : Gw x M tgt L st) : Gw x M pc L (pI v :: st) := by
  subst hv
  exact g_lookup X hd hp ho ht k
end Rows14
theorem lk_nil {d k : Int} : Op.lookupswitch.offset [] d k = d := rfl
theorem lk_cons {a o d : Int} {r : List (Int × Int)} {v w : Int32} (hv : ¬ v = w) (hw : w.toInt = a) (h : Op.lookupswitch.offset r d v.toInt = d) : Op.lookupswitch.offset ((a, o) :: r) d v.toInt = d := by
  rw [Op.lookupswitch.offset_cons, if_neg]
  · exact h
  · intro e
    exact hv (Int32.toInt_inj.mp (hw.trans e).symm)
