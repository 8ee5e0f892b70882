/-! ===== part 13: copies of rows of bytes ===== -/
/-- a row of bytes made anew with another's contents -/
def nC (M : Mm) (a : Nat) : Mm := (M.1, M.2.1, fun b j => if b = sN (mS M) then M.2.2.1 a j else M.2.2.1 b j, fun b j => if b = sN (mS M) then none else M.2.2.2.1 b j, nSh (mS M) 100 (sLen (mS M) a) (sLen (mS M) a))
def clnB (M : Mm) (src : Option Nat) : Option (Nat × Mm) := match src with
  | none => none
  | some a => if (300 ≤ a ∧ a < sN (mS M) ∧ sTy (mS M) a = 100) ∧ sN (mS M) + 1 ≤ 600300 ∧ sSl (mS M) + sLen (mS M) a ≤ 7302250 then some (sN (mS M), nC M a) else none
section Rows13
variable {x : GX} {cc : ByteArray} {own : String} {rt : Option FieldType} {fr lc n0 sl0 pc : Nat} {M M' : Mm} {L : List (Nat × PV)} {st : List PV} {ro : Option PV}
theorem nn32 (z : Int32) (hz : ¬ z < 0) : z.toInt = (z.toNatClampNeg : Int) := by
  have hz0 : (0 : Int) ≤ z.toInt := by
    have := Int32.not_lt.mp hz
    simpa using Int32.le_iff_toInt_le.mp this
  show z.toInt = ((z.toInt.toNat : Nat) : Int)
  omega
theorem cpB_some {src dst : Option Nat} {sp dp n : Int32} (h : cpB M src sp dst dp n = some M') : ∃ a b, src = some a ∧ dst = some b ∧ (300 ≤ a ∧ a < sN (mS M) ∧ sTy (mS M) a = 100) ∧ (300 ≤ b ∧ b < sN (mS M) ∧ sTy (mS M) b = 100) ∧ a ≠ b ∧ ¬ sp < 0 ∧ ¬ dp < 0 ∧ ¬ n < 0 ∧ sp.toNatClampNeg + n.toNatClampNeg ≤ sLen (mS M) a ∧ dp.toNatClampNeg + n.toNatClampNeg ≤ sLen (mS M) b ∧ M' = sC M a sp.toNatClampNeg b dp.toNatClampNeg n.toNatClampNeg := by
  cases src with
  | none => cases h
  | some a =>
    cases dst with
    | none => cases h
    | some b =>
      obtain ⟨⟨h1, h2, h3, h4, h5, h6, h7, h8⟩, h9⟩ := ite_some h
      exact ⟨a, b, rfl, rfl, h1, h2, h3, h4, h5, h6, h7, h8, h9.symm⟩
theorem rep_setC {E : Nat → Nat} {D : va_G} {dA : Nat → ClassId} {lo : Nat} {H0 H H' : Heap} {M : Mm} {a b sp dp n : Nat} (h : Rep E D dA lo H0 M H) (ha : 300 ≤ a ∧ a < sN (mS M) ∧ sTy (mS M) a = 100) (hb : 300 ≤ b ∧ b < sN (mS M) ∧ sTy (mS M) b = 100) (hs : H'.size = H.size) (ho : ∀ q, q ≠ E b → H'[q]? = H[q]?)
    (h2 : H'[E b]? = some (arrV (dA 100) (sLen (mS M) b) (fun j => .int (va_cpy (mA M a) (mA M b) sp dp n j)))) : Rep E D dA lo H0 (sC M a sp b dp n) H' ∧ ∀ k, hsum k H' = hsum k H := by
  obtain ⟨b1, b2, b3⟩ := hb
  have h1 := rep_ints h (t := 100) (by decide) ⟨b1, b2, b3⟩
  refine rep_set (M' := sC M a sp b dp n) h b1 b2 rfl hs ho h1 h2 (by rw [arrV_size, arrV_size]) ⟨fun q => ?_, fun _ _ => ?_, fun q => ?_⟩ (fun c hc r => ⟨r.1, fun q q2 => ?_, r.2.2⟩) (fun hy c j hc => ?_)
  · have : sTy (mS M) b < 100 := q
    omega
  · unfold RepI
    rw [h2]
    show some _ = some (arrV (dA (sTy (mS M) b)) (sLen (mS M) b) _)
    rw [b3]
    congr 2
    funext j
    unfold va_cpy mA sC
    simp
  · have : 110 ≤ sTy (mS M) b := q
    omega
  · have h9 := r.2.1 q q2
    unfold RepI at h9 ⊢
    rw [h9]
    show some (arrV _ _ _) = some (arrV (dA (sTy (mS M) c)) (sLen (mS M) c) _)
    congr 2
    funext j
    unfold mA sC
    simp [hc]
  · have hc' : sTy (mS M) c = 100 := hc
    unfold mA sC
    by_cases h9 : c = b ∧ dp ≤ j ∧ j < dp + n
    · simp only [if_pos h9]
      exact hy a _ ha.2.2
    · simp only [if_neg h9]
      exact hy c j hc'
theorem g_copyB (X : Cx x cc own rt n0 sl0 fr lc) {src dst : Option Nat} {sp dp n : Int32} {idx : Nat} (hg : cpB M src sp dst dp n = some M') (hlink : Cond.methodLink own idx arraycopyName ∈ tbG) (hnat : Cond.native arraycopyName ∈ tbG) (hst : Cond.static arraycopyName ∈ tbG) (hini : Cond.initialized "java/lang/System" ∈ tbG)
    (hroom : 1 ≤ fr ∧ (st.map pcat).sum + (nativeFrameWords "java/lang/System" "arraycopy" 5 + 11) ≤ lc) (hd : decode cc pc = .ok (.invokestatic idx, 3)) (kk : Gw x M' (pc + 3) L st) : Gw x M pc L (pI n :: pI dp :: pR dst :: pI sp :: pR src :: st) := fun H locs ls hw hl => by
  obtain ⟨a, b, rfl, rfl, ha, hb, hne, h1, h2, h3, h4, h5, rfl⟩ := cpB_some hg
  intro T hT XS
  have hc0 := rep_ints hw.1 (t := 100) (by decide) ha
  have hc1 := rep_ints hw.1 (t := 100) (by decide) hb
  obtain ⟨-, k0, hk0, cm0, hkk0⟩ := (X.2.1.2 0 _ rfl).1 (sLen (mS M) a) (fun j => .int (mA M a j))
  obtain ⟨vm', X', step⟩ := XS.arraycopy X.1.1 X.1.2.2.2.1 (X.w hlink) (X.w hnat) (X.w hst) (X.w hini) (src := xE x a) (dst := xE x b) (cs := arrV (xA x 100) (sLen (mS M) a) (fun j => .int (mA M a j))) (cd := arrV (xA x 100) (sLen (mS M) b) (fun j => .int (mA M b j))) (srcPos := sp) (destPos := dp) (n := n) (by rw [hT]; exact hc0) (by rw [hT]; exact hc1)
    (fun _ h => by cases h) (fun _ h => by cases h) (fun h => by cases h) (fun h => by cases h) hk0 hk0 hkk0 hkk0 (by rfl) h1 h2 h3
    (by rw [nn32 sp h1, nn32 n h3, arrV_size]; omega)
    (by rw [nn32 dp h2, nn32 n h3, arrV_size]; omega)
    (fun vm₁ _ i hi => by
      have e : (arrV (xA x 100) (sLen (mS M) a) (fun j => .int (mA M a j))).slots.getD (sp.toNatClampNeg + i) .null = .int (mA M a (sp.toNatClampNeg + i)) := by
        rw [Array.getD_eq_getD_getElem?, arrV_read _ _ (by omega)]
        rfl
      refine ⟨?_, ?_⟩
      · rw [e]
        exact hw.1.2.2.2.2.2.2 a _ ha.2.2
      · rw [e]
        exact trivial)
    (g := F0 (xm x) pc ls (.int n :: .int dp :: .ref (xE x b) :: .int sp :: .ref (xE x a) :: st.map (pv (xE x)))) rfl (hl.1.trans X.1.2.2.1.symm) (rest := st.map (pv (xE x))) rfl (by rw [X.1.2.1]; exact hd) (by rw [X.2.2.2.2.2.2.2.2.2.2.1]; exact hroom.1) (by rw [X.2.2.2.2.2.2.2.2.2.2.2, pv_cats]; show 2 * 0 + _ + _ ≤ _; omega)
  have e1 : copied (arrV (xA x 100) (sLen (mS M) a) (fun j => .int (mA M a j))) (arrV (xA x 100) (sLen (mS M) b) (fun j => .int (mA M b j))) sp dp n = arrV (xA x 100) (sLen (mS M) b) (fun j => .int (va_cpy (mA M a) (mA M b) sp.toNatClampNeg dp.toNatClampNeg n.toNatClampNeg j)) := va_copied (fun z => .int z) (xA x 100) (xA x 100) (mA M a) (mA M b) h4
  rw [e1] at X' step
  have hlt : xE x b < H.size := (Array.getElem?_eq_some_iff.mp hc1).1
  generalize hcell : arrV (xA x 100) (sLen (mS M) b) (fun j => .int (va_cpy (mA M a) (mA M b) sp.toNatClampNeg dp.toNatClampNeg n.toNatClampNeg j)) = cell at X' step
  have hheap : ((T.setVm vm').setCell (xE x b) cell).heap = H.setIfInBounds (xE x b) cell := by rw [← hT]; rfl
  have oq : ∀ q : Nat, q ≠ xE x b → (H.setIfInBounds (xE x b) cell)[q]? = H[q]? := fun q hq => by simp [Array.getElem?_setIfInBounds, Ne.symm hq]
  have oz : (H.setIfInBounds (xE x b) cell).size = H.size := by simp
  have oe : (H.setIfInBounds (xE x b) cell)[xE x b]? = some cell := by simp [Array.getElem?_setIfInBounds, hlt]
  have hr := rep_setC hw.1 ha hb oz oq (by rw [oe, ← hcell])
  obtain ⟨w1, w2, w3, w4⟩ := hw
  have hK := kk (H.setIfInBounds (xE x b) cell) (locs ++ ((arrV (xA x 100) (sLen (mS M) a) (fun j => .int (mA M a j))).stretch sp.toNatClampNeg n.toNatClampNeg).zipIdx.map (fun q => (⟨xE x b, dp.toNatClampNeg + q.2⟩ : Loc))) ls ⟨hr.1, by rw [oz]; exact w2, by rw [hr.2, hr.2]; exact w3, fun q hq => by
      rcases List.mem_append.mp hq with h | h
      · exact w4 q h
      · obtain ⟨z, -, hz⟩ := List.mem_map.mp h
        rw [← hz]
        have h9 := w1.1.1 b hb.1
        show xo x ≤ xE x b
        omega⟩ hl
  have hK2 := W.cs (cells := H.size - (xs x).heap.size) (slots := hsum (xs x).heap.size H) (by rw [oz]) (hr.2 _).symm hK
  obtain ⟨t, a1, b1⟩ := hK2 _ hheap X'
  exact ⟨t, step t a1, b1⟩
theorem clnB_some {src : Option Nat} {q : Nat} (h : clnB M src = some (q, M')) : ∃ a, src = some a ∧ (300 ≤ a ∧ a < sN (mS M) ∧ sTy (mS M) a = 100) ∧ sN (mS M) + 1 ≤ 600300 ∧ sSl (mS M) + sLen (mS M) a ≤ 7302250 ∧ q = sN (mS M) ∧ M' = nC M a := by
  cases src with
  | none => cases h
  | some a =>
    obtain ⟨⟨h1, h2, h3⟩, h4⟩ := ite_some h
    obtain ⟨rfl, rfl⟩ := Prod.mk.inj h4
    exact ⟨a, rfl, h1, h2, h3, rfl, rfl⟩
theorem rep_newC {E : Nat → Nat} {D : va_G} {dA : Nat → ClassId} {lo : Nat} {H0 H H1 : Heap} {M : Mm} {a : Nat} (h : Rep E D dA lo H0 M H) (hlo : lo ≤ H.size) (ha : 300 ≤ a ∧ a < sN (mS M) ∧ sTy (mS M) a = 100) (hn : sN (mS M) + 1 ≤ 600300) (hsl : sSl (mS M) + sLen (mS M) a ≤ 7302250) (hs : H1.size = H.size + 1) (hE : E (sN (mS M)) = H.size)
    (h1 : H1[H.size]? = some (arrV (dA 100) (sLen (mS M) a) (fun j => .int (mA M a j)))) (ho : ∀ q, q < H.size → H1[q]? = H[q]?) : Rep E D dA lo H0 (nC M a) H1 := by
  have tS : sTy (mS (nC M a)) (sN (mS M)) = 100 := by simp [nC, nSh, sTy, mS, sN]
  have lS : sLen (mS (nC M a)) (sN (mS M)) = sLen (mS M) a := by
    show (if sN (mS M) = sN (mS M) then sLen (mS M) a else _) = _
    rw [if_pos rfl]
  refine rep_new (t := 100) (len := sLen (mS M) a) (k := sLen (mS M) a) h hlo rfl hn hsl hs h1 ho (arrV_size _ _ _) ⟨fun q => ?_, fun q q2 => ?_, fun q => ?_⟩ (fun b hb0 r => ?_) (fun hy b j hb => ?_)
  · rw [tS] at q; omega
  · unfold RepI
    rw [tS, lS, hE, h1]
    congr 2
    funext j
    unfold mA nC
    simp
  · rw [tS] at q; omega
  · have hne : b ≠ sN (mS M) := by omega
    have t9 : sTy (mS (nC M a)) b = sTy (mS M) b := by
      show (if b = sN (mS M) then 100 else (mS M).1 b) = _
      rw [if_neg hne]; rfl
    have l9 : sLen (mS (nC M a)) b = sLen (mS M) b := by
      show (if b = sN (mS M) then sLen (mS M) a else (mS M).2.1 b) = _
      rw [if_neg hne]; rfl
    refine ⟨fun q => ?_, fun q q2 => ?_, fun q => ?_⟩
    · rw [t9] at q
      unfold RepO
      rw [t9]
      exact r.1 q
    · rw [t9] at q q2
      have h9 := r.2.1 q q2
      unfold RepI at h9 ⊢
      rw [t9, l9, h9]
      congr 2
      funext j
      unfold mA nC
      simp [hne]
    · rw [t9] at q
      have h9 := r.2.2 q
      unfold RepR at h9 ⊢
      rw [t9, l9, h9]
      congr 2
      funext j
      unfold mB nC
      simp [hne]
  · have hb' : (if b = sN (mS M) then 100 else (mS M).1 b) = 100 := hb
    unfold mA nC
    by_cases h9 : b = sN (mS M)
    · simp only [if_pos h9]
      exact hy a j ha.2.2
    · rw [if_neg h9] at hb'
      simp only [if_neg h9]
      exact hy b j hb'
theorem g_cloneB (X : Cx x cc own rt n0 sl0 fr lc) {src : Option Nat} {q idx : Nat} (hg : clnB M src = some (q, M')) (hlink : Cond.methodLink own idx ⟨"[B", "clone", "()Ljava/lang/Object;"⟩ ∈ tbG) (hsame : Cond.sameMethod "[B" "java/lang/Object" "clone" "()Ljava/lang/Object;" ∈ tbG) (hnat : Cond.native ⟨"java/lang/Object", "clone", "()Ljava/lang/Object;"⟩ ∈ tbG) (hinst : Cond.instanceMethod ⟨"java/lang/Object", "clone", "()Ljava/lang/Object;"⟩ ∈ tbG)
    (hsel : Cond.selects "[B" ⟨"[B", "clone", "()Ljava/lang/Object;"⟩ ⟨"java/lang/Object", "clone", "()Ljava/lang/Object;"⟩ ∈ tbG) (hroom : 1 ≤ fr ∧ (st.map pcat).sum + 14 ≤ lc) (hd : decode cc pc = .ok (.invokevirtual idx, 3)) (kk : Gw x M' (pc + 3) L (pR (some q) :: st)) : Gw x M pc L (pR src :: st) := fun H locs ls hw hl => by
  obtain ⟨a, rfl, ha, hn, hsl, rfl, rfl⟩ := clnB_some hg
  obtain ⟨r1, r2, r3, r4⟩ := X.room hw hn hsl
  have hc0 := rep_ints hw.1 (t := 100) (by decide) ha
  have hnm : (xs x).vm.findClass "[B" = some (xA x 100) := (X.2.1.2 0 _ rfl).2
  obtain ⟨c0, t0', f1, f2, f3⟩ := Cond.castable_spec (va_Nw.use (A := xa x) rfl X.2.2.1.2.2.2.2.2.2.2.2)
  cases hnm.symm.trans f1
  intro T hT XS
  obtain ⟨-, kA, hkA, comp, hkind⟩ := State.isArrayOf_alike XS.warmed.alike ((X.2.1.2 0 _ rfl).1 0 (fun _ => .null))
  obtain ⟨-, kS, hkS, compS, hkindS⟩ := (X.2.1.2 0 _ rfl).1 0 (fun _ => .null)
  obtain ⟨vm', X', stp⟩ := XS.cloneArray X.1.1 X.1.2.2.2.1 (X.w hlink) (X.w hsame) (X.w hnat) (X.w hinst) (X.w hsel) (a := xE x a) (cell := arrV (xA x 100) (sLen (mS M) a) (fun j => .int (mA M a j))) (by rw [hT]; exact hc0) (fun k h => by cases h) (fun h => by cases h) hnm f2 f3
    (fun i v hv => by
      have hk' : T.vm.classes[xA x 100]? = some kA := hkA
      have hi : i < sLen (mS M) a := by
        have := (Array.getElem?_eq_some_iff.mp hv).1
        rw [arrV_size] at this
        exact this
      rw [arrV_read _ _ hi] at hv
      obtain rfl := Option.some.inj hv
      have h9 := hw.1.2.2.2.2.2.2 a i ha.2.2
      show State.fitsSlot _ _ _ _ _ = true
      simpa [State.fitsSlot, State.slotType?, arrV, hk', hkind] using h9)
    (g := F0 (xm x) pc ls (.ref (xE x a) :: st.map (pv (xE x)))) rfl (hl.1.trans X.1.2.2.1.symm) rfl (by rw [X.1.2.1]; exact hd) (by rw [X.2.2.2.2.2.2.2.2.2.2.1]; exact hroom.1) (by rw [X.2.2.2.2.2.2.2.2.2.2.2, pv_cats]; show 2 * 0 + _ + 14 ≤ _; omega) r1 (by rw [arrV_size]; exact r2) (hloader := Vm.clonesLoader_of_array hkS hkindS)
  rw [arrV_size] at X'
  generalize hH1 : H.push (arrV (xA x 100) (sLen (mS M) a) (fun j => .int (mA M a j))) = H1
  have z1 : H1.size = H.size + 1 := by rw [← hH1, Array.size_push]
  have e1 : H1[H.size]? = some (arrV (xA x 100) (sLen (mS M) a) (fun j => .int (mA M a j))) := by rw [← hH1, Array.getElem?_push_size]
  have o1 : ∀ q : Nat, q < H.size → H1[q]? = H[q]? := fun q hq => by rw [← hH1, Array.getElem?_push, if_neg (Nat.ne_of_lt hq)]
  have hr := rep_newC hw.1 r3 ha hn hsl z1 r4 e1 o1
  obtain ⟨w1, w2, w3⟩ := way_new X hw hr z1 e1 o1 (arrV_size _ _ _)
  have h9 := W.cs w3.symm w2.symm (kk H1 locs ls w1 hl)
  have e0 : pv (xE x) (pR (some (sN (mS M)))) = .ref H.size := by show Value.ref (xE x _) = _; rw [r4]
  have h8 : W (xp x) (xl x) (xe x) (xR x) (xs x) (xm x) (xa x) (xb x) (xt x) (xc x) H1 locs (H.size - (xs x).heap.size + 1) (hsum (xs x).heap.size H + sLen (mS M) a) (xQ x) (F0 (xm x) (pc + 3) ls (pv (xE x) (pR (some (sN (mS M)))) :: st.map (pv (xE x)))) := h9
  rw [e0] at h8
  obtain ⟨t, b1, b2⟩ := h8 ((T.setVm vm').pushCell (arrV (xA x 100) (sLen (mS M) a) (fun j => .int (mA M a j)))) (by rw [← hH1, ← hT]; rfl) X'
  refine ⟨t, stp t ?_, b2⟩
  rw [hT]
  exact b1
theorem g_castB (X : Cx x cc own rt n0 sl0 fr lc) {o : Option Nat} {a idx : Nat} (hg : rc M 100 o = some a) (hclink : Cond.classLink own idx "[B" ∈ tbG) (hd : decode cc pc = .ok (.checkcast idx, 3)) (kk : Gw x M (pc + 3) L (pR (some a) :: st)) : Gw x M pc L (pR o :: st) := fun H locs ls hw hl => by
  obtain ⟨rfl, ha⟩ := rc_some hg
  have hc0 := rep_ints hw.1 (t := 100) (by decide) ha
  have hnm : (xs x).vm.findClass "[B" = some (xA x 100) := (X.2.1.2 0 _ rfl).2
  intro T hT XS
  obtain ⟨vm', X', stp⟩ := XS.checkcastYes X.1.1 X.1.2.2.2.1 (X.w hclink) (by rw [hT]; exact hc0) rfl hnm (va_asg _ _) (g := F0 (xm x) pc ls (.ref (xE x a) :: st.map (pv (xE x)))) rfl rfl (by rw [X.1.2.1]; exact hd)
  obtain ⟨t, a1, b1⟩ := kk H locs ls hw hl (T.setVm vm') hT X'
  exact ⟨t, stp t a1, b1⟩
end Rows13
