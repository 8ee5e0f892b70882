/-! ===== part 09: new arrays, switches ===== -/
section Rows9
variable {x : GX} {cc : ByteArray} {own : String} {rt : Option FieldType} {fr lc n0 sl0 pc : Nat} {M M' : Mm} {L : List (Nat × PV)} {st : List PV} {ro : Option PV}
theorem rep_newA {E : Nat → Nat} {D : va_G} {dA : Nat → ClassId} {lo : Nat} {H0 H H1 : Heap} {M : Mm} {t N : Nat} (h : Rep E D dA lo H0 M H) (hlo : lo ≤ H.size) (ht : 100 ≤ t) (hn : sN (mS M) + 1 ≤ 600300) (hsl : sSl (mS M) + N ≤ 7302250) (hs : H1.size = H.size + 1) (hE : E (sN (mS M)) = H.size)
    (h1 : t < 110 → H1[H.size]? = some (arrV (dA t) N (fun _ => .int 0))) (h2 : 110 ≤ t → H1[H.size]? = some (arrV (dA t) N (fun _ => .null))) (ho : ∀ q, q < H.size → H1[q]? = H[q]?) : Rep E D dA lo H0 (nA M t N) H1 := by
  have hc : ∃ f, H1[H.size]? = some (arrV (dA t) N f) := by
    by_cases h9 : t < 110
    · exact ⟨_, h1 h9⟩
    · exact ⟨_, h2 (by omega)⟩
  obtain ⟨f, hf⟩ := hc
  have tS : sTy (mS (nA M t N)) (sN (mS M)) = t := by simp [nA, nSh, sTy, mS, sN]
  have lS : sLen (mS (nA M t N)) (sN (mS M)) = N := by simp [nA, nSh, sLen, mS, sN]
  refine rep_new (t := t) (len := N) (k := N) h hlo rfl hn hsl hs hf ho (arrV_size _ _ _) ⟨fun q => ?_, fun q q2 => ?_, fun q => ?_⟩ (fun b hb0 r => ?_) (fun hy b j hb => ?_)
  · rw [tS] at q; omega
  · unfold RepI
    rw [tS, lS, hE, h1 (by omega)]
    congr 2
    funext j
    unfold mA nA
    simp
  · unfold RepR
    rw [tS, lS, hE, h2 (by omega)]
    congr 2
    funext j
    unfold mB nA
    simp [pv]
  · have hne : b ≠ sN (mS M) := by omega
    have t9 : sTy (mS (nA M t N)) b = sTy (mS M) b := by
      show (if b = sN (mS M) then t else (mS M).1 b) = _
      rw [if_neg hne]; rfl
    have l9 : sLen (mS (nA M t N)) b = sLen (mS M) b := by
      show (if b = sN (mS M) then N else (mS M).2.1 b) = _
      rw [if_neg hne]; rfl
    refine ⟨fun q => ?_, fun q q2 => ?_, fun q => ?_⟩
    · rw [t9] at q
      unfold RepO
      rw [t9]
      exact r.1 q
    · rw [t9] at q q2
      have h9 := r.2.1 q q2
      unfold RepI at h9 ⊢
      rw [t9, l9, h9]
      congr 2
      funext j
      unfold mA nA
      simp [hne]
    · rw [t9] at q
      have h9 := r.2.2 q
      unfold RepR at h9 ⊢
      rw [t9, l9, h9]
      congr 2
      funext j
      unfold mB nA
      simp [hne]
  · have hb' : (if b = sN (mS M) then t else (mS M).1 b) = 100 := hb
    unfold mA nA
    by_cases h9 : b = sN (mS M)
    · simp only [if_pos h9]
      rfl
    · rw [if_neg h9] at hb'
      simp only [if_neg h9]
      exact hy b j hb'
theorem mkA_some {t a : Nat} {n : Int32} (h : mkA M t n = some (a, M')) : (¬ n < 0 ∧ sN (mS M) + 1 ≤ 600300 ∧ sSl (mS M) + n.toNatClampNeg ≤ 7302250) ∧ a = sN (mS M) ∧ M' = nA M t n.toNatClampNeg := by
  obtain ⟨h1, h2⟩ := ite_some h
  obtain ⟨rfl, rfl⟩ := Prod.mk.inj h2
  exact ⟨h1, rfl, rfl⟩
/-- newarray of a kind of ints -/
theorem g_newarray (X : Cx x cc own rt n0 sl0 fr lc) {t k a : Nat} {at9 : ArrayType} {n : Int32} (hk : (tyL (xA x))[k]? = some (xA x t, newarray.typeOf at9)) (ht : 100 ≤ t ∧ t < 110) (hdv : defaultValue (newarray.typeOf at9) = .int 0) (hcb : componentBytes (newarray.typeOf at9) ≤ 8) (hra : ∀ U cA, va_RA U cA (newarray.typeOf at9) → U.vm.findClass ("[" ++ (newarray.typeOf at9).toString) = some cA) (hw9 : Cond.arrayClass (newarray.typeOf at9) ∈ tbG) (hg : mkA M t n = some (a, M'))
    (hd : decode cc pc = .ok (.newarray at9, 2)) (kk : Gw x M' (pc + 2) L (pR (some a) :: st)) : Gw x M pc L (pI n :: st) := fun H locs ls hw hl => by
  obtain ⟨⟨hn0, hn, hsl⟩, rfl, rfl⟩ := mkA_some hg
  obtain ⟨r1, r2, r3, r4⟩ := X.room hw hn hsl
  have hb8 : n.toNatClampNeg * componentBytes (newarray.typeOf at9) ≤ n.toNatClampNeg * 8 := Nat.mul_le_mul_left _ hcb
  refine W.newa X.1.1 X.1.2.1 (X.w hw9) rfl hd rfl hn0 (by omega) r1 r2 fun cA kA comp f1 f2 f3 => ?_
  have hcc : cA = xA x t := Option.some.inj (f1.symm.trans (hra _ _ (X.2.1.2 k _ hk).2))
  subst hcc
  generalize hH1 : H.push ({ cls := xA x t, slots := Array.replicate n.toNatClampNeg (defaultValue (newarray.typeOf at9)), vm := .none } : Cell) = H1
  have z1 : H1.size = H.size + 1 := by rw [← hH1, Array.size_push]
  have e1 : H1[H.size]? = some (arrV (xA x t) n.toNatClampNeg (fun _ => .int 0)) := by rw [← hH1, Array.getElem?_push_size, hdv, arrV_new]
  have o1 : ∀ q : Nat, q < H.size → H1[q]? = H[q]? := fun q hq => by rw [← hH1, Array.getElem?_push, if_neg (Nat.ne_of_lt hq)]
  have hr := rep_newA (N := n.toNatClampNeg) hw.1 r3 ht.1 hn hsl z1 r4 (fun _ => e1) (fun h => by omega) o1
  obtain ⟨w1, w2, w3⟩ := way_new X hw hr z1 e1 o1 (arrV_size _ _ _)
  have h9 := kk H1 locs ls w1 hl
  refine W.cs w3.symm w2.symm ?_
  have e0 : pv (xE x) (pR (some (sN (mS M)))) = .ref H.size := by show Value.ref (xE x _) = _; rw [r4]
  have h8 : xW x H1 locs (F0 (xm x) (pc + 2) ls (pv (xE x) (pR (some (sN (mS M)))) :: st.map (pv (xE x)))) := h9
  rw [e0] at h8
  exact h8
/-- anewarray -/
theorem g_anewarray (X : Cx x cc own rt n0 sl0 fr lc) {t k a idx : Nat} {C : String} {n : Int32} (hk : (tyL (xA x))[k]? = some (xA x t, .object C)) (ht : 110 ≤ t) (hao : C ∈ aoL) (hclink : Cond.classLink own idx C ∈ tbG) (hg : mkA M t n = some (a, M'))
    (hd : decode cc pc = .ok (.anewarray idx, 3)) (kk : Gw x M' (pc + 3) L (pR (some a) :: st)) : Gw x M pc L (pI n :: st) := fun H locs ls hw hl => by
  obtain ⟨⟨hn0, hn, hsl⟩, rfl, rfl⟩ := mkA_some hg
  obtain ⟨r1, r2, r3, r4⟩ := X.room hw hn hsl
  refine W.anew X.1.1 X.1.2.1 X.1.2.2.2.1 (X.w hclink) (va_AO.use (X.2.2.1.2.1 C hao)) rfl hd rfl hn0 (by omega) r1 r2 fun cA kA comp f1 f2 f3 f4 => ?_
  obtain ⟨kA2, comp2, k1, k2, k3, k4⟩ := (X.2.1.2 k _ hk).2
  have hcc : cA = xA x t := Option.some.inj (f1.symm.trans k4)
  subst hcc
  generalize hH1 : H.push ({ cls := xA x t, slots := Array.replicate n.toNatClampNeg .null, vm := .none } : Cell) = H1
  have z1 : H1.size = H.size + 1 := by rw [← hH1, Array.size_push]
  have e1 : H1[H.size]? = some (arrV (xA x t) n.toNatClampNeg (fun _ => .null)) := by rw [← hH1, Array.getElem?_push_size, arrV_new]
  have o1 : ∀ q : Nat, q < H.size → H1[q]? = H[q]? := fun q hq => by rw [← hH1, Array.getElem?_push, if_neg (Nat.ne_of_lt hq)]
  have hr := rep_newA (N := n.toNatClampNeg) hw.1 r3 (by omega) hn hsl z1 r4 (fun h => by omega) (fun _ => e1) o1
  obtain ⟨w1, w2, w3⟩ := way_new X hw hr z1 e1 o1 (arrV_size _ _ _)
  have h9 := kk H1 locs ls w1 hl
  refine W.cs w3.symm w2.symm ?_
  have e0 : pv (xE x) (pR (some (sN (mS M)))) = .ref H.size := by show Value.ref (xE x _) = _; rw [r4]
  have h8 : xW x H1 locs (F0 (xm x) (pc + 3) ls (pv (xE x) (pR (some (sN (mS M)))) :: st.map (pv (xE x)))) := h9
  rw [e0] at h8
  exact h8
theorem g_lookup (X : Cx x cc own rt n0 sl0 fr lc) {dflt : Int} {ps : Array (Int × Int)} {len : Nat} {v : Int32} {off : Int} {tgt : Nat} (hd : decode cc pc = .ok (.lookupswitch dflt ps, len)) (hp : (ps.toList.zip (ps.toList.drop 1)).all (fun (a, next) => a.1 < next.1) = true) (ho : Op.lookupswitch.offset ps.toList dflt v.toInt = off) (ht : (pc : Int) + off = (tgt : Int)) (k : Gw x M tgt L st) : Gw x M pc L (pI v :: st) := fun H locs ls hw hl => lv_lookup X.1.1 X.1.2.1 hd hp ho ht (k H locs ls hw hl)
theorem g_tableIn (X : Cx x cc own rt n0 sl0 fr lc) {dflt lo hi : Int} {offs : Array Int} {len : Nat} {v : Int32} {off : Int} {tgt : Nat} (hd : decode cc pc = .ok (.tableswitch dflt lo hi offs, len)) (h1 : ¬ v.toInt < lo) (h2 : ¬ hi < v.toInt) (ho : offs[(v.toInt - lo).toNat]? = some off) (ht : (pc : Int) + off = (tgt : Int)) (k : Gw x M tgt L st) : Gw x M pc L (pI v :: st) := fun H locs ls hw hl => lv_tableIn X.1.1 X.1.2.1 hd h1 h2 ho ht (k H locs ls hw hl)
theorem g_tableOut (X : Cx x cc own rt n0 sl0 fr lc) {dflt lo hi : Int} {offs : Array Int} {len : Nat} {v : Int32} {tgt : Nat} (hd : decode cc pc = .ok (.tableswitch dflt lo hi offs, len)) (h : v.toInt < lo ∨ hi < v.toInt) (ht : (pc : Int) + dflt = (tgt : Int)) (k : Gw x M tgt L st) : Gw x M pc L (pI v :: st) := fun H locs ls hw hl => lv_tableOut X.1.1 X.1.2.1 hd h ht (k H locs ls hw hl)
end Rows9
