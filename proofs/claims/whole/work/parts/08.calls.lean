/-! ===== part 08: calls, ends, entries ===== -/
/-- the end of a method's body: its answer and the memory then -/
def Qm (E : Nat → Nat) (D : va_G) (dA : Nat → ClassId) (lo : Nat) (H0 : Heap) (ro : Option PV) (M : Mm) : Array Value → State → Outcome → State → Prop :=
  fun _ _ o t => o = .returned (ro.map (pv E)) ∧ Rep E D dA lo H0 M t.heap
def Ends (x : GX) (n0 sl0 : Nat) (ro : Option PV) (M : Mm) : Prop :=
  xQ x = MQ (xb x) (Qm (xE x) (xD x) (xA x) (xo x) (xH x) ro M) (xa x) (xs x) (600300 - n0) (7302250 - sl0) (fun q => xo x ≤ q)
/-- a method's contract: from the memory M with these arguments it comes back with ro and the memory M' -/
def Ct (l : Launch) (E : Nat → Nat) (D : va_G) (dA : Nat → ClassId) (lo : Nat) (H0 : Heap) (y : MethodName) (code : ByteArray) (maxL : Nat) (ret : Option FieldType) (fr lc : Nat) (as : List PV) (M : Mm) (ro : Option PV) (M' : Mm) : Prop :=
  Met l y (Cond.code y code maxL ret :: tbG) { frames := fr, cells := 600300 - sN (mS M), slots := 7302250 - sSl (mS M), locals := lc }
    (va_Pc (as.map (pv E)) (fun U => Rep E D dA lo H0 M U.heap ∧ va_K D clT (tyL dA) U ∧ AuxK E lo H0 U)) (Qm E D dA lo H0 ro M') (600300 - sN (mS M)) (7302250 - sSl (mS M)) (fun q => lo ≤ q)
def pargs : Nat → List PV → List (Nat × PV)
  | _, [] => []
  | i, v :: t => (i, v) :: pargs (i + pcat v) t
theorem pargs_lv (E : Nat → Nat) : ∀ (i : Nat) (as : List PV), lv_args i (as.map (pv E)) = lvM E (pargs i as)
  | _, [] => rfl
  | i, v :: t => by
    show (i, pv E v) :: lv_args _ (t.map (pv E)) = (i, pv E v) :: lvM E (pargs (i + pcat v) t)
    rw [← pargs_lv E (i + pcat v) t, pv_cat]
    rcases v with z | z | z <;> rfl
theorem lg_sl_len (E : Nat → Nat) (as : List PV) : (lg_sl (as.map (pv E))).length = (as.map pcat).sum := by
  induction as with
  | nil => rfl
  | cons v t ih =>
    rcases v with z | z | _ | z <;> simp [lg_sl, pv, pcat, Value.category] at ih ⊢ <;> omega
theorem tbG_good (l : List Cond) (h : ∀ w ∈ l, w ∈ tbG) : GoodIn tbG l := fun w hw => ⟨h w hw, good_of_word (List.mem_filter.mp (h w hw)).2⟩
theorem AuxK.warm {E : Nat → Nat} {lo : Nat} {H0 : Heap} {s U : State} (hW : s.WarmedH U.vm) (h : AuxK E lo H0 s) : AuxK E lo H0 U := by
  obtain ⟨h1, h2, h3, h4, h5, h6, h7, ⟨o, h8⟩, h9⟩ := h
  refine ⟨fun w hw => ?_, fun C hC => (h2 C hC).moved hW.alike, fun q hq => (h3 q hq).warm hW, fun k hk => ⟨(h4 k hk).1.moved hW.alike, (h4 k hk).2.1.moved hW.alike, (h4 k hk).2.2.1.moved hW.alike, (h4 k hk).2.2.2.moved hW.alike⟩, h5.moved hW.alike, h6.moved hW.alike, h7.moved hW.alike, ⟨o, h8.moved hW.alike⟩, va_Nw.warmC hW h9⟩
  have h8 : ∃ a i y z, w = .methodLinkNest a i y z := nest_kind w hw
  have h9 := h1 w hw
  obtain ⟨a, i, y, z, rfl⟩ := h8
  exact va_Nw.warmM hW h9
section Rows8
variable {x : GX} {cc : ByteArray} {own : String} {rt : Option FieldType} {fr lc n0 sl0 pc : Nat} {M M' : Mm} {L : List (Nat × PV)} {st : List PV} {ro : Option PV}
/-- a method's contract out of its body's walk -/
theorem ct_of {l : Launch} {E : Nat → Nat} {D : va_G} {dA : Nat → ClassId} {lo : Nat} {H0 : Heap} {y : MethodName} {code : ByteArray} {maxL : Nat} {ret : Option FieldType} {fr lc : Nat} {as : List PV} {M : Mm} {ro : Option PV} {M' : Mm} (hy : plainName y.cls = true) (hlen : (as.map pcat).sum ≤ maxL)
    (body : ∀ x : GX, xl x = l → xE x = E → xD x = D → xA x = dA → xo x = lo → xH x = H0 → xn x = maxL → (xt x).name = y.name → Cx x code y.cls ret (sN (mS M)) (sSl (mS M)) fr lc → Ends x (sN (mS M)) (sSl (mS M)) ro M' → Gw x M 0 (pargs 0 as) []) :
    Ct l E D dA lo H0 y code maxL ret fr lc as M ro M' := by
  refine Met.ofW (cc := code) (maxL := maxL) (ret := ret) hy rfl ?_
  intro p e s m args below meth c s₁ B hml hv
  obtain ⟨rfl, hR, hK, hA⟩ := hv
  have hts := atoms_spec (ws := Cond.code y code maxL ret :: tbG) B.pre
  have hown : s.vm.findClass y.cls = some m.cls := findClass_of_methodNamed B.named
  have hname : meth.name = y.name := (name_of_methodNamed B.named B.method).1
  have hg := body (p, l, e, (headSpec (Cond.code y code maxL ret :: tbG) { frames := fr, cells := 600300 - sN (mS M), slots := 7302250 - sSl (mS M), locals := lc }).room, s, m, (as.map (pv E)).toArray, below, meth, c, MQ below (Qm E D dA lo H0 ro M') (as.map (pv E)).toArray s (600300 - sN (mS M)) (7302250 - sSl (mS M)) (fun q => lo ≤ q), maxL, E, D, dA, lo, H0) rfl rfl rfl rfl rfl rfl rfl hname
    ⟨⟨B.exec, B.bytes, hml, hown, fun w hw => hts w (List.mem_cons_of_mem _ hw)⟩, hK, hA, hR.2.2.1, hR.2.2.2.1, hR.2.1.1, rfl, rfl, B.notSynchronized, B.returns, rfl, rfl⟩ rfl
  have hl := lv_entry (as.map (pv E)) (n := maxL) (by rw [lg_sl_len]; exact hlen)
  rw [pargs_lv] at hl
  rw [lg_entry_eq]
  have h9 := hg s.heap [] _ ⟨hR, Nat.le_refl _, by rw [hsum_end]; rfl, fun q hq => absurd hq List.not_mem_nil⟩ hl
  exact W.cs (by simp) (hsum_end _).symm h9
theorem Ends.cells {H : Heap} {locs : List Loc} (X : Cx x cc own rt n0 sl0 fr lc) (hw : Way x M H locs) : H.size - (xs x).heap.size ≤ 600300 - n0 ∧ hsum (xs x).heap.size H ≤ 7302250 - sl0 := by
  obtain ⟨⟨hE, ⟨n1, n2, n3⟩, hsz, hsm, -⟩, h2, h3, -⟩ := hw
  obtain ⟨-, -, -, e1, e2, e3, -⟩ := X
  exact ⟨by omega, by omega⟩
theorem g_ireturn (X : Cx x cc own (some .int) n0 sl0 fr lc) {v : Int32} (hE : Ends x n0 sl0 (some (pI v)) M) (hd : decode cc pc = .ok (.ireturn, 1)) : Gw x M pc L [pI v] := fun H locs ls hw hl => by
  obtain ⟨c1, c2⟩ := Ends.cells X hw
  show W _ _ _ _ _ _ _ _ _ _ _ _ _ _ (xQ x) _
  rw [hE]
  exact W.widen c1 c2 (W.iret X.1.1 X.1.2.1 X.2.2.2.2.2.2.2.2.2.1 (fun t ht hW => ⟨rfl, by rw [ht]; exact hw.1⟩) hw.2.2.2 hd X.2.2.2.2.2.2.2.2.1)
theorem g_nreturn (X : Cx x cc own rt n0 sl0 fr lc) {ty : FieldType} (hrt : rt = some ty) {v : Int32} (hn : narrow ty (.int v) = .int v) (hE : Ends x n0 sl0 (some (pI v)) M) (hd : decode cc pc = .ok (.ireturn, 1)) : Gw x M pc L [pI v] := fun H locs ls hw hl => by
  obtain ⟨c1, c2⟩ := Ends.cells X hw
  show W _ _ _ _ _ _ _ _ _ _ _ _ _ _ (xQ x) _
  rw [hE]
  exact W.widen c1 c2 (W.zret X.1.1 X.1.2.1 (X.2.2.2.2.2.2.2.2.2.1.trans hrt) hn (fun t ht hW => ⟨rfl, by rw [ht]; exact hw.1⟩) hw.2.2.2 hd X.2.2.2.2.2.2.2.2.1)
theorem g_lreturn (X : Cx x cc own (some .long) n0 sl0 fr lc) {v : Int64} (hE : Ends x n0 sl0 (some (pL v)) M) (hd : decode cc pc = .ok (.lreturn, 1)) : Gw x M pc L [pL v] := fun H locs ls hw hl => by
  obtain ⟨c1, c2⟩ := Ends.cells X hw
  show W _ _ _ _ _ _ _ _ _ _ _ _ _ _ (xQ x) _
  rw [hE]
  exact W.widen c1 c2 (W.lret X.1.1 X.1.2.1 X.2.2.2.2.2.2.2.2.2.1 (fun t ht hW => ⟨rfl, by rw [ht]; exact hw.1⟩) hw.2.2.2 hd X.2.2.2.2.2.2.2.2.1)
theorem g_return (X : Cx x cc own none n0 sl0 fr lc) (hE : Ends x n0 sl0 none M) (hd : decode cc pc = .ok (.return_, 1)) : Gw x M pc L [] := fun H locs ls hw hl => by
  obtain ⟨c1, c2⟩ := Ends.cells X hw
  show W _ _ _ _ _ _ _ _ _ _ _ _ _ _ (xQ x) _
  rw [hE]
  exact W.widen c1 c2 (W.vret X.1.1 X.1.2.1 X.2.2.2.2.2.2.2.2.2.1 (fun t ht hW => ⟨rfl, by rw [ht]; exact hw.1⟩) hw.2.2.2 hd X.2.2.2.2.2.2.2.2.1)
theorem g_areturn (X : Cx x cc own rt n0 sl0 fr lc) {ty : FieldType} (hrt : rt = some ty) (hr : (∃ n, ty = .object n) ∨ ∃ t, ty = .array t) {v : Option Nat} (hE : Ends x n0 sl0 (some (pR v)) M) (hd : decode cc pc = .ok (.areturn, 1)) : Gw x M pc L [pR v] := fun H locs ls hw hl => by
  obtain ⟨c1, c2⟩ := Ends.cells X hw
  show W _ _ _ _ _ _ _ _ _ _ _ _ _ _ (xQ x) _
  rw [hE]
  exact W.widen c1 c2 (W.aret X.1.1 X.1.2.1 (X.2.2.2.2.2.2.2.2.2.1.trans hrt) hr (by cases v with
    | none => exact Or.inl rfl
    | some a => exact Or.inr ⟨_, rfl⟩) (fun t ht hW => ⟨rfl, by rw [ht]; exact hw.1⟩) hw.2.2.2 hd X.2.2.2.2.2.2.2.2.1)
/-- behind a call -/
theorem g_after (X : Cx x cc own rt n0 sl0 fr lc) {H : Heap} {locs : List Loc} {ls : Array Slot} {mc ms : Nat} {stv : List Value} (hl : lv_has ls (xn x) (lvM (xE x) L)) (hlocs : ∀ q ∈ locs, xo x ≤ q.base)
    (hr : va_Run (xp x) (xl x) (xe x) (xR x) (xs x) (xm x) (xa x) (xb x) (xt x) (xc x) H locs (H.size - (xs x).heap.size) (hsum (xs x).heap.size H) mc ms (F0 (xm x) pc ls stv) (st.map (pv (xE x))) (fun _ o t => o = .returned (ro.map (pv (xE x))) ∧ Rep (xE x) (xD x) (xA x) (xo x) (xH x) M' t.heap) (fun q => xo x ≤ q))
    (kk : Gw x M' (pc + 3) L (ro.toList ++ st)) : xW x H locs (F0 (xm x) pc ls stv) := by
  intro T hT XS
  obtain ⟨v, st₀, t, T', L', h0, X', hL, e1, e2, ⟨hv, hR⟩, go⟩ := hr T hT XS
  have hv' : v = ro.map (pv (xE x)) := by injection hv
  subst hv'
  have hsame := X'.same
  have hlo : xo x ≤ (xs x).heap.size := by
    have := X.2.2.2.1
    have := X.2.2.2.2.2.1
    omega
  have hsp : hsum (xo x) (xs x).heap + hsum (xs x).heap.size T'.heap = hsum (xo x) T'.heap := hsum_split (s' := T'.setVm (xs x).vm) hsame hlo
  obtain ⟨s1, s2, s3, s4, s5, s6⟩ := hsame
  have s2' : (xs x).heap.size ≤ T'.heap.size := s2
  have X2 : Stand (xp x) (xl x) (xe x) (xR x) (xs x) (xm x) (xa x) (xb x) (xt x) (xc x) T' (locs ++ L') (T'.heap.size - (xs x).heap.size) (hsum (xs x).heap.size T'.heap) :=
    { X' with same := ⟨s1, s2, (by show T'.heap.size ≤ _; omega), s4, Nat.le_refl _, s6⟩ }
  have hw' : Way x M' T'.heap (locs ++ L') := ⟨by rw [e1]; exact hR, s2', hsp, fun q hq => (List.mem_append.mp hq).elim (hlocs q) (hL q)⟩
  obtain ⟨t2, a1, b1⟩ := kk T'.heap (locs ++ L') ls hw' hl T' rfl X2
  refine ⟨t2, go t2 ?_, b1⟩
  have e9 : (ro.toList ++ st).map (pv (xE x)) = (ro.map (pv (xE x))).toList ++ st.map (pv (xE x)) := by cases ro <;> simp
  rw [e9] at a1
  exact a1
theorem ct_blind {E : Nat → Nat} {D : va_G} {dA : Nat → ClassId} {lo : Nat} {H0 : Heap} {as : List PV} {M : Mm} : FrameBlind (va_Pc (as.map (pv E)) (fun U => Rep E D dA lo H0 M U.heap ∧ va_K D clT (tyL dA) U ∧ AuxK E lo H0 U)) :=
  fun a U g mk q => by
    obtain ⟨q0, q1, q2, q3⟩ := q
    exact ⟨q0, q1, va_K.moved (u := U) (U := U.calling g mk a) (Vm.Alike.refl U.vm) q2, q3.warm (U := U.calling g mk a) (State.WarmedH.refl U)⟩
theorem ct_pre (X : Cx x cc own rt n0 sl0 fr lc) {H : Heap} {locs : List Loc} {as : List PV} (hw : Way x M H locs) : ∀ U : State, U.heap = H → (xs x).WarmedH U.vm → va_Pc (as.map (pv (xE x))) (fun U => Rep (xE x) (xD x) (xA x) (xo x) (xH x) M U.heap ∧ va_K (xD x) clT (tyL (xA x)) U ∧ AuxK (xE x) (xo x) (xH x) U) (as.map (pv (xE x))).toArray U :=
  fun U hU hW => ⟨rfl, by rw [hU]; exact hw.1, va_K.moved hW.alike X.2.1, X.2.2.1.warm hW⟩
theorem ct_room (X : Cx x cc own rt n0 sl0 fr lc) {H : Heap} {locs : List Loc} (hw : Way x M H locs) : H.size - (xs x).heap.size + (600300 - sN (mS M)) ≤ (xR x).cells ∧ hsum (xs x).heap.size H + (7302250 - sSl (mS M)) ≤ (xR x).slots := by
  obtain ⟨⟨hE, ⟨n1, n2, n3⟩, hsz, hsm, -⟩, h2, h3, -⟩ := hw
  obtain ⟨-, -, -, e1, e2, e3, e4, e5, -⟩ := X
  rw [e4, e5]
  exact ⟨by omega, by omega⟩
theorem st_room (h : (st.map pcat).sum ≤ 8) {m : MethodId} {pc : Nat} {ls : Array Slot} {rest : List Value} {E : Nat → Nat} : 2 * (F0 m pc ls rest).monitorRoom + ((st.map (pv E)).map fun v => v.category).sum ≤ 8 := by
  rw [pv_cats]
  show 2 * 0 + _ ≤ 8
  omega
/-- invokestatic -/
theorem g_callS (X : Cx x cc own rt n0 sl0 fr lc) {y : MethodName} {code : ByteArray} {maxL idx f2 l2 n : Nat} {ret : Option FieldType} {as as' : List PV} (hM : Ct (xl x) (xE x) (xD x) (xA x) (xo x) (xH x) y code maxL ret f2 l2 as M ro M') (hcw : Cond.code y code maxL ret ∈ tbG)
    (hlink : Cond.methodLink own idx y ∈ tbG) (hst : Cond.static y ∈ tbG) (hini : Cond.initialized y.cls ∈ tbG) (hy : y.cls ≠ "java/lang/invoke/MethodHandle" ∧ y.cls ≠ "java/lang/invoke/VarHandle" ∧ (parseMethodDescriptor y.desc).map (fun d => d.parameters.length) = some n) (hn : as.length = n) (hrev : as.reverse = as')
    (hroom : f2 + 1 ≤ fr ∧ 8 + (maxL + 11) + l2 ≤ lc) (hst8 : (st.map pcat).sum ≤ 8) (hd : decode cc pc = .ok (.invokestatic idx, 3)) (kk : Gw x M' (pc + 3) L (ro.toList ++ st)) : Gw x M pc L (as' ++ st) := fun H locs ls hw hl => by
  subst hrev
  refine g_after X hl hw.2.2.2 (va_runS (As := as.map (pv (xE x))) X.1 hM (va_cwS n X.1.2.2.2.2 (tbG_good _ (fun w hw => ?_)) rfl rfl rfl hy ⟨by rw [X.2.2.2.2.2.2.2.2.2.2.1]; exact hroom.1, by rw [X.2.2.2.2.2.2.2.2.2.2.2]; exact hroom.2⟩) ⟨ct_blind, ct_pre X hw⟩ rfl (by simpa using hn) hl.1 (by simp) (st_room hst8) hd (ct_room X hw)) kk
  simp only [va_wsS, List.cons_append, List.nil_append, List.mem_cons] at hw
  rcases hw with rfl | rfl | rfl | rfl | hw
  · exact hlink
  · exact hst
  · exact hini
  · exact hcw
  · exact hw
/-- invokestatic of a nest mate's private method -/
theorem g_callSN (X : Cx x cc own rt n0 sl0 fr lc) {y : MethodName} {host : String} {code : ByteArray} {maxL idx f2 l2 n : Nat} {ret : Option FieldType} {as as' : List PV} (hM : Ct (xl x) (xE x) (xD x) (xA x) (xo x) (xH x) y code maxL ret f2 l2 as M ro M') (hcw : Cond.code y code maxL ret ∈ tbG)
    (hlink : Cond.methodLinkNest own idx y host ∈ nestL) (hst : Cond.static y ∈ tbG) (hini : Cond.initialized y.cls ∈ tbG) (hy : y.cls ≠ "java/lang/invoke/MethodHandle" ∧ y.cls ≠ "java/lang/invoke/VarHandle" ∧ (parseMethodDescriptor y.desc).map (fun d => d.parameters.length) = some n) (hn : as.length = n) (hrev : as.reverse = as')
    (hroom : f2 + 1 ≤ fr ∧ 8 + (maxL + 11) + l2 ≤ lc) (hst8 : (st.map pcat).sum ≤ 8) (hd : decode cc pc = .ok (.invokestatic idx, 3)) (kk : Gw x M' (pc + 3) L (ro.toList ++ st)) : Gw x M pc L (as' ++ st) := fun H locs ls hw hl => by
  subst hrev
  refine g_after X hl hw.2.2.2 (va_runSN (As := as.map (pv (xE x))) X.1 hM ⟨va_cnB n X.1.2.2.2.2 (tbG_good _ (fun w hw => ?_)) rfl rfl rfl (X.2.2.1.1 _ hlink) (X.w hini) hy ⟨by rw [X.2.2.2.2.2.2.2.2.2.2.1]; exact hroom.1, by rw [X.2.2.2.2.2.2.2.2.2.2.2]; exact hroom.2⟩, X.w hst, trivial⟩ ⟨ct_blind, ct_pre X hw⟩ rfl (by simpa using hn) hl.1 (by simp) (st_room hst8) hd (ct_room X hw)) kk
  rcases List.mem_cons.mp hw with rfl | hw
  · exact hcw
  · exact hw
/-- invokespecial of a constructor -/
theorem g_callI (X : Cx x cc own rt n0 sl0 fr lc) {y : MethodName} {code : ByteArray} {maxL idx f2 l2 n b : Nat} {as as' : List PV} (hM : Ct (xl x) (xE x) (xD x) (xA x) (xo x) (xH x) y code maxL none f2 l2 (pR (some b) :: as) M none M') (hcw : Cond.code y code maxL none ∈ tbG)
    (hlink : Cond.methodLink own idx y ∈ tbG) (hst : Cond.instanceMethod y ∈ tbG) (hini : Cond.initialized y.cls ∈ tbG) (hy1 : y.name = "<init>") (hy : y.cls ≠ "java/lang/invoke/MethodHandle" ∧ y.cls ≠ "java/lang/invoke/VarHandle" ∧ (parseMethodDescriptor y.desc).map (fun d => d.parameters.length) = some n) (hn : as.length = n) (hrev : as.reverse = as')
    (hroom : f2 + 1 ≤ fr ∧ 8 + (maxL + 11) + l2 ≤ lc) (hst8 : (st.map pcat).sum ≤ 8) (hd : decode cc pc = .ok (.invokespecial idx, 3)) (kk : Gw x M' (pc + 3) L st) : Gw x M pc L (as' ++ pR (some b) :: st) := fun H locs ls hw hl => by
  subst hrev
  refine g_after (ro := none) X hl hw.2.2.2 (va_runI (As := as.map (pv (xE x))) (b := xE x b) X.1 hM (cwI n X.1.2.2.2.2 (tbG_good _ (fun w hw => ?_)) rfl rfl rfl (X.w hini) (X.w hlink) (X.w hst) hy1 hy ⟨by rw [X.2.2.2.2.2.2.2.2.2.2.1]; exact hroom.1, by rw [X.2.2.2.2.2.2.2.2.2.2.2]; exact hroom.2⟩) ⟨ct_blind, ct_pre (as := pR (some b) :: as) X hw⟩ rfl (by simpa using hn) hl.1 (by simp [pv]) (st_room hst8) hd (ct_room X hw)) kk
  rcases List.mem_cons.mp hw with rfl | hw
  · exact hcw
  · exact hw
/-- invokespecial of a nest mate's private constructor -/
theorem g_callIN (X : Cx x cc own rt n0 sl0 fr lc) {y : MethodName} {host : String} {code : ByteArray} {maxL idx f2 l2 n b : Nat} {as as' : List PV} (hM : Ct (xl x) (xE x) (xD x) (xA x) (xo x) (xH x) y code maxL none f2 l2 (pR (some b) :: as) M none M') (hcw : Cond.code y code maxL none ∈ tbG)
    (hlink : Cond.methodLinkNest own idx y host ∈ nestL) (hst : Cond.instanceMethod y ∈ tbG) (hini : Cond.initialized y.cls ∈ tbG) (hy1 : y.name = "<init>") (hy : y.cls ≠ "java/lang/invoke/MethodHandle" ∧ y.cls ≠ "java/lang/invoke/VarHandle" ∧ (parseMethodDescriptor y.desc).map (fun d => d.parameters.length) = some n) (hn : as.length = n) (hrev : as.reverse = as')
    (hroom : f2 + 1 ≤ fr ∧ 8 + (maxL + 11) + l2 ≤ lc) (hst8 : (st.map pcat).sum ≤ 8) (hd : decode cc pc = .ok (.invokespecial idx, 3)) (kk : Gw x M' (pc + 3) L st) : Gw x M pc L (as' ++ pR (some b) :: st) := fun H locs ls hw hl => by
  subst hrev
  refine g_after (ro := none) X hl hw.2.2.2 (va_runIN (As := as.map (pv (xE x))) (b := xE x b) X.1 hM ⟨va_cnB n X.1.2.2.2.2 (tbG_good _ (fun w hw => ?_)) rfl rfl rfl (X.2.2.1.1 _ hlink) (X.w hini) hy ⟨by rw [X.2.2.2.2.2.2.2.2.2.2.1]; exact hroom.1, by rw [X.2.2.2.2.2.2.2.2.2.2.2]; exact hroom.2⟩, hy1, X.w hst⟩ ⟨ct_blind, ct_pre (as := pR (some b) :: as) X hw⟩ rfl (by simpa using hn) hl.1 (by simp [pv]) (st_room hst8) hd (ct_room X hw)) kk
  rcases List.mem_cons.mp hw with rfl | hw
  · exact hcw
  · exact hw
/-- the receiver of a call: an object of class c -/
def rc (M : Mm) (c : Nat) (o : Option Nat) : Option Nat := match o with
  | none => none
  | some a => if 300 ≤ a ∧ a < sN (mS M) ∧ sTy (mS M) a = c then some a else none
theorem rc_some {c b : Nat} {o : Option Nat} (h : rc M c o = some b) : o = some b ∧ 300 ≤ b ∧ b < sN (mS M) ∧ sTy (mS M) b = c := by
  cases o with
  | none => cases h
  | some a =>
    obtain ⟨h1, h2⟩ := ite_some h
    subst h2
    exact ⟨rfl, h1⟩
/-- invokevirtual -/
theorem g_callV (X : Cx x cc own rt n0 sl0 fr lc) {c : Nat} {C : String} {T : u_T} {N : Nat} (hc : clT[c]? = some (C, T, N)) (h17 : c < 17) {y : MethodName} {code : ByteArray} {maxL idx f2 l2 n b : Nat} {o : Option Nat} {ret : Option FieldType} {as as' : List PV} (hb : rc M c o = some b) (hM : Ct (xl x) (xE x) (xD x) (xA x) (xo x) (xH x) y code maxL ret f2 l2 (pR (some b) :: as) M ro M') (hcw : Cond.code y code maxL ret ∈ tbG)
    (hlink : Cond.methodLink own idx y ∈ tbG) (hst : Cond.instanceMethod y ∈ tbG) (hsel : Cond.selects C y y ∈ tbG) (hini : Cond.initialized C ∈ tbG) (hy : y.cls = C ∧ y.cls ≠ "java/lang/invoke/MethodHandle" ∧ y.cls ≠ "java/lang/invoke/VarHandle" ∧ (parseMethodDescriptor y.desc).map (fun d => d.parameters.length) = some n) (hn : as.length = n) (hrev : as.reverse = as')
    (hroom : f2 + 1 ≤ fr ∧ 8 + (maxL + 11) + l2 ≤ lc) (hst8 : (st.map pcat).sum ≤ 8) (hd : decode cc pc = .ok (.invokevirtual idx, 3)) (kk : Gw x M' (pc + 3) L (ro.toList ++ st)) : Gw x M pc L (as' ++ pR o :: st) := fun H locs ls hw hl => by
  subst hrev
  obtain ⟨rfl, ha⟩ := rc_some hb
  obtain ⟨cell, q1, q2, q3, -⟩ := rep_obj (c := c) hw.1 (by omega) ha
  have hfc := (X.2.1.1 c _ hc).2.1
  refine g_after X hl hw.2.2.2 (va_runV (As := as.map (pv (xE x))) (b := xE x b) X.1 hM (cwV (C := C) n X.1.2.2.2.2 (tbG_good _ (fun w hw => ?_)) rfl rfl rfl hy ⟨by rw [X.2.2.2.2.2.2.2.2.2.2.1]; exact hroom.1, by rw [X.2.2.2.2.2.2.2.2.2.2.2]; exact hroom.2⟩) ⟨ct_blind, ⟨cell, q1, by rw [q3]; rfl, by rw [q2]; exact hfc⟩, ct_pre (as := pR (some b) :: as) X hw⟩ rfl (by simpa using hn) hl.1 (by simp [pv]) (st_room hst8) hd (ct_room X hw)) kk
  simp only [wsV, List.cons_append, List.nil_append, List.mem_cons] at hw
  rcases hw with rfl | rfl | rfl | rfl | rfl | hw
  · exact hlink
  · exact hst
  · exact hsel
  · exact hini
  · exact hcw
  · exact hw
/-- Object's own constructor -/
theorem g_objInit (X : Cx x cc own rt n0 sl0 fr lc) {idx : Nat} {o : Option Nat} (ho : ∃ a, o = some a) (hlink : Cond.methodLink own idx Lib.objectInit ∈ tbG) (hin : Cond.instanceMethod Lib.objectInit ∈ tbG) (hcode : Cond.code Lib.objectInit ⟨#[0xb1]⟩ 1 none ∈ tbG) (hroom : 1 ≤ fr ∧ (st.map pcat).sum + 12 ≤ lc) (hd : decode cc pc = .ok (.invokespecial idx, 3)) (kk : Gw x M (pc + 3) L st) : Gw x M pc L (pR o :: st) := fun H locs ls hw hl => by
  obtain ⟨a, rfl⟩ := ho
  refine W.objInit X.1.1 X.1.2.1 X.1.2.2.2.1 (X.w hlink) (X.w hin) (X.w hcode) rfl (hl.1.trans X.1.2.2.1.symm) rfl hd (by rw [X.2.2.2.2.2.2.2.2.2.2.1]; exact hroom.1) ?_ (kk H locs ls hw hl)
  rw [X.2.2.2.2.2.2.2.2.2.2.2, pv_cats]
  show 2 * 0 + _ + 12 ≤ _
  omega
end Rows8
