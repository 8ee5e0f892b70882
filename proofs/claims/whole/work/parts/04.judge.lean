/-! ===== part 04: the judgement Gw and its rows for memory ===== -/
abbrev GX : Type := Program × Launch × Env × Room × State × MethodId × Array Value × List Frame × Method × Code × (State → Prop) × Nat × (Nat → Nat) × va_G × (Nat → ClassId) × Nat × Heap
abbrev xp (x : GX) : Program := x.1
abbrev xl (x : GX) : Launch := x.2.1
abbrev xe (x : GX) : Env := x.2.2.1
abbrev xR (x : GX) : Room := x.2.2.2.1
abbrev xs (x : GX) : State := x.2.2.2.2.1
abbrev xm (x : GX) : MethodId := x.2.2.2.2.2.1
abbrev xa (x : GX) : Array Value := x.2.2.2.2.2.2.1
abbrev xb (x : GX) : List Frame := x.2.2.2.2.2.2.2.1
abbrev xt (x : GX) : Method := x.2.2.2.2.2.2.2.2.1
abbrev xc (x : GX) : Code := x.2.2.2.2.2.2.2.2.2.1
abbrev xQ (x : GX) : State → Prop := x.2.2.2.2.2.2.2.2.2.2.1
abbrev xn (x : GX) : Nat := x.2.2.2.2.2.2.2.2.2.2.2.1
abbrev xE (x : GX) : Nat → Nat := x.2.2.2.2.2.2.2.2.2.2.2.2.1
abbrev xD (x : GX) : va_G := x.2.2.2.2.2.2.2.2.2.2.2.2.2.1
abbrev xA (x : GX) : Nat → ClassId := x.2.2.2.2.2.2.2.2.2.2.2.2.2.2.1
abbrev xo (x : GX) : Nat := x.2.2.2.2.2.2.2.2.2.2.2.2.2.2.2.1
abbrev xH (x : GX) : Heap := x.2.2.2.2.2.2.2.2.2.2.2.2.2.2.2.2
abbrev xW (x : GX) (H : Heap) (locs : List Loc) (g : JFrame) : Prop :=
  W (xp x) (xl x) (xe x) (xR x) (xs x) (xm x) (xa x) (xb x) (xt x) (xc x) H locs (H.size - (xs x).heap.size) (hsum (xs x).heap.size H) (xQ x) g
/-- what holds of a heap on the way -/
def Way (x : GX) (M : Mm) (H : Heap) (locs : List Loc) : Prop :=
  Rep (xE x) (xD x) (xA x) (xo x) (xH x) M H ∧ (xs x).heap.size ≤ H.size ∧ hsum (xo x) (xs x).heap + hsum (xs x).heap.size H = hsum (xo x) H ∧ ∀ q ∈ locs, xo x ≤ q.base
abbrev lvM (E : Nat → Nat) (L : List (Nat × PV)) : List (Nat × Value) := L.map (fun q => (q.1, pv E q.2))
/-- from this memory, this place of the code, these locals and this stack the machine comes to its end -/
def Gw (x : GX) (M : Mm) (pc : Nat) (L : List (Nat × PV)) (st : List PV) : Prop :=
  ∀ (H : Heap) (locs : List Loc) (ls : Array Slot), Way x M H locs → lv_has ls (xn x) (lvM (xE x) L) → xW x H locs (F0 (xm x) pc ls (st.map (pv (xE x))))
/-- what the tables say that no word of tbG says -/
def StrAt (E : Nat → Nat) (lo : Nat) (H0 : Heap) (k : Nat) (U : State) : Prop := va_O "java/lang/String" (E k) (fun q => lo ≤ q) U H0 ∧ va_OF "java/lang/String" "coder" "B" (.int 0) (E k) (fun q => lo ≤ q) U H0 ∧ va_OF "java/lang/String" "value" "[B" (.ref (E (100 + k))) (E k) (fun q => lo ≤ q) U H0 ∧
  va_T .byte (E (100 + k)) (strB.getD k []).length (fun j => .int ((strB.getD k []).getD j 0)) (fun q => lo ≤ q) U H0
def StaK (E : Nat → Nat) (lo : Nat) (H0 : Heap) (U : State) : Prop := va_Z "java/lang/String" "COMPACT_STRINGS" "Z" (.int 1) (fun q => lo ≤ q) U H0 ∧ va_Z "WebHost$Store" "CHECK_STEPS" "[I" (.ref (E 200)) (fun q => lo ≤ q) U H0 ∧ va_T .int (E 200) 16 (fun j => .int (stpT.getD j 0)) (fun q => lo ≤ q) U H0 ∧
  (∃ o : Option Nat, va_Z "jdk/internal/util/Preconditions" "SIOOBE_FORMATTER" "Ljava/util/function/BiFunction;" (pv E (pR o)) (fun q => lo ≤ q) U H0) ∧ va_Nw (.castable "[B" "java/lang/Cloneable") U
def AuxK (E : Nat → Nat) (lo : Nat) (H0 : Heap) (U : State) : Prop := (∀ w ∈ nestL, va_Nw w U) ∧ (∀ C ∈ aoL, va_AO C U) ∧ (∀ q ∈ strW, vk_R q.1 q.2.1 q.2.2.1 (E q.2.2.2) U) ∧ (∀ k, k < strB.length → StrAt E lo H0 k U) ∧ StaK E lo H0 U
/-- what holds in a method's body -/
def Cx (x : GX) (cc : ByteArray) (own : String) (rt : Option FieldType) (n0 sl0 fr lc : Nat) : Prop :=
  CallFix (xp x) (xm x) (xc x) cc (xn x) (xs x) (xa x) tbG own ∧ va_K (xD x) clT (tyL (xA x)) (xs x) ∧ AuxK (xE x) (xo x) (xH x) (xs x) ∧ (xs x).heap.size + 300 = xo x + n0 ∧ hsum (xo x) (xs x).heap = sl0 ∧ 300 ≤ n0 ∧
  (xR x).cells = 600300 - n0 ∧ (xR x).slots = 7302250 - sl0 ∧ (xt x).locks = false ∧ (xt x).sig.returnType = rt ∧ (xR x).frames = fr ∧ (xR x).locals = lc
section Rows
variable {x : GX} {cc : ByteArray} {own : String} {rt : Option FieldType} {fr lc n0 sl0 pc : Nat} {M : Mm} {L : List (Nat × PV)} {st : List PV}
theorem Cx.w (X : Cx x cc own rt n0 sl0 fr lc) {w : Cond} (h : w ∈ tbG) : w.before (xa x) (xs x) = true := X.1.2.2.2.2 w h
/-- fewer locals -/
theorem g_sub (ks : List Nat) (L' : List (Nat × PV)) (hl : ks.filterMap (fun k => L[k]?) = L') (k : Gw x M pc L' st) : Gw x M pc L st := fun H locs ls hw hl0 =>
  k H locs ls hw (lv_sub hl0 ks (by
    subst hl
    unfold lv_pick lvM
    rw [List.map_filterMap]
    congr 1
    funext k
    simp))
/-- the plain memory's cell behind an address of an object -/
theorem rep_obj {E : Nat → Nat} {D : va_G} {dA : Nat → ClassId} {lo : Nat} {H0 H : Heap} {M : Mm} {c a : Nat} (h : Rep E D dA lo H0 M H) (hc : c < 100) (ha : 300 ≤ a ∧ a < sN (mS M) ∧ sTy (mS M) a = c) :
    t_OB (E a) (D.1 c) (clN c) (D.2 c) H (fun k => fVal E M c k a) := by
  obtain ⟨a1, a2, rfl⟩ := ha
  exact (h.2.2.2.2.1 a a1 a2).1 hc
theorem rep_ints {E : Nat → Nat} {D : va_G} {dA : Nat → ClassId} {lo : Nat} {H0 H : Heap} {M : Mm} {t a : Nat} (h : Rep E D dA lo H0 M H) (ht : 100 ≤ t ∧ t < 110) (ha : 300 ≤ a ∧ a < sN (mS M) ∧ sTy (mS M) a = t) :
    H[E a]? = some (arrV (dA t) (sLen (mS M) a) (fun j => .int (mA M a j))) := by
  obtain ⟨a1, a2, rfl⟩ := ha
  exact (h.2.2.2.2.1 a a1 a2).2.1 ht.1 ht.2
theorem rep_refs {E : Nat → Nat} {D : va_G} {dA : Nat → ClassId} {lo : Nat} {H0 H : Heap} {M : Mm} {t a : Nat} (h : Rep E D dA lo H0 M H) (ht : 110 ≤ t) (ha : 300 ≤ a ∧ a < sN (mS M) ∧ sTy (mS M) a = t) :
    H[E a]? = some (arrV (dA t) (sLen (mS M) a) (fun j => pv E (pR (mB M a j)))) := by
  obtain ⟨a1, a2, rfl⟩ := ha
  exact (h.2.2.2.2.1 a a1 a2).2.2 ht
/-- one cell changes, by the same shape -/
theorem rep_set {E : Nat → Nat} {D : va_G} {dA : Nat → ClassId} {lo : Nat} {H0 H H' : Heap} {M M' : Mm} {a : Nat} {cell cell' : Cell} (h : Rep E D dA lo H0 M H) (ha : 300 ≤ a) (han : a < sN (mS M)) (hS : mS M' = mS M)
    (hs : H'.size = H.size) (ho : ∀ q, q ≠ E a → H'[q]? = H[q]?) (h1 : H[E a]? = some cell) (h2 : H'[E a]? = some cell') (hz : cell'.slots.size = cell.slots.size)
    (hself : RepAt E D dA M' a H') (hrest : ∀ b, b ≠ a → RepAt E D dA M b H → RepAt E D dA M' b H) (hby : BytesOk M → BytesOk M') : Rep E D dA lo H0 M' H' ∧ ∀ k, hsum k H' = hsum k H := by
  obtain ⟨hE, hn, hsz, hsl, hat, hold⟩ := h
  have hk : ∀ k, hsum k H' = hsum k H := fun k => hsum_congr hs (fun q => by
    by_cases hq : q = E a
    · subst hq; rw [h1, h2]; simp only [Option.map_some, hz]
    · rw [ho q hq])
  refine ⟨⟨hE, by rw [hS]; exact hn, by rw [hS, hs]; exact hsz, by rw [hS, hk]; exact hsl, ?_, ?_, hby hold.2⟩, hk⟩
  · intro b hb hbn
    rw [hS] at hbn
    by_cases hba : b = a
    · subst hba; exact hself
    · have hne := EOk.inj hE ha hb hba
      obtain ⟨r1, r2, r3⟩ := hrest b hba (hat b hb hbn)
      exact ⟨fun q => (r1 q).kept (ho _ hne), fun q q2 => (ho _ hne).trans (r2 q q2), fun q => (ho _ hne).trans (r3 q)⟩
  · intro q hq
    have h9 := hE.1 a ha
    rw [ho q (by omega)]
    exact hold.1 q hq
theorem way_set {locs : List Loc} {H H' : Heap} {M M' : Mm} {a k : Nat} (hw : Way x M H locs) (ha : 300 ≤ a) (hs : H'.size = H.size)
    (hr : Rep (xE x) (xD x) (xA x) (xo x) (xH x) M' H' ∧ ∀ k, hsum k H' = hsum k H) : Way x M' H' (locs ++ [⟨xE x a, k⟩]) := by
  obtain ⟨h1, h2, h3, h4⟩ := hw
  refine ⟨hr.1, by rw [hs]; exact h2, by rw [hr.2, hr.2]; exact h3, ?_⟩
  intro q hq
  rcases List.mem_append.mp hq with hq | hq
  · exact h4 q hq
  · have : q = ⟨xE x a, k⟩ := by simpa using hq
    subst this
    have h9 := h1.1.1 a ha
    show xo x ≤ xE x a
    omega
end Rows
