/-! ===== part 03: a plain memory, its picture in the heap, and the judgement over it ===== -/
/-- a value: an int, a long, or a reference by its plain address -/
abbrev PV : Type := Int32 ⊕ (Int64 ⊕ Option Nat)
abbrev pI (x : Int32) : PV := Sum.inl x
abbrev pL (x : Int64) : PV := Sum.inr (Sum.inl x)
abbrev pR (o : Option Nat) : PV := Sum.inr (Sum.inr o)
def pv (E : Nat → Nat) : PV → Value
  | .inl x => .int x
  | .inr (.inl x) => .long x
  | .inr (.inr none) => .null
  | .inr (.inr (some a)) => .ref (E a)
def pcat : PV → Nat
  | .inl _ => 1
  | .inr (.inl _) => 2
  | .inr (.inr _) => 1
theorem pv_cat (E : Nat → Nat) (v : PV) : (pv E v).category = pcat v := by
  rcases v with x | x | _ | a <;> rfl
theorem pv_cats (E : Nat → Nat) (st : List PV) : ((st.map (pv E)).map fun v => v.category).sum = (st.map pcat).sum := by
  induction st with
  | nil => rfl
  | cons v t ih => simp only [List.map_cons, List.sum_cons, pv_cat, ih]
/-- shapes: the kind of each cell, its length, how many cells, how many slots -/
abbrev Sh : Type := (Nat → Nat) × (Nat → Nat) × Nat × Nat
abbrev Mm : Type := (Nat → Nat → Int32) × (Nat → Nat → Option Nat) × (Nat → Nat → Int32) × (Nat → Nat → Option Nat) × Sh
def mF (M : Mm) (f a : Nat) : Int32 := M.1 f a
def mG (M : Mm) (f a : Nat) : Option Nat := M.2.1 f a
def mA (M : Mm) (a i : Nat) : Int32 := M.2.2.1 a i
def mB (M : Mm) (a i : Nat) : Option Nat := M.2.2.2.1 a i
def mS (M : Mm) : Sh := M.2.2.2.2
def sTy (S : Sh) (a : Nat) : Nat := S.1 a
def sLen (S : Sh) (a : Nat) : Nat := S.2.1 a
def sN (S : Sh) : Nat := S.2.2.1
def sSl (S : Sh) : Nat := S.2.2.2
def sF (M : Mm) (f a : Nat) (v : Int32) : Mm := (fun g b => if g = f ∧ b = a then v else M.1 g b, M.2)
def sG (M : Mm) (f a : Nat) (v : Option Nat) : Mm := (M.1, fun g b => if g = f ∧ b = a then v else M.2.1 g b, M.2.2)
def sA (M : Mm) (a i : Nat) (v : Int32) : Mm := (M.1, M.2.1, fun b j => if b = a ∧ j = i then v else M.2.2.1 b j, M.2.2.2)
def sB (M : Mm) (a i : Nat) (v : Option Nat) : Mm := (M.1, M.2.1, M.2.2.1, fun b j => if b = a ∧ j = i then v else M.2.2.2.1 b j, M.2.2.2.2)
/-- a copy of n ints or bytes -/
def sC (M : Mm) (src sp dst dp n : Nat) : Mm := (M.1, M.2.1, fun b j => if b = dst ∧ dp ≤ j ∧ j < dp + n then M.2.2.1 src (sp + (j - dp)) else M.2.2.1 b j, M.2.2.2)
def nSh (S : Sh) (t len k : Nat) : Sh := (fun a => if a = sN S then t else S.1 a, fun a => if a = sN S then len else S.2.1 a, sN S + 1, sSl S + k)
/-- a new object of class c with k slots -/
def nO (M : Mm) (c k : Nat) : Mm := (fun g b => if b = sN (mS M) then 0 else M.1 g b, fun g b => if b = sN (mS M) then none else M.2.1 g b, M.2.2.1, M.2.2.2.1, nSh (mS M) c 0 k)
/-- a new array of kind t -/
def nA (M : Mm) (t len : Nat) : Mm := (M.1, M.2.1, fun b j => if b = sN (mS M) then 0 else M.2.2.1 b j, fun b j => if b = sN (mS M) then none else M.2.2.2.1 b j, nSh (mS M) t len len)
def isRf (c k : Nat) : Bool := (rfT.getD c []).getD k false
def clN (c : Nat) : Nat := (rfT.getD c []).length
def fVal (E : Nat → Nat) (M : Mm) (c k a : Nat) : Value := if isRf c k = true then pv E (pR (mG M (64 * c + k) a)) else .int (mF M (64 * c + k) a)
def RepO (E : Nat → Nat) (D : va_G) (M : Mm) (a : Nat) (H : Heap) : Prop := t_OB (E a) (D.1 (sTy (mS M) a)) (clN (sTy (mS M) a)) (D.2 (sTy (mS M) a)) H (fun k => fVal E M (sTy (mS M) a) k a)
def RepI (E : Nat → Nat) (dA : Nat → ClassId) (M : Mm) (a : Nat) (H : Heap) : Prop := H[E a]? = some (arrV (dA (sTy (mS M) a)) (sLen (mS M) a) (fun j => .int (mA M a j)))
def RepR (E : Nat → Nat) (dA : Nat → ClassId) (M : Mm) (a : Nat) (H : Heap) : Prop := H[E a]? = some (arrV (dA (sTy (mS M) a)) (sLen (mS M) a) (fun j => pv E (pR (mB M a j))))
def RepAt (E : Nat → Nat) (D : va_G) (dA : Nat → ClassId) (M : Mm) (a : Nat) (H : Heap) : Prop :=
  (sTy (mS M) a < 100 → RepO E D M a H) ∧ (100 ≤ sTy (mS M) a → sTy (mS M) a < 110 → RepI E dA M a H) ∧ (110 ≤ sTy (mS M) a → RepR E dA M a H)
def hsum (lo : Nat) (H : Heap) : Nat := ((H.toList.drop lo).map (·.slots.size)).sum
/-- the new cells (plain addresses from 300 on) follow each other from lo on -/
def EOk (E : Nat → Nat) (lo : Nat) : Prop := (∀ a, 300 ≤ a → E a = lo + (a - 300)) ∧ True
/-- what byte arrays hold are bytes -/
def BytesOk (M : Mm) : Prop := ∀ a i, sTy (mS M) a = 100 → fits .byte (.int (mA M a i)) = true
def Rep (E : Nat → Nat) (D : va_G) (dA : Nat → ClassId) (lo : Nat) (H0 : Heap) (M : Mm) (H : Heap) : Prop :=
  EOk E lo ∧ (300 ≤ sN (mS M) ∧ sN (mS M) ≤ 600300 ∧ sSl (mS M) ≤ 7302250) ∧ H.size + 300 = lo + sN (mS M) ∧ hsum lo H = sSl (mS M) ∧ (∀ a, 300 ≤ a → a < sN (mS M) → RepAt E D dA M a H) ∧ (∀ q, q < lo → H[q]? = H0[q]?) ∧ BytesOk M
theorem EOk.inj {E : Nat → Nat} {lo a b : Nat} (h : EOk E lo) (ha : 300 ≤ a) (hb3 : 300 ≤ b) (hb : b ≠ a) : E b ≠ E a := by
  intro he
  have h1 := h.1 a ha
  have h2 := h.1 b hb3
  omega
theorem hsum_congr {lo : Nat} {H H' : Heap} (hs : H'.size = H.size) (h : ∀ q : Nat, (H'[q]?).map (·.slots.size) = (H[q]?).map (·.slots.size)) : hsum lo H' = hsum lo H := by
  unfold hsum
  congr 1
  apply List.ext_getElem?
  intro i
  simp only [List.getElem?_map, List.getElem?_drop, Array.getElem?_toList]
  exact h (lo + i)
theorem hsum_push {lo : Nat} {H H' : Heap} {c : Cell} (hlo : lo ≤ H.size) (hs : H'.size = H.size + 1) (hc : H'[H.size]? = some c) (ho : ∀ q, q < H.size → H'[q]? = H[q]?) : hsum lo H' = hsum lo H + c.slots.size := by
  have e : H' = H.push c := by
    apply Array.ext_getElem?
    intro i
    rw [Array.getElem?_push]
    by_cases hi : i = H.size
    · rw [if_pos hi, hi]; exact hc
    · rw [if_neg hi]
      by_cases hl : i < H.size
      · exact ho i hl
      · rw [Array.getElem?_eq_none (by omega), Array.getElem?_eq_none (by omega)]
  subst e
  unfold hsum
  rw [Array.toList_push, List.drop_append_of_le_length (by simpa using hlo)]
  simp
theorem hsum_end (H : Heap) : hsum H.size H = 0 := by
  unfold hsum
  rw [List.drop_eq_nil_of_le (by simp)]
  rfl
theorem hsum_split {s s' : State} {locs : List Loc} {k n lo : Nat} (h : s.sameButNew s' locs k n) (hlo : lo ≤ s.heap.size) : hsum lo s.heap + hsum s.heap.size s'.heap = hsum lo s'.heap := by
  obtain ⟨-, h1, -, -, -, h2⟩ := h
  unfold hsum
  have e : s'.heap.toList.drop lo = (s'.heap.toList.drop lo).take (s.heap.size - lo) ++ s'.heap.toList.drop s.heap.size := by
    have h3 := (List.take_append_drop (s.heap.size - lo) (s'.heap.toList.drop lo)).symm
    rw [List.drop_drop] at h3
    rw [show lo + (s.heap.size - lo) = s.heap.size by omega] at h3
    exact h3
  rw [e, List.map_append, List.sum_append]
  congr 2
  apply List.ext_getElem?
  intro i
  simp only [List.getElem?_map, List.getElem?_take, List.getElem?_drop, Array.getElem?_toList]
  by_cases hi : i < s.heap.size - lo
  · rw [if_pos hi]
    have hl : lo + i < s.heap.size := by omega
    obtain ⟨c', q1, q2, q3, -⟩ := h2 (lo + i) _ (Array.getElem?_eq_getElem hl)
    rw [q1, Array.getElem?_eq_getElem hl]
    simp only [Option.map_some, q3]
  · rw [if_neg hi, Array.getElem?_eq_none (by omega)]
