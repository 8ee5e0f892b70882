/-! ===== part 51: the start of the law ===== -/
def AllB (args : Array Value) (s : State) : Cond → Prop
  | .and a b => AllB args s a ∧ AllB args s b
  | c => c.before args s = true
theorem allB_of {args : Array Value} {s : State} (T : Cond) : T.before args s = true → AllB args s T := by
  induction T with
  | and a b iha ihb =>
    intro h
    rw [Cond.before_and, Bool.and_eq_true] at h
    exact ⟨iha h.1, ihb h.2⟩
  | _ =>
    intro h
    exact h
theorem eq_ev {args : Array Value} {s : State} {t u : Term} {a : Nat} (h : (Cond.eq t u).before args s = true) (hu : u.eval args s none [] s = some (.ref a)) : t.eval args s none [] s = some (.ref a) := by
  cases ht : t.eval args s none [] s with
  | none => simp [Cond.before, Cond.holds, Cond.value, hu, ht] at h
  | some v =>
    cases v <;> simp [Cond.before, Cond.holds, Cond.value, hu, ht] at h
    rw [h]
theorem eq_ev2 {args : Array Value} {s : State} {t u : Term} {a : Nat} (h : (Cond.eq t u).before args s = true) (ht : t.eval args s none [] s = some (.ref a)) : u.eval args s none [] s = some (.ref a) := by
  cases hu : u.eval args s none [] s with
  | none => simp [Cond.before, Cond.holds, Cond.value, hu, ht] at h
  | some v =>
    cases v <;> simp [Cond.before, Cond.holds, Cond.value, hu, ht] at h
    rw [h]
def StrEv (args : Array Value) (s : State) (t : Term) (byt : List Int32) (A : Nat → Prop) (a v : Nat) : Prop :=
  t.eval args s none [] s = some (.ref a) ∧ va_O "java/lang/String" a A s s.heap ∧ va_OF "java/lang/String" "coder" "B" (.int 0) a A s s.heap ∧ va_OF "java/lang/String" "value" "[B" (.ref v) a A s s.heap ∧ va_T .byte v byt.length (fun j => .int (byt.getD j 0)) A s s.heap
theorem str_one {args : Array Value} {s : State} {t : Term} {byt : List Int32} {A : Nat → Prop} (hA : ∀ a : Nat, a < s.heap.size → ¬ A a) (hn : byt.length < 2 ^ 31) (hex : (Cond.exactly t "java/lang/String").before args s = true) (hco : (Cond.eq (.field t "java/lang/String" "coder" "B") (.int 0)).before args s = true)
    (har : (Cond.arrayOf (.field t "java/lang/String" "value" "[B") .byte).before args s = true) (hle : (Cond.eq (.length (.field t "java/lang/String" "value" "[B")) (.int (Int32.ofNat byt.length))).before args s = true)
    (hel : ∀ j : Nat, j < byt.length → (Cond.eq (.elem (.field t "java/lang/String" "value" "[B") (.int (Int32.ofNat j))) (.int (byt.getD j 0))).before args s = true) : ∃ a v, StrEv args s t byt A a v := by
  obtain ⟨a, c, cA, kA, q1, q2, q3, q4, q5, q6, -⟩ := Cond.exactly_spec (args := args) (first := s) (o := none) (s := s) (idx := []) (t := t) (cls := "java/lang/String") hex
  obtain ⟨v, ht, hT⟩ := va_Tof (f := fun j => .int (byt.getD j 0)) (A := A) hn har (va_eqt hle) (fun j hj => va_eqt (hel j hj)) hA
  exact ⟨a, v, q1, ⟨cA, q3, q5, by rw [q6]; exact q2, hA a (Array.getElem?_eq_some_iff.mp q3).1⟩, vk_OFof q1 (va_eqt hco) hA, vk_OFof q1 ht hA, hT⟩
theorem sel_0 {args : Array Value} {s : State} (h : AllB args s narrow_1) : ∀ j : Nat, j < 9 → (Cond.eq (.elem (Jvm.Term.field (Jvm.Term.string "WebHost$Requests" (138 : Nat)) "java/lang/String" "value" "[B") (.int (Int32.ofNat j))) (.int ((strB.getD 0 []).getD j 0))).before args s = true := fun j hj => match j, hj with
  | 0, _ => h.1.1.1.1.1.2.1.1.2.2.2
  | 1, _ => h.1.1.1.1.1.2.1.2.1.1
  | 2, _ => h.1.1.1.1.1.2.1.2.1.2.1
  | 3, _ => h.1.1.1.1.1.2.1.2.1.2.2
  | 4, _ => h.1.1.1.1.1.2.1.2.2.1
  | 5, _ => h.1.1.1.1.1.2.1.2.2.2.1
  | 6, _ => h.1.1.1.1.1.2.1.2.2.2.2
  | 7, _ => h.1.1.1.1.1.2.2.1.1.1
  | 8, _ => h.1.1.1.1.1.2.2.1.1.2.1
  | (n + 9), q => absurd q (by omega)
theorem st_0 {args : Array Value} {s : State} (h : AllB args s narrow_1) {A : Nat → Prop} (hA : ∀ a : Nat, a < s.heap.size → ¬ A a) : ∃ a v, StrEv args s (Jvm.Term.string "WebHost$Requests" (138 : Nat)) (strB.getD 0 []) A a v := str_one hA (by decide) (h.1.1.1.1.1.2.1.1.1.2.1) (h.1.1.1.1.1.2.1.1.1.2.2) (h.1.1.1.1.1.2.1.1.2.1) (h.1.1.1.1.1.2.1.1.2.2.1) (sel_0 h)
theorem sel_1 {args : Array Value} {s : State} (h : AllB args s narrow_1) : ∀ j : Nat, j < 9 → (Cond.eq (.elem (Jvm.Term.field (Jvm.Term.string "WebHost$Requests" (144 : Nat)) "java/lang/String" "value" "[B") (.int (Int32.ofNat j))) (.int ((strB.getD 1 []).getD j 0))).before args s = true := fun j hj => match j, hj with
  | 0, _ => h.1.1.1.1.1.2.2.2.1.1
  | 1, _ => h.1.1.1.1.1.2.2.2.1.2.1
  | 2, _ => h.1.1.1.1.1.2.2.2.1.2.2
  | 3, _ => h.1.1.1.1.1.2.2.2.2.1.1
  | 4, _ => h.1.1.1.1.1.2.2.2.2.1.2
  | 5, _ => h.1.1.1.1.1.2.2.2.2.2.1
  | 6, _ => h.1.1.1.1.1.2.2.2.2.2.2
  | 7, _ => h.1.1.1.1.2.1.1.1.1.1
  | 8, _ => h.1.1.1.1.2.1.1.1.1.2.1
  | (n + 9), q => absurd q (by omega)
theorem st_1 {args : Array Value} {s : State} (h : AllB args s narrow_1) {A : Nat → Prop} (hA : ∀ a : Nat, a < s.heap.size → ¬ A a) : ∃ a v, StrEv args s (Jvm.Term.string "WebHost$Requests" (144 : Nat)) (strB.getD 1 []) A a v := str_one hA (by decide) (h.1.1.1.1.1.2.2.1.1.2.2) (h.1.1.1.1.1.2.2.1.2.1) (h.1.1.1.1.1.2.2.1.2.2.1) (h.1.1.1.1.1.2.2.1.2.2.2) (sel_1 h)
theorem sel_2 {args : Array Value} {s : State} (h : AllB args s narrow_1) : ∀ j : Nat, j < 3 → (Cond.eq (.elem (Jvm.Term.field (Jvm.Term.string "WebHost$Requests" (152 : Nat)) "java/lang/String" "value" "[B") (.int (Int32.ofNat j))) (.int ((strB.getD 2 []).getD j 0))).before args s = true := fun j hj => match j, hj with
  | 0, _ => h.1.1.1.1.2.1.1.2.1.1
  | 1, _ => h.1.1.1.1.2.1.1.2.1.2.1
  | 2, _ => h.1.1.1.1.2.1.1.2.1.2.2
  | (n + 3), q => absurd q (by omega)
theorem st_2 {args : Array Value} {s : State} (h : AllB args s narrow_1) {A : Nat → Prop} (hA : ∀ a : Nat, a < s.heap.size → ¬ A a) : ∃ a v, StrEv args s (Jvm.Term.string "WebHost$Requests" (152 : Nat)) (strB.getD 2 []) A a v := str_one hA (by decide) (h.1.1.1.1.2.1.1.1.1.2.2) (h.1.1.1.1.2.1.1.1.2.1) (h.1.1.1.1.2.1.1.1.2.2.1) (h.1.1.1.1.2.1.1.1.2.2.2) (sel_2 h)
theorem sel_3 {args : Array Value} {s : State} (h : AllB args s narrow_1) : ∀ j : Nat, j < 4 → (Cond.eq (.elem (Jvm.Term.field (Jvm.Term.string "WebHost$Requests" (154 : Nat)) "java/lang/String" "value" "[B") (.int (Int32.ofNat j))) (.int ((strB.getD 3 []).getD j 0))).before args s = true := fun j hj => match j, hj with
  | 0, _ => h.1.1.1.1.2.1.2.1.1.2.1
  | 1, _ => h.1.1.1.1.2.1.2.1.1.2.2
  | 2, _ => h.1.1.1.1.2.1.2.1.2.1
  | 3, _ => h.1.1.1.1.2.1.2.1.2.2.1
  | (n + 4), q => absurd q (by omega)
theorem st_3 {args : Array Value} {s : State} (h : AllB args s narrow_1) {A : Nat → Prop} (hA : ∀ a : Nat, a < s.heap.size → ¬ A a) : ∃ a v, StrEv args s (Jvm.Term.string "WebHost$Requests" (154 : Nat)) (strB.getD 3 []) A a v := str_one hA (by decide) (h.1.1.1.1.2.1.1.2.2.1) (h.1.1.1.1.2.1.1.2.2.2.1) (h.1.1.1.1.2.1.1.2.2.2.2) (h.1.1.1.1.2.1.2.1.1.1) (sel_3 h)
theorem sel_4 {args : Array Value} {s : State} (h : AllB args s narrow_1) : ∀ j : Nat, j < 15 → (Cond.eq (.elem (Jvm.Term.field (Jvm.Term.string "WebHost$Requests" (175 : Nat)) "java/lang/String" "value" "[B") (.int (Int32.ofNat j))) (.int ((strB.getD 4 []).getD j 0))).before args s = true := fun j hj => match j, hj with
  | 0, _ => h.1.1.1.1.2.1.2.2.2.1.1
  | 1, _ => h.1.1.1.1.2.1.2.2.2.1.2
  | 2, _ => h.1.1.1.1.2.1.2.2.2.2.1
  | 3, _ => h.1.1.1.1.2.1.2.2.2.2.2
  | 4, _ => h.1.1.1.1.2.2.1.1.1.1
  | 5, _ => h.1.1.1.1.2.2.1.1.1.2.1
  | 6, _ => h.1.1.1.1.2.2.1.1.1.2.2
  | 7, _ => h.1.1.1.1.2.2.1.1.2.1
  | 8, _ => h.1.1.1.1.2.2.1.1.2.2.1
  | 9, _ => h.1.1.1.1.2.2.1.1.2.2.2
  | 10, _ => h.1.1.1.1.2.2.1.2.1.1
  | 11, _ => h.1.1.1.1.2.2.1.2.1.2.1
  | 12, _ => h.1.1.1.1.2.2.1.2.1.2.2
  | 13, _ => h.1.1.1.1.2.2.1.2.2.1
  | 14, _ => h.1.1.1.1.2.2.1.2.2.2.1
  | (n + 15), q => absurd q (by omega)
theorem st_4 {args : Array Value} {s : State} (h : AllB args s narrow_1) {A : Nat → Prop} (hA : ∀ a : Nat, a < s.heap.size → ¬ A a) : ∃ a v, StrEv args s (Jvm.Term.string "WebHost$Requests" (175 : Nat)) (strB.getD 4 []) A a v := str_one hA (by decide) (h.1.1.1.1.2.1.2.1.2.2.2) (h.1.1.1.1.2.1.2.2.1.1) (h.1.1.1.1.2.1.2.2.1.2.1) (h.1.1.1.1.2.1.2.2.1.2.2) (sel_4 h)
theorem sel_5 {args : Array Value} {s : State} (h : AllB args s narrow_1) : ∀ j : Nat, j < 4 → (Cond.eq (.elem (Jvm.Term.field (Jvm.Term.string "WebHost$Requests" (180 : Nat)) "java/lang/String" "value" "[B") (.int (Int32.ofNat j))) (.int ((strB.getD 5 []).getD j 0))).before args s = true := fun j hj => match j, hj with
  | 0, _ => h.1.1.1.1.2.2.2.1.2.1
  | 1, _ => h.1.1.1.1.2.2.2.1.2.2.1
  | 2, _ => h.1.1.1.1.2.2.2.1.2.2.2
  | 3, _ => h.1.1.1.1.2.2.2.2.1.1
  | (n + 4), q => absurd q (by omega)
theorem st_5 {args : Array Value} {s : State} (h : AllB args s narrow_1) {A : Nat → Prop} (hA : ∀ a : Nat, a < s.heap.size → ¬ A a) : ∃ a v, StrEv args s (Jvm.Term.string "WebHost$Requests" (180 : Nat)) (strB.getD 5 []) A a v := str_one hA (by decide) (h.1.1.1.1.2.2.1.2.2.2.2) (h.1.1.1.1.2.2.2.1.1.1) (h.1.1.1.1.2.2.2.1.1.2.1) (h.1.1.1.1.2.2.2.1.1.2.2) (sel_5 h)
theorem sel_6 {args : Array Value} {s : State} (h : AllB args s narrow_1) : ∀ j : Nat, j < 17 → (Cond.eq (.elem (Jvm.Term.field (Jvm.Term.string "WebHost$Requests" (185 : Nat)) "java/lang/String" "value" "[B") (.int (Int32.ofNat j))) (.int ((strB.getD 6 []).getD j 0))).before args s = true := fun j hj => match j, hj with
  | 0, _ => h.1.1.1.1.2.2.2.2.2.2.1
  | 1, _ => h.1.1.1.1.2.2.2.2.2.2.2
  | 2, _ => h.1.1.1.2.1.1.1.1.1.1
  | 3, _ => h.1.1.1.2.1.1.1.1.1.2.1
  | 4, _ => h.1.1.1.2.1.1.1.1.1.2.2
  | 5, _ => h.1.1.1.2.1.1.1.1.2.1
  | 6, _ => h.1.1.1.2.1.1.1.1.2.2.1
  | 7, _ => h.1.1.1.2.1.1.1.1.2.2.2
  | 8, _ => h.1.1.1.2.1.1.1.2.1.1
  | 9, _ => h.1.1.1.2.1.1.1.2.1.2.1
  | 10, _ => h.1.1.1.2.1.1.1.2.1.2.2
  | 11, _ => h.1.1.1.2.1.1.1.2.2.1
  | 12, _ => h.1.1.1.2.1.1.1.2.2.2.1
  | 13, _ => h.1.1.1.2.1.1.1.2.2.2.2
  | 14, _ => h.1.1.1.2.1.1.2.1.1.1
  | 15, _ => h.1.1.1.2.1.1.2.1.1.2.1
  | 16, _ => h.1.1.1.2.1.1.2.1.1.2.2
  | (n + 17), q => absurd q (by omega)
theorem st_6 {args : Array Value} {s : State} (h : AllB args s narrow_1) {A : Nat → Prop} (hA : ∀ a : Nat, a < s.heap.size → ¬ A a) : ∃ a v, StrEv args s (Jvm.Term.string "WebHost$Requests" (185 : Nat)) (strB.getD 6 []) A a v := str_one hA (by decide) (h.1.1.1.1.2.2.2.2.1.2.1) (h.1.1.1.1.2.2.2.2.1.2.2) (h.1.1.1.1.2.2.2.2.2.1.1) (h.1.1.1.1.2.2.2.2.2.1.2) (sel_6 h)
theorem sel_7 {args : Array Value} {s : State} (h : AllB args s narrow_1) : ∀ j : Nat, j < 14 → (Cond.eq (.elem (Jvm.Term.field (Jvm.Term.string "WebHost$Requests" (187 : Nat)) "java/lang/String" "value" "[B") (.int (Int32.ofNat j))) (.int ((strB.getD 7 []).getD j 0))).before args s = true := fun j hj => match j, hj with
  | 0, _ => h.1.1.1.2.1.1.2.2.1.2.1
  | 1, _ => h.1.1.1.2.1.1.2.2.1.2.2
  | 2, _ => h.1.1.1.2.1.1.2.2.2.1.1
  | 3, _ => h.1.1.1.2.1.1.2.2.2.1.2
  | 4, _ => h.1.1.1.2.1.1.2.2.2.2.1
  | 5, _ => h.1.1.1.2.1.1.2.2.2.2.2
  | 6, _ => h.1.1.1.2.1.2.1.1.1.1
  | 7, _ => h.1.1.1.2.1.2.1.1.1.2.1
  | 8, _ => h.1.1.1.2.1.2.1.1.1.2.2
  | 9, _ => h.1.1.1.2.1.2.1.1.2.1
  | 10, _ => h.1.1.1.2.1.2.1.1.2.2.1
  | 11, _ => h.1.1.1.2.1.2.1.1.2.2.2
  | 12, _ => h.1.1.1.2.1.2.1.2.1.1
  | 13, _ => h.1.1.1.2.1.2.1.2.1.2.1
  | (n + 14), q => absurd q (by omega)
theorem st_7 {args : Array Value} {s : State} (h : AllB args s narrow_1) {A : Nat → Prop} (hA : ∀ a : Nat, a < s.heap.size → ¬ A a) : ∃ a v, StrEv args s (Jvm.Term.string "WebHost$Requests" (187 : Nat)) (strB.getD 7 []) A a v := str_one hA (by decide) (h.1.1.1.2.1.1.2.1.2.1) (h.1.1.1.2.1.1.2.1.2.2.1) (h.1.1.1.2.1.1.2.1.2.2.2) (h.1.1.1.2.1.1.2.2.1.1) (sel_7 h)
theorem sel_8 {args : Array Value} {s : State} (h : AllB args s narrow_1) : ∀ j : Nat, j < 13 → (Cond.eq (.elem (Jvm.Term.field (Jvm.Term.string "WebHost$Requests" (192 : Nat)) "java/lang/String" "value" "[B") (.int (Int32.ofNat j))) (.int ((strB.getD 8 []).getD j 0))).before args s = true := fun j hj => match j, hj with
  | 0, _ => h.1.1.1.2.1.2.2.1.1.1
  | 1, _ => h.1.1.1.2.1.2.2.1.1.2.1
  | 2, _ => h.1.1.1.2.1.2.2.1.1.2.2
  | 3, _ => h.1.1.1.2.1.2.2.1.2.1
  | 4, _ => h.1.1.1.2.1.2.2.1.2.2.1
  | 5, _ => h.1.1.1.2.1.2.2.1.2.2.2
  | 6, _ => h.1.1.1.2.1.2.2.2.1.1
  | 7, _ => h.1.1.1.2.1.2.2.2.1.2.1
  | 8, _ => h.1.1.1.2.1.2.2.2.1.2.2
  | 9, _ => h.1.1.1.2.1.2.2.2.2.1.1
  | 10, _ => h.1.1.1.2.1.2.2.2.2.1.2
  | 11, _ => h.1.1.1.2.1.2.2.2.2.2.1
  | 12, _ => h.1.1.1.2.1.2.2.2.2.2.2
  | (n + 13), q => absurd q (by omega)
theorem st_8 {args : Array Value} {s : State} (h : AllB args s narrow_1) {A : Nat → Prop} (hA : ∀ a : Nat, a < s.heap.size → ¬ A a) : ∃ a v, StrEv args s (Jvm.Term.string "WebHost$Requests" (192 : Nat)) (strB.getD 8 []) A a v := str_one hA (by decide) (h.1.1.1.2.1.2.1.2.1.2.2) (h.1.1.1.2.1.2.1.2.2.1) (h.1.1.1.2.1.2.1.2.2.2.1) (h.1.1.1.2.1.2.1.2.2.2.2) (sel_8 h)
theorem sel_9 {args : Array Value} {s : State} (h : AllB args s narrow_1) : ∀ j : Nat, j < 10 → (Cond.eq (.elem (Jvm.Term.field (Jvm.Term.string "WebHost$Requests" (200 : Nat)) "java/lang/String" "value" "[B") (.int (Int32.ofNat j))) (.int ((strB.getD 9 []).getD j 0))).before args s = true := fun j hj => match j, hj with
  | 0, _ => h.1.1.1.2.2.1.1.1.2.2.1
  | 1, _ => h.1.1.1.2.2.1.1.1.2.2.2
  | 2, _ => h.1.1.1.2.2.1.1.2.1.1
  | 3, _ => h.1.1.1.2.2.1.1.2.1.2.1
  | 4, _ => h.1.1.1.2.2.1.1.2.1.2.2
  | 5, _ => h.1.1.1.2.2.1.1.2.2.1
  | 6, _ => h.1.1.1.2.2.1.1.2.2.2.1
  | 7, _ => h.1.1.1.2.2.1.1.2.2.2.2
  | 8, _ => h.1.1.1.2.2.1.2.1.1.1
  | 9, _ => h.1.1.1.2.2.1.2.1.1.2.1
  | (n + 10), q => absurd q (by omega)
theorem st_9 {args : Array Value} {s : State} (h : AllB args s narrow_1) {A : Nat → Prop} (hA : ∀ a : Nat, a < s.heap.size → ¬ A a) : ∃ a v, StrEv args s (Jvm.Term.string "WebHost$Requests" (200 : Nat)) (strB.getD 9 []) A a v := str_one hA (by decide) (h.1.1.1.2.2.1.1.1.1.1) (h.1.1.1.2.2.1.1.1.1.2.1) (h.1.1.1.2.2.1.1.1.1.2.2) (h.1.1.1.2.2.1.1.1.2.1) (sel_9 h)
theorem sel_10 {args : Array Value} {s : State} (h : AllB args s narrow_1) : ∀ j : Nat, j < 5 → (Cond.eq (.elem (Jvm.Term.field (Jvm.Term.string "WebHost$Requests" (206 : Nat)) "java/lang/String" "value" "[B") (.int (Int32.ofNat j))) (.int ((strB.getD 10 []).getD j 0))).before args s = true := fun j hj => match j, hj with
  | 0, _ => h.1.1.1.2.2.1.2.2.1.1
  | 1, _ => h.1.1.1.2.2.1.2.2.1.2.1
  | 2, _ => h.1.1.1.2.2.1.2.2.1.2.2
  | 3, _ => h.1.1.1.2.2.1.2.2.2.1.1
  | 4, _ => h.1.1.1.2.2.1.2.2.2.1.2
  | (n + 5), q => absurd q (by omega)
theorem st_10 {args : Array Value} {s : State} (h : AllB args s narrow_1) {A : Nat → Prop} (hA : ∀ a : Nat, a < s.heap.size → ¬ A a) : ∃ a v, StrEv args s (Jvm.Term.string "WebHost$Requests" (206 : Nat)) (strB.getD 10 []) A a v := str_one hA (by decide) (h.1.1.1.2.2.1.2.1.1.2.2) (h.1.1.1.2.2.1.2.1.2.1) (h.1.1.1.2.2.1.2.1.2.2.1) (h.1.1.1.2.2.1.2.1.2.2.2) (sel_10 h)
theorem sel_11 {args : Array Value} {s : State} (h : AllB args s narrow_1) : ∀ j : Nat, j < 10 → (Cond.eq (.elem (Jvm.Term.field (Jvm.Term.string "WebHost$Requests" (208 : Nat)) "java/lang/String" "value" "[B") (.int (Int32.ofNat j))) (.int ((strB.getD 11 []).getD j 0))).before args s = true := fun j hj => match j, hj with
  | 0, _ => h.1.1.1.2.2.2.1.1.1.2.2
  | 1, _ => h.1.1.1.2.2.2.1.1.2.1
  | 2, _ => h.1.1.1.2.2.2.1.1.2.2.1
  | 3, _ => h.1.1.1.2.2.2.1.1.2.2.2
  | 4, _ => h.1.1.1.2.2.2.1.2.1.1
  | 5, _ => h.1.1.1.2.2.2.1.2.1.2.1
  | 6, _ => h.1.1.1.2.2.2.1.2.1.2.2
  | 7, _ => h.1.1.1.2.2.2.1.2.2.1
  | 8, _ => h.1.1.1.2.2.2.1.2.2.2.1
  | 9, _ => h.1.1.1.2.2.2.1.2.2.2.2
  | (n + 10), q => absurd q (by omega)
theorem st_11 {args : Array Value} {s : State} (h : AllB args s narrow_1) {A : Nat → Prop} (hA : ∀ a : Nat, a < s.heap.size → ¬ A a) : ∃ a v, StrEv args s (Jvm.Term.string "WebHost$Requests" (208 : Nat)) (strB.getD 11 []) A a v := str_one hA (by decide) (h.1.1.1.2.2.1.2.2.2.2.1) (h.1.1.1.2.2.1.2.2.2.2.2) (h.1.1.1.2.2.2.1.1.1.1) (h.1.1.1.2.2.2.1.1.1.2.1) (sel_11 h)
theorem sel_12 {args : Array Value} {s : State} (h : AllB args s narrow_1) : ∀ j : Nat, j < 10 → (Cond.eq (.elem (Jvm.Term.field (Jvm.Term.string "WebHost$Requests" (234 : Nat)) "java/lang/String" "value" "[B") (.int (Int32.ofNat j))) (.int ((strB.getD 12 []).getD j 0))).before args s = true := fun j hj => match j, hj with
  | 0, _ => h.1.1.1.2.2.2.2.1.2.2.1
  | 1, _ => h.1.1.1.2.2.2.2.1.2.2.2
  | 2, _ => h.1.1.1.2.2.2.2.2.1.1
  | 3, _ => h.1.1.1.2.2.2.2.2.1.2.1
  | 4, _ => h.1.1.1.2.2.2.2.2.1.2.2
  | 5, _ => h.1.1.1.2.2.2.2.2.2.1.1
  | 6, _ => h.1.1.1.2.2.2.2.2.2.1.2
  | 7, _ => h.1.1.1.2.2.2.2.2.2.2.1
  | 8, _ => h.1.1.1.2.2.2.2.2.2.2.2
  | 9, _ => h.1.1.2.1.1.1.1.1.1.1
  | (n + 10), q => absurd q (by omega)
theorem st_12 {args : Array Value} {s : State} (h : AllB args s narrow_1) {A : Nat → Prop} (hA : ∀ a : Nat, a < s.heap.size → ¬ A a) : ∃ a v, StrEv args s (Jvm.Term.string "WebHost$Requests" (234 : Nat)) (strB.getD 12 []) A a v := str_one hA (by decide) (h.1.1.1.2.2.2.2.1.1.1) (h.1.1.1.2.2.2.2.1.1.2.1) (h.1.1.1.2.2.2.2.1.1.2.2) (h.1.1.1.2.2.2.2.1.2.1) (sel_12 h)
theorem sel_13 {args : Array Value} {s : State} (h : AllB args s narrow_1) : ∀ j : Nat, j < 1 → (Cond.eq (.elem (Jvm.Term.field (Jvm.Term.string "WebHost$Requests" (236 : Nat)) "java/lang/String" "value" "[B") (.int (Int32.ofNat j))) (.int ((strB.getD 13 []).getD j 0))).before args s = true := fun j hj => match j, hj with
  | 0, _ => h.1.1.2.1.1.1.1.1.2.2.2
  | (n + 1), q => absurd q (by omega)
theorem st_13 {args : Array Value} {s : State} (h : AllB args s narrow_1) {A : Nat → Prop} (hA : ∀ a : Nat, a < s.heap.size → ¬ A a) : ∃ a v, StrEv args s (Jvm.Term.string "WebHost$Requests" (236 : Nat)) (strB.getD 13 []) A a v := str_one hA (by decide) (h.1.1.2.1.1.1.1.1.1.2.1) (h.1.1.2.1.1.1.1.1.1.2.2) (h.1.1.2.1.1.1.1.1.2.1) (h.1.1.2.1.1.1.1.1.2.2.1) (sel_13 h)
theorem sel_14 {args : Array Value} {s : State} (h : AllB args s narrow_1) : ∀ j : Nat, j < 2 → (Cond.eq (.elem (Jvm.Term.field (Jvm.Term.string "WebHost$Requests" (311 : Nat)) "java/lang/String" "value" "[B") (.int (Int32.ofNat j))) (.int ((strB.getD 14 []).getD j 0))).before args s = true := fun j hj => match j, hj with
  | 0, _ => h.1.1.2.1.1.1.1.2.2.2.1
  | 1, _ => h.1.1.2.1.1.1.1.2.2.2.2
  | (n + 2), q => absurd q (by omega)
theorem st_14 {args : Array Value} {s : State} (h : AllB args s narrow_1) {A : Nat → Prop} (hA : ∀ a : Nat, a < s.heap.size → ¬ A a) : ∃ a v, StrEv args s (Jvm.Term.string "WebHost$Requests" (311 : Nat)) (strB.getD 14 []) A a v := str_one hA (by decide) (h.1.1.2.1.1.1.1.2.1.1) (h.1.1.2.1.1.1.1.2.1.2.1) (h.1.1.2.1.1.1.1.2.1.2.2) (h.1.1.2.1.1.1.1.2.2.1) (sel_14 h)
theorem sel_15 {args : Array Value} {s : State} (h : AllB args s narrow_1) : ∀ j : Nat, j < 12 → (Cond.eq (.elem (Jvm.Term.field (Jvm.Term.string "WebHost$Requests" (313 : Nat)) "java/lang/String" "value" "[B") (.int (Int32.ofNat j))) (.int ((strB.getD 15 []).getD j 0))).before args s = true := fun j hj => match j, hj with
  | 0, _ => h.1.1.2.1.1.1.2.1.2.2.1
  | 1, _ => h.1.1.2.1.1.1.2.1.2.2.2
  | 2, _ => h.1.1.2.1.1.1.2.2.1.1
  | 3, _ => h.1.1.2.1.1.1.2.2.1.2.1
  | 4, _ => h.1.1.2.1.1.1.2.2.1.2.2
  | 5, _ => h.1.1.2.1.1.1.2.2.2.1.1
  | 6, _ => h.1.1.2.1.1.1.2.2.2.1.2
  | 7, _ => h.1.1.2.1.1.1.2.2.2.2.1
  | 8, _ => h.1.1.2.1.1.1.2.2.2.2.2
  | 9, _ => h.1.1.2.1.1.2.1.1.1.1
  | 10, _ => h.1.1.2.1.1.2.1.1.1.2.1
  | 11, _ => h.1.1.2.1.1.2.1.1.1.2.2
  | (n + 12), q => absurd q (by omega)
theorem st_15 {args : Array Value} {s : State} (h : AllB args s narrow_1) {A : Nat → Prop} (hA : ∀ a : Nat, a < s.heap.size → ¬ A a) : ∃ a v, StrEv args s (Jvm.Term.string "WebHost$Requests" (313 : Nat)) (strB.getD 15 []) A a v := str_one hA (by decide) (h.1.1.2.1.1.1.2.1.1.1) (h.1.1.2.1.1.1.2.1.1.2.1) (h.1.1.2.1.1.1.2.1.1.2.2) (h.1.1.2.1.1.1.2.1.2.1) (sel_15 h)
theorem sel_16 {args : Array Value} {s : State} (h : AllB args s narrow_1) : ∀ j : Nat, j < 11 → (Cond.eq (.elem (Jvm.Term.field (Jvm.Term.string "WebHost$Requests" (315 : Nat)) "java/lang/String" "value" "[B") (.int (Int32.ofNat j))) (.int ((strB.getD 16 []).getD j 0))).before args s = true := fun j hj => match j, hj with
  | 0, _ => h.1.1.2.1.1.2.1.2.1.2.1
  | 1, _ => h.1.1.2.1.1.2.1.2.1.2.2
  | 2, _ => h.1.1.2.1.1.2.1.2.2.1
  | 3, _ => h.1.1.2.1.1.2.1.2.2.2.1
  | 4, _ => h.1.1.2.1.1.2.1.2.2.2.2
  | 5, _ => h.1.1.2.1.1.2.2.1.1.1
  | 6, _ => h.1.1.2.1.1.2.2.1.1.2.1
  | 7, _ => h.1.1.2.1.1.2.2.1.1.2.2
  | 8, _ => h.1.1.2.1.1.2.2.1.2.1
  | 9, _ => h.1.1.2.1.1.2.2.1.2.2.1
  | 10, _ => h.1.1.2.1.1.2.2.1.2.2.2
  | (n + 11), q => absurd q (by omega)
theorem st_16 {args : Array Value} {s : State} (h : AllB args s narrow_1) {A : Nat → Prop} (hA : ∀ a : Nat, a < s.heap.size → ¬ A a) : ∃ a v, StrEv args s (Jvm.Term.string "WebHost$Requests" (315 : Nat)) (strB.getD 16 []) A a v := str_one hA (by decide) (h.1.1.2.1.1.2.1.1.2.1) (h.1.1.2.1.1.2.1.1.2.2.1) (h.1.1.2.1.1.2.1.1.2.2.2) (h.1.1.2.1.1.2.1.2.1.1) (sel_16 h)
theorem sel_17 {args : Array Value} {s : State} (h : AllB args s narrow_1) : ∀ j : Nat, j < 9 → (Cond.eq (.elem (Jvm.Term.field (Jvm.Term.string "WebHost$Requests" (317 : Nat)) "java/lang/String" "value" "[B") (.int (Int32.ofNat j))) (.int ((strB.getD 17 []).getD j 0))).before args s = true := fun j hj => match j, hj with
  | 0, _ => h.1.1.2.1.1.2.2.2.2.1.2
  | 1, _ => h.1.1.2.1.1.2.2.2.2.2.1
  | 2, _ => h.1.1.2.1.1.2.2.2.2.2.2
  | 3, _ => h.1.1.2.1.2.1.1.1.1.1
  | 4, _ => h.1.1.2.1.2.1.1.1.1.2.1
  | 5, _ => h.1.1.2.1.2.1.1.1.1.2.2
  | 6, _ => h.1.1.2.1.2.1.1.1.2.1
  | 7, _ => h.1.1.2.1.2.1.1.1.2.2.1
  | 8, _ => h.1.1.2.1.2.1.1.1.2.2.2
  | (n + 9), q => absurd q (by omega)
theorem st_17 {args : Array Value} {s : State} (h : AllB args s narrow_1) {A : Nat → Prop} (hA : ∀ a : Nat, a < s.heap.size → ¬ A a) : ∃ a v, StrEv args s (Jvm.Term.string "WebHost$Requests" (317 : Nat)) (strB.getD 17 []) A a v := str_one hA (by decide) (h.1.1.2.1.1.2.2.2.1.1) (h.1.1.2.1.1.2.2.2.1.2.1) (h.1.1.2.1.1.2.2.2.1.2.2) (h.1.1.2.1.1.2.2.2.2.1.1) (sel_17 h)
theorem sel_18 {args : Array Value} {s : State} (h : AllB args s narrow_1) : ∀ j : Nat, j < 18 → (Cond.eq (.elem (Jvm.Term.field (Jvm.Term.string "WebHost$Requests" (319 : Nat)) "java/lang/String" "value" "[B") (.int (Int32.ofNat j))) (.int ((strB.getD 18 []).getD j 0))).before args s = true := fun j hj => match j, hj with
  | 0, _ => h.1.1.2.1.2.1.1.2.2.2.1
  | 1, _ => h.1.1.2.1.2.1.1.2.2.2.2
  | 2, _ => h.1.1.2.1.2.1.2.1.1.1
  | 3, _ => h.1.1.2.1.2.1.2.1.1.2.1
  | 4, _ => h.1.1.2.1.2.1.2.1.1.2.2
  | 5, _ => h.1.1.2.1.2.1.2.1.2.1
  | 6, _ => h.1.1.2.1.2.1.2.1.2.2.1
  | 7, _ => h.1.1.2.1.2.1.2.1.2.2.2
  | 8, _ => h.1.1.2.1.2.1.2.2.1.1
  | 9, _ => h.1.1.2.1.2.1.2.2.1.2.1
  | 10, _ => h.1.1.2.1.2.1.2.2.1.2.2
  | 11, _ => h.1.1.2.1.2.1.2.2.2.1.1
  | 12, _ => h.1.1.2.1.2.1.2.2.2.1.2
  | 13, _ => h.1.1.2.1.2.1.2.2.2.2.1
  | 14, _ => h.1.1.2.1.2.1.2.2.2.2.2
  | 15, _ => h.1.1.2.1.2.2.1.1.1.1
  | 16, _ => h.1.1.2.1.2.2.1.1.1.2.1
  | 17, _ => h.1.1.2.1.2.2.1.1.1.2.2
  | (n + 18), q => absurd q (by omega)
theorem st_18 {args : Array Value} {s : State} (h : AllB args s narrow_1) {A : Nat → Prop} (hA : ∀ a : Nat, a < s.heap.size → ¬ A a) : ∃ a v, StrEv args s (Jvm.Term.string "WebHost$Requests" (319 : Nat)) (strB.getD 18 []) A a v := str_one hA (by decide) (h.1.1.2.1.2.1.1.2.1.1) (h.1.1.2.1.2.1.1.2.1.2.1) (h.1.1.2.1.2.1.1.2.1.2.2) (h.1.1.2.1.2.1.1.2.2.1) (sel_18 h)
theorem sel_19 {args : Array Value} {s : State} (h : AllB args s narrow_1) : ∀ j : Nat, j < 17 → (Cond.eq (.elem (Jvm.Term.field (Jvm.Term.string "WebHost$Requests" (321 : Nat)) "java/lang/String" "value" "[B") (.int (Int32.ofNat j))) (.int ((strB.getD 19 []).getD j 0))).before args s = true := fun j hj => match j, hj with
  | 0, _ => h.1.1.2.1.2.2.1.2.1.2.1
  | 1, _ => h.1.1.2.1.2.2.1.2.1.2.2
  | 2, _ => h.1.1.2.1.2.2.1.2.2.1
  | 3, _ => h.1.1.2.1.2.2.1.2.2.2.1
  | 4, _ => h.1.1.2.1.2.2.1.2.2.2.2
  | 5, _ => h.1.1.2.1.2.2.2.1.1.1
  | 6, _ => h.1.1.2.1.2.2.2.1.1.2.1
  | 7, _ => h.1.1.2.1.2.2.2.1.1.2.2
  | 8, _ => h.1.1.2.1.2.2.2.1.2.1
  | 9, _ => h.1.1.2.1.2.2.2.1.2.2.1
  | 10, _ => h.1.1.2.1.2.2.2.1.2.2.2
  | 11, _ => h.1.1.2.1.2.2.2.2.1.1
  | 12, _ => h.1.1.2.1.2.2.2.2.1.2.1
  | 13, _ => h.1.1.2.1.2.2.2.2.1.2.2
  | 14, _ => h.1.1.2.1.2.2.2.2.2.1.1
  | 15, _ => h.1.1.2.1.2.2.2.2.2.1.2
  | 16, _ => h.1.1.2.1.2.2.2.2.2.2.1
  | (n + 17), q => absurd q (by omega)
theorem st_19 {args : Array Value} {s : State} (h : AllB args s narrow_1) {A : Nat → Prop} (hA : ∀ a : Nat, a < s.heap.size → ¬ A a) : ∃ a v, StrEv args s (Jvm.Term.string "WebHost$Requests" (321 : Nat)) (strB.getD 19 []) A a v := str_one hA (by decide) (h.1.1.2.1.2.2.1.1.2.1) (h.1.1.2.1.2.2.1.1.2.2.1) (h.1.1.2.1.2.2.1.1.2.2.2) (h.1.1.2.1.2.2.1.2.1.1) (sel_19 h)
theorem sel_20 {args : Array Value} {s : State} (h : AllB args s narrow_1) : ∀ j : Nat, j < 31 → (Cond.eq (.elem (Jvm.Term.field (Jvm.Term.string "WebHost$Requests" (323 : Nat)) "java/lang/String" "value" "[B") (.int (Int32.ofNat j))) (.int ((strB.getD 20 []).getD j 0))).before args s = true := fun j hj => match j, hj with
  | 0, _ => h.1.1.2.2.1.1.1.1.2.1
  | 1, _ => h.1.1.2.2.1.1.1.1.2.2.1
  | 2, _ => h.1.1.2.2.1.1.1.1.2.2.2
  | 3, _ => h.1.1.2.2.1.1.1.2.1.1
  | 4, _ => h.1.1.2.2.1.1.1.2.1.2.1
  | 5, _ => h.1.1.2.2.1.1.1.2.1.2.2
  | 6, _ => h.1.1.2.2.1.1.1.2.2.1
  | 7, _ => h.1.1.2.2.1.1.1.2.2.2.1
  | 8, _ => h.1.1.2.2.1.1.1.2.2.2.2
  | 9, _ => h.1.1.2.2.1.1.2.1.1.1
  | 10, _ => h.1.1.2.2.1.1.2.1.1.2.1
  | 11, _ => h.1.1.2.2.1.1.2.1.1.2.2
  | 12, _ => h.1.1.2.2.1.1.2.1.2.1
  | 13, _ => h.1.1.2.2.1.1.2.1.2.2.1
  | 14, _ => h.1.1.2.2.1.1.2.1.2.2.2
  | 15, _ => h.1.1.2.2.1.1.2.2.1.1
  | 16, _ => h.1.1.2.2.1.1.2.2.1.2.1
  | 17, _ => h.1.1.2.2.1.1.2.2.1.2.2
  | 18, _ => h.1.1.2.2.1.1.2.2.2.1.1
  | 19, _ => h.1.1.2.2.1.1.2.2.2.1.2
  | 20, _ => h.1.1.2.2.1.1.2.2.2.2.1
  | 21, _ => h.1.1.2.2.1.1.2.2.2.2.2
  | 22, _ => h.1.1.2.2.1.2.1.1.1.1
  | 23, _ => h.1.1.2.2.1.2.1.1.1.2.1
  | 24, _ => h.1.1.2.2.1.2.1.1.1.2.2
  | 25, _ => h.1.1.2.2.1.2.1.1.2.1
  | 26, _ => h.1.1.2.2.1.2.1.1.2.2.1
  | 27, _ => h.1.1.2.2.1.2.1.1.2.2.2
  | 28, _ => h.1.1.2.2.1.2.1.2.1.1
  | 29, _ => h.1.1.2.2.1.2.1.2.1.2.1
  | 30, _ => h.1.1.2.2.1.2.1.2.1.2.2
  | (n + 31), q => absurd q (by omega)
theorem st_20 {args : Array Value} {s : State} (h : AllB args s narrow_1) {A : Nat → Prop} (hA : ∀ a : Nat, a < s.heap.size → ¬ A a) : ∃ a v, StrEv args s (Jvm.Term.string "WebHost$Requests" (323 : Nat)) (strB.getD 20 []) A a v := str_one hA (by decide) (h.1.1.2.1.2.2.2.2.2.2.2) (h.1.1.2.2.1.1.1.1.1.1) (h.1.1.2.2.1.1.1.1.1.2.1) (h.1.1.2.2.1.1.1.1.1.2.2) (sel_20 h)
theorem sel_21 {args : Array Value} {s : State} (h : AllB args s narrow_1) : ∀ j : Nat, j < 21 → (Cond.eq (.elem (Jvm.Term.field (Jvm.Term.string "WebHost$Requests" (325 : Nat)) "java/lang/String" "value" "[B") (.int (Int32.ofNat j))) (.int ((strB.getD 21 []).getD j 0))).before args s = true := fun j hj => match j, hj with
  | 0, _ => h.1.1.2.2.1.2.2.1.1.2.1
  | 1, _ => h.1.1.2.2.1.2.2.1.1.2.2
  | 2, _ => h.1.1.2.2.1.2.2.1.2.1
  | 3, _ => h.1.1.2.2.1.2.2.1.2.2.1
  | 4, _ => h.1.1.2.2.1.2.2.1.2.2.2
  | 5, _ => h.1.1.2.2.1.2.2.2.1.1
  | 6, _ => h.1.1.2.2.1.2.2.2.1.2.1
  | 7, _ => h.1.1.2.2.1.2.2.2.1.2.2
  | 8, _ => h.1.1.2.2.1.2.2.2.2.1.1
  | 9, _ => h.1.1.2.2.1.2.2.2.2.1.2
  | 10, _ => h.1.1.2.2.1.2.2.2.2.2.1
  | 11, _ => h.1.1.2.2.1.2.2.2.2.2.2
  | 12, _ => h.1.1.2.2.2.1.1.1.1.1
  | 13, _ => h.1.1.2.2.2.1.1.1.1.2.1
  | 14, _ => h.1.1.2.2.2.1.1.1.1.2.2
  | 15, _ => h.1.1.2.2.2.1.1.1.2.1
  | 16, _ => h.1.1.2.2.2.1.1.1.2.2.1
  | 17, _ => h.1.1.2.2.2.1.1.1.2.2.2
  | 18, _ => h.1.1.2.2.2.1.1.2.1.1
  | 19, _ => h.1.1.2.2.2.1.1.2.1.2.1
  | 20, _ => h.1.1.2.2.2.1.1.2.1.2.2
  | (n + 21), q => absurd q (by omega)
theorem st_21 {args : Array Value} {s : State} (h : AllB args s narrow_1) {A : Nat → Prop} (hA : ∀ a : Nat, a < s.heap.size → ¬ A a) : ∃ a v, StrEv args s (Jvm.Term.string "WebHost$Requests" (325 : Nat)) (strB.getD 21 []) A a v := str_one hA (by decide) (h.1.1.2.2.1.2.1.2.2.1) (h.1.1.2.2.1.2.1.2.2.2.1) (h.1.1.2.2.1.2.1.2.2.2.2) (h.1.1.2.2.1.2.2.1.1.1) (sel_21 h)
theorem sel_22 {args : Array Value} {s : State} (h : AllB args s narrow_1) : ∀ j : Nat, j < 15 → (Cond.eq (.elem (Jvm.Term.field (Jvm.Term.string "WebHost$Requests" (327 : Nat)) "java/lang/String" "value" "[B") (.int (Int32.ofNat j))) (.int ((strB.getD 22 []).getD j 0))).before args s = true := fun j hj => match j, hj with
  | 0, _ => h.1.1.2.2.2.1.2.1.1.2.1
  | 1, _ => h.1.1.2.2.2.1.2.1.1.2.2
  | 2, _ => h.1.1.2.2.2.1.2.1.2.1
  | 3, _ => h.1.1.2.2.2.1.2.1.2.2.1
  | 4, _ => h.1.1.2.2.2.1.2.1.2.2.2
  | 5, _ => h.1.1.2.2.2.1.2.2.1.1
  | 6, _ => h.1.1.2.2.2.1.2.2.1.2.1
  | 7, _ => h.1.1.2.2.2.1.2.2.1.2.2
  | 8, _ => h.1.1.2.2.2.1.2.2.2.1.1
  | 9, _ => h.1.1.2.2.2.1.2.2.2.1.2
  | 10, _ => h.1.1.2.2.2.1.2.2.2.2.1
  | 11, _ => h.1.1.2.2.2.1.2.2.2.2.2
  | 12, _ => h.1.1.2.2.2.2.1.1.1.1
  | 13, _ => h.1.1.2.2.2.2.1.1.1.2.1
  | 14, _ => h.1.1.2.2.2.2.1.1.1.2.2
  | (n + 15), q => absurd q (by omega)
theorem st_22 {args : Array Value} {s : State} (h : AllB args s narrow_1) {A : Nat → Prop} (hA : ∀ a : Nat, a < s.heap.size → ¬ A a) : ∃ a v, StrEv args s (Jvm.Term.string "WebHost$Requests" (327 : Nat)) (strB.getD 22 []) A a v := str_one hA (by decide) (h.1.1.2.2.2.1.1.2.2.1) (h.1.1.2.2.2.1.1.2.2.2.1) (h.1.1.2.2.2.1.1.2.2.2.2) (h.1.1.2.2.2.1.2.1.1.1) (sel_22 h)
theorem sel_23 {args : Array Value} {s : State} (h : AllB args s narrow_1) : ∀ j : Nat, j < 9 → (Cond.eq (.elem (Jvm.Term.field (Jvm.Term.string "WebHost$Requests" (266 : Nat)) "java/lang/String" "value" "[B") (.int (Int32.ofNat j))) (.int ((strB.getD 23 []).getD j 0))).before args s = true := fun j hj => match j, hj with
  | 0, _ => h.1.1.2.2.2.2.1.2.1.2.1
  | 1, _ => h.1.1.2.2.2.2.1.2.1.2.2
  | 2, _ => h.1.1.2.2.2.2.1.2.2.1
  | 3, _ => h.1.1.2.2.2.2.1.2.2.2.1
  | 4, _ => h.1.1.2.2.2.2.1.2.2.2.2
  | 5, _ => h.1.1.2.2.2.2.2.1.1.1
  | 6, _ => h.1.1.2.2.2.2.2.1.1.2.1
  | 7, _ => h.1.1.2.2.2.2.2.1.1.2.2
  | 8, _ => h.1.1.2.2.2.2.2.1.2.1
  | (n + 9), q => absurd q (by omega)
theorem st_23 {args : Array Value} {s : State} (h : AllB args s narrow_1) {A : Nat → Prop} (hA : ∀ a : Nat, a < s.heap.size → ¬ A a) : ∃ a v, StrEv args s (Jvm.Term.string "WebHost$Requests" (266 : Nat)) (strB.getD 23 []) A a v := str_one hA (by decide) (h.1.1.2.2.2.2.1.1.2.1) (h.1.1.2.2.2.2.1.1.2.2.1) (h.1.1.2.2.2.2.1.1.2.2.2) (h.1.1.2.2.2.2.1.2.1.1) (sel_23 h)
theorem sel_24 {args : Array Value} {s : State} (h : AllB args s narrow_1) : ∀ j : Nat, j < 1 → (Cond.eq (.elem (Jvm.Term.field (Jvm.Term.string "WebHost$Requests" (275 : Nat)) "java/lang/String" "value" "[B") (.int (Int32.ofNat j))) (.int ((strB.getD 24 []).getD j 0))).before args s = true := fun j hj => match j, hj with
  | 0, _ => h.1.1.2.2.2.2.2.2.1.2.2
  | (n + 1), q => absurd q (by omega)
theorem st_24 {args : Array Value} {s : State} (h : AllB args s narrow_1) {A : Nat → Prop} (hA : ∀ a : Nat, a < s.heap.size → ¬ A a) : ∃ a v, StrEv args s (Jvm.Term.string "WebHost$Requests" (275 : Nat)) (strB.getD 24 []) A a v := str_one hA (by decide) (h.1.1.2.2.2.2.2.1.2.2.1) (h.1.1.2.2.2.2.2.1.2.2.2) (h.1.1.2.2.2.2.2.2.1.1) (h.1.1.2.2.2.2.2.2.1.2.1) (sel_24 h)
theorem sel_25 {args : Array Value} {s : State} (h : AllB args s narrow_1) : ∀ j : Nat, j < 18 → (Cond.eq (.elem (Jvm.Term.field (Jvm.Term.string "WebHost$Requests" (277 : Nat)) "java/lang/String" "value" "[B") (.int (Int32.ofNat j))) (.int ((strB.getD 25 []).getD j 0))).before args s = true := fun j hj => match j, hj with
  | 0, _ => h.1.2.1.1.1.1.1.1.1.1
  | 1, _ => h.1.2.1.1.1.1.1.1.1.2.1
  | 2, _ => h.1.2.1.1.1.1.1.1.1.2.2
  | 3, _ => h.1.2.1.1.1.1.1.1.2.1
  | 4, _ => h.1.2.1.1.1.1.1.1.2.2.1
  | 5, _ => h.1.2.1.1.1.1.1.1.2.2.2
  | 6, _ => h.1.2.1.1.1.1.1.2.1.1
  | 7, _ => h.1.2.1.1.1.1.1.2.1.2.1
  | 8, _ => h.1.2.1.1.1.1.1.2.1.2.2
  | 9, _ => h.1.2.1.1.1.1.1.2.2.1
  | 10, _ => h.1.2.1.1.1.1.1.2.2.2.1
  | 11, _ => h.1.2.1.1.1.1.1.2.2.2.2
  | 12, _ => h.1.2.1.1.1.1.2.1.1.1
  | 13, _ => h.1.2.1.1.1.1.2.1.1.2.1
  | 14, _ => h.1.2.1.1.1.1.2.1.1.2.2
  | 15, _ => h.1.2.1.1.1.1.2.1.2.1
  | 16, _ => h.1.2.1.1.1.1.2.1.2.2.1
  | 17, _ => h.1.2.1.1.1.1.2.1.2.2.2
  | (n + 18), q => absurd q (by omega)
theorem st_25 {args : Array Value} {s : State} (h : AllB args s narrow_1) {A : Nat → Prop} (hA : ∀ a : Nat, a < s.heap.size → ¬ A a) : ∃ a v, StrEv args s (Jvm.Term.string "WebHost$Requests" (277 : Nat)) (strB.getD 25 []) A a v := str_one hA (by decide) (h.1.1.2.2.2.2.2.2.2.1.1) (h.1.1.2.2.2.2.2.2.2.1.2) (h.1.1.2.2.2.2.2.2.2.2.1) (h.1.1.2.2.2.2.2.2.2.2.2) (sel_25 h)
theorem sel_26 {args : Array Value} {s : State} (h : AllB args s narrow_1) : ∀ j : Nat, j < 16 → (Cond.eq (.elem (Jvm.Term.field (Jvm.Term.string "WebHost$Requests" (279 : Nat)) "java/lang/String" "value" "[B") (.int (Int32.ofNat j))) (.int ((strB.getD 26 []).getD j 0))).before args s = true := fun j hj => match j, hj with
  | 0, _ => h.1.2.1.1.1.1.2.2.2.1.2
  | 1, _ => h.1.2.1.1.1.1.2.2.2.2.1
  | 2, _ => h.1.2.1.1.1.1.2.2.2.2.2
  | 3, _ => h.1.2.1.1.1.2.1.1.1.1
  | 4, _ => h.1.2.1.1.1.2.1.1.1.2.1
  | 5, _ => h.1.2.1.1.1.2.1.1.1.2.2
  | 6, _ => h.1.2.1.1.1.2.1.1.2.1
  | 7, _ => h.1.2.1.1.1.2.1.1.2.2.1
  | 8, _ => h.1.2.1.1.1.2.1.1.2.2.2
  | 9, _ => h.1.2.1.1.1.2.1.2.1.1
  | 10, _ => h.1.2.1.1.1.2.1.2.1.2.1
  | 11, _ => h.1.2.1.1.1.2.1.2.1.2.2
  | 12, _ => h.1.2.1.1.1.2.1.2.2.1
  | 13, _ => h.1.2.1.1.1.2.1.2.2.2.1
  | 14, _ => h.1.2.1.1.1.2.1.2.2.2.2
  | 15, _ => h.1.2.1.1.1.2.2.1.1.1
  | (n + 16), q => absurd q (by omega)
theorem st_26 {args : Array Value} {s : State} (h : AllB args s narrow_1) {A : Nat → Prop} (hA : ∀ a : Nat, a < s.heap.size → ¬ A a) : ∃ a v, StrEv args s (Jvm.Term.string "WebHost$Requests" (279 : Nat)) (strB.getD 26 []) A a v := str_one hA (by decide) (h.1.2.1.1.1.1.2.2.1.1) (h.1.2.1.1.1.1.2.2.1.2.1) (h.1.2.1.1.1.1.2.2.1.2.2) (h.1.2.1.1.1.1.2.2.2.1.1) (sel_26 h)
theorem sel_27 {args : Array Value} {s : State} (h : AllB args s narrow_1) : ∀ j : Nat, j < 5 → (Cond.eq (.elem (Jvm.Term.field (Jvm.Term.string "WebHost$Requests" (329 : Nat)) "java/lang/String" "value" "[B") (.int (Int32.ofNat j))) (.int ((strB.getD 27 []).getD j 0))).before args s = true := fun j hj => match j, hj with
  | 0, _ => h.1.2.1.1.1.2.2.1.2.2.2
  | 1, _ => h.1.2.1.1.1.2.2.2.1.1
  | 2, _ => h.1.2.1.1.1.2.2.2.1.2.1
  | 3, _ => h.1.2.1.1.1.2.2.2.1.2.2
  | 4, _ => h.1.2.1.1.1.2.2.2.2.1.1
  | (n + 5), q => absurd q (by omega)
theorem st_27 {args : Array Value} {s : State} (h : AllB args s narrow_1) {A : Nat → Prop} (hA : ∀ a : Nat, a < s.heap.size → ¬ A a) : ∃ a v, StrEv args s (Jvm.Term.string "WebHost$Requests" (329 : Nat)) (strB.getD 27 []) A a v := str_one hA (by decide) (h.1.2.1.1.1.2.2.1.1.2.1) (h.1.2.1.1.1.2.2.1.1.2.2) (h.1.2.1.1.1.2.2.1.2.1) (h.1.2.1.1.1.2.2.1.2.2.1) (sel_27 h)
theorem sel_28 {args : Array Value} {s : State} (h : AllB args s narrow_1) : ∀ j : Nat, j < 9 → (Cond.eq (.elem (Jvm.Term.field (Jvm.Term.string "WebHost$Requests" (335 : Nat)) "java/lang/String" "value" "[B") (.int (Int32.ofNat j))) (.int ((strB.getD 28 []).getD j 0))).before args s = true := fun j hj => match j, hj with
  | 0, _ => h.1.2.1.1.2.1.1.1.1.2.1
  | 1, _ => h.1.2.1.1.2.1.1.1.1.2.2
  | 2, _ => h.1.2.1.1.2.1.1.1.2.1
  | 3, _ => h.1.2.1.1.2.1.1.1.2.2.1
  | 4, _ => h.1.2.1.1.2.1.1.1.2.2.2
  | 5, _ => h.1.2.1.1.2.1.1.2.1.1
  | 6, _ => h.1.2.1.1.2.1.1.2.1.2.1
  | 7, _ => h.1.2.1.1.2.1.1.2.1.2.2
  | 8, _ => h.1.2.1.1.2.1.1.2.2.1
  | (n + 9), q => absurd q (by omega)
theorem st_28 {args : Array Value} {s : State} (h : AllB args s narrow_1) {A : Nat → Prop} (hA : ∀ a : Nat, a < s.heap.size → ¬ A a) : ∃ a v, StrEv args s (Jvm.Term.string "WebHost$Requests" (335 : Nat)) (strB.getD 28 []) A a v := str_one hA (by decide) (h.1.2.1.1.1.2.2.2.2.1.2) (h.1.2.1.1.1.2.2.2.2.2.1) (h.1.2.1.1.1.2.2.2.2.2.2) (h.1.2.1.1.2.1.1.1.1.1) (sel_28 h)
theorem sel_29 {args : Array Value} {s : State} (h : AllB args s narrow_1) : ∀ j : Nat, j < 4 → (Cond.eq (.elem (Jvm.Term.field (Jvm.Term.string "WebHost$Requests" (337 : Nat)) "java/lang/String" "value" "[B") (.int (Int32.ofNat j))) (.int ((strB.getD 29 []).getD j 0))).before args s = true := fun j hj => match j, hj with
  | 0, _ => h.1.2.1.1.2.1.2.1.1.2.2
  | 1, _ => h.1.2.1.1.2.1.2.1.2.1
  | 2, _ => h.1.2.1.1.2.1.2.1.2.2.1
  | 3, _ => h.1.2.1.1.2.1.2.1.2.2.2
  | (n + 4), q => absurd q (by omega)
theorem st_29 {args : Array Value} {s : State} (h : AllB args s narrow_1) {A : Nat → Prop} (hA : ∀ a : Nat, a < s.heap.size → ¬ A a) : ∃ a v, StrEv args s (Jvm.Term.string "WebHost$Requests" (337 : Nat)) (strB.getD 29 []) A a v := str_one hA (by decide) (h.1.2.1.1.2.1.1.2.2.2.1) (h.1.2.1.1.2.1.1.2.2.2.2) (h.1.2.1.1.2.1.2.1.1.1) (h.1.2.1.1.2.1.2.1.1.2.1) (sel_29 h)
theorem sel_30 {args : Array Value} {s : State} (h : AllB args s narrow_1) : ∀ j : Nat, j < 8 → (Cond.eq (.elem (Jvm.Term.field (Jvm.Term.string "WebHost$Requests" (339 : Nat)) "java/lang/String" "value" "[B") (.int (Int32.ofNat j))) (.int ((strB.getD 30 []).getD j 0))).before args s = true := fun j hj => match j, hj with
  | 0, _ => h.1.2.1.1.2.1.2.2.2.1.2
  | 1, _ => h.1.2.1.1.2.1.2.2.2.2.1
  | 2, _ => h.1.2.1.1.2.1.2.2.2.2.2
  | 3, _ => h.1.2.1.1.2.2.1.1.1.1
  | 4, _ => h.1.2.1.1.2.2.1.1.1.2.1
  | 5, _ => h.1.2.1.1.2.2.1.1.1.2.2
  | 6, _ => h.1.2.1.1.2.2.1.1.2.1
  | 7, _ => h.1.2.1.1.2.2.1.1.2.2.1
  | (n + 8), q => absurd q (by omega)
theorem st_30 {args : Array Value} {s : State} (h : AllB args s narrow_1) {A : Nat → Prop} (hA : ∀ a : Nat, a < s.heap.size → ¬ A a) : ∃ a v, StrEv args s (Jvm.Term.string "WebHost$Requests" (339 : Nat)) (strB.getD 30 []) A a v := str_one hA (by decide) (h.1.2.1.1.2.1.2.2.1.1) (h.1.2.1.1.2.1.2.2.1.2.1) (h.1.2.1.1.2.1.2.2.1.2.2) (h.1.2.1.1.2.1.2.2.2.1.1) (sel_30 h)
theorem sel_31 {args : Array Value} {s : State} (h : AllB args s narrow_1) : ∀ j : Nat, j < 3 → (Cond.eq (.elem (Jvm.Term.field (Jvm.Term.string "WebHost$Requests" (341 : Nat)) "java/lang/String" "value" "[B") (.int (Int32.ofNat j))) (.int ((strB.getD 31 []).getD j 0))).before args s = true := fun j hj => match j, hj with
  | 0, _ => h.1.2.1.1.2.2.1.2.2.1
  | 1, _ => h.1.2.1.1.2.2.1.2.2.2.1
  | 2, _ => h.1.2.1.1.2.2.1.2.2.2.2
  | (n + 3), q => absurd q (by omega)
theorem st_31 {args : Array Value} {s : State} (h : AllB args s narrow_1) {A : Nat → Prop} (hA : ∀ a : Nat, a < s.heap.size → ¬ A a) : ∃ a v, StrEv args s (Jvm.Term.string "WebHost$Requests" (341 : Nat)) (strB.getD 31 []) A a v := str_one hA (by decide) (h.1.2.1.1.2.2.1.1.2.2.2) (h.1.2.1.1.2.2.1.2.1.1) (h.1.2.1.1.2.2.1.2.1.2.1) (h.1.2.1.1.2.2.1.2.1.2.2) (sel_31 h)
theorem sel_32 {args : Array Value} {s : State} (h : AllB args s narrow_1) : ∀ j : Nat, j < 15 → (Cond.eq (.elem (Jvm.Term.field (Jvm.Term.string "WebHost$Requests" (343 : Nat)) "java/lang/String" "value" "[B") (.int (Int32.ofNat j))) (.int ((strB.getD 32 []).getD j 0))).before args s = true := fun j hj => match j, hj with
  | 0, _ => h.1.2.1.1.2.2.2.1.2.2.1
  | 1, _ => h.1.2.1.1.2.2.2.1.2.2.2
  | 2, _ => h.1.2.1.1.2.2.2.2.1.1
  | 3, _ => h.1.2.1.1.2.2.2.2.1.2.1
  | 4, _ => h.1.2.1.1.2.2.2.2.1.2.2
  | 5, _ => h.1.2.1.1.2.2.2.2.2.1.1
  | 6, _ => h.1.2.1.1.2.2.2.2.2.1.2
  | 7, _ => h.1.2.1.1.2.2.2.2.2.2.1
  | 8, _ => h.1.2.1.1.2.2.2.2.2.2.2
  | 9, _ => h.1.2.1.2.1.1.1.1.1.1
  | 10, _ => h.1.2.1.2.1.1.1.1.1.2.1
  | 11, _ => h.1.2.1.2.1.1.1.1.1.2.2
  | 12, _ => h.1.2.1.2.1.1.1.1.2.1
  | 13, _ => h.1.2.1.2.1.1.1.1.2.2.1
  | 14, _ => h.1.2.1.2.1.1.1.1.2.2.2
  | (n + 15), q => absurd q (by omega)
theorem st_32 {args : Array Value} {s : State} (h : AllB args s narrow_1) {A : Nat → Prop} (hA : ∀ a : Nat, a < s.heap.size → ¬ A a) : ∃ a v, StrEv args s (Jvm.Term.string "WebHost$Requests" (343 : Nat)) (strB.getD 32 []) A a v := str_one hA (by decide) (h.1.2.1.1.2.2.2.1.1.1) (h.1.2.1.1.2.2.2.1.1.2.1) (h.1.2.1.1.2.2.2.1.1.2.2) (h.1.2.1.1.2.2.2.1.2.1) (sel_32 h)
theorem sel_33 {args : Array Value} {s : State} (h : AllB args s narrow_1) : ∀ j : Nat, j < 4 → (Cond.eq (.elem (Jvm.Term.field (Jvm.Term.string "WebHost$Requests" (345 : Nat)) "java/lang/String" "value" "[B") (.int (Int32.ofNat j))) (.int ((strB.getD 33 []).getD j 0))).before args s = true := fun j hj => match j, hj with
  | 0, _ => h.1.2.1.2.1.1.1.2.2.2.1
  | 1, _ => h.1.2.1.2.1.1.1.2.2.2.2
  | 2, _ => h.1.2.1.2.1.1.2.1.1.1
  | 3, _ => h.1.2.1.2.1.1.2.1.1.2.1
  | (n + 4), q => absurd q (by omega)
theorem st_33 {args : Array Value} {s : State} (h : AllB args s narrow_1) {A : Nat → Prop} (hA : ∀ a : Nat, a < s.heap.size → ¬ A a) : ∃ a v, StrEv args s (Jvm.Term.string "WebHost$Requests" (345 : Nat)) (strB.getD 33 []) A a v := str_one hA (by decide) (h.1.2.1.2.1.1.1.2.1.1) (h.1.2.1.2.1.1.1.2.1.2.1) (h.1.2.1.2.1.1.1.2.1.2.2) (h.1.2.1.2.1.1.1.2.2.1) (sel_33 h)
theorem sel_34 {args : Array Value} {s : State} (h : AllB args s narrow_1) : ∀ j : Nat, j < 10 → (Cond.eq (.elem (Jvm.Term.field (Jvm.Term.string "WebHost$Requests" (285 : Nat)) "java/lang/String" "value" "[B") (.int (Int32.ofNat j))) (.int ((strB.getD 34 []).getD j 0))).before args s = true := fun j hj => match j, hj with
  | 0, _ => h.1.2.1.2.1.1.2.2.1.1
  | 1, _ => h.1.2.1.2.1.1.2.2.1.2.1
  | 2, _ => h.1.2.1.2.1.1.2.2.1.2.2
  | 3, _ => h.1.2.1.2.1.1.2.2.2.1.1
  | 4, _ => h.1.2.1.2.1.1.2.2.2.1.2
  | 5, _ => h.1.2.1.2.1.1.2.2.2.2.1
  | 6, _ => h.1.2.1.2.1.1.2.2.2.2.2
  | 7, _ => h.1.2.1.2.1.2.1.1.1.1
  | 8, _ => h.1.2.1.2.1.2.1.1.1.2.1
  | 9, _ => h.1.2.1.2.1.2.1.1.1.2.2
  | (n + 10), q => absurd q (by omega)
theorem st_34 {args : Array Value} {s : State} (h : AllB args s narrow_1) {A : Nat → Prop} (hA : ∀ a : Nat, a < s.heap.size → ¬ A a) : ∃ a v, StrEv args s (Jvm.Term.string "WebHost$Requests" (285 : Nat)) (strB.getD 34 []) A a v := str_one hA (by decide) (h.1.2.1.2.1.1.2.1.1.2.2) (h.1.2.1.2.1.1.2.1.2.1) (h.1.2.1.2.1.1.2.1.2.2.1) (h.1.2.1.2.1.1.2.1.2.2.2) (sel_34 h)
theorem sel_35 {args : Array Value} {s : State} (h : AllB args s narrow_1) : ∀ j : Nat, j < 4 → (Cond.eq (.elem (Jvm.Term.field (Jvm.Term.string "WebHost$Requests" (347 : Nat)) "java/lang/String" "value" "[B") (.int (Int32.ofNat j))) (.int ((strB.getD 35 []).getD j 0))).before args s = true := fun j hj => match j, hj with
  | 0, _ => h.1.2.1.2.1.2.1.2.1.2.1
  | 1, _ => h.1.2.1.2.1.2.1.2.1.2.2
  | 2, _ => h.1.2.1.2.1.2.1.2.2.1
  | 3, _ => h.1.2.1.2.1.2.1.2.2.2.1
  | (n + 4), q => absurd q (by omega)
theorem st_35 {args : Array Value} {s : State} (h : AllB args s narrow_1) {A : Nat → Prop} (hA : ∀ a : Nat, a < s.heap.size → ¬ A a) : ∃ a v, StrEv args s (Jvm.Term.string "WebHost$Requests" (347 : Nat)) (strB.getD 35 []) A a v := str_one hA (by decide) (h.1.2.1.2.1.2.1.1.2.1) (h.1.2.1.2.1.2.1.1.2.2.1) (h.1.2.1.2.1.2.1.1.2.2.2) (h.1.2.1.2.1.2.1.2.1.1) (sel_35 h)
theorem sel_36 {args : Array Value} {s : State} (h : AllB args s narrow_1) : ∀ j : Nat, j < 9 → (Cond.eq (.elem (Jvm.Term.field (Jvm.Term.string "WebHost$Requests" (349 : Nat)) "java/lang/String" "value" "[B") (.int (Int32.ofNat j))) (.int ((strB.getD 36 []).getD j 0))).before args s = true := fun j hj => match j, hj with
  | 0, _ => h.1.2.1.2.1.2.2.1.2.1
  | 1, _ => h.1.2.1.2.1.2.2.1.2.2.1
  | 2, _ => h.1.2.1.2.1.2.2.1.2.2.2
  | 3, _ => h.1.2.1.2.1.2.2.2.1.1
  | 4, _ => h.1.2.1.2.1.2.2.2.1.2.1
  | 5, _ => h.1.2.1.2.1.2.2.2.1.2.2
  | 6, _ => h.1.2.1.2.1.2.2.2.2.1.1
  | 7, _ => h.1.2.1.2.1.2.2.2.2.1.2
  | 8, _ => h.1.2.1.2.1.2.2.2.2.2.1
  | (n + 9), q => absurd q (by omega)
theorem st_36 {args : Array Value} {s : State} (h : AllB args s narrow_1) {A : Nat → Prop} (hA : ∀ a : Nat, a < s.heap.size → ¬ A a) : ∃ a v, StrEv args s (Jvm.Term.string "WebHost$Requests" (349 : Nat)) (strB.getD 36 []) A a v := str_one hA (by decide) (h.1.2.1.2.1.2.1.2.2.2.2) (h.1.2.1.2.1.2.2.1.1.1) (h.1.2.1.2.1.2.2.1.1.2.1) (h.1.2.1.2.1.2.2.1.1.2.2) (sel_36 h)
theorem sel_37 {args : Array Value} {s : State} (h : AllB args s narrow_1) : ∀ j : Nat, j < 24 → (Cond.eq (.elem (Jvm.Term.field (Jvm.Term.string "WebHost$Requests" (351 : Nat)) "java/lang/String" "value" "[B") (.int (Int32.ofNat j))) (.int ((strB.getD 37 []).getD j 0))).before args s = true := fun j hj => match j, hj with
  | 0, _ => h.1.2.1.2.2.1.1.1.2.1
  | 1, _ => h.1.2.1.2.2.1.1.1.2.2.1
  | 2, _ => h.1.2.1.2.2.1.1.1.2.2.2
  | 3, _ => h.1.2.1.2.2.1.1.2.1.1
  | 4, _ => h.1.2.1.2.2.1.1.2.1.2.1
  | 5, _ => h.1.2.1.2.2.1.1.2.1.2.2
  | 6, _ => h.1.2.1.2.2.1.1.2.2.1
  | 7, _ => h.1.2.1.2.2.1.1.2.2.2.1
  | 8, _ => h.1.2.1.2.2.1.1.2.2.2.2
  | 9, _ => h.1.2.1.2.2.1.2.1.1.1
  | 10, _ => h.1.2.1.2.2.1.2.1.1.2.1
  | 11, _ => h.1.2.1.2.2.1.2.1.1.2.2
  | 12, _ => h.1.2.1.2.2.1.2.1.2.1
  | 13, _ => h.1.2.1.2.2.1.2.1.2.2.1
  | 14, _ => h.1.2.1.2.2.1.2.1.2.2.2
  | 15, _ => h.1.2.1.2.2.1.2.2.1.1
  | 16, _ => h.1.2.1.2.2.1.2.2.1.2.1
  | 17, _ => h.1.2.1.2.2.1.2.2.1.2.2
  | 18, _ => h.1.2.1.2.2.1.2.2.2.1.1
  | 19, _ => h.1.2.1.2.2.1.2.2.2.1.2
  | 20, _ => h.1.2.1.2.2.1.2.2.2.2.1
  | 21, _ => h.1.2.1.2.2.1.2.2.2.2.2
  | 22, _ => h.1.2.1.2.2.2.1.1.1.1
  | 23, _ => h.1.2.1.2.2.2.1.1.1.2.1
  | (n + 24), q => absurd q (by omega)
theorem st_37 {args : Array Value} {s : State} (h : AllB args s narrow_1) {A : Nat → Prop} (hA : ∀ a : Nat, a < s.heap.size → ¬ A a) : ∃ a v, StrEv args s (Jvm.Term.string "WebHost$Requests" (351 : Nat)) (strB.getD 37 []) A a v := str_one hA (by decide) (h.1.2.1.2.1.2.2.2.2.2.2) (h.1.2.1.2.2.1.1.1.1.1) (h.1.2.1.2.2.1.1.1.1.2.1) (h.1.2.1.2.2.1.1.1.1.2.2) (sel_37 h)
theorem sel_38 {args : Array Value} {s : State} (h : AllB args s narrow_1) : ∀ j : Nat, j < 8 → (Cond.eq (.elem (Jvm.Term.field (Jvm.Term.string "WebHost$Requests" (287 : Nat)) "java/lang/String" "value" "[B") (.int (Int32.ofNat j))) (.int ((strB.getD 38 []).getD j 0))).before args s = true := fun j hj => match j, hj with
  | 0, _ => h.1.2.1.2.2.2.1.2.1.1
  | 1, _ => h.1.2.1.2.2.2.1.2.1.2.1
  | 2, _ => h.1.2.1.2.2.2.1.2.1.2.2
  | 3, _ => h.1.2.1.2.2.2.1.2.2.1
  | 4, _ => h.1.2.1.2.2.2.1.2.2.2.1
  | 5, _ => h.1.2.1.2.2.2.1.2.2.2.2
  | 6, _ => h.1.2.1.2.2.2.2.1.1.1
  | 7, _ => h.1.2.1.2.2.2.2.1.1.2.1
  | (n + 8), q => absurd q (by omega)
theorem st_38 {args : Array Value} {s : State} (h : AllB args s narrow_1) {A : Nat → Prop} (hA : ∀ a : Nat, a < s.heap.size → ¬ A a) : ∃ a v, StrEv args s (Jvm.Term.string "WebHost$Requests" (287 : Nat)) (strB.getD 38 []) A a v := str_one hA (by decide) (h.1.2.1.2.2.2.1.1.1.2.2) (h.1.2.1.2.2.2.1.1.2.1) (h.1.2.1.2.2.2.1.1.2.2.1) (h.1.2.1.2.2.2.1.1.2.2.2) (sel_38 h)
theorem sel_39 {args : Array Value} {s : State} (h : AllB args s narrow_1) : ∀ j : Nat, j < 18 → (Cond.eq (.elem (Jvm.Term.field (Jvm.Term.string "WebHost$Requests" (292 : Nat)) "java/lang/String" "value" "[B") (.int (Int32.ofNat j))) (.int ((strB.getD 39 []).getD j 0))).before args s = true := fun j hj => match j, hj with
  | 0, _ => h.1.2.1.2.2.2.2.2.1.1
  | 1, _ => h.1.2.1.2.2.2.2.2.1.2.1
  | 2, _ => h.1.2.1.2.2.2.2.2.1.2.2
  | 3, _ => h.1.2.1.2.2.2.2.2.2.1.1
  | 4, _ => h.1.2.1.2.2.2.2.2.2.1.2
  | 5, _ => h.1.2.1.2.2.2.2.2.2.2.1
  | 6, _ => h.1.2.1.2.2.2.2.2.2.2.2
  | 7, _ => h.1.2.2.1.1.1.1.1.1.1
  | 8, _ => h.1.2.2.1.1.1.1.1.1.2.1
  | 9, _ => h.1.2.2.1.1.1.1.1.1.2.2
  | 10, _ => h.1.2.2.1.1.1.1.1.2.1
  | 11, _ => h.1.2.2.1.1.1.1.1.2.2.1
  | 12, _ => h.1.2.2.1.1.1.1.1.2.2.2
  | 13, _ => h.1.2.2.1.1.1.1.2.1.1
  | 14, _ => h.1.2.2.1.1.1.1.2.1.2.1
  | 15, _ => h.1.2.2.1.1.1.1.2.1.2.2
  | 16, _ => h.1.2.2.1.1.1.1.2.2.1
  | 17, _ => h.1.2.2.1.1.1.1.2.2.2.1
  | (n + 18), q => absurd q (by omega)
theorem st_39 {args : Array Value} {s : State} (h : AllB args s narrow_1) {A : Nat → Prop} (hA : ∀ a : Nat, a < s.heap.size → ¬ A a) : ∃ a v, StrEv args s (Jvm.Term.string "WebHost$Requests" (292 : Nat)) (strB.getD 39 []) A a v := str_one hA (by decide) (h.1.2.1.2.2.2.2.1.1.2.2) (h.1.2.1.2.2.2.2.1.2.1) (h.1.2.1.2.2.2.2.1.2.2.1) (h.1.2.1.2.2.2.2.1.2.2.2) (sel_39 h)
theorem sel_40 {args : Array Value} {s : State} (h : AllB args s narrow_1) : ∀ j : Nat, j < 19 → (Cond.eq (.elem (Jvm.Term.field (Jvm.Term.string "WebHost$Requests" (294 : Nat)) "java/lang/String" "value" "[B") (.int (Int32.ofNat j))) (.int ((strB.getD 40 []).getD j 0))).before args s = true := fun j hj => match j, hj with
  | 0, _ => h.1.2.2.1.1.1.2.1.2.1
  | 1, _ => h.1.2.2.1.1.1.2.1.2.2.1
  | 2, _ => h.1.2.2.1.1.1.2.1.2.2.2
  | 3, _ => h.1.2.2.1.1.1.2.2.1.1
  | 4, _ => h.1.2.2.1.1.1.2.2.1.2.1
  | 5, _ => h.1.2.2.1.1.1.2.2.1.2.2
  | 6, _ => h.1.2.2.1.1.1.2.2.2.1.1
  | 7, _ => h.1.2.2.1.1.1.2.2.2.1.2
  | 8, _ => h.1.2.2.1.1.1.2.2.2.2.1
  | 9, _ => h.1.2.2.1.1.1.2.2.2.2.2
  | 10, _ => h.1.2.2.1.1.2.1.1.1.1
  | 11, _ => h.1.2.2.1.1.2.1.1.1.2.1
  | 12, _ => h.1.2.2.1.1.2.1.1.1.2.2
  | 13, _ => h.1.2.2.1.1.2.1.1.2.1
  | 14, _ => h.1.2.2.1.1.2.1.1.2.2.1
  | 15, _ => h.1.2.2.1.1.2.1.1.2.2.2
  | 16, _ => h.1.2.2.1.1.2.1.2.1.1
  | 17, _ => h.1.2.2.1.1.2.1.2.1.2.1
  | 18, _ => h.1.2.2.1.1.2.1.2.1.2.2
  | (n + 19), q => absurd q (by omega)
theorem st_40 {args : Array Value} {s : State} (h : AllB args s narrow_1) {A : Nat → Prop} (hA : ∀ a : Nat, a < s.heap.size → ¬ A a) : ∃ a v, StrEv args s (Jvm.Term.string "WebHost$Requests" (294 : Nat)) (strB.getD 40 []) A a v := str_one hA (by decide) (h.1.2.2.1.1.1.1.2.2.2.2) (h.1.2.2.1.1.1.2.1.1.1) (h.1.2.2.1.1.1.2.1.1.2.1) (h.1.2.2.1.1.1.2.1.1.2.2) (sel_40 h)
theorem sel_41 {args : Array Value} {s : State} (h : AllB args s narrow_1) : ∀ j : Nat, j < 4 → (Cond.eq (.elem (Jvm.Term.field (Jvm.Term.string "WebHost$Requests" (296 : Nat)) "java/lang/String" "value" "[B") (.int (Int32.ofNat j))) (.int ((strB.getD 41 []).getD j 0))).before args s = true := fun j hj => match j, hj with
  | 0, _ => h.1.2.2.1.1.2.2.1.1.2.1
  | 1, _ => h.1.2.2.1.1.2.2.1.1.2.2
  | 2, _ => h.1.2.2.1.1.2.2.1.2.1
  | 3, _ => h.1.2.2.1.1.2.2.1.2.2.1
  | (n + 4), q => absurd q (by omega)
theorem st_41 {args : Array Value} {s : State} (h : AllB args s narrow_1) {A : Nat → Prop} (hA : ∀ a : Nat, a < s.heap.size → ¬ A a) : ∃ a v, StrEv args s (Jvm.Term.string "WebHost$Requests" (296 : Nat)) (strB.getD 41 []) A a v := str_one hA (by decide) (h.1.2.2.1.1.2.1.2.2.1) (h.1.2.2.1.1.2.1.2.2.2.1) (h.1.2.2.1.1.2.1.2.2.2.2) (h.1.2.2.1.1.2.2.1.1.1) (sel_41 h)
theorem sel_42 {args : Array Value} {s : State} (h : AllB args s narrow_1) : ∀ j : Nat, j < 1 → (Cond.eq (.elem (Jvm.Term.field (Jvm.Term.string "WebHost$Requests" (309 : Nat)) "java/lang/String" "value" "[B") (.int (Int32.ofNat j))) (.int ((strB.getD 42 []).getD j 0))).before args s = true := fun j hj => match j, hj with
  | 0, _ => h.1.2.2.1.1.2.2.2.2.1.1
  | (n + 1), q => absurd q (by omega)
theorem st_42 {args : Array Value} {s : State} (h : AllB args s narrow_1) {A : Nat → Prop} (hA : ∀ a : Nat, a < s.heap.size → ¬ A a) : ∃ a v, StrEv args s (Jvm.Term.string "WebHost$Requests" (309 : Nat)) (strB.getD 42 []) A a v := str_one hA (by decide) (h.1.2.2.1.1.2.2.1.2.2.2) (h.1.2.2.1.1.2.2.2.1.1) (h.1.2.2.1.1.2.2.2.1.2.1) (h.1.2.2.1.1.2.2.2.1.2.2) (sel_42 h)
theorem sel_43 {args : Array Value} {s : State} (h : AllB args s narrow_1) : ∀ j : Nat, j < 8 → (Cond.eq (.elem (Jvm.Term.field (Jvm.Term.string "WebHostModel" (696 : Nat)) "java/lang/String" "value" "[B") (.int (Int32.ofNat j))) (.int ((strB.getD 43 []).getD j 0))).before args s = true := fun j hj => match j, hj with
  | 0, _ => h.1.2.2.1.2.1.1.1.1.2.1
  | 1, _ => h.1.2.2.1.2.1.1.1.1.2.2
  | 2, _ => h.1.2.2.1.2.1.1.1.2.1
  | 3, _ => h.1.2.2.1.2.1.1.1.2.2.1
  | 4, _ => h.1.2.2.1.2.1.1.1.2.2.2
  | 5, _ => h.1.2.2.1.2.1.1.2.1.1
  | 6, _ => h.1.2.2.1.2.1.1.2.1.2.1
  | 7, _ => h.1.2.2.1.2.1.1.2.1.2.2
  | (n + 8), q => absurd q (by omega)
theorem st_43 {args : Array Value} {s : State} (h : AllB args s narrow_1) {A : Nat → Prop} (hA : ∀ a : Nat, a < s.heap.size → ¬ A a) : ∃ a v, StrEv args s (Jvm.Term.string "WebHostModel" (696 : Nat)) (strB.getD 43 []) A a v := str_one hA (by decide) (h.1.2.2.1.1.2.2.2.2.1.2) (h.1.2.2.1.1.2.2.2.2.2.1) (h.1.2.2.1.1.2.2.2.2.2.2) (h.1.2.2.1.2.1.1.1.1.1) (sel_43 h)
theorem sel_44 {args : Array Value} {s : State} (h : AllB args s narrow_1) : ∀ j : Nat, j < 8 → (Cond.eq (.elem (Jvm.Term.field (Jvm.Term.string "WebHostModel" (702 : Nat)) "java/lang/String" "value" "[B") (.int (Int32.ofNat j))) (.int ((strB.getD 44 []).getD j 0))).before args s = true := fun j hj => match j, hj with
  | 0, _ => h.1.2.2.1.2.1.2.1.1.2.1
  | 1, _ => h.1.2.2.1.2.1.2.1.1.2.2
  | 2, _ => h.1.2.2.1.2.1.2.1.2.1
  | 3, _ => h.1.2.2.1.2.1.2.1.2.2.1
  | 4, _ => h.1.2.2.1.2.1.2.1.2.2.2
  | 5, _ => h.1.2.2.1.2.1.2.2.1.1
  | 6, _ => h.1.2.2.1.2.1.2.2.1.2.1
  | 7, _ => h.1.2.2.1.2.1.2.2.1.2.2
  | (n + 8), q => absurd q (by omega)
theorem st_44 {args : Array Value} {s : State} (h : AllB args s narrow_1) {A : Nat → Prop} (hA : ∀ a : Nat, a < s.heap.size → ¬ A a) : ∃ a v, StrEv args s (Jvm.Term.string "WebHostModel" (702 : Nat)) (strB.getD 44 []) A a v := str_one hA (by decide) (h.1.2.2.1.2.1.1.2.2.1) (h.1.2.2.1.2.1.1.2.2.2.1) (h.1.2.2.1.2.1.1.2.2.2.2) (h.1.2.2.1.2.1.2.1.1.1) (sel_44 h)
theorem sel_45 {args : Array Value} {s : State} (h : AllB args s narrow_1) : ∀ j : Nat, j < 16 → (Cond.eq (.elem (Jvm.Term.field (Jvm.Term.string "WebHostModel" (852 : Nat)) "java/lang/String" "value" "[B") (.int (Int32.ofNat j))) (.int ((strB.getD 45 []).getD j 0))).before args s = true := fun j hj => match j, hj with
  | 0, _ => h.2.1.2.1.1.1.2.1.2.2.1
  | 1, _ => h.2.1.2.1.1.1.2.1.2.2.2
  | 2, _ => h.2.1.2.1.1.1.2.2.1.1
  | 3, _ => h.2.1.2.1.1.1.2.2.1.2.1
  | 4, _ => h.2.1.2.1.1.1.2.2.1.2.2
  | 5, _ => h.2.1.2.1.1.1.2.2.2.1.1
  | 6, _ => h.2.1.2.1.1.1.2.2.2.1.2
  | 7, _ => h.2.1.2.1.1.1.2.2.2.2.1
  | 8, _ => h.2.1.2.1.1.1.2.2.2.2.2
  | 9, _ => h.2.1.2.1.1.2.1.1.1.1
  | 10, _ => h.2.1.2.1.1.2.1.1.1.2.1
  | 11, _ => h.2.1.2.1.1.2.1.1.1.2.2
  | 12, _ => h.2.1.2.1.1.2.1.1.2.1
  | 13, _ => h.2.1.2.1.1.2.1.1.2.2.1
  | 14, _ => h.2.1.2.1.1.2.1.1.2.2.2
  | 15, _ => h.2.1.2.1.1.2.1.2.1.1
  | (n + 16), q => absurd q (by omega)
theorem st_45 {args : Array Value} {s : State} (h : AllB args s narrow_1) {A : Nat → Prop} (hA : ∀ a : Nat, a < s.heap.size → ¬ A a) : ∃ a v, StrEv args s (Jvm.Term.string "WebHostModel" (852 : Nat)) (strB.getD 45 []) A a v := str_one hA (by decide) (h.2.1.2.1.1.1.2.1.1.1) (h.2.1.2.1.1.1.2.1.1.2.1) (h.2.1.2.1.1.1.2.1.1.2.2) (h.2.1.2.1.1.1.2.1.2.1) (sel_45 h)
theorem sel_46 {args : Array Value} {s : State} (h : AllB args s narrow_1) : ∀ j : Nat, j < 14 → (Cond.eq (.elem (Jvm.Term.field (Jvm.Term.string "WebHostModel" (854 : Nat)) "java/lang/String" "value" "[B") (.int (Int32.ofNat j))) (.int ((strB.getD 46 []).getD j 0))).before args s = true := fun j hj => match j, hj with
  | 0, _ => h.2.1.2.1.1.2.1.2.2.2.2
  | 1, _ => h.2.1.2.1.1.2.2.1.1.1
  | 2, _ => h.2.1.2.1.1.2.2.1.1.2.1
  | 3, _ => h.2.1.2.1.1.2.2.1.1.2.2
  | 4, _ => h.2.1.2.1.1.2.2.1.2.1
  | 5, _ => h.2.1.2.1.1.2.2.1.2.2.1
  | 6, _ => h.2.1.2.1.1.2.2.1.2.2.2
  | 7, _ => h.2.1.2.1.1.2.2.2.1.1
  | 8, _ => h.2.1.2.1.1.2.2.2.1.2.1
  | 9, _ => h.2.1.2.1.1.2.2.2.1.2.2
  | 10, _ => h.2.1.2.1.1.2.2.2.2.1.1
  | 11, _ => h.2.1.2.1.1.2.2.2.2.1.2
  | 12, _ => h.2.1.2.1.1.2.2.2.2.2.1
  | 13, _ => h.2.1.2.1.1.2.2.2.2.2.2
  | (n + 14), q => absurd q (by omega)
theorem st_46 {args : Array Value} {s : State} (h : AllB args s narrow_1) {A : Nat → Prop} (hA : ∀ a : Nat, a < s.heap.size → ¬ A a) : ∃ a v, StrEv args s (Jvm.Term.string "WebHostModel" (854 : Nat)) (strB.getD 46 []) A a v := str_one hA (by decide) (h.2.1.2.1.1.2.1.2.1.2.1) (h.2.1.2.1.1.2.1.2.1.2.2) (h.2.1.2.1.1.2.1.2.2.1) (h.2.1.2.1.1.2.1.2.2.2.1) (sel_46 h)
theorem sel_47 {args : Array Value} {s : State} (h : AllB args s narrow_1) : ∀ j : Nat, j < 7 → (Cond.eq (.elem (Jvm.Term.field (Jvm.Term.string "WebHostModel" (859 : Nat)) "java/lang/String" "value" "[B") (.int (Int32.ofNat j))) (.int ((strB.getD 47 []).getD j 0))).before args s = true := fun j hj => match j, hj with
  | 0, _ => h.2.2.1.1.1.2.2.1
  | 1, _ => h.2.2.1.1.1.2.2.2
  | 2, _ => h.2.2.1.1.2.1.1
  | 3, _ => h.2.2.1.1.2.1.2.1
  | 4, _ => h.2.2.1.1.2.1.2.2
  | 5, _ => h.2.2.1.1.2.2.1.1
  | 6, _ => h.2.2.1.1.2.2.1.2
  | (n + 7), q => absurd q (by omega)
theorem st_47 {args : Array Value} {s : State} (h : AllB args s narrow_1) {A : Nat → Prop} (hA : ∀ a : Nat, a < s.heap.size → ¬ A a) : ∃ a v, StrEv args s (Jvm.Term.string "WebHostModel" (859 : Nat)) (strB.getD 47 []) A a v := str_one hA (by decide) (h.2.2.1.1.1.1.1) (h.2.2.1.1.1.1.2.1) (h.2.2.1.1.1.1.2.2) (h.2.2.1.1.1.2.1) (sel_47 h)
theorem sel_48 {args : Array Value} {s : State} (h : AllB args s narrow_1) : ∀ j : Nat, j < 16 → (Cond.eq (.elem (Jvm.Term.field (Jvm.Term.string "WebHostModel" (861 : Nat)) "java/lang/String" "value" "[B") (.int (Int32.ofNat j))) (.int ((strB.getD 48 []).getD j 0))).before args s = true := fun j hj => match j, hj with
  | 0, _ => h.2.2.1.2.1.1.2.2
  | 1, _ => h.2.2.1.2.1.2.1
  | 2, _ => h.2.2.1.2.1.2.2.1
  | 3, _ => h.2.2.1.2.1.2.2.2
  | 4, _ => h.2.2.1.2.2.1.1
  | 5, _ => h.2.2.1.2.2.1.2.1
  | 6, _ => h.2.2.1.2.2.1.2.2
  | 7, _ => h.2.2.1.2.2.2.1.1
  | 8, _ => h.2.2.1.2.2.2.1.2
  | 9, _ => h.2.2.1.2.2.2.2.1
  | 10, _ => h.2.2.1.2.2.2.2.2
  | 11, _ => h.2.2.2.1.1.1.1
  | 12, _ => h.2.2.2.1.1.1.2.1
  | 13, _ => h.2.2.2.1.1.1.2.2
  | 14, _ => h.2.2.2.1.1.2.1
  | 15, _ => h.2.2.2.1.1.2.2.1
  | (n + 16), q => absurd q (by omega)
theorem st_48 {args : Array Value} {s : State} (h : AllB args s narrow_1) {A : Nat → Prop} (hA : ∀ a : Nat, a < s.heap.size → ¬ A a) : ∃ a v, StrEv args s (Jvm.Term.string "WebHostModel" (861 : Nat)) (strB.getD 48 []) A a v := str_one hA (by decide) (h.2.2.1.1.2.2.2.1) (h.2.2.1.1.2.2.2.2) (h.2.2.1.2.1.1.1) (h.2.2.1.2.1.1.2.1) (sel_48 h)
theorem sel_49 {args : Array Value} {s : State} (h : AllB args s narrow_1) : ∀ j : Nat, j < 17 → (Cond.eq (.elem (Jvm.Term.field (Jvm.Term.string "WebHostModel" (863 : Nat)) "java/lang/String" "value" "[B") (.int (Int32.ofNat j))) (.int ((strB.getD 49 []).getD j 0))).before args s = true := fun j hj => match j, hj with
  | 0, _ => h.2.2.2.1.2.2.1.1
  | 1, _ => h.2.2.2.1.2.2.1.2
  | 2, _ => h.2.2.2.1.2.2.2.1
  | 3, _ => h.2.2.2.1.2.2.2.2
  | 4, _ => h.2.2.2.2.1.1.1
  | 5, _ => h.2.2.2.2.1.1.2.1
  | 6, _ => h.2.2.2.2.1.1.2.2
  | 7, _ => h.2.2.2.2.1.2.1.1
  | 8, _ => h.2.2.2.2.1.2.1.2
  | 9, _ => h.2.2.2.2.1.2.2.1
  | 10, _ => h.2.2.2.2.1.2.2.2
  | 11, _ => h.2.2.2.2.2.1.1
  | 12, _ => h.2.2.2.2.2.1.2.1
  | 13, _ => h.2.2.2.2.2.1.2.2
  | 14, _ => h.2.2.2.2.2.2.1.1
  | 15, _ => h.2.2.2.2.2.2.1.2
  | 16, _ => h.2.2.2.2.2.2.2.1
  | (n + 17), q => absurd q (by omega)
theorem st_49 {args : Array Value} {s : State} (h : AllB args s narrow_1) {A : Nat → Prop} (hA : ∀ a : Nat, a < s.heap.size → ¬ A a) : ∃ a v, StrEv args s (Jvm.Term.string "WebHostModel" (863 : Nat)) (strB.getD 49 []) A a v := str_one hA (by decide) (h.2.2.2.1.1.2.2.2) (h.2.2.2.1.2.1.1) (h.2.2.2.1.2.1.2.1) (h.2.2.2.1.2.1.2.2) (sel_49 h)
def repT (k : Nat) : Term := match k with
  | 0 => (Jvm.Term.string "WebHost$Requests" (138 : Nat))
  | 1 => (Jvm.Term.string "WebHost$Requests" (144 : Nat))
  | 2 => (Jvm.Term.string "WebHost$Requests" (152 : Nat))
  | 3 => (Jvm.Term.string "WebHost$Requests" (154 : Nat))
  | 4 => (Jvm.Term.string "WebHost$Requests" (175 : Nat))
  | 5 => (Jvm.Term.string "WebHost$Requests" (180 : Nat))
  | 6 => (Jvm.Term.string "WebHost$Requests" (185 : Nat))
  | 7 => (Jvm.Term.string "WebHost$Requests" (187 : Nat))
  | 8 => (Jvm.Term.string "WebHost$Requests" (192 : Nat))
  | 9 => (Jvm.Term.string "WebHost$Requests" (200 : Nat))
  | 10 => (Jvm.Term.string "WebHost$Requests" (206 : Nat))
  | 11 => (Jvm.Term.string "WebHost$Requests" (208 : Nat))
  | 12 => (Jvm.Term.string "WebHost$Requests" (234 : Nat))
  | 13 => (Jvm.Term.string "WebHost$Requests" (236 : Nat))
  | 14 => (Jvm.Term.string "WebHost$Requests" (311 : Nat))
  | 15 => (Jvm.Term.string "WebHost$Requests" (313 : Nat))
  | 16 => (Jvm.Term.string "WebHost$Requests" (315 : Nat))
  | 17 => (Jvm.Term.string "WebHost$Requests" (317 : Nat))
  | 18 => (Jvm.Term.string "WebHost$Requests" (319 : Nat))
  | 19 => (Jvm.Term.string "WebHost$Requests" (321 : Nat))
  | 20 => (Jvm.Term.string "WebHost$Requests" (323 : Nat))
  | 21 => (Jvm.Term.string "WebHost$Requests" (325 : Nat))
  | 22 => (Jvm.Term.string "WebHost$Requests" (327 : Nat))
  | 23 => (Jvm.Term.string "WebHost$Requests" (266 : Nat))
  | 24 => (Jvm.Term.string "WebHost$Requests" (275 : Nat))
  | 25 => (Jvm.Term.string "WebHost$Requests" (277 : Nat))
  | 26 => (Jvm.Term.string "WebHost$Requests" (279 : Nat))
  | 27 => (Jvm.Term.string "WebHost$Requests" (329 : Nat))
  | 28 => (Jvm.Term.string "WebHost$Requests" (335 : Nat))
  | 29 => (Jvm.Term.string "WebHost$Requests" (337 : Nat))
  | 30 => (Jvm.Term.string "WebHost$Requests" (339 : Nat))
  | 31 => (Jvm.Term.string "WebHost$Requests" (341 : Nat))
  | 32 => (Jvm.Term.string "WebHost$Requests" (343 : Nat))
  | 33 => (Jvm.Term.string "WebHost$Requests" (345 : Nat))
  | 34 => (Jvm.Term.string "WebHost$Requests" (285 : Nat))
  | 35 => (Jvm.Term.string "WebHost$Requests" (347 : Nat))
  | 36 => (Jvm.Term.string "WebHost$Requests" (349 : Nat))
  | 37 => (Jvm.Term.string "WebHost$Requests" (351 : Nat))
  | 38 => (Jvm.Term.string "WebHost$Requests" (287 : Nat))
  | 39 => (Jvm.Term.string "WebHost$Requests" (292 : Nat))
  | 40 => (Jvm.Term.string "WebHost$Requests" (294 : Nat))
  | 41 => (Jvm.Term.string "WebHost$Requests" (296 : Nat))
  | 42 => (Jvm.Term.string "WebHost$Requests" (309 : Nat))
  | 43 => (Jvm.Term.string "WebHostModel" (696 : Nat))
  | 44 => (Jvm.Term.string "WebHostModel" (702 : Nat))
  | 45 => (Jvm.Term.string "WebHostModel" (852 : Nat))
  | 46 => (Jvm.Term.string "WebHostModel" (854 : Nat))
  | 47 => (Jvm.Term.string "WebHostModel" (859 : Nat))
  | 48 => (Jvm.Term.string "WebHostModel" (861 : Nat))
  | _ => (Jvm.Term.string "WebHostModel" (863 : Nat))
theorem st_all {args : Array Value} {s : State} (h : AllB args s narrow_1) {A : Nat → Prop} (hA : ∀ a : Nat, a < s.heap.size → ¬ A a) : ∃ adK adV : Nat → Nat, ∀ k, k < strB.length → StrEv args s (repT k) (strB.getD k []) A (adK k) (adV k) := by
  have h0 : ∀ k : Nat, ∃ q : Nat × Nat, k < strB.length → StrEv args s (repT k) (strB.getD k []) A q.1 q.2 := by
    intro k
    by_cases hk : k < strB.length
    · have hk2 : k < 50 := hk
      have h1 : ∃ a v, StrEv args s (repT k) (strB.getD k []) A a v := match k, hk2 with
        | 0, _ => st_0 h hA
        | 1, _ => st_1 h hA
        | 2, _ => st_2 h hA
        | 3, _ => st_3 h hA
        | 4, _ => st_4 h hA
        | 5, _ => st_5 h hA
        | 6, _ => st_6 h hA
        | 7, _ => st_7 h hA
        | 8, _ => st_8 h hA
        | 9, _ => st_9 h hA
        | 10, _ => st_10 h hA
        | 11, _ => st_11 h hA
        | 12, _ => st_12 h hA
        | 13, _ => st_13 h hA
        | 14, _ => st_14 h hA
        | 15, _ => st_15 h hA
        | 16, _ => st_16 h hA
        | 17, _ => st_17 h hA
        | 18, _ => st_18 h hA
        | 19, _ => st_19 h hA
        | 20, _ => st_20 h hA
        | 21, _ => st_21 h hA
        | 22, _ => st_22 h hA
        | 23, _ => st_23 h hA
        | 24, _ => st_24 h hA
        | 25, _ => st_25 h hA
        | 26, _ => st_26 h hA
        | 27, _ => st_27 h hA
        | 28, _ => st_28 h hA
        | 29, _ => st_29 h hA
        | 30, _ => st_30 h hA
        | 31, _ => st_31 h hA
        | 32, _ => st_32 h hA
        | 33, _ => st_33 h hA
        | 34, _ => st_34 h hA
        | 35, _ => st_35 h hA
        | 36, _ => st_36 h hA
        | 37, _ => st_37 h hA
        | 38, _ => st_38 h hA
        | 39, _ => st_39 h hA
        | 40, _ => st_40 h hA
        | 41, _ => st_41 h hA
        | 42, _ => st_42 h hA
        | 43, _ => st_43 h hA
        | 44, _ => st_44 h hA
        | 45, _ => st_45 h hA
        | 46, _ => st_46 h hA
        | 47, _ => st_47 h hA
        | 48, _ => st_48 h hA
        | 49, _ => st_49 h hA
        | (n + 50), q => absurd q (by omega)
      obtain ⟨a, v, q⟩ := h1
      exact ⟨(a, v), fun _ => q⟩
    · exact ⟨(0, 0), fun q => absurd q hk⟩
  obtain ⟨ad, had⟩ := Classical.axiomOfChoice h0
  exact ⟨fun k => (ad k).1, fun k => (ad k).2, had⟩
theorem str_words {args : Array Value} {s : State} (h : AllB args s narrow_1) {A : Nat → Prop} {adK adV : Nat → Nat} (hts : ∀ w ∈ tables_1, w.before args s = true) (hS : ∀ k, k < strB.length → StrEv args s (repT k) (strB.getD k []) A (adK k) (adV k)) : ∀ q ∈ strW, vk_R q.1 q.2.1 q.2.2.1 (adK q.2.2.2) s := by
  simp only [strW, List.forall_mem_cons]
  exact ⟨vk_R.of (hts _ (List.mem_of_getElem? (i := 1206) (by decide +kernel))) ((hS 0 (by decide)).1),
    vk_R.of (hts _ (List.mem_of_getElem? (i := 1259) (by decide +kernel))) ((hS 1 (by decide)).1),
    vk_R.of (hts _ (List.mem_of_getElem? (i := 1260) (by decide +kernel))) ((hS 2 (by decide)).1),
    vk_R.of (hts _ (List.mem_of_getElem? (i := 1261) (by decide +kernel))) ((hS 3 (by decide)).1),
    vk_R.of (hts _ (List.mem_of_getElem? (i := 1269) (by decide +kernel))) ((hS 4 (by decide)).1),
    vk_R.of (hts _ (List.mem_of_getElem? (i := 1332) (by decide +kernel))) ((hS 5 (by decide)).1),
    vk_R.of (hts _ (List.mem_of_getElem? (i := 1337) (by decide +kernel))) ((hS 6 (by decide)).1),
    vk_R.of (hts _ (List.mem_of_getElem? (i := 1338) (by decide +kernel))) ((hS 7 (by decide)).1),
    vk_R.of (hts _ (List.mem_of_getElem? (i := 1343) (by decide +kernel))) ((hS 8 (by decide)).1),
    vk_R.of (hts _ (List.mem_of_getElem? (i := 1344) (by decide +kernel))) ((hS 9 (by decide)).1),
    vk_R.of (hts _ (List.mem_of_getElem? (i := 1349) (by decide +kernel))) ((hS 10 (by decide)).1),
    vk_R.of (hts _ (List.mem_of_getElem? (i := 1350) (by decide +kernel))) ((hS 11 (by decide)).1),
    vk_R.of (hts _ (List.mem_of_getElem? (i := 1367) (by decide +kernel))) ((hS 12 (by decide)).1),
    vk_R.of (hts _ (List.mem_of_getElem? (i := 1392) (by decide +kernel))) ((hS 13 (by decide)).1),
    vk_R.of (hts _ (List.mem_of_getElem? (i := 1412) (by decide +kernel))) ((hS 14 (by decide)).1),
    vk_R.of (hts _ (List.mem_of_getElem? (i := 1413) (by decide +kernel))) ((hS 15 (by decide)).1),
    vk_R.of (hts _ (List.mem_of_getElem? (i := 1414) (by decide +kernel))) ((hS 16 (by decide)).1),
    vk_R.of (hts _ (List.mem_of_getElem? (i := 1415) (by decide +kernel))) ((hS 17 (by decide)).1),
    vk_R.of (hts _ (List.mem_of_getElem? (i := 1416) (by decide +kernel))) ((hS 18 (by decide)).1),
    vk_R.of (hts _ (List.mem_of_getElem? (i := 1417) (by decide +kernel))) ((hS 19 (by decide)).1),
    vk_R.of (hts _ (List.mem_of_getElem? (i := 1418) (by decide +kernel))) ((hS 20 (by decide)).1),
    vk_R.of (hts _ (List.mem_of_getElem? (i := 1419) (by decide +kernel))) ((hS 21 (by decide)).1),
    vk_R.of (hts _ (List.mem_of_getElem? (i := 1420) (by decide +kernel))) ((hS 22 (by decide)).1),
    vk_R.of (hts _ (List.mem_of_getElem? (i := 1422) (by decide +kernel))) ((hS 23 (by decide)).1),
    vk_R.of (hts _ (List.mem_of_getElem? (i := 1438) (by decide +kernel))) ((hS 24 (by decide)).1),
    vk_R.of (hts _ (List.mem_of_getElem? (i := 1439) (by decide +kernel))) ((hS 25 (by decide)).1),
    vk_R.of (hts _ (List.mem_of_getElem? (i := 1440) (by decide +kernel))) ((hS 26 (by decide)).1),
    vk_R.of (hts _ (List.mem_of_getElem? (i := 1445) (by decide +kernel))) ((hS 27 (by decide)).1),
    vk_R.of (hts _ (List.mem_of_getElem? (i := 1450) (by decide +kernel))) ((hS 28 (by decide)).1),
    vk_R.of (hts _ (List.mem_of_getElem? (i := 1451) (by decide +kernel))) ((hS 29 (by decide)).1),
    vk_R.of (hts _ (List.mem_of_getElem? (i := 1452) (by decide +kernel))) ((hS 30 (by decide)).1),
    vk_R.of (hts _ (List.mem_of_getElem? (i := 1453) (by decide +kernel))) ((hS 31 (by decide)).1),
    vk_R.of (hts _ (List.mem_of_getElem? (i := 1454) (by decide +kernel))) ((hS 32 (by decide)).1),
    vk_R.of (hts _ (List.mem_of_getElem? (i := 1455) (by decide +kernel))) ((hS 33 (by decide)).1),
    vk_R.of (hts _ (List.mem_of_getElem? (i := 1456) (by decide +kernel))) ((hS 34 (by decide)).1),
    vk_R.of (hts _ (List.mem_of_getElem? (i := 1457) (by decide +kernel))) ((hS 35 (by decide)).1),
    vk_R.of (hts _ (List.mem_of_getElem? (i := 1458) (by decide +kernel))) ((hS 36 (by decide)).1),
    vk_R.of (hts _ (List.mem_of_getElem? (i := 1459) (by decide +kernel))) ((hS 37 (by decide)).1),
    vk_R.of (hts _ (List.mem_of_getElem? (i := 1460) (by decide +kernel))) ((hS 38 (by decide)).1),
    vk_R.of (hts _ (List.mem_of_getElem? (i := 1466) (by decide +kernel))) ((hS 39 (by decide)).1),
    vk_R.of (hts _ (List.mem_of_getElem? (i := 1467) (by decide +kernel))) ((hS 40 (by decide)).1),
    vk_R.of (hts _ (List.mem_of_getElem? (i := 1468) (by decide +kernel))) ((hS 41 (by decide)).1),
    vk_R.of (hts _ (List.mem_of_getElem? (i := 1474) (by decide +kernel))) ((hS 42 (by decide)).1),
    vk_R.of (hts _ (List.mem_of_getElem? (i := 2353) (by decide +kernel))) ((hS 43 (by decide)).1),
    vk_R.of (hts _ (List.mem_of_getElem? (i := 2360) (by decide +kernel))) ((hS 44 (by decide)).1),
    vk_R.of (hts _ (List.mem_of_getElem? (i := 2361) (by decide +kernel))) (eq_ev2 (h.1.2.2.1.2.2.1.1.2.2.1) (hS 3 (by decide)).1),
    vk_R.of (hts _ (List.mem_of_getElem? (i := 2362) (by decide +kernel))) (eq_ev2 (h.1.2.2.1.2.2.2.1.1.1) (hS 2 (by decide)).1),
    vk_R.of (hts _ (List.mem_of_getElem? (i := 2379) (by decide +kernel))) (eq_ev2 (h.1.2.2.1.2.2.2.2.2.1.1) (hS 5 (by decide)).1),
    vk_R.of (hts _ (List.mem_of_getElem? (i := 2384) (by decide +kernel))) (eq_ev2 (h.1.2.2.2.1.1.2.2.1.1) (hS 6 (by decide)).1),
    vk_R.of (hts _ (List.mem_of_getElem? (i := 2385) (by decide +kernel))) (eq_ev2 (h.1.2.2.2.1.2.2.1.1.1) (hS 7 (by decide)).1),
    vk_R.of (hts _ (List.mem_of_getElem? (i := 2391) (by decide +kernel))) (eq_ev2 (h.1.2.2.2.2.1.1.1.1.2.2) (hS 9 (by decide)).1),
    vk_R.of (hts _ (List.mem_of_getElem? (i := 2396) (by decide +kernel))) (eq_ev2 (h.1.2.2.2.2.1.2.1.1.1) (hS 10 (by decide)).1),
    vk_R.of (hts _ (List.mem_of_getElem? (i := 2397) (by decide +kernel))) (eq_ev2 (h.1.2.2.2.2.2.1.1.1.2.2) (hS 11 (by decide)).1),
    vk_R.of (hts _ (List.mem_of_getElem? (i := 2398) (by decide +kernel))) (eq_ev2 (h.1.2.2.2.2.2.2.2.1.2.2) (hS 8 (by decide)).1),
    vk_R.of (hts _ (List.mem_of_getElem? (i := 2410) (by decide +kernel))) (eq_ev2 (h.2.1.1.1.1.1.1.2.2.2.1) (hS 12 (by decide)).1),
    vk_R.of (hts _ (List.mem_of_getElem? (i := 2419) (by decide +kernel))) (eq_ev2 (h.2.1.1.1.1.1.2.1.2.2.1) (hS 13 (by decide)).1),
    vk_R.of (hts _ (List.mem_of_getElem? (i := 2427) (by decide +kernel))) (eq_ev2 (h.2.1.1.1.1.2.1.1.2.2.2) (hS 23 (by decide)).1),
    vk_R.of (hts _ (List.mem_of_getElem? (i := 2443) (by decide +kernel))) (eq_ev2 (h.2.1.1.1.1.2.2.1.1.1) (hS 14 (by decide)).1),
    vk_R.of (hts _ (List.mem_of_getElem? (i := 2444) (by decide +kernel))) (eq_ev2 (h.2.1.1.1.2.1.1.1.2.2.1) (hS 15 (by decide)).1),
    vk_R.of (hts _ (List.mem_of_getElem? (i := 2445) (by decide +kernel))) (eq_ev2 (h.2.1.1.1.2.1.2.2.1.2.2) (hS 16 (by decide)).1),
    vk_R.of (hts _ (List.mem_of_getElem? (i := 2446) (by decide +kernel))) (eq_ev2 (h.2.1.1.1.2.2.1.2.2.1) (hS 17 (by decide)).1),
    vk_R.of (hts _ (List.mem_of_getElem? (i := 2447) (by decide +kernel))) (eq_ev2 (h.2.1.1.2.1.1.1.2.1.2.1) (hS 18 (by decide)).1),
    vk_R.of (hts _ (List.mem_of_getElem? (i := 2448) (by decide +kernel))) (eq_ev2 (h.2.1.1.2.1.2.1.1.2.2.1) (hS 19 (by decide)).1),
    vk_R.of (hts _ (List.mem_of_getElem? (i := 2449) (by decide +kernel))) (eq_ev2 (h.2.1.1.2.2.1.2.1.2.1) (hS 20 (by decide)).1),
    vk_R.of (hts _ (List.mem_of_getElem? (i := 2450) (by decide +kernel))) (eq_ev2 (h.2.1.1.2.2.2.2.1.2.2.1) (hS 21 (by decide)).1),
    vk_R.of (hts _ (List.mem_of_getElem? (i := 2451) (by decide +kernel))) (eq_ev2 (h.2.1.2.1.1.1.1.2.2.2.2) (hS 22 (by decide)).1),
    vk_R.of (hts _ (List.mem_of_getElem? (i := 2456) (by decide +kernel))) ((hS 45 (by decide)).1),
    vk_R.of (hts _ (List.mem_of_getElem? (i := 2457) (by decide +kernel))) ((hS 46 (by decide)).1),
    vk_R.of (hts _ (List.mem_of_getElem? (i := 2462) (by decide +kernel))) (eq_ev2 (h.2.1.2.1.2.1.1.2.1.2.2) (hS 33 (by decide)).1),
    vk_R.of (hts _ (List.mem_of_getElem? (i := 2467) (by decide +kernel))) (eq_ev2 (h.2.1.2.1.2.1.2.2.2.2.1) (hS 34 (by decide)).1),
    vk_R.of (hts _ (List.mem_of_getElem? (i := 2468) (by decide +kernel))) (eq_ev2 (h.2.1.2.1.2.2.1.2.1.2.2) (hS 27 (by decide)).1),
    vk_R.of (hts _ (List.mem_of_getElem? (i := 2469) (by decide +kernel))) (eq_ev2 (h.2.1.2.1.2.2.2.2.2.1.2) (hS 28 (by decide)).1),
    vk_R.of (hts _ (List.mem_of_getElem? (i := 2470) (by decide +kernel))) (eq_ev2 (h.2.1.2.2.1.1.1.2.1.1) (hS 29 (by decide)).1),
    vk_R.of (hts _ (List.mem_of_getElem? (i := 2471) (by decide +kernel))) (eq_ev2 (h.2.1.2.2.1.1.2.2.1.2.1) (hS 30 (by decide)).1),
    vk_R.of (hts _ (List.mem_of_getElem? (i := 2472) (by decide +kernel))) (eq_ev2 (h.2.1.2.2.1.2.1.1.1.2.2) (hS 31 (by decide)).1),
    vk_R.of (hts _ (List.mem_of_getElem? (i := 2473) (by decide +kernel))) (eq_ev2 (h.2.1.2.2.1.2.2.2.2.1.2) (hS 32 (by decide)).1),
    vk_R.of (hts _ (List.mem_of_getElem? (i := 2474) (by decide +kernel))) (eq_ev2 (h.2.1.2.2.2.1.1.2.1.1) (hS 35 (by decide)).1),
    vk_R.of (hts _ (List.mem_of_getElem? (i := 2475) (by decide +kernel))) (eq_ev2 (h.2.1.2.2.2.1.2.2.1.2.2) (hS 36 (by decide)).1),
    vk_R.of (hts _ (List.mem_of_getElem? (i := 2476) (by decide +kernel))) (eq_ev2 (h.2.1.2.2.2.2.2.2.2.2.2) (hS 37 (by decide)).1),
    vk_R.of (hts _ (List.mem_of_getElem? (i := 2477) (by decide +kernel))) ((hS 47 (by decide)).1),
    vk_R.of (hts _ (List.mem_of_getElem? (i := 2478) (by decide +kernel))) ((hS 48 (by decide)).1),
    vk_R.of (hts _ (List.mem_of_getElem? (i := 2479) (by decide +kernel))) ((hS 49 (by decide)).1), fun _ h => absurd h List.not_mem_nil⟩
theorem step_els {args : Array Value} {s : State} (h : AllB args s narrow_1) : ∀ j : Nat, j < 16 → (Cond.eq (.elem (Jvm.Term.static "WebHost$Store" "CHECK_STEPS" "[I") (.int (Int32.ofNat j))) (.int (stpT.getD j 0))).before args s = true := fun j hj => match j, hj with
  | 0, _ => h.1.1.1.1.1.1.1.1.2.2.2
  | 1, _ => h.1.1.1.1.1.1.1.2.1.1
  | 2, _ => h.1.1.1.1.1.1.1.2.1.2.1
  | 3, _ => h.1.1.1.1.1.1.1.2.1.2.2
  | 4, _ => h.1.1.1.1.1.1.1.2.2.1
  | 5, _ => h.1.1.1.1.1.1.1.2.2.2.1
  | 6, _ => h.1.1.1.1.1.1.1.2.2.2.2
  | 7, _ => h.1.1.1.1.1.1.2.1.1.1
  | 8, _ => h.1.1.1.1.1.1.2.1.1.2.1
  | 9, _ => h.1.1.1.1.1.1.2.1.1.2.2
  | 10, _ => h.1.1.1.1.1.1.2.1.2.1
  | 11, _ => h.1.1.1.1.1.1.2.1.2.2.1
  | 12, _ => h.1.1.1.1.1.1.2.1.2.2.2
  | 13, _ => h.1.1.1.1.1.1.2.2.1.1
  | 14, _ => h.1.1.1.1.1.1.2.2.1.2.1
  | 15, _ => h.1.1.1.1.1.1.2.2.1.2.2
  | (n + 16), q => absurd q (by omega)
theorem step_row {args : Array Value} {s : State} (h : AllB args s narrow_1) {A : Nat → Prop} (hts : ∀ w ∈ tables_1, w.before args s = true) (hA : ∀ a : Nat, a < s.heap.size → ¬ A a) : ∃ t, va_Z "WebHost$Store" "CHECK_STEPS" "[I" (.ref t) A s s.heap ∧ va_T .int t 16 (fun j => .int (stpT.getD j 0)) A s s.heap := by
  obtain ⟨t, ht, hT⟩ := va_Tof (tm := (Jvm.Term.static "WebHost$Store" "CHECK_STEPS" "[I")) (f := fun j => .int (stpT.getD j 0)) (N := 16) (A := A) (by decide) (h.1.1.1.1.1.1.1.1.2.1) (va_eqt (h.1.1.1.1.1.1.1.1.2.2.1)) (fun j hj => va_eqt (step_els h j hj)) hA
  exact ⟨t, va_Zof (hts _ (List.mem_of_getElem? (i := 408) (by decide +kernel))) (hts _ (List.mem_of_getElem? (i := 2) (by decide +kernel))) ht hA, hT⟩
theorem compact {args : Array Value} {s : State} (h : AllB args s narrow_1) {A : Nat → Prop} (hts : ∀ w ∈ tables_1, w.before args s = true) (hA : ∀ a : Nat, a < s.heap.size → ¬ A a) : va_Z "java/lang/String" "COMPACT_STRINGS" "Z" (.int 1) A s s.heap := va_Zof (hts _ (List.mem_of_getElem? (i := 1220) (by decide +kernel))) (hts _ (List.mem_of_getElem? (i := 21) (by decide +kernel))) (va_eqt (h.1.1.1.1.1.1.2.2.2.1.1)) hA
theorem fmtr {args : Array Value} {s : State} (h : AllB args s narrow_1) {A : Nat → Prop} (hts : ∀ w ∈ tables_1, w.before args s = true) (hA : ∀ a : Nat, a < s.heap.size → ¬ A a) : va_Zq "jdk/internal/util/Preconditions" "SIOOBE_FORMATTER" "Ljava/util/function/BiFunction;" A s s.heap := va_Zqof (hts _ (List.mem_of_getElem? (i := 1236) (by decide +kernel))) (hts _ (List.mem_of_getElem? (i := 23) (by decide +kernel))) (h.1.1.1.1.1.1.2.2.2.1.2) hA
theorem cls_all {args : Array Value} {s : State} (ht : ∀ w ∈ tbG, w.before args s = true) : ∃ D : va_G, ∀ (c : Nat) (q : vw_C), clT[c]? = some q → u_Kn s q.1 q.2.1 q.2.2 (D.1 c) (D.2 c) := by
  have h0 : ∀ q ∈ clT, ∃ d : ClassId × (Nat → Nat), u_Kn s q.1 q.2.1 q.2.2 d.1 d.2 := by
    simp only [clT, List.forall_mem_cons]
    refine ⟨?_, ?_, ?_, ?_, ?_, ?_, ?_, ?_, ?_, ?_, ?_, ?_, ?_, ?_, ?_, ?_, ?_, fun _ h => absurd h List.not_mem_nil⟩
    · obtain ⟨cC, iS, h⟩ := u_known ht inX0 (ht _ tb_854)
      exact ⟨(cC, iS), h⟩
    · obtain ⟨cC, iS, h⟩ := u_known ht inX1 (ht _ tb_670)
      exact ⟨(cC, iS), h⟩
    · obtain ⟨cC, iS, h⟩ := u_known ht inX2 (ht _ tb_738)
      exact ⟨(cC, iS), h⟩
    · obtain ⟨cC, iS, h⟩ := u_known ht inX3 (ht _ tb_151)
      exact ⟨(cC, iS), h⟩
    · obtain ⟨cC, iS, h⟩ := u_known ht inX4 (ht _ tb_91)
      exact ⟨(cC, iS), h⟩
    · obtain ⟨cC, iS, h⟩ := u_known ht inX5 (ht _ tb_896)
      exact ⟨(cC, iS), h⟩
    · obtain ⟨cC, iS, h⟩ := u_known ht inX6 (ht _ tb_535)
      exact ⟨(cC, iS), h⟩
    · obtain ⟨cC, iS, h⟩ := u_known ht inX7 (ht _ tb_251)
      exact ⟨(cC, iS), h⟩
    · obtain ⟨cC, iS, h⟩ := u_known ht inX8 (ht _ tb_35)
      exact ⟨(cC, iS), h⟩
    · obtain ⟨cC, iS, h⟩ := u_known ht inX9 (ht _ tb_227)
      exact ⟨(cC, iS), h⟩
    · obtain ⟨cC, iS, h⟩ := u_known ht inX10 (ht _ tb_55)
      exact ⟨(cC, iS), h⟩
    · obtain ⟨cC, iS, h⟩ := u_known ht inX11 (ht _ tb_27)
      exact ⟨(cC, iS), h⟩
    · obtain ⟨cC, iS, h⟩ := u_known ht inX12 (ht _ tb_1575)
      exact ⟨(cC, iS), h⟩
    · obtain ⟨cC, iS, h⟩ := u_known ht inX13 (ht _ tb_1779)
      exact ⟨(cC, iS), h⟩
    · obtain ⟨cC, iS, h⟩ := u_known ht inX14 (ht _ tb_1730)
      exact ⟨(cC, iS), h⟩
    · obtain ⟨cC, iS, h⟩ := u_known ht inX15 (ht _ tb_1751)
      exact ⟨(cC, iS), h⟩
    · obtain ⟨cC, iS, h⟩ := u_known ht inX16 (ht _ tb_1559)
      exact ⟨(cC, iS), h⟩
  have h1 : ∀ c : Nat, ∃ d : ClassId × (Nat → Nat), ∀ q, clT[c]? = some q → u_Kn s q.1 q.2.1 q.2.2 d.1 d.2 := by
    intro c
    cases hc : clT[c]? with
    | none => exact ⟨(0, fun _ => 0), fun q hq => by cases hq⟩
    | some q =>
      obtain ⟨d, hd⟩ := h0 q (List.mem_of_getElem? hc)
      exact ⟨d, fun q2 hq => by cases hq; exact hd⟩
  obtain ⟨ad, had⟩ := Classical.axiomOfChoice h1
  exact ⟨(fun c => (ad c).1, fun c => (ad c).2), had⟩
theorem arr_all {args : Array Value} {s : State} (ht : ∀ w ∈ tbG, w.before args s = true) (hts : ∀ w ∈ tables_1, w.before args s = true) : ∃ dA : Nat → ClassId, ∀ (k : Nat) (q : ClassId × FieldType), (tyL dA)[k]? = some q → ArrOfT s q.1 q.2 ∧ va_RA s q.1 q.2 := by
  obtain ⟨c100, k100, m100, p100, q100, r100⟩ := Cond.arrayClass_spec (ht _ tb_53)
  obtain ⟨c101, k101, m101, p101, q101, r101⟩ := Cond.arrayClass_spec (ht _ tb_89)
  obtain ⟨c102, k102, m102, p102, q102, r102⟩ := Cond.arrayClass_spec (ht _ tb_1729)
  obtain ⟨m116, c116, k116, f116, -, q116, r116, p116⟩ := Cond.arrayOver_spec (n := "WebHost$Packet") (hts _ (List.mem_of_getElem? (i := 61) (by decide +kernel)))
  obtain ⟨m112, c112, k112, f112, -, q112, r112, p112⟩ := Cond.arrayOver_spec (n := "WebHost$Datagram") (hts _ (List.mem_of_getElem? (i := 157) (by decide +kernel)))
  obtain ⟨m111, c111, k111, f111, -, q111, r111, p111⟩ := Cond.arrayOver_spec (n := "WebHost$Connection") (hts _ (List.mem_of_getElem? (i := 233) (by decide +kernel)))
  obtain ⟨m124, c124, k124, f124, -, q124, r124, p124⟩ := Cond.arrayOver_spec (n := "WebHostModel$Entry") (hts _ (List.mem_of_getElem? (i := 1568) (by decide +kernel)))
  obtain ⟨m125, c125, k125, f125, -, q125, r125, p125⟩ := Cond.arrayOver_spec (n := "WebHostModel$Packet") (hts _ (List.mem_of_getElem? (i := 1570) (by decide +kernel)))
  obtain ⟨m123, c123, k123, f123, -, q123, r123, p123⟩ := Cond.arrayOver_spec (n := "WebHostModel$Datagram") (hts _ (List.mem_of_getElem? (i := 1572) (by decide +kernel)))
  obtain ⟨m122, c122, k122, f122, -, q122, r122, p122⟩ := Cond.arrayOver_spec (n := "WebHostModel$Connection") (hts _ (List.mem_of_getElem? (i := 1574) (by decide +kernel)))
  refine ⟨(fun t => if t = 100 then c100 else if t = 101 then c101 else if t = 102 then c102 else if t = 116 then c116 else if t = 112 then c112 else if t = 111 then c111 else if t = 124 then c124 else if t = 125 then c125 else if t = 123 then c123 else if t = 122 then c122 else 0), fun k => ?_⟩
  exact match k, Nat.lt_or_ge k 10 with
    | 0, _ => by
      intro q hq
      cases hq
      exact ⟨fun n z => ⟨fun k h => (by cases h), k100, q100, m100, r100⟩, p100⟩
    | 1, _ => by
      intro q hq
      cases hq
      exact ⟨fun n z => ⟨fun k h => (by cases h), k101, q101, m101, r101⟩, p101⟩
    | 2, _ => by
      intro q hq
      cases hq
      exact ⟨fun n z => ⟨fun k h => (by cases h), k102, q102, m102, r102⟩, p102⟩
    | 3, _ => by
      intro q hq
      cases hq
      exact ⟨fun n z => ⟨fun k h => (by cases h), k116, q116, m116, r116⟩, k116, m116, q116, r116, f116, p116⟩
    | 4, _ => by
      intro q hq
      cases hq
      exact ⟨fun n z => ⟨fun k h => (by cases h), k112, q112, m112, r112⟩, k112, m112, q112, r112, f112, p112⟩
    | 5, _ => by
      intro q hq
      cases hq
      exact ⟨fun n z => ⟨fun k h => (by cases h), k111, q111, m111, r111⟩, k111, m111, q111, r111, f111, p111⟩
    | 6, _ => by
      intro q hq
      cases hq
      exact ⟨fun n z => ⟨fun k h => (by cases h), k124, q124, m124, r124⟩, k124, m124, q124, r124, f124, p124⟩
    | 7, _ => by
      intro q hq
      cases hq
      exact ⟨fun n z => ⟨fun k h => (by cases h), k125, q125, m125, r125⟩, k125, m125, q125, r125, f125, p125⟩
    | 8, _ => by
      intro q hq
      cases hq
      exact ⟨fun n z => ⟨fun k h => (by cases h), k123, q123, m123, r123⟩, k123, m123, q123, r123, f123, p123⟩
    | 9, _ => by
      intro q hq
      cases hq
      exact ⟨fun n z => ⟨fun k h => (by cases h), k122, q122, m122, r122⟩, k122, m122, q122, r122, f122, p122⟩
    | (n + 10), _ => by
      intro q hq
      have : 10 + n < 10 := by
        have h9 := (List.getElem?_eq_some_iff.mp hq).1
        simp only [tyL, List.length_cons, List.length_nil] at h9
        omega
      omega
theorem str_ids : ∀ q ∈ strW, q.2.2.2 < strB.length := by decide +kernel
theorem ao_all {args : Array Value} {s : State} (hts : ∀ w ∈ tables_1, w.before args s = true) : ∀ C ∈ aoL, va_AO C s := by
  simp only [aoL, List.forall_mem_cons]
  exact ⟨va_AO.of (hts _ (List.mem_of_getElem? (i := 61) (by decide +kernel))), va_AO.of (hts _ (List.mem_of_getElem? (i := 157) (by decide +kernel))), va_AO.of (hts _ (List.mem_of_getElem? (i := 233) (by decide +kernel))), va_AO.of (hts _ (List.mem_of_getElem? (i := 1568) (by decide +kernel))), va_AO.of (hts _ (List.mem_of_getElem? (i := 1570) (by decide +kernel))), va_AO.of (hts _ (List.mem_of_getElem? (i := 1572) (by decide +kernel))), va_AO.of (hts _ (List.mem_of_getElem? (i := 1574) (by decide +kernel))), fun _ h => absurd h List.not_mem_nil⟩
theorem cast_all {args : Array Value} {s : State} (hts : ∀ w ∈ tables_1, w.before args s = true) : va_Nw (.castable "[B" "java/lang/Cloneable") s := va_Nw.of rfl (hts _ (List.mem_of_getElem? (i := 358) (by decide +kernel)))
