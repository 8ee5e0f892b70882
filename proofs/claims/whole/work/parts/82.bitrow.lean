/-! ===== part 82: rows of bits ===== -/
def bitOf (g : Nat → Int32) (k : Nat) : Bool := bt (g (k / 32)) (k % 32)
theorem b_one {i : Nat} (hi : i < 32) : bt 1 i = decide (i = 0) := by
  have : ∀ i, i < 32 → bt 1 i = decide (i = 0) := by decide +kernel
  exact this i hi
theorem b_msk {l i : Nat} (hl : l < 32) (hi : i < 32) : bt ((1 : Int32) <<< (nI l &&& 31)) i = decide (i = l) := by
  rw [b_shl l hl _ hi]
  by_cases c : l ≤ i
  · rw [b_one (by omega)]
    by_cases d : i = l
    · subst d; simp
    · have : ¬ i - l = 0 := by omega
      simp [d, this]
  · have : ¬ i = l := by omega
    simp [c, this]
theorem k31 {k : Nat} (h : k < 2 ^ 31) : nI k &&& (31 : Int32) = nI (k % 32) := pk_andN (by omega) 5 (by decide)
theorem shr5 {k : Nat} (h : k < 2 ^ 31) : nI k >>> ((5 : Int32) &&& 31) = nI (k / 32) := pk_shrN h _ 5 (by decide)
def mskOf (k : Nat) : Int32 := (1 : Int32) <<< (nI (k % 32) &&& 31)
theorem bt_msk {k i : Nat} (hi : i < 32) : bt (mskOf k) i = decide (i = k % 32) := b_msk (by omega) hi
theorem msk_eq {k : Nat} (h : k < 2 ^ 31) : (1 : Int32) <<< ((nI k &&& (31 : Int32)) &&& 31) = mskOf k := by rw [k31 h]; rfl
theorem bit_tst (v : Int32) (k : Nat) : (v &&& mskOf k) = 0 ↔ bt v (k % 32) = false := by
  constructor
  · intro h
    have := congrArg (fun z => bt z (k % 32)) h
    simp only [b_and, b_0, bt_msk (show k % 32 < 32 by omega)] at this
    simpa using this
  · intro h
    apply b_ext
    intro i hi
    rw [b_and, bt_msk hi, b_0]
    by_cases c : i = k % 32
    · rw [c, h]; rfl
    · simp [c]
theorem bitOf_set (g : Nat → Int32) (k i : Nat) : bitOf (fun j => if j = k / 32 then g (k / 32) ||| mskOf k else g j) i = (decide (i = k) || bitOf g i) := by
  show bt (if i / 32 = k / 32 then g (k / 32) ||| mskOf k else g (i / 32)) (i % 32) = (decide (i = k) || bt (g (i / 32)) (i % 32))
  by_cases c : i / 32 = k / 32
  · rw [if_pos c, b_or, bt_msk (by omega), c]
    by_cases d : i = k
    · subst d; simp
    · have : ¬ i % 32 = k % 32 := by omega
      simp [d, this]
  · rw [if_neg c]
    have : ¬ i = k := fun e => c (by rw [e])
    simp [this]
theorem bitOf_clr (g : Nat → Int32) (k i : Nat) : bitOf (fun j => if j = k / 32 then g (k / 32) &&& (mskOf k ^^^ (-1)) else g j) i = (!decide (i = k) && bitOf g i) := by
  show bt (if i / 32 = k / 32 then g (k / 32) &&& (mskOf k ^^^ (-1)) else g (i / 32)) (i % 32) = (!decide (i = k) && bt (g (i / 32)) (i % 32))
  by_cases c : i / 32 = k / 32
  · rw [if_pos c, b_and, b_xor, bt_msk (by omega), b_m1 _ (by omega), c]
    by_cases d : i = k
    · subst d; simp
    · have : ¬ i % 32 = k % 32 := by omega
      simp [d, this]
  · rw [if_neg c]
    have : ¬ i = k := fun e => c (by rw [e])
    simp [this]
/-- how many of the first n hold -/
def cnt (P : Nat → Bool) : Nat → Nat
  | 0 => 0
  | n + 1 => cnt P n + (if P n then 1 else 0)
theorem cnt_le (P : Nat → Bool) : ∀ n, cnt P n ≤ n
  | 0 => Nat.le_refl _
  | n + 1 => by
    have := cnt_le P n
    unfold cnt
    split <;> omega
theorem cnt_c {P Q : Nat → Bool} : ∀ n, (∀ i, i < n → P i = Q i) → cnt P n = cnt Q n
  | 0, _ => rfl
  | n + 1, h => by
    unfold cnt
    rw [cnt_c n (fun i hi => h i (by omega)), h n (by omega)]
theorem cnt_set {P : Nat → Bool} {k : Nat} (hk : P k = false) : ∀ n, cnt (fun i => decide (i = k) || P i) n = cnt P n + (if k < n then 1 else 0)
  | 0 => by simp [cnt]
  | n + 1 => by
    unfold cnt
    rw [cnt_set hk n]
    by_cases c : n = k
    · subst c
      simp [hk]
    · by_cases d : k < n
      · have e : k < n + 1 := by omega
        simp only [d, e, c, decide_false, Bool.false_or, if_true]
        omega
      · have e : ¬ k < n + 1 := by omega
        simp only [d, e, c, decide_false, Bool.false_or, if_false]
        omega
theorem cnt_all {P : Nat → Bool} : ∀ n, cnt P n = n ↔ ∀ i, i < n → P i = true
  | 0 => ⟨fun _ i h => absurd h (by omega), fun _ => rfl⟩
  | n + 1 => by
    have h1 := cnt_all (P := P) n
    have h2 := cnt_le P n
    unfold cnt
    constructor
    · intro h i hi
      by_cases c : P n = true
      · rw [if_pos c] at h
        by_cases d : i = n
        · rw [d]; exact c
        · exact h1.mp (by omega) i (by omega)
      · rw [if_neg c] at h
        omega
    · intro h
      rw [if_pos (h n (by omega)), h1.mpr (fun i hi => h i (by omega))]
theorem cnt_ext {P : Nat → Bool} {e : Nat} : ∀ n, e ≤ n → (∀ i, e ≤ i → i < n → P i = false) → cnt P n = cnt P e := by
  intro n
  induction n with
  | zero => intro h _; rw [show e = 0 by omega]
  | succ n ih =>
    intro h h2
    by_cases c : e = n + 1
    · rw [c]
    · show cnt P n + (if P n then 1 else 0) = cnt P e
      rw [ih (by omega) (fun i h3 h4 => h2 i h3 (by omega)), h2 n (by omega) (by omega)]
      rfl
