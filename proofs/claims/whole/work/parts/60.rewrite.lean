/-! ===== part 60: rewriting rows for the plain memory ===== -/
/-- a row of ints or bytes gets other contents -/
def wA (M : Mm) (a : Nat) (g : Nat → Int32) : Mm := (M.1, M.2.1, fun b j => if b = a then g j else M.2.2.1 b j, M.2.2.2)
theorem wA_mA (M : Mm) (a : Nat) : wA M a (mA M a) = M := by
  unfold wA mA
  have h : (fun b j => if b = a then M.2.2.1 a j else M.2.2.1 b j) = M.2.2.1 := by
    funext b j
    by_cases h : b = a
    · rw [if_pos h, h]
    · rw [if_neg h]
  rw [h]
theorem sA_wA (M : Mm) (a i : Nat) (v : Int32) : sA M a i v = wA M a (fun j => if j = i then v else mA M a j) := by
  unfold sA wA mA
  have h : (fun b j => if b = a ∧ j = i then v else M.2.2.1 b j) = (fun b j => if b = a then (if j = i then v else M.2.2.1 a j) else M.2.2.1 b j) := by
    funext b j
    by_cases h : b = a
    · subst h
      simp
    · simp [h]
  rw [h]
theorem wA_wA (M : Mm) (a : Nat) (g k : Nat → Int32) : wA (wA M a g) a k = wA M a k := by
  unfold wA
  have h : (fun b j => if b = a then k j else (if b = a then g j else M.2.2.1 b j)) = (fun b j => if b = a then k j else M.2.2.1 b j) := by
    funext b j
    by_cases h : b = a <;> simp [h]
  rw [h]
theorem mA_wA_self (M : Mm) (a : Nat) (g : Nat → Int32) : mA (wA M a g) a = g := by
  funext j
  unfold mA wA
  simp
theorem mA_wA_ne {M : Mm} {a b : Nat} {g : Nat → Int32} (h : b ≠ a) : mA (wA M a g) b = mA M b := by
  funext j
  unfold mA wA
  simp [h]
theorem sF_wA (M : Mm) (f a : Nat) (v : Int32) (b : Nat) (g : Nat → Int32) : sF (wA M b g) f a v = wA (sF M f a v) b g := rfl
theorem sF_sF (M : Mm) (f a : Nat) (v w : Int32) : sF (sF M f a v) f a w = sF M f a w := by
  unfold sF
  have h : (fun g b => if g = f ∧ b = a then w else (if g = f ∧ b = a then v else M.1 g b)) = (fun g b => if g = f ∧ b = a then w else M.1 g b) := by
    funext g b
    by_cases h : g = f ∧ b = a <;> simp [h]
  rw [h]
theorem mF_sF (M : Mm) (f a g b : Nat) (v : Int32) : mF (sF M f a v) g b = if g = f ∧ b = a then v else mF M g b := rfl
theorem mG_sG (M : Mm) (f a g b : Nat) (v : Option Nat) : mG (sG M f a v) g b = if g = f ∧ b = a then v else mG M g b := rfl
theorem mA_sA (M : Mm) (a i b j : Nat) (v : Int32) : mA (sA M a i v) b j = if b = a ∧ j = i then v else mA M b j := rfl
theorem mB_sB (M : Mm) (a i b j : Nat) (v : Option Nat) : mB (sB M a i v) b j = if b = a ∧ j = i then v else mB M b j := rfl
theorem mG_sF (M : Mm) (f a : Nat) (v : Int32) : mG (sF M f a v) = mG M := rfl
theorem mA_sF (M : Mm) (f a : Nat) (v : Int32) : mA (sF M f a v) = mA M := rfl
theorem mB_sF (M : Mm) (f a : Nat) (v : Int32) : mB (sF M f a v) = mB M := rfl
theorem mS_sF (M : Mm) (f a : Nat) (v : Int32) : mS (sF M f a v) = mS M := rfl
theorem okA_sF (M : Mm) (f a : Nat) (v : Int32) (t b : Nat) : okA (sF M f a v) t b = okA M t b := rfl
theorem mF_sG (M : Mm) (f a : Nat) (v : Option Nat) : mF (sG M f a v) = mF M := rfl
theorem mA_sG (M : Mm) (f a : Nat) (v : Option Nat) : mA (sG M f a v) = mA M := rfl
theorem mB_sG (M : Mm) (f a : Nat) (v : Option Nat) : mB (sG M f a v) = mB M := rfl
theorem mS_sG (M : Mm) (f a : Nat) (v : Option Nat) : mS (sG M f a v) = mS M := rfl
theorem okA_sG (M : Mm) (f a : Nat) (v : Option Nat) (t b : Nat) : okA (sG M f a v) t b = okA M t b := rfl
theorem mF_sA (M : Mm) (a i : Nat) (v : Int32) : mF (sA M a i v) = mF M := rfl
theorem mG_sA (M : Mm) (a i : Nat) (v : Int32) : mG (sA M a i v) = mG M := rfl
theorem mB_sA (M : Mm) (a i : Nat) (v : Int32) : mB (sA M a i v) = mB M := rfl
theorem mS_sA (M : Mm) (a i : Nat) (v : Int32) : mS (sA M a i v) = mS M := rfl
theorem okA_sA (M : Mm) (a i : Nat) (v : Int32) (t b : Nat) : okA (sA M a i v) t b = okA M t b := rfl
theorem mF_sB (M : Mm) (a i : Nat) (v : Option Nat) : mF (sB M a i v) = mF M := rfl
theorem mG_sB (M : Mm) (a i : Nat) (v : Option Nat) : mG (sB M a i v) = mG M := rfl
theorem mA_sB (M : Mm) (a i : Nat) (v : Option Nat) : mA (sB M a i v) = mA M := rfl
theorem mS_sB (M : Mm) (a i : Nat) (v : Option Nat) : mS (sB M a i v) = mS M := rfl
theorem okA_sB (M : Mm) (a i : Nat) (v : Option Nat) (t b : Nat) : okA (sB M a i v) t b = okA M t b := rfl
theorem mF_sC (M : Mm) (a sp b dp n : Nat) : mF (sC M a sp b dp n) = mF M := rfl
theorem mG_sC (M : Mm) (a sp b dp n : Nat) : mG (sC M a sp b dp n) = mG M := rfl
theorem mB_sC (M : Mm) (a sp b dp n : Nat) : mB (sC M a sp b dp n) = mB M := rfl
theorem mS_sC (M : Mm) (a sp b dp n : Nat) : mS (sC M a sp b dp n) = mS M := rfl
theorem okA_sC (M : Mm) (a sp b dp n : Nat) (t b : Nat) : okA (sC M a sp b dp n) t b = okA M t b := rfl
theorem mF_wA (M : Mm) (a : Nat) (g : Nat → Int32) : mF (wA M a g) = mF M := rfl
theorem mG_wA (M : Mm) (a : Nat) (g : Nat → Int32) : mG (wA M a g) = mG M := rfl
theorem mB_wA (M : Mm) (a : Nat) (g : Nat → Int32) : mB (wA M a g) = mB M := rfl
theorem mS_wA (M : Mm) (a : Nat) (g : Nat → Int32) : mS (wA M a g) = mS M := rfl
theorem okA_wA (M : Mm) (a : Nat) (g : Nat → Int32) (t b : Nat) : okA (wA M a g) t b = okA M t b := rfl
theorem gI_ok {M : Mm} {c f a : Nat} (h : okA M c a) : gI M c f (some a) = some (mF M f a) := if_pos h
theorem gR_ok {M : Mm} {c f a : Nat} (h : okA M c a) : gR M c f (some a) = some (mG M f a) := if_pos h
theorem pF_ok {M : Mm} {c f a : Nat} {v : Int32} (h : okA M c a) : pF M c f (some a) v = some (sF M f a v) := if_pos h
theorem pZ_ok {M : Mm} {c f a : Nat} {v : Int32} (h : okA M c a) (hv : v = 0 ∨ v = 1) : pZ M c f (some a) v = some (sF M f a v) := (if_pos hv).trans (if_pos h)
theorem pG_ok {M : Mm} {c f a : Nat} {v : Option Nat} (h : okA M c a) : pG M c f (some a) v = some (sG M f a v) := if_pos h
theorem rc_ok {M : Mm} {c a : Nat} (h : okA M c a) : rc M c (some a) = some a := if_pos h
theorem aL_ok {M : Mm} {t a n : Nat} (h : okA M t a) (hn : sLen (mS M) a = n) : aL M t (some a) = some (nI n) := by subst hn; exact if_pos h
theorem gA_ok {M : Mm} {t a i : Nat} (h : okA M t a) (hi : i < sLen (mS M) a) (h31 : i < 2 ^ 31) : gA M t (some a) (nI i) = some (mA M a i) := by
  have e := nI_clamp h31
  have hp := nI_pos h31
  show (if (300 ≤ a ∧ a < sN (mS M) ∧ sTy (mS M) a = t) ∧ ¬ nI i < 0 ∧ (nI i).toNatClampNeg < sLen (mS M) a then some (mA M a (nI i).toNatClampNeg) else none) = _
  rw [e, if_pos ⟨h, hp, hi⟩]
theorem pA_ok {M : Mm} {t a i : Nat} {v : Int32} (h : okA M t a) (hi : i < sLen (mS M) a) (h31 : i < 2 ^ 31) : pA M t (some a) (nI i) v = some (wA M a (fun j => if j = i then v else mA M a j)) := by
  have e := nI_clamp h31
  have hp := nI_pos h31
  show (if (300 ≤ a ∧ a < sN (mS M) ∧ sTy (mS M) a = t) ∧ ¬ nI i < 0 ∧ (nI i).toNatClampNeg < sLen (mS M) a then some (sA M a (nI i).toNatClampNeg v) else none) = _
  rw [e, if_pos ⟨h, hp, hi⟩, sA_wA]
theorem gB_ok {M : Mm} {t a i : Nat} (h : okA M t a) (hi : i < sLen (mS M) a) (h31 : i < 2 ^ 31) : gB M t (some a) (nI i) = some (mB M a i) := by
  have e := nI_clamp h31
  have hp := nI_pos h31
  show (if (300 ≤ a ∧ a < sN (mS M) ∧ sTy (mS M) a = t) ∧ ¬ nI i < 0 ∧ (nI i).toNatClampNeg < sLen (mS M) a then some (mB M a (nI i).toNatClampNeg) else none) = _
  rw [e, if_pos ⟨h, hp, hi⟩]
theorem b2_some {α β : Type} {v : α} {M : Mm} {k : α → Mm → Option β} : b2 (some (v, M)) k = k v M := rfl
theorem ob_some {α β : Type} {v : α} {k : α → Option β} : (some v).bind k = k v := rfl
theorem rN_z {v : Int32} {M : Mm} (h : v = 0 ∨ v = 1) : rN .boolean v M = some (v, M) := by
  unfold rN
  rcases h with rfl | rfl <;> rfl
