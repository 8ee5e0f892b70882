/-! ===== part 78: rows of objects that close up; a hop is waited for no more ===== -/
def wB (M : Mm) (a : Nat) (g : Nat → Option Nat) : Mm := (M.1, M.2.1, M.2.2.1, fun b j => if b = a then g j else M.2.2.2.1 b j, M.2.2.2.2)
section WB
variable {M : Mm} {a : Nat} {g : Nat → Option Nat}
theorem mB_wB_self : mB (wB M a g) a = g := by
  funext j
  show (if a = a then g j else _) = _
  rw [if_pos rfl]
theorem mB_wB_ne {b : Nat} (h : b ≠ a) : mB (wB M a g) b = mB M b := by
  funext j
  show (if b = a then g j else _) = _
  rw [if_neg h]
  rfl
theorem wB_mB : wB M a (mB M a) = M := by
  unfold wB mB
  have h : (fun b j => if b = a then M.2.2.2.1 a j else M.2.2.2.1 b j) = M.2.2.2.1 := by
    funext b j
    by_cases h : b = a
    · rw [if_pos h, h]
    · rw [if_neg h]
  rw [h]
theorem sB_wB {k : Nat} {v : Option Nat} : sB (wB M a g) a k v = wB M a (fun j => if j = k then v else g j) := by
  unfold sB wB
  have h : (fun b j => if b = a ∧ j = k then v else (fun b j => if b = a then g j else M.2.2.2.1 b j) b j) = (fun b j => if b = a then (if j = k then v else g j) else M.2.2.2.1 b j) := by
    funext b j
    by_cases h : b = a
    · by_cases h2 : j = k
      · rw [if_pos ⟨h, h2⟩, if_pos h, if_pos h2]
      · rw [if_neg (fun e => h2 e.2), if_pos h, if_neg h2]; exact if_pos h
    · rw [if_neg (fun e => h e.1), if_neg h]; exact if_neg h
  exact congrArg (fun z => (M.1, M.2.1, M.2.2.1, z, M.2.2.2.2)) h
theorem mF_wB : mF (wB M a g) = mF M := rfl
theorem mG_wB : mG (wB M a g) = mG M := rfl
theorem mA_wB : mA (wB M a g) = mA M := rfl
theorem mS_wB : mS (wB M a g) = mS M := rfl
theorem ok_wB (t c : Nat) : okA (wB M a g) t c = okA M t c := propext Iff.rfl
end WB
/-- place d goes behind, those after it move up; of n -/
def rotg (g : Nat → Option Nat) (d n : Nat) : Nat → Option Nat := fun j => if d ≤ j ∧ j + 1 < n then g (j + 1) else if j + 1 = n then g d else g j
def shg (g : Nat → Option Nat) (d k : Nat) : Nat → Option Nat := fun j => if d ≤ j ∧ j < k then g (j + 1) else g j
theorem shg_0 (g : Nat → Option Nat) (d : Nat) : shg g d d = g := by
  funext j
  unfold shg
  rw [if_neg (by omega)]
theorem shg_1 (g : Nat → Option Nat) {d k : Nat} (h : d ≤ k) : (fun j => if j = k then g (k + 1) else shg g d k j) = shg g d (k + 1) := by
  funext j
  unfold shg
  by_cases e : j = k
  · rw [if_pos e, if_pos (by omega), e]
  · rw [if_neg e]
    by_cases c : d ≤ j ∧ j < k
    · rw [if_pos c, if_pos (by omega)]
    · rw [if_neg c, if_neg (by omega)]
theorem shg_e (g : Nat → Option Nat) {d n : Nat} (h : d < n) : (fun j => if j = n - 1 then g d else shg g d (n - 1) j) = rotg g d n := by
  funext j
  unfold shg rotg
  by_cases e : j = n - 1
  · rw [if_pos e, if_neg (by omega), if_pos (by omega)]
  · rw [if_neg e]
    by_cases c : d ≤ j ∧ j < n - 1
    · rw [if_pos c, if_pos (by omega)]
    · rw [if_neg c, if_neg (by omega), if_neg (by omega)]
def rotx (d n j : Nat) : Nat := if d ≤ j ∧ j + 1 < n then j + 1 else if j + 1 = n then d else j
theorem rotg_x (g : Nat → Option Nat) (d n j : Nat) : rotg g d n j = g (rotx d n j) := by
  unfold rotg rotx
  split
  · rfl
  · split <;> rfl
theorem rotx_inj {d n i j : Nat} (hd : d < n) (h : rotx d n i = rotx d n j) : i = j := by
  unfold rotx at h
  split at h <;> split at h <;> (try split at h) <;> (try split at h) <;> omega
theorem rotx_lt {d n m j : Nat} (hd : d < n) (hn : n ≤ m) : rotx d n j < m ↔ j < m := by
  unfold rotx
  split
  · omega
  · split <;> omega
theorem rowN_rot {M M' : Mm} {arr t m d n : Nat} (hB : mB M' arr = rotg (mB M arr) d n) (hO : ∀ a, okA M t a → okA M' t a) (hd : d < n) (hn : n ≤ m) (h : rowN M arr t m) : rowN M' arr t m := by
  obtain ⟨h1, h2, h3⟩ := h
  refine ⟨fun i hi => ?_, fun i hi => ?_, fun i j p hi hj => ?_⟩
  · rw [hB, rotg_x]
    obtain ⟨p, q1, q2⟩ := h1 (rotx d n i) ((rotx_lt hd hn).mpr hi)
    exact ⟨p, q1, hO p q2⟩
  · rw [hB, rotg_x]
    refine h2 _ ?_
    have := (rotx_lt (j := i) hd hn).mp
    by_cases c : rotx d n i < m
    · have := this c; omega
    · omega
  · rw [hB, rotg_x] at hi hj
    exact rotx_inj hd (h3 _ _ p hi hj)
section Drop
variable {A M : Mm}
theorem x_dropWaiter (hW : XW M) {n d fu : Nat} (hw : (mF M 260 307) = nI n) (hn : n ≤ 8) (hd : d < n) (hq : ∀ j, j < n → ∃ q, mB M 313 j = some q ∧ okA M 6 q) (hf : 9 ≤ fu) :
    fX4_dropWaiter fu 307 (nI d) M = some (sF (wB M 313 (rotg (mB M 313) d n)) 260 307 (nI (n - 1))) := by
  obtain ⟨q, hqd, hOd⟩ := hq d hd
  unfold fX4_dropWaiter
  rw [if_neg (nI_pos (by omega)), gI_ok (xw_ok307 hW), ob_some, hw, if_pos (nI_lt hd (by omega)), gR_ok (xw_ok307 hW), ob_some, xw_g270_307 hW, gB_ok (xw_ok313 hW) (by rw [xw_ln313 hW]; omega) (by omega), ob_some, hqd]
  have hWB : ∀ g, XW (wB M 313 g) := fun g => by
    have := hW
    unfold XW okA at this ⊢
    exact this
  have step : ∀ m j, d ≤ j → j < n - 1 → fX4_dropWaiter_L22 fu (m + 1) 307 (some q) (nI j) (wB M 313 (shg (mB M 313) d j)) = fX4_dropWaiter_L22 fu m 307 (some q) (nI (j + 1)) (wB M 313 (shg (mB M 313) d (j + 1))) := by
    intro m j h1 h2
    obtain ⟨p, hp, hO⟩ := hq (j + 1) (by omega)
    have hg : mB (wB M 313 (shg (mB M 313) d j)) 313 (j + 1) = some p := by
      rw [mB_wB_self]
      unfold shg
      rw [if_neg (by omega)]
      exact hp
    rw [fX4_dropWaiter_L22, gI_ok (xw_ok307 (hWB _)), ob_some, mF_wB, hw, nI_1, if_neg (nI_ge (by omega) (by omega)), if_neg (ge8 (by omega)), gR_ok (xw_ok307 (hWB _)), ob_some, xw_g270_307 (hWB _), ob_some, gB_ok (xw_ok313 (hWB _)) (by rw [xw_ln313 (hWB _)]; omega) (by omega), ob_some, hg, pB_ok (t := 116) rfl (xw_ok313 (hWB _)) (by rw [xw_ln313 (hWB _)]; omega) (by omega) (by rw [ok_wB]; exact hO), ob_some, sB_wB, ← hp, shg_1 _ h1]
  have lpe := lp (fun m j => fX4_dropWaiter_L22 fu m 307 (some q) (nI j) (wB M 313 (shg (mB M 313) d j))) (i := d) (k := n - 1) (by omega) step (fu - (n - 1 - d))
  simp only [shg_0, wB_mB] at lpe
  rw [show fu - (n - 1 - d) + (n - 1 - d) = fu by omega] at lpe
  rw [lpe]
  obtain ⟨m, hm⟩ : ∃ m, fu - (n - 1 - d) = m + 1 := ⟨fu - (n - 1 - d) - 1, by omega⟩
  rw [hm, fX4_dropWaiter_L22, gI_ok (xw_ok307 (hWB _)), ob_some, mF_wB, hw, nI_1, show n - 1 + 1 = n by omega, if_pos (Int32.le_refl _)]
  unfold fX4_dropWaiter_L60
  have e1 : nI n - (1 : Int32) = nI (n - 1) := nI_sub (x := n) (y := 1) (by omega)
  rw [gI_ok (xw_ok307 (hWB _)), ob_some, mF_wB, hw, e1, pF_ok (xw_ok307 (hWB _)), ob_some]
  have hW2 : XW (sF (wB M 313 (shg (mB M 313) d (n - 1))) 260 307 (nI (n - 1))) := hWB _
  have hwn : mF (sF (wB M 313 (shg (mB M 313) d (n - 1))) 260 307 (nI (n - 1))) 260 307 = nI (n - 1) := by simp only [mF_sF, reduceIte, Nat.reduceEqDiff, Nat.reduceAdd, Nat.reduceMul, Nat.reduceLT, Nat.reduceLeDiff, and_true, true_and, and_false, false_and, and_self, ne_eq, not_true_eq_false, not_false_eq_true, Option.some.injEq, reduceCtorEq]
  rw [gR_ok (xw_ok307 hW2), ob_some, xw_g270_307 hW2, gI_ok (xw_ok307 hW2), ob_some, hwn, pB_ok (t := 116) rfl (xw_ok313 hW2) (by rw [xw_ln313 hW2]; omega) (by omega) (by rw [ok_sF, ok_wB]; exact hOd), ob_some, ← shg_e (mB M 313) hd, ← hqd, ← sB_wB]
  rfl
theorem JWa_congr2 {A' M' : Mm} {n O nw : Nat} {s o : Nat → Nat} (hA : ∀ f a, 960 ≤ f → f < 966 → mF A' f a = mF A f a) (h49 : (mF A' 1049 323) = (mF A 1049 323)) (hN : (mF A' 1034 323) = (mF A 1034 323)) (hAA : ∀ a, 422 ≤ a → a < 438 → mA A' a = mA A a) (hw : (mF M' 260 307) = (mF M 260 307)) (hB : mB M' 313 = mB M 313)
    (hF : ∀ i q f, i < n → mB M 313 i = some q → 385 ≤ f → f < 389 → mF M' f q = mF M f q) (hM : ∀ i q, i < n → mB M 313 i = some q → mA M' (q + 1) = mA M (q + 1)) (h : JWa n O nw s o A M) : JWa n O nw s o A' M' := by
  obtain ⟨a1, a2, a3, a4, a5, a6, a7, a8, a9, a10, a11, a12⟩ := h
  refine ⟨a1, hw.trans a2, h49.trans a3, hN.trans a4, a5, a6, fun i hi => ?_, fun k hk h => ?_, fun i hi => ?_, a10, fun i hi => ⟨(a11 i hi).1, ?_⟩, fun i j hi hj => ?_⟩
  · rw [hA _ _ (by decide) (by decide)]; exact a7 i hi
  · rw [hA _ _ (by decide) (by decide)]; exact a8 k hk h
  · obtain ⟨q, q1, q2⟩ := a9 i hi
    have := a5 i hi
    exact ⟨q, by rw [hB]; exact q1, W1_congr (fun f h1 h2 => hA f _ h1 h2) (hAA _ (by omega) (by omega)) (fun f h1 h2 => hF i q f hi q1 h1 h2) (hM i q hi q1) q2⟩
  · rw [hA _ _ (by decide) (by decide)]; exact (a11 i hi).2
  · rw [hA _ _ (by decide) (by decide), hA _ _ (by decide) (by decide)]; exact a12 i j hi hj
def dropx (d i : Nat) : Nat := if i < d then i else i + 1
theorem dropx_inj {d i j : Nat} (h : dropx d i = dropx d j) : i = j := by
  unfold dropx at h
  split at h <;> split at h <;> omega
theorem dropx_ne (d i : Nat) : dropx d i ≠ d := by
  unfold dropx
  split <;> omega
theorem dropx_lt {d i n : Nat} (h : i < n - 1) : dropx d i < n := by
  unfold dropx
  split <;> omega
theorem dropx_mono {d i j : Nat} (h : i < j) : dropx d i < dropx d j := by
  unfold dropx
  split <;> split <;> omega
theorem dropx_sur {d i n : Nat} (hi : i < n) (h : i ≠ d) (hd : d < n) : ∃ j, j < n - 1 ∧ dropx d j = i := by
  by_cases c : i < d
  · exact ⟨i, by omega, by unfold dropx; rw [if_pos c]⟩
  · exact ⟨i - 1, by omega, by unfold dropx; rw [if_neg (by omega)]; omega⟩
theorem rotx_drop {d n i : Nat} (h : i < n - 1) (hd : d < n) : rotx d n i = dropx d i := by
  unfold rotx dropx
  by_cases c : i < d
  · rw [if_neg (by omega), if_neg (by omega), if_pos c]
  · rw [if_pos (by omega), if_neg c]
/-- a hop is waited for no more -/
theorem JWa_drop {n O nw d : Nat} {s o : Nat → Nat} (hd : d < n) (h : JWa n O nw s o A M) : JWa (n - 1) O nw (fun i => s (dropx d i)) (fun i => o (dropx d i)) (sF A 960 (422 + 2 * s d) 0) (sF (wB M 313 (rotg (mB M 313) d n)) 260 307 (nI (n - 1))) := by
  obtain ⟨a1, a2, a3, a4, a5, a6, a7, a8, a9, a10, a11, a12⟩ := h
  have hF : ∀ f a, f ≠ 960 → mF (sF A 960 (422 + 2 * s d) 0) f a = mF A f a := fun f a h1 => by rw [mF_sF, if_neg (fun e => h1 e.1)]
  have hF2 : ∀ f a, a ≠ 422 + 2 * s d → mF (sF A 960 (422 + 2 * s d) 0) f a = mF A f a := fun f a h1 => by rw [mF_sF, if_neg (fun e => h1 e.2)]
  have hne : ∀ i, i < n - 1 → s (dropx d i) ≠ s d := fun i hi e => dropx_ne d i (a6 _ _ (dropx_lt hi) hd e)
  refine ⟨by omega, by rw [mF_sF, if_pos ⟨rfl, rfl⟩], (hF _ _ (by decide)).trans a3, (hF _ _ (by decide)).trans a4, fun i hi => a5 _ (dropx_lt hi), fun i j hi hj e => dropx_inj (a6 _ _ (dropx_lt hi) (dropx_lt hj) e), fun i hi => ?_, fun k hk h => ?_, fun i hi => ?_, fun i j hi hj => a10 _ _ (dropx_mono hi) (dropx_lt hj), fun i hi => ⟨(a11 _ (dropx_lt hi)).1, (hF _ _ (by decide)).trans (a11 _ (dropx_lt hi)).2⟩, fun i j hi hj e => ?_⟩
  · have := hne i hi
    rw [hF2 _ _ (show 422 + 2 * s (dropx d i) ≠ 422 + 2 * s d by omega)]
    exact a7 _ (dropx_lt hi)
  · by_cases c : k = s d
    · rw [c, mF_sF, if_pos ⟨rfl, rfl⟩]
    · rw [hF2 _ _ (by omega)]
      refine a8 k hk (fun i hi e => ?_)
      obtain ⟨j, hj, e2⟩ := dropx_sur (d := d) hi (fun e3 => c (by rw [← e, e3])) hd
      exact h j hj (by show s (dropx d j) = k; rw [e2, e])
  · obtain ⟨q, q1, q2⟩ := a9 _ (dropx_lt (d := d) hi)
    have := hne i hi
    refine ⟨q, ?_, W1_congr (A := A) (M := M) (fun f h1 h2 => hF2 _ _ (show 422 + 2 * s (dropx d i) ≠ 422 + 2 * s d by omega)) rfl (fun f h1 h2 => ?_) rfl q2⟩
    · show mB (wB M 313 (rotg (mB M 313) d n)) 313 i = some q
      rw [mB_wB_self, rotg_x, rotx_drop hi hd]
      exact q1
    · rw [mF_sF, if_neg (by omega)]; rfl
  · rw [hF _ _ (by decide), hF _ _ (by decide)] at e
    exact dropx_inj (a12 _ _ (dropx_lt hi) (dropx_lt hj) e)
theorem JL0_drop {KN KS t T n O nw d : Nat} {s o : Nat → Nat} (hd : d < n) (hO : O ≤ T + t ∧ t ≤ 1000) (hJ : JWa n O nw s o A M) (h : JL0 KN KS t T A M) : JL0 KN KS t T (sF A 960 (422 + 2 * s d) 0) (sF (wB M 313 (rotg (mB M 313) d n)) 260 307 (nI (n - 1))) ∧ FrA A (sF A 960 (422 + 2 * s d) 0) ∧ FrM M (sF (wB M 313 (rotg (mB M 313) d n)) 260 307 (nI (n - 1))) := by
  obtain ⟨hR, hW, hS, hX, hP, hQ, hE, -⟩ := h
  have hJ' := JWa_drop hd hJ
  have hF : ∀ f a, f ≠ 960 → mF (sF A 960 (422 + 2 * s d) 0) f a = mF A f a := fun f a h1 => by rw [mF_sF, if_neg (fun e => h1 e.1)]
  have hG : ∀ f a, ¬ (f = 260 ∧ a = 307) → mF (sF (wB M 313 (rotg (mB M 313) d n)) 260 307 (nI (n - 1))) f a = mF M f a := fun f a h1 => by rw [mF_sF, if_neg h1]; rfl
  have h6 : mB (sF (wB M 313 (rotg (mB M 313) d n)) 260 307 (nI (n - 1))) 306 = mB M 306 := mB_wB_ne (by decide)
  have hB : ∀ a, a ≠ 313 → mB (sF (wB M 313 (rotg (mB M 313) d n)) 260 307 (nI (n - 1))) a = mB M a := fun a h => mB_wB_ne h
  have hB3 : mB (sF (wB M 313 (rotg (mB M 313) d n)) 260 307 (nI (n - 1))) 313 = rotg (mB M 313) d n := mB_wB_self
  have hW' : XW (sF (wB M 313 (rotg (mB M 313) d n)) 260 307 (nI (n - 1))) := by
    have := hW
    unfold XW okA at this ⊢
    exact this
  refine ⟨⟨hR, hW', XS_same (M := M) rfl rfl hS, ?_, JP_congr (A := A) (M := M) (fun f h1 h2 => ⟨hF _ _ (by omega), hF _ _ (by omega)⟩) (hF _ _ (by decide)) (hF _ _ (by decide)) (fun f h1 h2 h3 h4 => hG _ _ (by omega)) (hG _ _ (by omega)) (hG _ _ (by omega)) hP, JQ_congr (A := A) (M := M) (hF _ _ (by decide)) (fun _ _ _ => rfl) (hG _ _ (by omega)) h6 (fun i p e => ⟨hG _ _ (by omega), hG _ _ (by omega), rfl⟩) hQ, JE_congr (A := A) (M := M) (fun f a h1 h2 => hF _ _ (by omega)) (hG _ _ (by omega)) (fun _ _ _ => rfl) hE, n - 1, O, nw, _, _, hO, hJ'⟩, ⟨rfl, rfl, rfl, fun f a h => hF _ _ (by omega), fun f a h1 _ _ _ => hF _ _ (by omega), fun _ _ _ => rfl, by rw [hF 1049 323 (by decide)]; exact Int32.le_refl _⟩, ⟨Nat.le_refl _, fun _ _ => ⟨rfl, rfl⟩, fun _ _ _ => rfl, fun a h1 h2 h3 => hB a h3, fun f a h1 h2 h3 h4 => hG _ _ (by omega), fun _ _ _ _ _ => rfl⟩⟩
  obtain ⟨nr, nww, nd, nc, b1, b2, b3, b4, r1, r2, r3, r4, hdd, k1, k2, k3, k4, k5⟩ := hX
  have hnn : n ≤ nww := by
    obtain ⟨-, -, -, -, -, -, -, -, a9, -⟩ := hJ
    obtain ⟨q, q1, -⟩ := a9 (n - 1) (by omega)
    have := (rowN_at r2 q1).1
    omega
  refine ⟨nr, nww, nd, nc, b1, b2, b3, b4, rowN_same (hB 306 (by decide)) (fun _ h => h) r1, rowN_rot hB3 (fun _ h => h) hd hnn r2, rowN_same (hB 316 (by decide)) (fun _ h => h) r3, rowN_same (hB 318 (by decide)) (fun _ h => h) r4, fun i j p e1 e2 => ?_, k1, k2, k3, k4, k5⟩
  rw [hB 306 (by decide)] at e1
  rw [hB3, rotg_x] at e2
  exact hdd _ _ p e1 e2
end Drop
