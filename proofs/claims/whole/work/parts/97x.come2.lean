/-! ===== part 97x: what came is taken, in both ===== -/
section Come2
variable {A A' M M' : Mm}
/-- the other side's end is known -/
def finP (A : Mm) (k dl : Nat) (w : Int32) : Prop := ¬ ((mF A 1060 323) &&& 1) = 0 ∧ (mF A 808 (342 + 4 * k)) = 0 ∧ ¬ ((mF A 1058 323) + nI dl) - (mF A 804 (342 + 4 * k)) < 0 ∧ ((mF A 1058 323) + nI dl) - ((mF A 804 (342 + 4 * k)) + w) < 0
theorem m_L176 (fu : Nat) {B : Mm} (hR : RW B) {k dl : Nat} {w f : Int32} (hk : k < 16) (hd : (mF B 1063 323) = nI dl) (p : Prop) [Decidable p] (hp : p ↔ (¬ ((mF B 1060 323) &&& 1) = 0 ∧ (mF B 808 (342 + 4 * k)) = 0 ∧ ¬ ((mF B 1058 323) + nI dl) - f < 0 ∧ ((mF B 1058 323) + nI dl) - (f + w) < 0)) :
    fX16_arrived_L176 fu 323 (some (342 + 4 * k)) w f B = fX16_arrived_L233 fu 323 (some (342 + 4 * k)) (if p then sF (sF B 808 (342 + 4 * k) 1) 810 (342 + 4 * k) ((mF B 1058 323) + nI dl) else B) := by
  have o := rw_ok323 hR
  have hA := rw_cnO hR k hk
  unfold fX16_arrived_L176
  rw [rc_ok o, ob_some, m_is fu hR, b2_some, if01]
  by_cases q1 : ((mF B 1060 323) &&& 1) = 0
  · rw [if_pos q1, if_neg (fun e => (hp.mp e).1 q1)]
  · rw [if_neg q1, gI_ok hA, ob_some]
    by_cases q2 : (mF B 808 (342 + 4 * k)) = 0
    · rw [if_pos q2, gI_ok o, ob_some, gI_ok o, ob_some, hd, m_before, b2_some, if10]
      by_cases q3 : ((mF B 1058 323) + nI dl) - f < 0
      · rw [if_pos q3, if_neg (fun e => (hp.mp e).2.2.1 q3)]
      · rw [if_neg q3, m_before, b2_some, if10]
        by_cases q4 : ((mF B 1058 323) + nI dl) - (f + w) < 0
        · rw [if_pos q4, if_pos (hp.mpr ⟨q1, q2, q3, q4⟩), pZ_ok hA (Or.inr rfl), ob_some, pF_ok (by rw [ok_sF]; exact hA), ob_some]
        · rw [if_neg q4, if_neg (fun e => q4 (hp.mp e).2.2.2)]
    · rw [if_neg q2, if_neg (fun e => q2 (hp.mp e).2.1)]
theorem m_L233 (fu : Nat) {B : Mm} (hR : RW B) {k : Nat} (hk : k < 16) : fX16_arrived_L233 fu 323 (some (342 + 4 * k)) B = fX16_arrived_L246 fu 323 (some (342 + 4 * k)) (if ((mF B 1060 323) &&& 1) = 0 then B else sF B 807 (342 + 4 * k) 1) := by
  unfold fX16_arrived_L233
  rw [rc_ok (rw_ok323 hR), ob_some, m_is fu hR, b2_some, if01]
  by_cases q1 : ((mF B 1060 323) &&& 1) = 0
  · rw [if_pos q1, if_pos q1]
  · rw [if_neg q1, if_neg q1, pZ_ok (rw_cnO hR k hk) (Or.inr rfl), ob_some]
/-- the class: the end, what is owed -/
theorem x_take (fu : Nat) {N : Mm} (hW : XW N) {c dl bd da dx w : Nat} {A : Mm} (hC : CnO N c) (hG : SG A N bd da dx dl w) (p : Prop) [Decidable p] (hp : p ↔ (¬ ((mF A 1060 323) &&& 1) = 0 ∧ (mF N 7 (c + 2)) = 0 ∧ ¬ ((mF A 1058 323) + nI dl) - (mF N 1 (c + 2)) < 0 ∧ ((mF A 1058 323) + nI dl) - ((mF N 1 (c + 2)) + ((4096 : Int32) - hldX N c)) < 0)) (hdl : dl < 2 ^ 30) :
    fX0_take fu (c + 2) (some 314) N = fX0_take_L63 fu (c + 2) (some 314) (if dl = 0 ∧ ((mF A 1060 323) &&& 1) = 0 then (if p then sF (sF N 7 (c + 2) 1) 9 (c + 2) ((mF A 1058 323) + nI dl) else N) else sF (if p then sF (sF N 7 (c + 2) 1) 9 (c + 2) ((mF A 1058 323) + nI dl) else N) 4 (c + 2) 1) := by
  have o3 := xw_ok314 hW
  have c7 := hC.2.2.2.2.2.2.1
  have n3 := ok_ne o3 c7 (by decide)
  have L43 : ∀ B, okA B 3 314 → okA B 0 (c + 2) → mF B 201 314 = nI dl → (∀ b, fX3_has fu 314 b B = some (if (mF N 198 314 &&& b) = 0 then 0 else 1, B)) → fX0_take_L43 fu (c + 2) (some 314) B = fX0_take_L63 fu (c + 2) (some 314) (if dl = 0 ∧ ((mF A 1060 323) &&& 1) = 0 then B else sF B 4 (c + 2) 1) := fun B h1 h2 h3 h4 => by
    unfold fX0_take_L43 fX0_take_L58
    rw [gI_ok h1, ob_some, h3]
    by_cases q : dl = 0
    · subst q
      rw [if_neg (by decide), rc_ok h1, ob_some, h4, b2_some, if01, ← fl_and (x := mF N 198 314) (b := 1) (by decide), ← hG.fl]
      by_cases q2 : ((mF A 1060 323) &&& 1) = 0
      · rw [if_pos q2, if_pos ⟨rfl, q2⟩]
      · rw [if_neg q2, if_neg (fun e => q2 e.2), pZ_ok h2 (Or.inr rfl), ob_some]
    · rw [if_pos (show (0 : Int32) < nI dl from nI_lt (a := 0) (by omega) (by omega)), if_neg (fun e => q e.1), pZ_ok h2 (Or.inr rfl), ob_some]
  have hh : ∀ b, fX3_has fu 314 b N = some (if (mF N 198 314 &&& b) = 0 then 0 else 1, N) := fun b => x_has fu hW b
  unfold fX0_take
  rw [gI_ok o3, ob_some, gI_ok o3, ob_some, rc_ok o3, ob_some, x_hasA fu hW hG 1 (by decide), b2_some, if01, ← hG.sq, hG.dlx]
  by_cases q1 : ((mF A 1060 323) &&& 1) = 0
  · rw [if_pos q1, if_neg (fun e : p => (hp.mp e).1 q1)]
    exact L43 N o3 c7 hG.dlx hh
  · rw [if_neg q1, gI_ok c7, ob_some]
    by_cases q2 : (mF N 7 (c + 2)) = 0
    · rw [if_pos q2, rc_ok c7, ob_some]
      unfold fX0_isInWindow
      rw [gI_ok c7, ob_some]
      by_cases q3 : ((mF A 1058 323) + nI dl) - (mF N 1 (c + 2)) < 0
      · rw [if_pos q3, rN0, b2_some, if_pos rfl, if_neg (fun e : p => (hp.mp e).2.2.1 q3)]
        exact L43 N o3 c7 hG.dlx hh
      · rw [if_neg q3, ob_some, rc_ok c7, ob_some, x_window c7, b2_some]
        by_cases q4 : ((mF A 1058 323) + nI dl) - ((mF N 1 (c + 2)) + ((4096 : Int32) - hldX N c)) < 0
        · rw [if_neg (Int32.not_le.mpr q4), rN1, b2_some, if_neg (by decide), pZ_ok c7 (Or.inr rfl), ob_some, pF_ok (by rw [ok_sF]; exact c7), ob_some, if_pos (hp.mpr ⟨q1, q2, q3, q4⟩)]
          refine L43 _ o3 c7 ?_ (fun b => ?_)
          · rw [mF_sF, if_neg (fun e => n3 e.2), mF_sF, if_neg (fun e => n3 e.2)]; exact hG.dlx
          · unfold fX3_has
            have e198 : mF (sF (sF N 7 (c + 2) 1) 9 (c + 2) ((mF A 1058 323) + nI dl)) 198 314 = mF N 198 314 := by rw [mF_sF, if_neg (fun e => n3 e.2), mF_sF, if_neg (fun e => n3 e.2)]
            rw [gI_ok (by rw [ok_sF, ok_sF]; exact o3), ob_some, e198]
            by_cases q : (mF N 198 314 &&& b) = 0
            · rw [if_pos q, if_pos q, rN0]
            · rw [if_neg q, if_neg q, rN1]
        · rw [if_pos (Int32.not_lt.mp q4), rN0, b2_some, if_pos rfl, if_neg (fun e : p => q4 (hp.mp e).2.2.2)]
          exact L43 N o3 c7 hG.dlx hh
    · rw [if_neg q2, if_neg (fun e : p => q2 (hp.mp e).2.1)]
      exact L43 N o3 c7 hG.dlx hh
/-- fields and rows of a connection alone are other -/
theorem TB_upd2 {KN KS t u T k c nw im ig : Nat} (h : TB A M KN KS t T im ig c nw) (hu : t + u ≤ 1000) (ba : Bd RM TM A') (bm : Bd RX TX M') (aS : mS A' = mS A) (aG : mG A' = mG A) (aB : mB A' = mB A) (aA : ∀ a, ¬ (343 + 4 * k ≤ a ∧ a ≤ 345 + 4 * k) → mA A' a = mA A a) (hk : k < 16) (aF : ∀ f a, ¬ (768 ≤ f ∧ f < 832 ∧ a = 342 + 4 * k) → mF A' f a = mF A f a) (xS : mS M' = mS M) (xG : mG M' = mG M) (xB : mB M' = mB M) (xA : ∀ a, a ≠ c + 1 → a ≠ c + 3 → a ≠ c + 4 → mA M' a = mA M a) (xF : ∀ f a, a ≠ c → a ≠ c + 2 → a ≠ c + 5 → mF M' f a = mF M f a) :
    TB A' M' KN KS (t + u) T im ig c nw ∧ FCA k A A' ∧ FCM c M M' := by
  have hJ := h.jl
  have fA : FCA k A A' := ⟨aS, aG, aB, fun f a n => aF f a (fun e => n (by unfold PCa; omega)), fun a n => aA a (fun e => n (by unfold QCa; omega)), by rw [aF 1049 323 (by omega)]; exact Int32.le_refl _⟩
  have fM : FCM c M M' := ⟨by rw [xS]; exact Nat.le_refl _, fun a _ => by rw [xS]; exact ⟨rfl, rfl⟩, fun f a _ _ => by rw [xG], fun a _ _ => by rw [xB], fun f a _ n => xF f a (fun e => n (by unfold PCx; omega)) (fun e => n (by unfold PCx; omega)) (fun e => n (by unfold PCx; omega)), fun a _ n => xA a (fun e => n (by unfold QCx; omega)) (fun e => n (by unfold QCx; omega)) (fun e => n (by unfold QCx; omega))⟩
  have n5 : ∀ x, x = c + 1 ∨ x = c + 3 ∨ x = c + 4 → x ≠ 305 := fun x hx e => by
    obtain ⟨c1, c2, c3, c4, c5, c6, c7, c8, c9, c10, c11, c12, c13, c14⟩ := h.cn
    have y1 := ok_ne c5 (xw_ok305 h.xw) (by decide)
    have y2 := ok_ne c10 (xw_ok305 h.xw) (by decide)
    have y3 := ok_ne c10 (xw_ok304 h.xw) (by decide)
    omega
  refine ⟨TB_fc (k := k) h (JL0_mono hu (JL0_cn hJ h.cn aS aG aB (fun g a hh => aF g a (fun e => by unfold JLf at hh; omega)) (fun a hh => aA a (by omega)) xS xG xB (fun g a h1 h2 h3 _ => xF g a h1 h2 h3) (fun a h1 h2 h3 _ _ _ _ => xA a h1 h2 h3))) ba bm ?_ fA fM, fA, fM⟩
  intro i hi
  rw [aA 330 (by omega), xA 305 (fun e => n5 _ (Or.inl rfl) e.symm) (fun e => n5 _ (Or.inr (Or.inl rfl)) e.symm) (fun e => n5 _ (Or.inr (Or.inr rfl)) e.symm)]
  exact h.jn i hi
end Come2
