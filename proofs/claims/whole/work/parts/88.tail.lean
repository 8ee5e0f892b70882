/-! ===== part 88: a datagram that becomes whole ===== -/
def PD (f a : Nat) : Prop := (832 ≤ f ∧ f < 896) ∨ f = 1049 ∨ f = 1054
def QD (a : Nat) : Prop := (438 ≤ a ∧ a < 450) ∨ a = 338 ∨ a = 330
def PDx (t f a : Nat) : Prop := t = 2 ∨ (192 ≤ f ∧ f < 256)
def GDx (f a : Nat) : Prop := f = 192
def BDx (a : Nat) : Prop := a = 316
def QDx (u t s a : Nat) : Prop := t = 2 ∨ (u = 2 ∧ s = 101) ∨ a = 305
/-- datagrams, and what was put together, may be other; not the count of connections -/
def FD (A A' : Mm) : Prop := mS A' = mS A ∧ mG A' = mG A ∧ mB A' = mB A ∧ (∀ f a, ¬ PD f a → mF A' f a = mF A f a) ∧ (∀ a, ¬ QD a → mA A' a = mA A a) ∧ mA A' 330 5 = mA A 330 5
theorem FD.rf {A : Mm} : FD A A := ⟨rfl, rfl, rfl, fun _ _ _ => rfl, fun _ _ => rfl, rfl⟩
theorem FD.tr {A A' A'' : Mm} (h : FD A A') (g : FD A' A'') : FD A A'' := by
  obtain ⟨a1, a2, a3, a4, a5, a6⟩ := h
  obtain ⟨b1, b2, b3, b4, b5, b6⟩ := g
  exact ⟨b1.trans a1, b2.trans a2, b3.trans a3, fun f a h => (b4 f a h).trans (a4 f a h), fun a h => (b5 a h).trans (a5 a h), b6.trans a6⟩
/-- all that holds again after something was done with fragments -/
def Kept (KN KS t T : Nat) (A M A' M' : Mm) : Prop := JL0 KN KS t T A' M' ∧ JD A' M' ∧ JN A' M' ∧ Bd RM TM A' ∧ Bd RX TX M' ∧ FD A A' ∧ FM PDx GDx BDx QDx M M'
theorem Bd_wA {R T : Nat → Prop} {A : Mm} {a : Nat} {g : Nat → Int32} (h : Bd R T A) (hg : sTy (mS A) a = 100 → ∀ j, isB (g j)) : Bd R T (wA A a g) := ⟨h.1, h.2.1, h.2.2.1, h.2.2.2.1, By_wA h.2.2.2.2 hg⟩
section Tail
variable {A M : Mm}
theorem Kept.tr {KN KS t T t' T' : Nat} {A1 M1 A2 M2 : Mm} (h : Kept KN KS t T A M A1 M1) (g : Kept KN KS t' T' A1 M1 A2 M2) : Kept KN KS t' T' A M A2 M2 := by
  obtain ⟨-, -, -, -, -, a1, a2⟩ := h
  obtain ⟨b1, b2, b3, b4, b5, b6, b7⟩ := g
  exact ⟨b1, b2, b3, b4, b5, a1.tr b6, a2.tr b7⟩
/-- the result of a fragment, in both -/
def FragR (fu KN KS t T d : Nat) (x p : Int32) (A M : Mm) (ra : Option Mm) (rx : Option (Int32 × Mm)) : Prop :=
  (∃ A' M', ra = some A' ∧ rx = some (0, M') ∧ Kept KN KS t T A M A' M') ∨
  (∃ A' M' e, e ≤ 4096 ∧ ra = (fX16_taken fu 323 p (nI e) A').bind (fun M5 => some M5) ∧ rx = some (1, M') ∧ Kept KN KS t T A M A' M' ∧ (mG M' 192 314) = some (d + 1) ∧ (mF M' 202 314) = nI 0 ∧ (mF M' 203 314) = nI e ∧ okA M' 100 (d + 1) ∧ sLen (mS M') (d + 1) = 4096 ∧ (∀ j, j < e → mA A' 338 j = mA M' (d + 1) j) ∧ (mF A' 1054 323) = x ∧ sTy (mS M') d = 2 ∧ (mF M' 193 314) = (mF M 193 314) ∧ (mF M' 204 314) = (mF M 204 314))
/-- a datagram is dropped, in both -/
theorem Kept_drop {KN KS t T n nw i : Nat} {s τ : Nat → Nat} (hJ : JL0 KN KS t T A M) (hD : JDa n nw s τ A M) (hi : i < n) (hN : JN A M) (hBA : Bd RM TM A) (hBM : Bd RX TX (sF (wB M 316 (rotg (mB M 316) i n)) 208 314 (nI (n - 1)))) : Kept KN KS t T A M (sF A 832 (438 + 3 * s i) 0) (sF (wB M 316 (rotg (mB M 316) i n)) 208 314 (nI (n - 1))) := by
  have hD' := JDa_drop hi hD
  have hJ0 := hJ
  obtain ⟨hR, hW, hS, hX, -⟩ := hJ0
  obtain ⟨-, -, -, -, -, -, -, a8, -⟩ := hD
  have hB : ∀ a, a ≠ 316 → mB (sF (wB M 316 (rotg (mB M 316) i n)) 208 314 (nI (n - 1))) a = mB M a := fun a h => mB_wB_ne h
  have hB3 : mB (sF (wB M 316 (rotg (mB M 316) i n)) 208 314 (nI (n - 1))) 316 = rotg (mB M 316) i n := mB_wB_self
  have hF : ∀ f a, f ≠ 208 → mF (sF (wB M 316 (rotg (mB M 316) i n)) 208 314 (nI (n - 1))) f a = mF M f a := fun f a h => by rw [mF_sF, if_neg (fun e => h e.1)]; rfl
  have hFA : ∀ f a, f ≠ 832 → mF (sF A 832 (438 + 3 * s i) 0) f a = mF A f a := fun f a h => by rw [mF_sF, if_neg (fun e => h e.1)]
  have hW' : XW (sF (wB M 316 (rotg (mB M 316) i n)) 208 314 (nI (n - 1))) := by
    have := hW
    unfold XW okA at this ⊢
    exact this
  refine ⟨?_, ⟨_, _, _, _, hD'⟩, hN, hBA, hBM, ⟨rfl, rfl, rfl, fun f a h => hFA f a (fun e => h (by unfold PD; omega)), fun _ _ => rfl, rfl⟩, ⟨Nat.le_refl _, fun _ _ => ⟨rfl, rfl⟩, fun _ _ _ _ => rfl, fun a _ h => hB a h, fun f a _ h => hF f a (fun e => h (by unfold PDx; omega)), fun _ _ _ => rfl⟩⟩
  refine JL0_keep (u := 0) hJ (by have := hJ.2.2.2.2.2.2.2; obtain ⟨_, _, _, _, _, q, -⟩ := this; omega) hR hW' (XS_same (M := M) rfl rfl hS) (XRR_rot316 hi (fun j hj e => by obtain ⟨q, e1, -⟩ := a8 j hj; rw [e] at e1; cases e1) hB hB3 rfl hX) (fun f a h => hFA f a (by unfold JLf at h; omega)) (fun O e => ⟨O, (hFA _ _ (by decide)).trans e, Nat.le_refl _, by omega⟩) (fun _ _ => rfl) (fun f h1 h2 => hF f _ (by omega)) (fun f h1 h2 => hF f _ (by omega)) (fun p hp => ⟨fun f h1 h2 => hF f _ (by omega), rfl⟩) (fun _ _ _ => rfl) (hB 306 (by decide)) (hB 313 (by decide))
theorem dg_tail (fu : Nat) (hf : 4200 ≤ fu) {KN KS t T n nw i d o at' sz m : Nat} {s τ : Nat → Nat} (hJ : JL0 KN KS t T A M) (hD : JDa n nw s τ A M) (hi : i < n) (hd : mB M 316 i = some d) (hN : JN A M) (hBA : Bd RM TM A) (hBM : Bd RX TX M) (x p : Int32) :
    FragR fu KN KS t T d x p A M (fX16_fragment_L306 fu (m + 1) 323 x p (nI o) (nI at') (nI sz) (some (438 + 3 * s i)) (nI sz) A) (fX3_gather_L157 fu 314 (nI i) (some d) M) := by
  have hJ0 := hJ
  obtain ⟨hR, hW, hS, hX, -⟩ := hJ0
  have hD0 := hD
  obtain ⟨a1, a2, a3, a4, a5, a6, a7, a8, a9, a10, a11⟩ := hD0
  have hX' := hX
  obtain ⟨nr, nww, nd, nc, -, -, -, -, r1, r2, r3, r4, -⟩ := hX'
  obtain ⟨d', hd', hD1⟩ := a8 i hi
  rw [hd] at hd'
  cases hd'
  have hOd := (rowN_at r3 hd).2
  obtain ⟨g1, g2, o1, l1, o2, l2⟩ := hS.2.1 d hOd
  obtain ⟨-, -, -, d4, -, -, -, -, d9, d10, d11, r, r1', r2', dE⟩ := hD1
  have hsi := a4 i hi
  have K0 : Kept KN KS t T A M A M := ⟨hJ, ⟨n, nw, s, τ, hD⟩, hN, hBA, hBM, FD.rf, FM.rf⟩
  rw [fX16_fragment_L306, if_pos (Int32.le_refl _), gI_ok (rw_dgO hR _ hsi), ob_some, d4]
  have hgt := hf
  unfold fX3_gather_L157 fX2_isWhole
  rw [rc_ok hOd, ob_some, gI_ok hOd, ob_some]
  rcases dE with ⟨e1, -, -⟩ | ⟨e, e0, e1, e2⟩
  · left
    rw [e1, if_neg (by decide), if_pos (by decide), rN0, b2_some, if_pos rfl, rN0]
    exact ⟨A, M, rfl, rfl, K0⟩
  · have e31 : e < 2 ^ 31 := by omega
    rw [e1, if_pos (nI_0le e31), if_neg (nI_pos e31), gI_ok hOd, ob_some, ob_some, d11]
    have hend : (mF A 836 (438 + 3 * (s i))) = nI e := d4.trans e1
    have hc : cnt (bitOf (mA M (d + 2))) 4096 = cnt (bitOf (mA M (d + 2))) e := cnt_ext 4096 e0 e2
    have hcl := cnt_le (bitOf (mA M (d + 2))) e
    rw [hc]
    by_cases call : ∀ j, j < e → bitOf (mA M (d + 2)) j = true
    · right
      have hce : cnt (bitOf (mA M (d + 2))) e = e := (cnt_all e).mpr call
      rw [hce, if_pos rfl, rN1, b2_some, if_neg (by decide)]
      have hdr := x_dropDatagram hW (fu := fu) a2 a1.1 hi (fun j hj => by
        obtain ⟨q', e1, -⟩ := a8 j hj
        exact ⟨q', e1, (rowN_at r3 e1).2⟩) (by omega)
      have hBd : Bd RX TX (sF (wB M 316 (rotg (mB M 316) i n)) 208 314 (nI (n - 1))) := (oX3_dropDatagram fu 314 (nI i) M hBM (by unfold RX; omega) hdr).2
      obtain ⟨k1, k2, k3, k4, k5, k6, k7⟩ := Kept_drop hJ hD hi hN hBA hBd
      have hFx : ∀ f a, f ≠ 208 → mF (sF (wB M 316 (rotg (mB M 316) i n)) 208 314 (nI (n - 1))) f a = mF M f a := fun f a h => by rw [mF_sF, if_neg (fun e => h e.1)]; rfl
      have hAx : mA (sF (wB M 316 (rotg (mB M 316) i n)) 208 314 (nI (n - 1))) = mA M := rfl
      have hGx : mG (sF (wB M 316 (rotg (mB M 316) i n)) 208 314 (nI (n - 1))) = mG M := rfl
      have hSx : mS (sF (wB M 316 (rotg (mB M 316) i n)) 208 314 (nI (n - 1))) = mS M := rfl
      have hOx : ∀ t a, okA M t a → okA (sF (wB M 316 (rotg (mB M 316) i n)) 208 314 (nI (n - 1))) t a := fun t a h => h
      generalize sF (wB M 316 (rotg (mB M 316) i n)) 208 314 (nI (n - 1)) = M5 at hdr hBd k1 k2 k3 k4 k5 k6 k7 hFx hAx hGx hSx hOx
      have hW5 := k1.2.1
      have ga : gA M5 101 (some 305) (1 : Int32) = some (mA M 305 1) := by rw [← hAx]; exact gA_ok (i := 1) (xw_ok305 hW5) (by rw [xw_ln305 hW5]; decide) (by decide)
      have pa : pA M5 101 (some 305) (1 : Int32) (mA M 305 1 + (1 : Int32)) = some (wA M5 305 (fun j => if j = 1 then mA M 305 1 + 1 else mA M 305 j)) := by rw [← hAx]; exact pA_ok (i := 1) (xw_ok305 hW5) (by rw [xw_ln305 hW5]; decide) (by decide)
      have hW6 : ∀ g, XW (wA M5 305 g) := fun g => hW5
      rw [rc_ok (xw_ok314 hW), ob_some, hdr, ob_some, gR_ok (xw_ok314 hW5), ob_some, xw_g205_314 hW5, gR_ok (xw_ok304 hW5), ob_some, xw_g640_304 hW5, ga, ob_some, pa, ob_some, gR_ok (by rw [ok_wA]; exact hOx _ _ hOd), ob_some, mG_wA, hGx, g1, pG_ok (xw_ok314 (hW6 _)), ob_some, pF_ok (by rw [ok_sG]; exact xw_ok314 (hW6 _)), ob_some, gI_ok (by rw [ok_sF, ok_sG, ok_wA]; exact hOx _ _ hOd), ob_some]
      have eend : mF (sF (sG (wA M5 305 (fun j => if j = 1 then mA M 305 1 + 1 else mA M 305 j)) 192 314 (some (d + 1))) 202 314 0) 133 d = nI e := by
        rw [mF_sF, if_neg (by omega)]
        exact (hFx 133 d (by decide)).trans e1
      rw [eend, pF_ok (by rw [ok_sF, ok_sG]; exact xw_ok314 (hW6 _)), ob_some, rN1]
      have hm := m_frag_whole hR (fu := fu) (by omega) hsi e0 hend (fun j hj => by rw [d9 j (by omega), call j hj]; decide) x p
      have hmc := m_frag_copy (A := wA (sF A 832 (438 + 3 * s i) 0) 330 (fun j => if j = 1 then mA A 330 1 + 1 else mA A 330 j)) (fu := fu) (k := s i) (e := e) hR (By_wA (By_sF hBA.2.2.2.2) (fun q => absurd ((rw_ok330 hR).2.2.symm.trans q) (by decide))) (by omega) hsi e0 (by rw [mF_wA, mF_sF, if_neg (by omega)]; exact hend) x p
      refine ⟨_, _, e, e0, hm.trans hmc, rfl, ?_, ?_, ?_, ?_, ?_, ?_, ?_, ?_, ?_, ?_, ?_⟩
      · have c331 : mA (wA (sF A 832 (438 + 3 * s i) 0) 330 (fun j => if j = 1 then mA A 330 1 + 1 else mA A 330 j)) 338 = mA A 338 := mA_wA_ne (by decide)
        have aF : ∀ f a, f ≠ 1054 → mF (sF (wA (wA (sF A 832 (438 + 3 * s i) 0) 330 (fun j => if j = 1 then mA A 330 1 + 1 else mA A 330 j)) 338 (fun j => if j < e then mA (wA (sF A 832 (438 + 3 * s i) 0) 330 (fun j => if j = 1 then mA A 330 1 + 1 else mA A 330 j)) (439 + 3 * s i) j else mA (wA (sF A 832 (438 + 3 * s i) 0) 330 (fun j => if j = 1 then mA A 330 1 + 1 else mA A 330 j)) 338 j)) 1054 323 x) f a = mF (sF A 832 (438 + 3 * s i) 0) f a := fun f a h => by
          rw [mF_sF, if_neg (fun q => h q.1)]; rfl
        have aA : ∀ a, a ≠ 330 → a ≠ 338 → mA (sF (wA (wA (sF A 832 (438 + 3 * s i) 0) 330 (fun j => if j = 1 then mA A 330 1 + 1 else mA A 330 j)) 338 (fun j => if j < e then mA (wA (sF A 832 (438 + 3 * s i) 0) 330 (fun j => if j = 1 then mA A 330 1 + 1 else mA A 330 j)) (439 + 3 * s i) j else mA (wA (sF A 832 (438 + 3 * s i) 0) 330 (fun j => if j = 1 then mA A 330 1 + 1 else mA A 330 j)) 338 j)) 1054 323 x) a = mA A a := fun a h1 h2 => (mA_wA_ne h2).trans (mA_wA_ne h1)
        have mF' : ∀ f a, f ≠ 202 → f ≠ 203 → mF (sF (sF (sG (wA M5 305 (fun j => if j = 1 then mA M 305 1 + 1 else mA M 305 j)) 192 314 (some (d + 1))) 202 314 0) 203 314 (nI e)) f a = mF M5 f a := fun f a h1 h2 => by
          rw [mF_sF, if_neg (fun q => h2 q.1), mF_sF, if_neg (fun q => h1 q.1)]; rfl
        have mA' : ∀ a, a ≠ 305 → mA (sF (sF (sG (wA M5 305 (fun j => if j = 1 then mA M 305 1 + 1 else mA M 305 j)) 192 314 (some (d + 1))) 202 314 0) 203 314 (nI e)) a = mA M5 a := fun a h => mA_wA_ne h
        have mG' : ∀ f a, ¬ varG f → mG (sF (sF (sG (wA M5 305 (fun j => if j = 1 then mA M 305 1 + 1 else mA M 305 j)) 192 314 (some (d + 1))) 202 314 0) 203 314 (nI e)) f a = mG M5 f a := fun f a h => by
          show mG (sG (wA M5 305 (fun j => if j = 1 then mA M 305 1 + 1 else mA M 305 j)) 192 314 (some (d + 1))) f a = _
          rw [mG_sG, if_neg (fun q => h (Or.inl q.1))]; rfl
        have p305 : ∀ q, okA M5 6 q → q + 1 ≠ 305 := fun q hq e => by
          obtain rfl : q = 304 := by omega
          exact absurd (hq.2.2.symm.trans (xw_ok304 hW5).2.2) (by decide)
        refine ⟨?_, ?_, ?_, ?_, ?_, k6.tr ⟨rfl, rfl, rfl, fun f a h => aF f a (fun e => h (by unfold PD; omega)), fun a h => aA a (fun e => h (by unfold QD; omega)) (fun e => h (by unfold QD; omega)), by show mA (wA (wA (sF A 832 (438 + 3 * s i) 0) 330 (fun j => if j = 1 then mA A 330 1 + 1 else mA A 330 j)) 338 _) 330 5 = mA A 330 5; rw [mA_wA_ne (by decide), mA_wA_self]; exact if_neg (by decide)⟩, k7.tr ⟨Nat.le_refl _, fun _ _ => ⟨rfl, rfl⟩, fun f a _ h => by
          show mG (sG (wA M5 305 (fun j => if j = 1 then mA M 305 1 + 1 else mA M 305 j)) 192 314 (some (d + 1))) f a = _
          rw [mG_sG, if_neg (fun q => h q.1)]; rfl, fun _ _ _ => rfl, fun f a _ h => mF' f a (fun e => h (by unfold PDx; omega)) (fun e => h (by unfold PDx; omega)), fun a _ h => mA' a (fun e => h (by unfold QDx; omega))⟩⟩
        · refine JL0_keep (u := 0) k1 (by obtain ⟨_, _, _, _, _, q, -⟩ := k1.2.2.2.2.2.2.2; omega) hR (XW_of2 k5.2.2.2.1 (Nat.le_refl _) (fun _ _ => ⟨rfl, rfl⟩) (fun f a _ h => mG' f a h) hW5) (XS_of2 (M := M5) rfl mG' k1.2.2.1) (XRR_same (M := M5) rfl rfl k1.2.2.2.1) (fun f a h => aF f a (by unfold JLf at h; omega)) (fun O e => ⟨O, (aF _ _ (by decide)).trans e, Nat.le_refl _, by omega⟩) (fun a h => aA a (by omega) (by omega)) (fun f h1 h2 => mF' f _ (by omega) (by omega)) (fun f h1 h2 => mF' f _ (by omega) (by omega)) (fun q hq => ⟨fun f h1 h2 => mF' f _ (by omega) (by omega), mA' _ (p305 q hq)⟩) (fun a h1 h2 => mA' a (by omega)) rfl rfl
        · obtain ⟨n', nw', s', τ', k2'⟩ := k2
          refine ⟨n', nw', s', τ', JDa_congr (fun f a h1 h2 => aF f a (by omega)) (aF _ _ (by decide)) (by rw [aF 1049 323 (by decide)]; exact Int32.le_refl _) (fun a h1 h2 => aA a (by omega) (by omega)) (mF' _ _ (by decide) (by decide)) rfl (fun j d' hj e' => ⟨fun f h1 h2 => mF' f _ (by omega) (by omega), mA' _ (fun q => ?_), mA' _ (fun q => ?_)⟩) k2'⟩
          · obtain ⟨_, _, nd', _, _, _, _, _, _, _, r3', _⟩ := k1.2.2.2.1
            have := (rowN_at r3' e').2.2.2
            obtain rfl : d' = 304 := by omega
            exact absurd (this.symm.trans (xw_ok304 hW5).2.2) (by decide)
          · obtain ⟨_, _, nd', _, _, _, _, _, _, _, r3', _⟩ := k1.2.2.2.1
            have := (rowN_at r3' e').2.2.2
            obtain rfl : d' = 303 := by omega
            exact absurd (this.symm.trans (xw_ok303 hW5).2.2) (by decide)
        · intro j hj
          have e3 : mA (sF (wA (wA (sF A 832 (438 + 3 * s i) 0) 330 (fun j => if j = 1 then mA A 330 1 + 1 else mA A 330 j)) 338 (fun j => if j < e then mA (wA (sF A 832 (438 + 3 * s i) 0) 330 (fun j => if j = 1 then mA A 330 1 + 1 else mA A 330 j)) (439 + 3 * s i) j else mA (wA (sF A 832 (438 + 3 * s i) 0) 330 (fun j => if j = 1 then mA A 330 1 + 1 else mA A 330 j)) 338 j)) 1054 323 x) 330 = (fun j => if j = 1 then mA A 330 1 + 1 else mA A 330 j) := (mA_wA_ne (by decide)).trans (mA_wA_self _ _ _)
          have e4 : mA (sF (sF (sG (wA M5 305 (fun j => if j = 1 then mA M 305 1 + 1 else mA M 305 j)) 192 314 (some (d + 1))) 202 314 0) 203 314 (nI e)) 305 = (fun j => if j = 1 then mA M 305 1 + 1 else mA M 305 j) := mA_wA_self _ _ _
          rw [e3, e4]
          show (if j = 1 then mA A 330 1 + 1 else mA A 330 j) = (if j = 1 then mA M 305 1 + 1 else mA M 305 j)
          rw [hN 1 (by decide), hN j hj]
        · refine Bd_wA (A := wA (sF A 832 (438 + 3 * s i) 0) 330 (fun j => if j = 1 then mA A 330 1 + 1 else mA A 330 j)) (Bd_wA (A := sF A 832 (438 + 3 * s i) 0) hBA (fun q => absurd ((rw_ok330 hR).2.2.symm.trans q) (by decide))) (fun _ j => ?_)
          have e5 : ∀ a, a ≠ 330 → mA (wA (sF A 832 (438 + 3 * s i) 0) 330 (fun j => if j = 1 then mA A 330 1 + 1 else mA A 330 j)) a = mA A a := fun a h => mA_wA_ne h
          rw [e5 _ (by omega), e5 _ (by decide)]
          split
          · exact hBA.2.2.2.2 _ _ (rw_dgY hR _ hsi).2.2
          · exact hBA.2.2.2.2 _ _ (rw_ok338 hR).2.2
        · have hb1 : Bd RX TX (wA M5 305 (fun j => if j = 1 then mA M 305 1 + 1 else mA M 305 j)) := Bd_wA hBd (fun q => absurd ((xw_ok305 hW5).2.2.symm.trans q) (by decide))
          exact (pG_own (c := 3) (f := 192) (o := some 314) hb1 (by unfold TX; omega) (inR_some (hBd.2.1 128 d (d + 1) (hBd.1 d 2 (hOx _ _ hOd) (by unfold TX; omega)) (by rw [hGx]; exact g1))) (pG_ok (xw_ok314 (hW6 _)))).2
      · show mG (sG (wA M5 305 (fun j => if j = 1 then mA M 305 1 + 1 else mA M 305 j)) 192 314 (some (d + 1))) 192 314 = _
        rw [mG_sG, if_pos ⟨rfl, rfl⟩]
      · rw [mF_sF, if_neg (by decide), mF_sF, if_pos ⟨rfl, rfl⟩]; rfl
      · rw [mF_sF, if_pos ⟨rfl, rfl⟩]
      · exact hOx _ _ o1
      · show sLen (mS M5) (d + 1) = 4096
        rw [hSx]; exact l1
      · intro j hj
        have e6 : d + 1 ≠ 305 := fun q => by
          obtain rfl : d = 304 := by omega
          exact absurd (hOd.2.2.symm.trans (xw_ok304 hW).2.2) (by decide)
        have e7 : mA (sF (wA (wA (sF A 832 (438 + 3 * s i) 0) 330 (fun j => if j = 1 then mA A 330 1 + 1 else mA A 330 j)) 338 (fun j => if j < e then mA (wA (sF A 832 (438 + 3 * s i) 0) 330 (fun j => if j = 1 then mA A 330 1 + 1 else mA A 330 j)) (439 + 3 * s i) j else mA (wA (sF A 832 (438 + 3 * s i) 0) 330 (fun j => if j = 1 then mA A 330 1 + 1 else mA A 330 j)) 338 j)) 1054 323 x) 338 j = mA A (439 + 3 * s i) j := by
          show mA (wA (wA (sF A 832 (438 + 3 * s i) 0) 330 _) 338 _) 338 j = _
          rw [mA_wA_self, if_pos hj]
          exact congrFun (mA_wA_ne (by omega)) j
        have e8 : mA (sF (sF (sG (wA M5 305 (fun j => if j = 1 then mA M 305 1 + 1 else mA M 305 j)) 192 314 (some (d + 1))) 202 314 0) 203 314 (nI e)) (d + 1) = mA M (d + 1) := (mA_wA_ne e6).trans (by rw [hAx])
        rw [e7, e8]
        exact d10 j (by omega) (call j hj)
      · rw [mF_sF, if_pos ⟨rfl, rfl⟩]
      · exact (hOx _ _ hOd).2.2
      · rw [mF_sF, if_neg (by decide), mF_sF, if_neg (by decide)]
        exact hFx 193 314 (by decide)
      · rw [mF_sF, if_neg (by decide), mF_sF, if_neg (by decide)]
        exact hFx 204 314 (by decide)
    · left
      obtain ⟨j, hj⟩ := Classical.not_forall.mp call
      obtain ⟨hj1, hj2⟩ := Classical.not_imp.mp hj
      have hne : ¬ nI (cnt (bitOf (mA M (d + 2))) e) = nI e := fun q => call ((cnt_all e).mp ((nI_eq (by omega) e31).mp q))
      rw [if_neg hne, rN0, b2_some, if_pos rfl, rN0]
      exact ⟨A, M, m_frag_hole hR (by omega) hsi e0 hend ⟨j, hj1, by rw [d9 j (by omega), Bool.eq_false_iff.mpr hj2]; rfl⟩ x p, rfl, K0⟩
end Tail
