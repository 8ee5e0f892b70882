/-! ===== part 9z2: feed, when booted ===== -/
section FeedJ
variable {A M X : Mm} {KN KS t T im ig F ek ty nw : Nat}
theorem trM_F {y f a : Nat} {g : Nat → Int32} (h : ¬ (f = 1025 ∧ a = 323)) : mF (trM A y g) f a = mF A f a := by
  unfold trM
  rw [mF_sF, if_neg h]
  rfl
theorem trM_A {y a : Nat} {g : Nat → Int32} (h : a ≠ 324) : mA (trM A y g) a = mA A a := by
  unfold trM
  rw [mA_sF, mA_wA_ne h]
/-- another tray, in both -/
theorem JJ_feed {tr y KN' KS' : Nat} {M' : Mm} {g : Nat → Int32} (h : JJ A M KN KS t T im ig F ek ty nw) (k1 : KN ≤ KN') (k2 : KS ≤ KS') (hR : TrQ tr M M') (n1 : Nw100 M M') (hX : XRR KN' KS' M') (bm : Bd RX TX M') (ba : Bd RM TM (trM A y g)) (t1 : tr ≠ ig ∧ tr ≠ ek ∧ tr ≠ 308) (t2 : ∀ a, a + 1 = tr → sTy (mS M) a ≠ 6 ∧ sTy (mS M) a ≠ 2 ∧ sTy (mS M) a ≠ 1 ∧ sTy (mS M) a ≠ 0) (t3 : ∀ a, okA M 101 a → a ≠ tr) (f1 : mF M' 513 301 = mF M 513 301) (g1 : mG M' 512 301 = mG M 512 301) (g2 : mG M' 514 301 = mG M 514 301) (ts : TS y im ig ek (trM A y g) M') : JJ (trM A y g) M' KN' KS' t T im ig F ek y nw := by
  have hW := h.xw
  have n450 : 450 ≤ sN (mS M) := h.bm.2.2.2.1
  have hX' := hX
  obtain ⟨_, _, _, _, -, -, -, -, -, -, -, -, -, -, -, x1, x2, -⟩ := hX'
  have hK := JJ_K h k1 k2 x1 x2
  have hRA : RW (trM A y g) := h.rw'
  have mf : ∀ f a, a < sN (mS M) → f < 512 ∨ (a ≠ 300 ∧ a ≠ 301) → mF M' f a = mF M f a := fun f a ha q => (hR.2 a ha).2.2.1 f (by omega) (by omega)
  have ma : ∀ a, a < sN (mS M) → a ≠ tr → mA M' a = mA M a := fun a ha q => (hR.2 a ha).2.2.2.2.1 q
  have mb : ∀ a, a < sN (mS M) → mB M' a = mB M a := fun a ha => (hR.2 a ha).2.2.2.2.2
  have nx : ∀ a x, okA M x a → (x = 6 ∨ x = 2 ∨ x = 1 ∨ x = 0) → a + 1 ≠ tr := fun a x o hx e => by
    obtain ⟨z1, z2, z3, z4⟩ := t2 a e
    have := o.2.2
    omega
  have lt := fun {x a : Nat} (o : okA M x a) => o.2.1
  obtain ⟨_, _, _, _, -, -, -, -, -, -, r316, -⟩ := h.xr
  refine JJ_gen00 (u := 0) hK ?_ ba bm ?_ ?_ (fun f k hk h1 h2 => trM_F (by omega)) (fun a h1 h2 => trM_A (by omega)) (fun a h1 h2 => trM_A (by omega)) (fun f hf => trM_F (by omega)) (by rw [trM_A (by decide)]) (fun x a ha => ⟨hR.ok ha, (hR.2 a ha.2.1).2.1⟩) (fun a ha => (hR.2 a ha).1) (mb 318 (by omega)) (fun c hC => ?_) ⟨g2, f1⟩ ?_ ?_ ts
  · exact JL0_keep (u := 0) hK.jl hK.t1000 hRA (XW_tr hR hW n450) (XS_tr hR n1 hW h.xs) hX (fun f a hf => trM_F (by unfold JLf at hf; omega)) (fun O e => ⟨O, (trM_F (by omega)).trans e, Nat.le_refl _, Nat.le_refl _⟩) (fun a ha => trM_A (by omega)) (fun f h1 h2 => mf f 307 (by omega) (by omega)) (fun f h1 h2 => mf f 304 (by omega) (by omega)) (fun p hp => ⟨fun f h1 h2 => mf f p (lt hp) (by omega), ma _ (lt (h.xs.1 p hp).2.1) (nx p 6 hp (by omega))⟩) (fun a h1 h2 => ma a (by omega) (t3 a (by
      rcases (by omega : a = 309 ∨ a = 310 ∨ a = 311 ∨ a = 312) with e | e | e | e <;> rw [e]
      · exact xw_ok309 hW
      · exact xw_ok310 hW
      · exact xw_ok311 hW
      · exact xw_ok312 hW))) (mb 306 (by omega)) (mb 313 (by omega))
  · intro j hj
    rw [trM_A (by decide), ma 305 (by omega) (t3 305 (xw_ok305 hW))]
    exact h.jn j hj
  · obtain ⟨n, nw1, s, τ, hD⟩ := h.jd
    refine ⟨n, nw1, s, τ, JDa_congr (A := A) (M := M) (fun f a h1 h2 => trM_F (by omega)) (trM_F (by omega)) (by rw [trM_F (by omega)]; exact Int32.le_refl _) (fun a h1 h2 => trM_A (by omega)) (mf _ 314 (by omega) (by omega)) (mb 316 (by omega)) (fun j d _ hd => ?_) hD⟩
    have od := (rowN_at r316 hd).2
    obtain ⟨-, -, d1, -, d2, -⟩ := h.xs.2.1 d od
    exact ⟨fun f h1 h2 => mf f d (lt od) (by omega), ma _ (lt d1) (nx d 2 od (by omega)), ma _ (lt d2) (t3 _ d2)⟩
  · obtain ⟨c1, -, -, -, c5, -, c7, -, -, c10, -, c12, -, c14⟩ := hC
    refine ⟨fun f o ho hf => mf f o ?_ (by omega), ma _ (lt c5) (nx c 1 c1 (by omega)), ma _ (lt c10) (nx (c + 2) 0 c7 (by omega)), ma _ (lt c12) (t3 _ c12)⟩
    rcases ho with e | e | e <;> rw [e]
    · exact lt c1
    · exact lt c7
    · exact lt c14
  · exact ma ek (lt h.fi.oe) (Ne.symm t1.2.1)
  · obtain ⟨z1, z2, z3, z4, z5, z6, z7, z8, z9, z10, z11, z12⟩ := h.ji
    have y1 := (hR.2 (ig - 1) (by have := z2.2.1; omega)).1
    exact ⟨by rw [g1]; exact z1, hR.ok z2, by rw [(hR.2 ig z2.2.1).2.1]; exact z3, z4, by rw [trM_A (by decide), ma ig z2.2.1 (Ne.symm t1.1)]; exact z5, z6, by rw [y1]; exact z7, by rw [y1]; exact z8, by rw [y1]; exact z9, by rw [y1]; exact z10, z11, z12⟩
/-- the cell before a new one -/
theorem last_ty (hS : XS M) (h0 : Lst0 M) {a : Nat} (ha : a + 1 = sN (mS M)) (h3 : 300 ≤ a) : sTy (mS M) a ≠ 6 ∧ sTy (mS M) a ≠ 2 ∧ sTy (mS M) a ≠ 1 ∧ sTy (mS M) a ≠ 0 := by
  have ok : ∀ x, sTy (mS M) a = x → okA M x a := fun x e => ⟨h3, by omega, e⟩
  refine ⟨fun e => ?_, fun e => ?_, fun e => ?_, fun e => ?_⟩
  · have := (hS.1 a (ok _ e)).2.1.2.1
    omega
  · have := (hS.2.1 a (ok _ e)).2.2.1.2.1
    omega
  · have := (hS.2.2 a (ok _ e)).2.2.2.1.2.1
    omega
  · have := h0 a (ok _ e)
    omega
/-- what is known of a new tray -/
theorem Fd_new {tr tr' n : Nat} {M' : Mm} {a b c d e : Int32} (hW : XW M) (hS : XS M) (h0 : Lst0 M) (n450 : 450 ≤ sN (mS M)) (ot : okA M 100 tr) (oi : okA M 100 ig) (oe : okA M 100 ek) (t7 : tr ≠ ig) (t8 : tr ≠ ek) (t9 : tr ≠ 308) (t10 : sTy (mS M) (tr - 1) ≠ 6) (t11 : sTy (mS M) (tr - 1) ≠ 2) (t12 : sTy (mS M) (tr - 1) ≠ 1) (t13 : sTy (mS M) (tr - 1) ≠ 0) (t14 : tr ≠ 320) (t15 : tr ≠ 321) (hF : FdR tr' ty n a b c d e tr M M') :
    (tr' ≠ ig ∧ tr' ≠ ek ∧ tr' ≠ 308) ∧ (∀ a, a + 1 = tr' → sTy (mS M) a ≠ 6 ∧ sTy (mS M) a ≠ 2 ∧ sTy (mS M) a ≠ 1 ∧ sTy (mS M) a ≠ 0) ∧ (∀ a, okA M 101 a → a ≠ tr') ∧ sTy (mS M') (tr' - 1) = sTy (mS M) (tr' - 1) ∧ tr' ≠ 320 ∧ tr' ≠ 321 := by
  obtain ⟨-, -, -, -, -, -, -, hR, -, -, -, -, -, hc, -⟩ := hF
  have i1 := oi.2.1
  have e1 := oe.2.1
  have o1 := ot.2.1
  rcases hc with ⟨q, -⟩ | ⟨q, -⟩
  · rw [q]
    refine ⟨⟨t7, t8, t9⟩, fun a ha => ?_, fun a oa => ok_ne oa ot (by decide), (hR.2 (tr - 1) (by omega)).1, t14, t15⟩
    have : tr - 1 = a := by omega
    rw [this] at t10 t11 t12 t13
    exact ⟨t10, t11, t12, t13⟩
  · rw [q]
    exact ⟨⟨by omega, by omega, by omega⟩, fun a ha => last_ty hS h0 ha (by omega), fun a oa => by have := oa.2.1; omega, (hR.2 (sN (mS M) - 1) (by omega)).1, by omega, by omega⟩
theorem m_feed' (fu : Nat) (hfu : 5 ≤ fu) (hR : RW A) (hy : mF A 1025 323 = nI ty) (h1 : ty ≤ 65540) (a b c d e : Int32) : (65540 < ty + 20 → fX16_feed fu 323 a b c d e A = some (-1, A)) ∧ (ty + 20 ≤ 65540 → fX16_feed fu 323 a b c d e A = some (nI (ty + 20), trM A (ty + 20) (p20 (mA A 324) ty a b c d e))) := by
  have q := m_feed hR fu ty (mA A 324) hfu a b c d e h1
  rw [trM_self hy] at q
  refine ⟨fun z => ?_, fun z => ?_⟩
  · rw [q, if_neg (by omega)]
  · rw [q, if_pos z]
    rfl
theorem sp_feedC (fu : Nat) (hfu : 5 ≤ fu) (h : JJ A M KN KS t T im ig F ek ty nw) (h0 : Lst0 M) {KN' KS' : Nat} (k1 : KN + 1 ≤ KN') (k2 : KS + (2 * ty + 60) ≤ KS') (k3 : KN' ≤ 600300) (k4 : KS' ≤ 7302250) (a b c d e : Int32) : ∃ v A' M' y, fX16_feed fu 323 a b c d e A = some (v, A') ∧ fX11_feed fu 300 a b c d e M = some (v, M') ∧ (y = ty ∨ y = ty + 20) ∧ JJ A' M' KN' KS' t T im ig F ek y nw := by
  have hR := h.rw'
  have hW := h.xw
  have hts := h.ts
  have y1 := hts.y1
  have n450 : 450 ≤ sN (mS M) := h.bm.2.2.2.1
  obtain ⟨tr, u1, u2, u3, u4, u5, u6, u7, u8, u9, u10, u11, u12, u13, u14, u15⟩ := hts.tg
  obtain ⟨m1, m2⟩ := m_feed' fu hfu hR hts.ta y1 a b c d e
  have hX := h.xr
  have hX2 := hX
  obtain ⟨_, _, _, _, -, -, -, -, -, -, -, -, -, x6, x7, x1, x2, -⟩ := hX2
  rcases x_feed (M := M) fu n450 (xw_ok300 hW) u1 u2 u3 u4 u5 hts.tm (by omega) (by omega) a b c d e with ⟨q, e1⟩ | ⟨q, tr', n, M', e1, hF⟩
  · exact ⟨-1, A, M, ty, m1 q, e1, Or.inl rfl, JJ_K h (by omega) (by omega) k3 k4⟩
  · have e2 := m2 q
    obtain ⟨w1, w2, w3, w4, w5, w6⟩ := Fd_new hW h.xs h0 n450 u2 h.ji.2.1 h.fi.oe u7 u8 u9 u10 u11 u12 u13 u14 u15 hF
    obtain ⟨f1, f2, f3, f4, f5, f6, f7, f8, f9, f10, f11, f12, f13, f14, f15, f16⟩ := hF
    have bm := (oX11_feed fu 300 a b c d e M h.bm (by unfold RX; omega) e1).2
    have ba := (oX16_feed fu 323 a b c d e A h.ba (by unfold RM; omega) e2).2
    have w2' := w2 (tr' - 1) (by have := f2.1; omega)
    refine ⟨nI (ty + 20), _, M', ty + 20, e2, e1, Or.inr rfl, JJ_feed h (by omega) (by omega) f8 f9 (XRR_tr f8 hX (by omega) (by omega) k3 k4) bm ba w1 w2 w3 f11 f12 f13 ?_⟩
    refine TS.mk q ?_ ((trM_F (by omega)).trans hts.sz) ((trM_F (by omega)).trans hts.bo) f7 ((f10 _ (by decide)).trans hts.bx) ⟨tr', f1, f2, f3, f4, f5, fun j hj => ?_, w1.1, w1.2.1, w1.2.2, by rw [w4]; exact w2'.1, by rw [w4]; exact w2'.2.1, by rw [w4]; exact w2'.2.2.1, by rw [w4]; exact w2'.2.2.2, w5, w6⟩ hts.ie
    · unfold trM
      rw [mF_sF, if_pos ⟨rfl, rfl⟩]
    · rw [f6 j hj]
      show mA (wA A 324 _) 324 j = _
      rw [mA_wA_self]
      unfold p20
      by_cases z : ty ≤ j ∧ j < ty + 20
      · rw [if_pos z, if_pos z]
      · rw [if_neg z, if_neg z]
        exact u6 j (by omega)
theorem op_feed (fu : Nat) (hfu : 5 ≤ fu) (h : JJ X X KN KS t T im ig F ek ty nw) (h0 : Lst0 X) {KN' KS' : Nat} (k1 : KN + 1 ≤ KN') (k2 : KS + (2 * ty + 60) ≤ KS') (k3 : KN' ≤ 600300) (k4 : KS' ≤ 7302250) (a b c d e : Int32) : ∃ v X1 X2 y, fX11_feed fu 300 a b c d e X = some (v, X1) ∧ fX16_feed fu 323 a b c d e X1 = some (v, X2) ∧ (y = ty ∨ y = ty + 20) ∧ JJ X2 X2 KN' KS' t T im ig F ek y nw := by
  obtain ⟨v, X1, X2, p1, p2, ⟨y, p3, p5⟩, p6, p7, p8⟩ := one_op (f := fX11_feed fu 300 a b c d e) (g := fX16_feed fu 323 a b c d e) (Q := fun _ A' M' => ∃ y, (y = ty ∨ y = ty + 20) ∧ JJ A' M' KN' KS' t T im ig F ek y nw) h (fun M out b' e' => oX11_feed fu 300 a b c d e M b' (by unfold RX; omega) e') (fun M out b' e' => oX16_feed fu 323 a b c d e M b' (by unfold RM; omega) e') (fun A hA => by
    obtain ⟨v, A', M', y, r1, r2, r3, r4⟩ := sp_feedC fu hfu hA h0 k1 k2 k3 k4 a b c d e
    exact ⟨v, A', M', r1, r2, y, r3, r4⟩)
  exact ⟨v, X1, X2, y, p1, p2, p3, JJ_sm p5 p6 p8⟩
end FeedJ
