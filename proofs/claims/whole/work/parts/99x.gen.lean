/-! ===== part 99x: the whole, under changes that do not touch connections ===== -/
section Gen
variable {A M A' M' : Mm} {KN KS t T im ig F ek ty nw : Nat}
theorem JJ_gen00 {u T' ty' : Nat} (h : JJ A M KN KS t T im ig F ek ty nw) (jl' : JL0 KN KS (t + u) T' A' M') (ba' : Bd RM TM A') (bm' : Bd RX TX M') (jn' : JN A' M') (jd' : JD A' M')
    (hc : ∀ f k, k < 16 → 768 ≤ f → f < 832 → mF A' f (342 + 4 * k) = mF A f (342 + 4 * k)) (ha : ∀ a, 343 ≤ a → a < 406 → mA A' a = mA A a) (hi : ∀ a, 326 ≤ a → a ≤ 329 → mA A' a = mA A a) (hf : ∀ f, f = 1034 ∨ f = 1035 ∨ f = 1036 → mF A' f 323 = mF A f 323) (h5 : mA A' 330 5 = mA A 330 5)
    (mo : ∀ t a, okA M t a → okA M' t a ∧ sLen (mS M') a = sLen (mS M) a) (mt' : ∀ a, a < sN (mS M) → sTy (mS M') a = sTy (mS M) a) (m318 : mB M' 318 = mB M 318) (mc : ∀ c, CnO M c → (∀ f o, o = c ∨ o = c + 2 ∨ o = c + 5 → f < 128 ∨ (320 ≤ f ∧ f < 384) → mF M' f o = mF M f o) ∧ mA M' (c + 1) = mA M (c + 1) ∧ mA M' (c + 3) = mA M (c + 3) ∧ mA M' (c + 4) = mA M (c + 4))
    (mg : mG M' 514 301 = mG M 514 301 ∧ mF M' 513 301 = mF M 513 301) (me : mA M' ek = mA M ek) (ji' : JI im ig A' M') (ts' : TS ty' im ig ek A' M') : JJ A' M' KN KS (t + u) T' im ig F ek ty' nw := by
  refine JJ.mk jl' ba' bm' jn' jd' ji' ?_ ?_ h.n2 ?_ ?_ ?_ ?_ ts'
  · have hF := h.fi
    have oe := hF.oe
    have y := mo _ _ oe
    have y1 := mt' (ek - 1) (by have := oe.2.1; omega)
    obtain ⟨s1, s2, s3, s4, s5, s6, s7⟩ := hF.sp
    have e := me
    refine FI.mk hF.le ?_ ?_ ?_ y.1 ?_ ?_ ?_ ?_ ?_ ?_ ?_
    · rw [hf 1035 (by omega)]; exact hF.ca
    · rw [mg.2]; exact hF.cm
    · rw [mg.1]; exact hF.ge
    · rw [y.2]; exact hF.l1
    · rw [y.2]; exact hF.l2
    · rw [e, hi 326 (by decide) (by decide)]; exact hF.nm
    · rw [e, hi 327 (by decide) (by decide), hi 328 (by decide) (by decide), hi 329 (by decide) (by decide)]; exact hF.nu
    · rw [hi 327 (by decide) (by decide), hi 328 (by decide) (by decide)]; exact hF.pl
    · rw [e]; exact hF.na
    · rw [y1]; exact hF.sp
  · rw [hf 1034 (by omega)]; exact h.nw
  · intro j hj
    have FA' : ∀ g, ¬ (g < 768 ∨ 832 ≤ g) → mF A' g (342 + 4 * j) = mF A g (342 + 4 * j) := fun g hg => hc g j hj (by omega) (by omega)
    unfold CK
    rw [FA' 768 (by omega), m318]
    rcases h.cc j hj with h1 | ⟨cj, h1, h2, h3⟩
    · exact Or.inl h1
    · obtain ⟨z1, z2, z3, z4⟩ := mc cj (CnO_of h.xs h2)
      refine Or.inr ⟨cj, h1, (mo _ _ h2).1, ?_⟩
      rw [z1 64 cj (Or.inl rfl) (by omega)]
      rcases h3 with h3 | ⟨e1, e2, ⟨b0, v, e3, e4⟩, hd, ft, e5⟩
      · exact Or.inl h3
      · refine Or.inr ⟨?_, ?_, ⟨b0, v, ?_, ?_⟩, hd, ft, ?_⟩
        · exact CE_congr (fun f h1 h2 => FA' f (by omega)) (ha _ (by omega) (by omega)) (fun f h1 h2 => z1 f _ (Or.inl rfl) (by omega)) z2 e1
        · exact CP_congr (fun f h1 h2 => FA' f (by omega)) (fun f h1 h2 => z1 f _ (Or.inr (Or.inr rfl)) (by omega)) e2
        · exact CI_mono (CI_congr (fun f h1 h2 => FA' f (by omega)) e3)
        · exact CS_congr FA' e4
        · exact CR_congr (fun f hf => FA' f (by omega)) (ha _ (by omega) (by omega)) (ha _ (by omega) (by omega)) (fun f hf => z1 f _ (Or.inr (Or.inl rfl)) (by omega)) z3 z4 e5
  · intro i j hi' hj
    rw [hc 768 i hi' (by decide) (by decide), hc 768 j hj (by decide) (by decide), hc 769 i hi' (by decide) (by decide), hc 769 j hj (by decide) (by decide), hc 770 i hi' (by decide) (by decide), hc 770 j hj (by decide) (by decide)]
    exact h.uq i j hi' hj
  · rw [h5, hf 1036 (by omega)]; exact h.zb
  · intro k hk
    rw [hc 768 k hk (by decide) (by decide), hc 791 k hk (by decide) (by decide)]
    exact h.tr k hk
theorem JJ_gen0 {u T' ty' : Nat} (h : JJ A M KN KS t T im ig F ek ty nw) (jl' : JL0 KN KS (t + u) T' A' M') (ba' : Bd RM TM A') (bm' : Bd RX TX M') (jn' : JN A' M') (jd' : JD A' M')
    (hc : ∀ f k, k < 16 → 768 ≤ f → f < 832 → mF A' f (342 + 4 * k) = mF A f (342 + 4 * k)) (ha : ∀ a, 343 ≤ a → a < 406 → mA A' a = mA A a) (hi : ∀ a, 325 ≤ a → a ≤ 329 → mA A' a = mA A a) (hf : ∀ f, f = 1034 ∨ f = 1035 ∨ f = 1036 → mF A' f 323 = mF A f 323) (h5 : mA A' 330 5 = mA A 330 5)
    (mo : ∀ t a, okA M t a → okA M' t a ∧ sLen (mS M') a = sLen (mS M) a) (mt' : ∀ a, a < sN (mS M) → sTy (mS M') a = sTy (mS M) a) (m318 : mB M' 318 = mB M 318) (mc : ∀ c, CnO M c → (∀ f o, o = c ∨ o = c + 2 ∨ o = c + 5 → f < 128 ∨ (320 ≤ f ∧ f < 384) → mF M' f o = mF M f o) ∧ mA M' (c + 1) = mA M (c + 1) ∧ mA M' (c + 3) = mA M (c + 3) ∧ mA M' (c + 4) = mA M (c + 4))
    (mg : mG M' 512 301 = mG M 512 301 ∧ mG M' 514 301 = mG M 514 301 ∧ mF M' 513 301 = mF M 513 301) (mi : ∀ x, RX x → okA M 100 x → x ≠ 308 → sTy (mS M) (x - 1) ≠ 6 → sTy (mS M) (x - 1) ≠ 2 → mA M' x = mA M x) (ts' : TS ty' im ig ek A' M') : JJ A' M' KN KS (t + u) T' im ig F ek ty' nw := by
  refine JJ_gen00 h jl' ba' bm' jn' jd' hc ha (fun a q1 q2 => hi a (by omega) q2) hf h5 mo mt' m318 mc ⟨mg.2.1, mg.2.2⟩ ?_ ?_ ts'
  · obtain ⟨s1, s2, s3, -⟩ := h.fi.sp
    exact mi ek (h.bm.2.1 _ _ _ (by unfold RX; omega) h.fi.ge) h.fi.oe s1 s2 s3
  · obtain ⟨z1, z2, z3, z4, z5, z6, z7, z8, z9, z10, z11, z12⟩ := h.ji
    have y := mo _ _ z2
    have y1 := mt' (ig - 1) (by have := z2.2.1; omega)
    exact ⟨by rw [mg.1]; exact z1, y.1, by rw [y.2]; exact z3, z4, by rw [hi 325 (by decide) (by decide), mi ig (h.bm.2.1 _ _ _ (by unfold RX; omega) z1) z2 z6 z7 z8]; exact z5, z6, by rw [y1]; exact z7, by rw [y1]; exact z8, by rw [y1]; exact z9, by rw [y1]; exact z10, z11, z12⟩
theorem JJ_gen {u T' : Nat} (h : JJ A M KN KS t T im ig F ek ty nw) (jl' : JL0 KN KS (t + u) T' A' M') (ba' : Bd RM TM A') (bm' : Bd RX TX M') (jn' : JN A' M') (jd' : JD A' M')
    (hc : ∀ f k, k < 16 → 768 ≤ f → f < 832 → mF A' f (342 + 4 * k) = mF A f (342 + 4 * k)) (ha : ∀ a, 343 ≤ a → a < 406 → mA A' a = mA A a) (hi : ∀ a, 324 ≤ a → a ≤ 329 → mA A' a = mA A a) (hf : ∀ f, f = 1034 ∨ f = 1035 ∨ f = 1036 ∨ f = 1025 ∨ f = 1027 ∨ f = 1028 → mF A' f 323 = mF A f 323) (h5 : mA A' 330 5 = mA A 330 5)
    (mo : ∀ t a, okA M t a → okA M' t a ∧ sLen (mS M') a = sLen (mS M) a) (mt' : ∀ a, a < sN (mS M) → sTy (mS M') a = sTy (mS M) a) (m318 : mB M' 318 = mB M 318) (mc : ∀ c, CnO M c → (∀ f o, o = c ∨ o = c + 2 ∨ o = c + 5 → f < 128 ∨ (320 ≤ f ∧ f < 384) → mF M' f o = mF M f o) ∧ mA M' (c + 1) = mA M (c + 1) ∧ mA M' (c + 3) = mA M (c + 3) ∧ mA M' (c + 4) = mA M (c + 4))
    (mg : mG M' 512 301 = mG M 512 301 ∧ mG M' 514 301 = mG M 514 301 ∧ mF M' 513 301 = mF M 513 301 ∧ mG M' 710 300 = mG M 710 300 ∧ mF M' 711 300 = mF M 711 300 ∧ mF M' 712 300 = mF M 712 300) (mi : ∀ x, RX x → okA M 100 x → x ≠ 308 → sTy (mS M) (x - 1) ≠ 6 → sTy (mS M) (x - 1) ≠ 2 → mA M' x = mA M x) : JJ A' M' KN KS (t + u) T' im ig F ek ty nw :=
  JJ_gen0 h jl' ba' bm' jn' jd' hc ha (fun a q1 q2 => hi a (by omega) q2) (fun f q => hf f (by omega)) h5 mo mt' m318 mc ⟨mg.1, mg.2.1, mg.2.2.1⟩ mi (TS_c h.ts (fun f q => hf f (by omega)) (hi 324 (by decide) (by decide)) (fun f q => q.elim (fun e => by rw [e]; exact mg.2.2.2.2.1) (fun e => by rw [e]; exact mg.2.2.2.2.2)) mg.2.2.2.1 (fun a oa => ⟨(mo _ _ oa).1, (mo _ _ oa).2, mt' (a - 1) (by have := oa.2.1; omega)⟩) (fun a ga oa q1 q2 q3 _ _ _ _ => mi a (h.bm.2.1 _ _ _ (by unfold RX; omega) ga) oa q1 q2 q3))
theorem JJ.t1000 (h : JJ A M KN KS t T im ig F ek ty nw) : t ≤ 1000 := by
  obtain ⟨_, _, _, _, _, q, -⟩ := h.jl.2.2.2.2.2.2.2
  exact q.2
/-- notes of a segment -/
theorem JJ_note (h : JJ A M KN KS t T im ig F ek ty nw) (fA : FF (fun f => 1053 ≤ f ∧ f ≤ 1065) 323 A A') (fM : FF (fun f => 193 ≤ f ∧ f ≤ 204) 314 M M') : JJ A' M' KN KS t T im ig F ek ty nw := by
  have hW := h.xw
  obtain ⟨nr, nw', nd, nc, -, -, -, -, r6, -, r316, -⟩ := h.xr
  refine JJ_gen (u := 0) h ?_ (Bd_same h.ba fA.1 fA.2.1 fA.2.2.1 fA.2.2.2.1) (Bd_same h.bm fM.1 fM.2.1 fM.2.2.1 fM.2.2.2.1) ?_ ?_ ?_ ?_ ?_ ?_ ?_ ?_ ?_ ?_ ?_ ?_ ?_
  · refine JL0_keep (u := 0) h.jl h.t1000 (fA.rW h.rw') (fM.xW hW) (XS_same fM.1 fM.2.1 h.xs) (XRR_same fM.1 fM.2.2.1 h.xr) (fun f a hf => fA.2.2.2.2 f a (by unfold JLf at hf; omega)) (fun O e => ⟨O, (fA.2.2.2.2 1049 323 (by omega)).trans e, Nat.le_refl _, Nat.le_refl _⟩) (fun a _ => by rw [fA.2.2.2.1]) (fun f _ _ => fM.2.2.2.2 f 307 (by omega)) (fun f _ _ => fM.2.2.2.2 f 304 (by omega)) (fun p hp => ⟨fun f _ _ => fM.2.2.2.2 f p (by omega), by rw [fM.2.2.2.1]⟩) (fun a _ _ => by rw [fM.2.2.2.1]) (by rw [fM.2.2.1]) (by rw [fM.2.2.1])
  · intro i hi
    rw [fA.2.2.2.1, fM.2.2.2.1]; exact h.jn i hi
  · obtain ⟨n, nw1, s, τ, hD⟩ := h.jd
    exact ⟨n, nw1, s, τ, JDa_congr (A := A) (M := M) (fun f a h1 h2 => fA.2.2.2.2 f a (by omega)) (fA.2.2.2.2 _ _ (by omega)) (by rw [fA.2.2.2.2 1049 323 (by omega)]; exact Int32.le_refl _) (fun a h1 h2 => by rw [fA.2.2.2.1]) (fM.2.2.2.2 _ _ (by omega)) (by rw [fM.2.2.1]) (fun i d _ hd => ⟨fun f h1 h2 => fM.2.2.2.2 f d (by omega), by rw [fM.2.2.2.1], by rw [fM.2.2.2.1]⟩) hD⟩
  · exact fun f k hk h1 h2 => fA.2.2.2.2 f _ (by omega)
  · exact fun a _ _ => by rw [fA.2.2.2.1]
  · exact fun a _ _ => by rw [fA.2.2.2.1]
  · exact fun f hf => fA.2.2.2.2 f 323 (by omega)
  · rw [fA.2.2.2.1]
  · exact fun t a ha => ⟨fM.ok ha, by rw [fM.1]⟩
  · exact fun a _ => by rw [fM.1]
  · rw [fM.2.2.1]
  · intro c hC
    exact ⟨fun f o ho hf => fM.2.2.2.2 f o (by omega), by rw [fM.2.2.2.1], by rw [fM.2.2.2.1], by rw [fM.2.2.2.1]⟩
  · exact ⟨by rw [fM.2.1], by rw [fM.2.1], fM.2.2.2.2 _ _ (by omega), by rw [fM.2.1], fM.2.2.2.2 _ _ (by omega), fM.2.2.2.2 _ _ (by omega)⟩
  · intro x _ _ _ _ _
    rw [fM.2.2.2.1]
/-- datagrams -/
theorem JJ_kept {u : Nat} (h : JJ A M KN KS t T im ig F ek ty nw) (g : Kept KN KS (t + u) T A M A' M') : JJ A' M' KN KS (t + u) T im ig F ek ty nw := by
  have hW := h.xw
  obtain ⟨k1, k2, k3, k4, k5, fA, fM⟩ := g
  refine JJ_gen h k1 k4 k5 k3 k2 ?_ ?_ ?_ ?_ fA.2.2.2.2.2 ?_ ?_ ?_ ?_ ?_ ?_
  · exact fun f k hk h1 h2 => fA.2.2.2.1 f _ (by unfold PD; omega)
  · exact fun a h1 h2 => fA.2.2.2.2.1 a (by unfold QD; omega)
  · exact fun a h1 h2 => fA.2.2.2.2.1 a (by unfold QD; omega)
  · exact fun f hf => fA.2.2.2.1 f 323 (by unfold PD; omega)
  · exact fun t a ha => ⟨fM.ok ha, (fM.2.1 a ha.2.1).2⟩
  · exact fun a ha => (fM.2.1 a ha).1
  · exact fM.2.2.2.1 318 (xw_ok318 hW).2.1 (by unfold BDx; omega)
  · intro c hC
    obtain ⟨c1, c2, c3, c4, c5, c6, c7, c8, c9, c10, c11, c12, c13, c14⟩ := hC
    have t1 : sTy (mS M) c = 1 := c1.2.2
    have t7 : sTy (mS M) (c + 2) = 0 := c7.2.2
    have t14 : sTy (mS M) (c + 5) = 5 := c14.2.2
    have t5 : sTy (mS M) (c + 1) = 100 := c5.2.2
    have t10 : sTy (mS M) (c + 3) = 100 := c10.2.2
    have b5 := ok_ne c5 (xw_ok305 hW) (by decide)
    have b10 := ok_ne c10 (xw_ok305 hW) (by decide)
    have b4 := ok_ne c10 (xw_ok304 hW) (by decide)
    refine ⟨fun f o ho hf => ?_, ?_, ?_, ?_⟩
    · have hlt : o < sN (mS M) ∧ sTy (mS M) o ≠ 2 := by
        rcases ho with e | e | e
        · rw [e, t1]; exact ⟨c1.2.1, by decide⟩
        · rw [e, t7]; exact ⟨c7.2.1, by decide⟩
        · rw [e, t14]; exact ⟨c14.2.1, by decide⟩
      exact fM.2.2.2.2.1 f o hlt.1 (by unfold PDx; omega)
    · refine fM.2.2.2.2.2 (c + 1) c5.2.1 ?_
      rw [show c + 1 - 1 = c by omega, t1, t5]
      unfold QDx
      omega
    · refine fM.2.2.2.2.2 (c + 3) c10.2.1 ?_
      rw [show c + 3 - 1 = c + 2 by omega, t7, t10]
      unfold QDx
      omega
    · refine fM.2.2.2.2.2 (c + 4) c12.2.1 ?_
      rw [show c + 4 - 1 = c + 3 by omega, t10, show c + 4 - 2 = c + 2 by omega, t7]
      unfold QDx
      omega
  · have o := xw_ok301 hW
    have o3 := xw_ok300 hW
    refine ⟨fM.2.2.1 512 301 o.2.1 (by unfold GDx; omega), fM.2.2.1 514 301 o.2.1 (by unfold GDx; omega), fM.2.2.2.2.1 513 301 o.2.1 ?_, fM.2.2.1 710 300 o3.2.1 (by unfold GDx; omega), fM.2.2.2.2.1 711 300 o3.2.1 (by rw [o3.2.2]; unfold PDx; omega), fM.2.2.2.2.1 712 300 o3.2.1 (by rw [o3.2.2]; unfold PDx; omega)⟩
    rw [o.2.2]
    unfold PDx
    omega
  · intro x _ hx _ _ h2
    refine fM.2.2.2.2.2 x hx.2.1 ?_
    have b5 := ok_ne hx (xw_ok305 hW) (by decide)
    rw [hx.2.2]
    unfold QDx
    omega
end Gen
