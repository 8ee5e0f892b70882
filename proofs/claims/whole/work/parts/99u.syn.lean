/-! ===== part 99u: the whole, when a connection begins ===== -/
section Syn
variable {A M A' M' : Mm} {KN KS t T im ig F ek ty nw : Nat}
/-- one more was begun, in the reference -/
def C5 (A : Mm) : Mm := wA (sF A 1036 323 (mF A 1036 323 + 1)) 330 (cnU (mA A 330) 5)
theorem JJ_cnt5 (h : JJ A M KN KS t T im ig F ek ty nw) : JJ (C5 A) (wA M 305 (cnU (mA M 305) 5)) KN KS t T im ig F ek ty nw := by
  have hW := h.xw
  have hR := h.rw'
  have f1 : ∀ f a, f ≠ 1036 → mF (C5 A) f a = mF A f a := fun f a hf => by
    unfold C5
    rw [mF_wA, mF_sF, if_neg (fun e => hf e.1)]
  have a1 : ∀ a, a ≠ 330 → mA (C5 A) a = mA A a := fun a ha => by
    unfold C5
    rw [mA_wA_ne ha]
    rfl
  have x1 : ∀ a, a ≠ 305 → mA (wA M 305 (cnU (mA M 305) 5)) a = mA M a := fun a ha => mA_wA_ne ha
  have t1000 : t + 0 ≤ 1000 := by obtain ⟨_, _, _, _, _, q, -⟩ := h.jl.2.2.2.2.2.2.2; omega
  obtain ⟨nr, nw', nd, nc, -, -, -, -, r6, -, r316, -⟩ := h.xr
  have n5 : ∀ p, okA M 100 p → p ≠ 305 := fun p hp => ok_ne hp (xw_ok305 hW) (by decide)
  refine JJ.mk ?_ ?_ ?_ (JN_cnU h.jn (by decide)) ?_ ?_ ?_ ?_ h.n2 ?_ ?_ ?_ ?_ (TS_c h.ts (fun f hf => f1 f 323 (by omega)) (a1 324 (by decide)) (fun _ _ => rfl) rfl (fun a oa => ⟨oa, rfl, rfl⟩) (fun a _ oa _ _ _ _ _ _ _ => x1 a (n5 a oa)))
  · exact JL0_keep (u := 0) h.jl t1000 hR hW h.xs h.xr (fun f a hf => f1 f a (by unfold JLf at hf; omega)) (fun O e => ⟨O, (f1 1049 323 (by decide)).trans e, Nat.le_refl _, Nat.le_refl _⟩) (fun a ha => a1 a (by omega)) (fun _ _ _ => rfl) (fun _ _ _ => rfl) (fun p hp => ⟨fun _ _ _ => rfl, x1 _ (n5 _ (h.xs.1 p hp).2.1)⟩) (fun a h1 h2 => x1 a (by omega)) rfl rfl
  · exact Bd_wA (Bd_same h.ba rfl rfl rfl rfl) (fun e => absurd ((rw_ok330 hR).2.2.symm.trans e) (by decide))
  · exact Bd_wA h.bm (fun e => absurd ((xw_ok305 hW).2.2.symm.trans e) (by decide))
  · obtain ⟨n, nw1, s, τ, hD⟩ := h.jd
    refine ⟨n, nw1, s, τ, JDa_congr (A := A) (M := M) (fun f a h1 h2 => f1 f a (by omega)) (f1 _ _ (by decide)) (by rw [f1 1049 323 (by decide)]; exact Int32.le_refl _) (fun a h1 h2 => a1 a (by omega)) rfl rfl (fun i d _ hd => ?_) hD⟩
    have od := (rowN_at r316 hd).2
    obtain ⟨-, -, d1, -, d2, -⟩ := h.xs.2.1 d od
    have b4 := ok_ne d1 (xw_ok304 hW) (by decide)
    exact ⟨fun _ _ _ => rfl, x1 _ (n5 _ d1), x1 _ (by omega)⟩
  · obtain ⟨z1, z2, z3, z4, z5, z6⟩ := h.ji
    refine ⟨z1, z2, z3, z4, ?_, z6⟩
    rw [a1 325 (by decide), x1 ig (n5 _ z2)]
    exact z5
  · have hf := h.fi
    have e := x1 ek (n5 _ hf.oe)
    refine FI.mk hf.le ?_ hf.cm hf.ge hf.oe hf.l1 hf.l2 ?_ ?_ ?_ ?_ hf.sp
    · rw [f1 1035 323 (by decide)]; exact hf.ca
    · rw [e, a1 326 (by decide)]; exact hf.nm
    · rw [e, a1 327 (by decide), a1 328 (by decide), a1 329 (by decide)]; exact hf.nu
    · rw [a1 327 (by decide), a1 328 (by decide)]; exact hf.pl
    · rw [e]; exact hf.na
  · rw [f1 1034 323 (by decide)]; exact h.nw
  · intro j hj
    have FA' : ∀ g, ¬ (g < 768 ∨ 832 ≤ g) → mF (C5 A) g (342 + 4 * j) = mF A g (342 + 4 * j) := fun g hg => f1 g _ (by omega)
    unfold CK
    rw [f1 768 _ (by decide)]
    rcases h.cc j hj with h1 | ⟨cj, h1, h2, h3⟩
    · exact Or.inl h1
    · obtain ⟨c1, c2, c3, c4, c5, c6, c7, c8, c9, c10, c11, c12, c13, c14⟩ := CnO_of h.xs h2
      have b4 := ok_ne c10 (xw_ok304 hW) (by decide)
      refine Or.inr ⟨cj, h1, h2, ?_⟩
      rcases h3 with h3 | ⟨e1, e2, ⟨b0, v, e3, e4⟩, hd, ft, e5⟩
      · exact Or.inl h3
      · refine Or.inr ⟨?_, ?_, ⟨b0, v, ?_, ?_⟩, hd, ft, ?_⟩
        · exact CE_congr (M := M) (fun f h1 h2 => FA' f (by omega)) (a1 _ (by omega)) (fun _ _ _ => rfl) (x1 _ (n5 _ c5)) e1
        · exact CP_congr (M := M) (fun f h1 h2 => FA' f (by omega)) (fun _ _ _ => rfl) e2
        · exact CI_congr (fun f h1 h2 => FA' f (by omega)) e3
        · exact CS_congr FA' e4
        · exact CR_congr (M := M) (fun f hf => FA' f (by omega)) (a1 _ (by omega)) (a1 _ (by omega)) (fun _ _ => rfl) (x1 _ (n5 _ c10)) (x1 _ (by omega)) e5
  · intro i j hi hj
    rw [f1 768 _ (by decide), f1 768 _ (by decide), f1 769 _ (by decide), f1 769 _ (by decide), f1 770 _ (by decide), f1 770 _ (by decide)]
    exact h.uq i j hi hj
  · unfold C5
    rw [mA_wA_self, mF_wA, mF_sF]
    show (if 5 = 5 then mA A 330 5 + 1 else mA A 330 5) = (if 1036 = 1036 ∧ 323 = 323 then mF A 1036 323 + 1 else mF A 1036 323)
    rw [if_pos rfl, if_pos ⟨rfl, rfl⟩, h.zb]
  · intro i hi
    rw [f1 768 _ (by decide), f1 791 _ (by decide)]
    exact h.tr i hi
/-- a new connection in the whole -/
theorem JJ_open {u T' k c : Nat} (h : JJ A M KN KS t T im ig F ek ty nw) (hk : k < 16) (hc : mB M 318 k = some c) (fA : FWA k A A') (fM : FWM c M M') (h5 : mA A' 330 5 = mA A 330 5) (nm : (mF A' 769 (342 + 4 * k)) = (mF A 1054 323)) (po : (mF A' 770 (342 + 4 * k)) = (mF A 1056 323)) (hno : ∀ j, j < 16 → ¬ mt A j) (h0 : (mF A' 791 (342 + 4 * k)) = 0) (tl : TL A' M' KN KS (t + u) T' im ig k c nw) : JJ A' M' KN KS (t + u) T' im ig F ek ty nw := by
  have hW := h.xw
  have oc := h.ok hc
  have hZ : CnZ M c := Or.inl (CnO_of h.xs oc)
  have e318 : mB M' 318 = mB M 318 := fM.2.2.2.1 318 (xw_ok318 hW).2.1 (by unfold BLx; omega)
  have b : JL0 KN KS (t + u) T' A' M' ∧ Bd RM TM A' ∧ Bd RX TX M' ∧ JN A' M' ∧ JI im ig A' M' := by
    rcases tl with ⟨_, _, _, _, k1⟩ | k1
    · exact ⟨k1.jl, k1.ba, k1.bm, k1.jn, k1.ji⟩
    · exact ⟨k1.jl, k1.ba, k1.bm, k1.jn, k1.ji⟩
  refine JJ.mk b.1 b.2.1 b.2.2.1 b.2.2.2.1 (JD_w hW h.xs h.xr hZ (by omega) fA fM h.jd) b.2.2.2.2 (FI_z h.fi hZ hW (by omega) fA fM) ?_ h.n2 ?_ ?_ ?_ ?_ (TS_z h.ts hZ hW (by omega) fA fM)
  · rw [fA.2.2.2.1 _ _ (by unfold PWa PCa PL; omega)]; exact h.nw
  · intro j hj
    by_cases q : j = k
    · subst q
      refine Or.inr ⟨c, by rw [e318]; exact hc, fM.ok oc, ?_⟩
      rcases tl with ⟨hd, ft, b0, v, k1⟩ | k1
      · exact Or.inr ⟨k1.ce, k1.cp, ⟨b0, v, k1.ci, k1.cs⟩, hd, ft, k1.cr⟩
      · exact Or.inl ⟨k1.sa, k1.sx⟩
    · exact CK_w hW h.xs h.xr hZ hj q (fun cj e1 e2 => q (h.inj (by rw [e1, e2]) hc)) fA fM (h.cc j hj)
  · intro i j hi hj s1 s2 e1 e2
    have eo : ∀ j f, j < 16 → j ≠ k → f = 768 ∨ f = 769 ∨ f = 770 → mF A' f (342 + 4 * j) = mF A f (342 + 4 * j) := fun j f hj hjk hf => fA.2.2.2.1 f _ (by unfold PWa PCa PL; omega)
    by_cases qi : i = k
    · by_cases qj : j = k
      · omega
      · subst qi
        rw [eo j 768 hj qj (by omega)] at s2
        rw [nm, eo j 769 hj qj (by omega)] at e1
        rw [po, eo j 770 hj qj (by omega)] at e2
        exact absurd ⟨s2, e1.symm, e2.symm⟩ (hno j hj)
    · by_cases qj : j = k
      · subst qj
        rw [eo i 768 hi qi (by omega)] at s1
        rw [nm, eo i 769 hi qi (by omega)] at e1
        rw [po, eo i 770 hi qi (by omega)] at e2
        exact absurd ⟨s1, e1, e2⟩ (hno i hi)
      · rw [eo i 768 hi qi (by omega)] at s1
        rw [eo j 768 hj qj (by omega)] at s2
        rw [eo i 769 hi qi (by omega), eo j 769 hj qj (by omega)] at e1
        rw [eo i 770 hi qi (by omega), eo j 770 hj qj (by omega)] at e2
        exact h.uq i j hi hj s1 s2 e1 e2
  · rw [h5, fA.2.2.2.1 1036 323 (by unfold PWa PCa PL; omega)]; exact h.zb
  · intro i hi hs'
    by_cases q : i = k
    · rw [q]; exact ⟨0, by decide, h0⟩
    · rw [fA.2.2.2.1 768 _ (by unfold PWa PCa PL; omega)] at hs'
      rw [fA.2.2.2.1 791 _ (by unfold PWa PCa PL; omega)]
      exact h.tr i hi hs'
end Syn
