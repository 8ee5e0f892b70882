/-! ===== part 9u: a byte of the image is other, in both ===== -/
section Image
variable {A M : Mm} {KN KS t T im ig F ek ty nw : Nat}
theorem JJ_image {i : Nat} {x : Int32} (h : JJ A M KN KS t T im ig F ek ty nw) (hx : isB x) : JJ (sA A 325 i x) (sA M ig i x) KN KS t T im ig F ek ty nw := by
  have hW := h.xw
  obtain ⟨z1, z2, z3, z4, z5, z6, z7, z8, z9, z10, z11, z12⟩ := h.ji
  have a1 : ∀ a, a ≠ 325 → mA (sA A 325 i x) a = mA A a := fun a ha => funext (fun j => by rw [mA_sA, if_neg (fun e => ha e.1)])
  have x1 : ∀ a, a ≠ ig → mA (sA M ig i x) a = mA M a := fun a ha => funext (fun j => by rw [mA_sA, if_neg (fun e => ha e.1)])
  have q := n100 hW z2
  have n101 : ∀ a, okA M 101 a → a ≠ ig := fun a oa => ok_ne oa z2 (by decide)
  have prev : ∀ a, sTy (mS M) a ≠ sTy (mS M) (ig - 1) → a + 1 ≠ ig := fun a ha e => ha (by rw [← e]; rfl)
  obtain ⟨_, _, _, _, -, -, -, -, -, -, r316, -⟩ := h.xr
  refine JJ_gen00 (u := 0) h ?_ (sA_own h.ba (by unfold RM; omega) (fun _ => hx)).2 (sA_own h.bm (h.bm.2.1 _ _ _ (by unfold RX; omega) z1) (fun _ => hx)).2 ?_ ?_ (fun _ _ _ _ _ => rfl) (fun a _ _ => a1 a (by omega)) (fun a _ _ => a1 a (by omega)) (fun _ _ => rfl) (by rw [a1 330 (by decide)]) (fun t a ha => ⟨ha, rfl⟩) (fun _ _ => rfl) rfl (fun c hC => ?_) ⟨rfl, rfl⟩ (x1 ek (Ne.symm h.ts.ie)) ?_ ?_
  · exact JL0_keep (u := 0) h.jl h.t1000 h.rw' hW h.xs h.xr (fun _ _ _ => rfl) (fun O e => ⟨O, e, Nat.le_refl _, Nat.le_refl _⟩) (fun a ha => a1 a (by omega)) (fun _ _ _ => rfl) (fun _ _ _ => rfl) (fun p hp => ⟨fun _ _ _ => rfl, x1 _ (prev p (by rw [hp.2.2]; exact Ne.symm z7))⟩) (fun a h1 h2 => x1 a (by omega)) rfl rfl
  · intro j hj
    rw [a1 330 (by decide), x1 305 (n101 _ (xw_ok305 hW))]
    exact h.jn j hj
  · obtain ⟨n, nw1, s, τ, hD⟩ := h.jd
    refine ⟨n, nw1, s, τ, JDa_congr (A := A) (M := M) (fun _ _ _ _ => rfl) rfl (Int32.le_refl _) (fun a h1 h2 => a1 a (by omega)) rfl rfl (fun j d _ hd => ?_) hD⟩
    have od := (rowN_at r316 hd).2
    obtain ⟨-, -, -, -, d2, -⟩ := h.xs.2.1 d od
    exact ⟨fun _ _ _ => rfl, x1 _ (prev d (by rw [od.2.2]; exact Ne.symm z8)), x1 _ (n101 _ d2)⟩
  · obtain ⟨c1, -, -, -, -, -, c7, -, -, -, -, c12, -⟩ := hC
    exact ⟨fun _ _ _ _ => rfl, x1 _ (prev c (by rw [c1.2.2]; exact Ne.symm z9)), x1 _ (prev (c + 2) (by rw [c7.2.2]; exact Ne.symm z10)), x1 _ (n101 _ c12)⟩
  · refine ⟨z1, z2, z3, z4, fun j hj => ?_, z6, z7, z8, z9, z10, z11, z12⟩
    rw [mA_sA, mA_sA]
    by_cases e : j = i
    · rw [if_pos ⟨rfl, e⟩, if_pos ⟨rfl, e⟩]
    · rw [if_neg (fun y => e y.2), if_neg (fun y => e y.2)]
      exact z5 j hj
  · obtain ⟨tr, t1, -, -, -, -, -, t7, -⟩ := h.ts.tg
    refine TS_c h.ts (fun _ _ => rfl) (a1 324 (by decide)) (fun _ _ => rfl) rfl (fun a oa => ⟨oa, rfl, rfl⟩) (fun a ga _ _ _ _ _ _ _ _ => x1 a ?_)
    rw [t1] at ga
    have := Option.some.inj ga
    omega
end Image
