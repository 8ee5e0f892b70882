/-! ===== part 9v: damage, when booted ===== -/
section Damage
variable {A M X : Mm} {KN KS t T im ig F ek ty nw : Nat}
theorem sp_damageC (fu : Nat) (hfu : 100 ≤ fu) (h : JJ A M KN KS t T im ig F ek ty nw) (a1 a2 : Int32) : ∃ v A' M', fX16_damage fu 323 a1 a2 A = some (v, A') ∧ fX11_damage fu 300 a1 a2 M = some (v, M') ∧ JJ A' M' KN KS t T im ig F ek ty nw := by
  have hR := h.rw'
  have hW := h.xw
  have o := rw_ok323 hR
  have o3 := xw_ok300 hW
  have o1 := xw_ok301 hW
  have hts := h.ts
  obtain ⟨z1, z2, z3, z4, -⟩ := h.ji
  unfold fX16_damage fX11_damage
  by_cases c1 : a1 < 0
  · exact ⟨0, A, M, by rw [if_pos c1, rN0], by rw [if_pos c1, rN0], h⟩
  · by_cases c2 : nI im ≤ a1
    · refine ⟨0, A, M, ?_, ?_, h⟩
      · rw [if_neg c1, gI_ok o, ob_some, hts.sz, if_neg (Int32.not_lt.mpr c2), rN0]
      · rw [if_neg c1, gR_ok o3, ob_some, xw_g704_300 hW, gR_ok o1, ob_some, z1, aL_ok z2 z3, ob_some, if_pos c2, rN0]
    · obtain ⟨i, i1, rfl⟩ := nI_rng (n := im) (by omega) c1 c2
      obtain ⟨b, b1, b2', b3⟩ := sp_busy fu hfu h (nI i) a2
      have m0 : fX16_damage_L16 fu fu 323 (nI i) a2 0 A = if b = 0 then fX16_damage_L79 fu 323 (nI i) a2 A else some (0, A) := b3
      rcases b1 with rfl | rfl
      · refine ⟨1, sA A 325 i (Int8.toInt32 (Int32.toInt8 (Int8.toInt32 (Int32.toInt8 a2)))), sA M ig i (Int8.toInt32 (Int32.toInt8 (Int8.toInt32 (Int32.toInt8 a2)))), ?_, ?_, JJ_image h (isB_w _)⟩
        · rw [if_neg c1, gI_ok o, ob_some, hts.sz, if_pos (Int32.not_le.mp c2), m0, if_pos rfl]
          unfold fX16_damage_L79
          rw [gR_ok o, ob_some, rw_g1026_323 hR, pA_ok (rw_ok325 hR) (by rw [rw_ln325 hR]; omega) (by omega), ob_some, rN1, sA_wA]
        · rw [if_neg c1, gR_ok o3, ob_some, xw_g704_300 hW, gR_ok o1, ob_some, z1, aL_ok z2 z3, ob_some, if_neg c2, gI_ok o3, ob_some, hts.bx, if_neg (by decide), gR_ok o3, ob_some, xw_g708_300 hW, rc_ok (xw_ok317 hW), ob_some, b2', b2_some, if_pos rfl]
          unfold fX11_damage_L35
          rw [gR_ok o3, ob_some, xw_g704_300 hW, gR_ok o1, ob_some, z1, pA_ok z2 (by rw [z3]; omega) (by omega), ob_some, rN1, sA_wA]
      · refine ⟨0, A, M, ?_, ?_, h⟩
        · rw [if_neg c1, gI_ok o, ob_some, hts.sz, if_pos (Int32.not_le.mp c2), m0, if_neg (by decide)]
        · rw [if_neg c1, gR_ok o3, ob_some, xw_g704_300 hW, gR_ok o1, ob_some, z1, aL_ok z2 z3, ob_some, if_neg c2, gI_ok o3, ob_some, hts.bx, if_neg (by decide), gR_ok o3, ob_some, xw_g708_300 hW, rc_ok (xw_ok317 hW), ob_some, b2', b2_some, if_neg (by decide), rN0]
theorem op_damage (fu : Nat) (hfu : 100 ≤ fu) (h : JJ X X KN KS t T im ig F ek ty nw) (a1 a2 : Int32) : ∃ v X1 X2, fX11_damage fu 300 a1 a2 X = some (v, X1) ∧ fX16_damage fu 323 a1 a2 X1 = some (v, X2) ∧ JJ X2 X2 KN KS t T im ig F ek ty nw := by
  obtain ⟨v, X1, X2, p1, p2, p5, p6, p7, p8⟩ := one_op (f := fX11_damage fu 300 a1 a2) (g := fX16_damage fu 323 a1 a2) (Q := fun _ A' M' => JJ A' M' KN KS t T im ig F ek ty nw) h (fun M out b e => oX11_damage fu 300 a1 a2 M b (by unfold RX; omega) e) (fun M out b e => oX16_damage fu 323 a1 a2 M b (by unfold RM; omega) e) (fun A hA => by
    obtain ⟨v, A', M', r1, r2, r3⟩ := sp_damageC fu hfu hA a1 a2
    exact ⟨v, A', M', r1, r2, r3⟩)
  exact ⟨v, X1, X2, p1, p2, JJ_sm p5 p6 p8⟩
end Damage
