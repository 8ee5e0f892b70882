/-! ===== part 9s: end, when booted ===== -/
section End
variable {A M X : Mm} {KN KS t T im ig F ek ty nw : Nat}
/-- fewer bytes in the tray -/
theorem TS_less {y : Nat} (h : TS ty im ig ek A M) (hy : y ≤ ty) : TS y im ig ek (sF A 1025 323 (nI y)) (sF M 711 300 (nI y)) := by
  have fA : ∀ f, ¬ f = 1025 → mF (sF A 1025 323 (nI y)) f 323 = mF A f 323 := fun f hf => by rw [mF_sF, if_neg (fun e => hf e.1)]
  have fM : ∀ f, ¬ f = 711 → mF (sF M 711 300 (nI y)) f 300 = mF M f 300 := fun f hf => by rw [mF_sF, if_neg (fun e => hf e.1)]
  have y1 := h.y1
  obtain ⟨tr, g1, g2, g3, g4, g5, g6, g7, g8⟩ := h.tg
  exact TS.mk (by omega) (by rw [mF_sF, if_pos ⟨rfl, rfl⟩]) ((fA _ (by decide)).trans h.sz) ((fA _ (by decide)).trans h.bo) (by rw [mF_sF, if_pos ⟨rfl, rfl⟩]) ((fM _ (by decide)).trans h.bx) ⟨tr, g1, g2, Nat.le_trans hy g3, g4, g5, fun j hj => g6 j (by omega), g7, g8⟩ h.ie
theorem sp_endC (fu : Nat) (h : JJ A M KN KS t T im ig F ek ty nw) (a1 : Int32) : ∃ v A' M' y, fX16_end fu 323 a1 A = some (v, A') ∧ fX11_end fu 300 a1 M = some (v, M') ∧ y ≤ ty ∧ JJ A' M' KN KS t T im ig F ek y nw := by
  have o := rw_ok323 h.rw'
  have o3 := xw_ok300 h.xw
  have hts := h.ts
  have y1 := hts.y1
  unfold fX16_end fX11_end
  by_cases c1 : a1 < 0
  · exact ⟨-1, A, M, ty, by rw [if_pos c1], by rw [if_pos c1], Nat.le_refl _, h⟩
  · by_cases c2 : a1 ≤ nI ty
    · obtain ⟨y, y2, rfl⟩ := nI_of c1
      have hy : y ≤ ty := (nI_leI y2 (by omega)).mp c2
      refine ⟨nI y, sF A 1025 323 (nI y), sF M 711 300 (nI y), y, ?_, ?_, hy, JJ_tray h (TS_less hts hy) (FF.s _ rfl) (FF.s _ rfl)⟩
      · rw [if_neg c1, gI_ok o, ob_some, hts.ta, if_pos c2, pF_ok o, ob_some]
      · rw [if_neg c1, gI_ok o3, ob_some, hts.tm, if_pos c2, pF_ok o3, ob_some]
    · refine ⟨-1, A, M, ty, ?_, ?_, Nat.le_refl _, h⟩
      · rw [if_neg c1, gI_ok o, ob_some, hts.ta, if_neg c2]
      · rw [if_neg c1, gI_ok o3, ob_some, hts.tm, if_neg c2]
theorem op_end (fu : Nat) (h : JJ X X KN KS t T im ig F ek ty nw) (a1 : Int32) : ∃ v X1 X2 y, fX11_end fu 300 a1 X = some (v, X1) ∧ fX16_end fu 323 a1 X1 = some (v, X2) ∧ y ≤ ty ∧ JJ X2 X2 KN KS t T im ig F ek y nw := by
  obtain ⟨v, X1, X2, p1, p2, ⟨y, p3, p5⟩, p6, p7, p8⟩ := one_op (f := fX11_end fu 300 a1) (g := fX16_end fu 323 a1) (Q := fun _ A' M' => ∃ y, y ≤ ty ∧ JJ A' M' KN KS t T im ig F ek y nw) h (fun M out b e => oX11_end fu 300 a1 M b (by unfold RX; omega) e) (fun M out b e => oX16_end fu 323 a1 M b (by unfold RM; omega) e) (fun A hA => by
    obtain ⟨v, A', M', y, r1, r2, r3, r4⟩ := sp_endC fu hA a1
    exact ⟨v, A', M', r1, r2, y, r3, r4⟩)
  exact ⟨v, X1, X2, y, p1, p2, p3, JJ_sm p5 p6 p8⟩
end End
