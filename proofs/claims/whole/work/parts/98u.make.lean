/-! ===== part 98u: the head of an answer, in the reference ===== -/
/-- f goes on as K does, with d written behind -/
def stK (k : Nat) (A0 : Mm) (f K : Mm → Option Mm) (d : List Nat) : Prop := ∀ A l, HA k A0 A → By A → WA A k l → l.length + d.length ≤ 256 → ∃ A', f A = K A' ∧ HA k A0 A' ∧ By A' ∧ WA A' k (l ++ d)
theorem stK.id {k : Nat} {A0 : Mm} {f K : Mm → Option Mm} (h : ∀ A, HA k A0 A → f A = K A) : stK k A0 f K [] := fun A l hA hB hw _ => ⟨A, h A hA, hA, hB, by rw [List.append_nil]; exact hw⟩
theorem stK.tr {k : Nat} {A0 : Mm} {f g K : Mm → Option Mm} {d e : List Nat} (hf : stK k A0 f g d) (hg : stK k A0 g K e) : stK k A0 f K (d ++ e) := fun A l hA hB hw hl => by
  rw [List.length_append] at hl
  obtain ⟨A1, r1, r2, r3, r4⟩ := hf A l hA hB hw (by omega)
  obtain ⟨A2, s1, s2, s3, s4⟩ := hg A1 (l ++ d) r2 r3 r4 (by rw [List.length_append]; omega)
  exact ⟨A2, r1.trans s1, s2, s3, by rw [← List.append_assoc]; exact s4⟩
theorem stK.of {k : Nat} {A0 : Mm} {f g K : Mm → Option Mm} {d : List Nat} (h : stK k A0 g K d) (e : ∀ A, HA k A0 A → f A = g A) : stK k A0 f K d := fun A l hA hB hw hl => by
  obtain ⟨A', r1, r2⟩ := h A l hA hB hw hl
  exact ⟨A', (e A hA).trans r1, r2⟩
section Make
variable {k : Nat} {A0 : Mm}
theorem stK_w (hR0 : RW A0) {f : Nat → Mm → Option Mm} {d : List Nat} (K : Mm → Option Mm) (h : stA k (f 323) d) : stK k A0 (fun A => (rc A 16 (some 323)).bind fun q => (f q A).bind K) K d := fun A l hA hB hw hl => by
  have hR := hA.rW hR0
  obtain ⟨A', r1, r2, r3, r4⟩ := h A l hR hB hw hl
  refine ⟨A', ?_, hA.tr r2, r3, r4⟩
  show ((rc A 16 (some 323)).bind fun q => (f q A).bind K) = _
  rw [rc_ok (rw_ok323 hR), ob_some, r1, ob_some]
theorem k_say (hk : k < 16) (hR0 : RW A0) (fu : Nat) (hfu : 5000 ≤ fu) {t : Nat} (ht : t < 50) (K : Mm → Option Mm) : stK k A0 (fun A => (rc A 16 (some 323)).bind fun q => (fX16_say fu q (some (342 + 4 * k)) (some t) A).bind K) K (tl t) := stK_w hR0 (f := fun q A => fX16_say fu q (some (342 + 4 * k)) (some t) A) K (m_say fu (by omega) hk ht)
theorem k_line (hk : k < 16) (hR0 : RW A0) (fu : Nat) (hfu : 5000 ≤ fu) (K : Mm → Option Mm) : stK k A0 (fun A => (rc A 16 (some 323)).bind fun q => (fX16_line fu q (some (342 + 4 * k)) A).bind K) K [13, 10] := stK_w hR0 (f := fun q A => fX16_line fu q (some (342 + 4 * k)) A) K (m_line fu hk)
theorem k_code (hk : k < 16) (hR0 : RW A0) (fu : Nat) (hfu : 5000 ≤ fu) {v : Nat} (hv : v < 128) (K : Mm → Option Mm) : stK k A0 (fun A => (rc A 16 (some 323)).bind fun q => (fX16_code fu q (some (342 + 4 * k)) (nI v) A).bind K) K [v] := stK_w hR0 (f := fun q A => fX16_code fu q (some (342 + 4 * k)) (nI v) A) K (m_code fu hk hv)
variable {st clo : Nat} {ix len : Int32}
theorem m_1067 (hR0 : RW A0) (hst : mF A0 1067 323 = nI st) {A : Mm} (hA : HA k A0 A) : gI A 16 1067 (some 323) = some (nI st) := by
  rw [gI_ok (rw_ok323 (hA.rW hR0)), hA.2.2.2.1 _ _ (by omega), hst]
theorem k_228 (hk : k < 16) (hR0 : RW A0) (fu : Nat) (hfu : 5000 ≤ fu) (hclo : clo ≤ 1) : stK k A0 (fun A => fX16_make_L228 fu 323 (some (342 + 4 * k)) ix (nI clo) len A) (fun A => fX16_make_L245 fu 323 (some (342 + 4 * k)) ix len A) (if clo = 0 then [] else tl 49 ++ [13, 10]) := by
  by_cases q : clo = 0
  · rw [if_pos q]
    refine stK.id (fun A _ => ?_)
    unfold fX16_make_L228
    rw [if_pos (show nI clo = 0 by rw [q]; rfl)]
  · rw [if_neg q]
    refine stK.of ((k_say hk hR0 fu hfu (t := 49) (by decide) _).tr (k_line hk hR0 fu hfu _)) (fun A _ => ?_)
    unfold fX16_make_L228
    rw [if_neg (show ¬ nI clo = 0 from fun z => q ((nI_eq (b := 0) (by omega) (by decide)).mp z))]
theorem k_205 (hk : k < 16) (hR0 : RW A0) (fu : Nat) (hfu : 5000 ≤ fu) (hst : mF A0 1067 323 = nI st) (hst1 : st < 1000) : stK k A0 (fun A => fX16_make_L205 fu 323 (some (342 + 4 * k)) ix (nI clo) len A) (fun A => fX16_make_L228 fu 323 (some (342 + 4 * k)) ix (nI clo) len A) (if st = 405 then tl 48 ++ [13, 10] else []) := by
  by_cases q : st = 405
  · rw [if_pos q]
    refine stK.of ((k_say hk hR0 fu hfu (t := 48) (by decide) _).tr (k_line hk hR0 fu hfu _)) (fun A hA => ?_)
    unfold fX16_make_L205
    rw [m_1067 hR0 hst hA, ob_some, if_pos (show nI st = (405 : Int32) by rw [q]; rfl)]
  · rw [if_neg q]
    refine stK.id (fun A hA => ?_)
    unfold fX16_make_L205
    rw [m_1067 hR0 hst hA, ob_some, if_neg (show ¬ nI st = (405 : Int32) from fun z => q ((nI_eq (b := 405) (by omega) (by decide)).mp z))]
theorem k_149 (hk : k < 16) (hR0 : RW A0) (fu : Nat) (hfu : 5000 ≤ fu) {r : Nat} (hix : ix = -1 ∨ (ix = nI r ∧ r < 64)) : stK k A0 (fun A => fX16_make_L149 fu 323 (some (342 + 4 * k)) ix (nI clo) len A) (fun A => fX16_make_L205 fu 323 (some (342 + 4 * k)) ix (nI clo) len A) (if ix < 0 then [] else tl 47 ++ (hk' (mA A0 329 r) ++ [34, 13, 10])) := by
  rcases hix with q | ⟨q, hr⟩
  · subst q
    rw [if_pos (by decide)]
    refine stK.id (fun A _ => ?_)
    unfold fX16_make_L149
    rw [if_pos (by decide)]
  · subst q
    rw [if_neg (nI_pos (by omega))]
    refine stK.of ((k_say hk hR0 fu hfu (t := 47) (by decide) (fun A => fX16_make_L164 fu fu 323 (some (342 + 4 * k)) (nI r) (nI clo) len 0 A)).tr (fun A l hA hB hw hl => ?_)) (fun A _ => ?_)
    · have hle : l.length + 8 + 3 ≤ 256 := by
        rw [List.length_append, show (hk' (mA A0 329 r)).length = 8 from hk_len _ 8 0] at hl
        exact hl
      obtain ⟨A', r1, r2, r3, r4⟩ := m_mark fu hk (mA A0 329 r) hr (nI clo) len 8 0 (fu - 1) A l (by omega) (by omega) (hA.rW hR0) hB hw (congrFun (hA.2.2.2.2 329 (by omega)) r) hle
      rw [show fu - 1 + 1 = fu by omega] at r1
      exact ⟨A', r1, hA.tr r2, r3, r4⟩
    · unfold fX16_make_L149
      rw [if_neg (nI_pos (by omega))]
end Make
