/-! ===== part 52: the claim out of the plain functions ===== -/
/-- the memory at the law's entry: nothing made yet -/
def M00 : Mm := (fun _ _ => 0, fun _ _ => none, fun _ _ => 0, fun _ _ => none, (fun _ => 0, fun _ => 0, 300, 0))
set_option maxRecDepth 20000 in
theorem law_start {p : Program} {e : Env} {s : State} {m : MethodId} {below : List Frame} {meth : Method} {c : Code} (l : Launch) {b L : Nat} {xs : Nat → Int32} (C0 : lw_At p s m meth c b L xs) {fu : Nat} {M' : Mm} (hf : fL_law fu xs L (some 250) M00 = some M') :
    W p l e room_1 s m #[Value.ref b] below meth c s.heap [] 0 0 (lw_Z below #[Value.ref b] s) (entryFrame m ([Value.ref b] : List Value).toArray 4) := by
  obtain ⟨hx, hb, hr, hml, hown, hts, hX, hbl, hlk, hgv⟩ := C0
  have htab : ∀ w ∈ tables_1, w.before #[Value.ref b] s = true := fun w hw => hts w (List.mem_append_right _ hw)
  have htG : ∀ w ∈ tbG, w.before #[Value.ref b] s = true := fun w hw => hts w (List.mem_filter.mp hw).1
  have hnar : AllB #[Value.ref b] s narrow_1 := (allB_of _ hgv).2
  have hA : ∀ a : Nat, a < s.heap.size → ¬ (fun q => s.heap.size ≤ q) a := fun a h => by simpa using h
  obtain ⟨D, hD⟩ := cls_all htG
  obtain ⟨dA, hdA⟩ := arr_all htG htab
  obtain ⟨adK, adV, hS⟩ := st_all hnar hA
  have hW := str_words hnar htab hS
  obtain ⟨ts, hz, hT⟩ := step_row hnar htab hA
  have hcs := compact hnar htab hA
  obtain ⟨tf, hfm⟩ : ∃ tf : Nat, va_Z "jdk/internal/util/Preconditions" "SIOOBE_FORMATTER" "Ljava/util/function/BiFunction;" .null (fun q => s.heap.size ≤ q) s s.heap ∨ va_Z "jdk/internal/util/Preconditions" "SIOOBE_FORMATTER" "Ljava/util/function/BiFunction;" (.ref tf) (fun q => s.heap.size ≤ q) s s.heap := by
    rcases fmtr hnar htab hA with h | ⟨t, h⟩
    · exact ⟨0, Or.inl h⟩
    · exact ⟨t, Or.inr h⟩
  have hlen : strB.length ≤ 100 := by decide
  obtain ⟨E, e0, eK, eV, e200, e201, e250⟩ : ∃ E : Nat → Nat, (∀ a, 300 ≤ a → E a = s.heap.size + (a - 300)) ∧ (∀ k, k < strB.length → E k = adK k) ∧ (∀ k, k < strB.length → E (100 + k) = adV k) ∧ E 200 = ts ∧ E 201 = tf ∧ E 250 = b := by
    refine ⟨fun a => if 300 ≤ a then s.heap.size + (a - 300) else if a = 200 then ts else if a = 201 then tf else if a = 250 then b else if a < 100 then adK a else adV (a - 100), fun a ha => by simp [ha], fun k hk => ?_, fun k hk => ?_, rfl, rfl, rfl⟩
    · have h1 : ¬ 300 ≤ k := by omega
      have h2 : ¬ k = 200 := by omega
      have h3 : ¬ k = 201 := by omega
      have h4 : ¬ k = 250 := by omega
      have h5 : k < 100 := by omega
      simp only [h1, h2, h3, h4, h5, if_true, if_false]
    · have h1 : ¬ 300 ≤ 100 + k := by omega
      have h2 : ¬ 100 + k = 200 := by omega
      have h3 : ¬ 100 + k = 201 := by omega
      have h4 : ¬ 100 + k = 250 := by omega
      have h5 : ¬ 100 + k < 100 := by omega
      simp only [h1, h2, h3, h4, h5, if_false]
      congr 1
      omega
  have hAux : AuxK E s.heap.size s.heap s := by
    refine ⟨fun w hw => ?_, ao_all htab, fun q hq => ?_, fun k hk => ?_, hcs, by rw [e200]; exact hz, by rw [e200]; exact hT, ?_, cast_all htab⟩
    · obtain ⟨a, i, y, z, rfl⟩ := nest_kind w hw
      exact va_Nw.of rfl (htab _ (nest_in _ hw))
    · rw [eK _ (str_ids q hq)]
      exact hW q hq
    · obtain ⟨-, h1, h2, h3, h4⟩ := hS k hk
      refine ⟨?_, ?_, ?_, ?_⟩
      · rw [eK k hk]; exact h1
      · rw [eK k hk]; exact h2
      · rw [eK k hk, eV k hk]; exact h3
      · rw [eV k hk]; exact h4
    · rcases hfm with h | h
      · exact ⟨none, h⟩
      · exact ⟨some 201, by show va_Z _ _ _ (.ref (E 201)) _ _ _; rw [e201]; exact h⟩
  have hl := lv_entry ([Value.ref b]) (n := 4) (Nat.le_of_ble_eq_true rfl)
  rw [lg_entry_eq]
  generalize (lg_sl ([Value.ref b]) ++ List.replicate (4 - (lg_sl ([Value.ref b])).length) Slot.unset).toArray = ls at hl ⊢
  have hl2 : lv_has ls 4 (lvM E [(0, pR (some 250))]) := by
    show lv_has ls 4 [(0, .ref (E 250))]
    rw [e250]
    exact hl
  have hg := wL_law (x := (p, l, e, room_1, s, m, #[Value.ref b], below, meth, c, lw_Z below #[Value.ref b] s, 4, E, D, dA, s.heap.size, s.heap)) (n0 := 300) (sl0 := 0)
    ⟨⟨hx, hb, hml, hown, htG⟩, ⟨hD, hdA⟩, hAux, rfl, hsum_end _, Nat.le_refl _, rfl, rfl, hlk, hr, rfl, rfl⟩ ⟨rfl, rfl, hb, hr, b, rfl, rfl⟩ rfl fu xs L (by
      show va_X (E 250) L xs s s.heap ∧ E 250 < s.heap.size
      rw [e250]; exact ⟨hX, hbl⟩) (some 250) M00 hf
  have h9 := hg s.heap [] ls ⟨⟨⟨e0, trivial⟩, ⟨Nat.le_refl _, by decide, by decide⟩, rfl, hsum_end _, fun a h1 h2 => absurd h2 (by show ¬ a < 300; omega), fun q _ => rfl, fun a i h => absurd h (by show ¬ (0 : Nat) = 100; decide)⟩, Nat.le_refl _, by show hsum s.heap.size s.heap + hsum s.heap.size s.heap = hsum s.heap.size s.heap; rw [hsum_end], fun q hq => absurd hq List.not_mem_nil⟩ hl2
  have h8 : W p l e room_1 s m #[Value.ref b] below meth c s.heap [] (s.heap.size - s.heap.size) (hsum s.heap.size s.heap) (lw_Z below #[Value.ref b] s) (F0 m 0 ls []) := h9
  exact W.cs (by omega) (hsum_end _).symm h8
