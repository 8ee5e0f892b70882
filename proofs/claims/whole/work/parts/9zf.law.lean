/-! ===== part 9zf: each call, and the law's loop (written by gen/mk9zf.py) ===== -/
/-- the room that k calls may have used -/
def kS : Nat → Nat
  | 0 => 570076
  | k + 1 => kS k + max (40 * k + 60) 4096
theorem kS_le : ∀ d k, kS k ≤ kS (k + d)
  | 0, _ => Nat.le_refl _
  | d + 1, k => Nat.le_trans (kS_le d k) (Nat.le_add_right _ _)
theorem kS_512 : kS 512 ≤ 7302250 := by decide +kernel
theorem kS_ok {k : Nat} (h : k ≤ 512) : kS k ≤ 7302250 := by
  have := kS_le (512 - k) k
  rw [show k + (512 - k) = 512 by omega] at this
  exact Nat.le_trans this kS_512
theorem kS_s (k : Nat) : kS k + (40 * k + 60) ≤ kS (k + 1) ∧ kS k + 4096 ≤ kS (k + 1) ∧ kS k ≤ kS (k + 1) := by
  show kS k + (40 * k + 60) ≤ kS k + max (40 * k + 60) 4096 ∧ kS k + 4096 ≤ kS k + max (40 * k + 60) 4096 ∧ kS k ≤ kS k + max (40 * k + 60) 4096
  omega
/-- booted or not -/
def MLk (k : Nat) (X : Mm) : Prop := (∃ im ig ek ty, LB (640 + k) (kS k) im ig ek ty X ∧ ty ≤ 20 * k ∧ mF X 1028 323 = 0 ∧ mF X 712 300 = 0) ∨ ∃ t T im ig F ek ty nw, JJ X X (640 + k) (kS k) t T im ig F ek ty nw ∧ ty ≤ 20 * k ∧ t ≤ k ∧ (ty ≠ 0 → t + 1 ≤ k) ∧ T ≤ 78000 * k
/-- what holds after k calls -/
def Lk (k : Nat) (X : Mm) : Prop := Lst0 X ∧ DP k X ∧ MLk k X
/-- a call in both -/
def OpOk {α : Type} (k : Nat) (X : Mm) (f g : Mm → Option (α × Mm)) : Prop := ∃ v X1 X2, f X = some (v, X1) ∧ okA X1 16 323 ∧ g X1 = some (v, X2) ∧ Lk (k + 1) X2
section Law
variable {X : Mm} {k : Nat}
theorem MLk.b (h : MLk k X) : ∃ KN KS im ig ek ty, LB KN KS im ig ek ty X := by
  rcases h with ⟨im, ig, ek, ty, h, -⟩ | ⟨t, T, im, ig, F, ek, ty, nw, h, -⟩
  · exact ⟨_, _, _, _, _, _, h⟩
  · exact ⟨_, _, _, _, _, _, JJ_LB h⟩
theorem MLk_s (hk : k < 512) (h : MLk k X) : MLk (k + 1) X := by
  have a := kS_s k
  have b := kS_ok (k := k + 1) (by omega)
  rcases h with ⟨im, ig, ek, ty, h, h1, h2⟩ | ⟨t, T, im, ig, F, ek, ty, nw, h, h1, h2, h3, h4⟩
  · exact Or.inl ⟨im, ig, ek, ty, LB_K h (by omega) (by omega) (by omega) b, by omega, h2⟩
  · exact Or.inr ⟨t, T, im, ig, F, ek, ty, nw, JJ_K h (by omega) (by omega) (by omega) b, by omega, by omega, fun q => by have := h3 q; omega, by omega⟩
theorem seen_op {α : Type} {f g : Mm → Option (α × Mm)} (hk : k < 512) (h : Lk k X) (e : ∃ v, g X = some (v, X) ∧ f X = some (v, X)) : OpOk k X f g := by
  obtain ⟨h1, h2, h3⟩ := h
  obtain ⟨v, e1, e2⟩ := e
  obtain ⟨_, _, _, _, _, _, b⟩ := h3.b
  exact ⟨v, X, X, e2, rw_ok323 b.rw, e1, h1, DP_s h2, MLk_s hk h3⟩
theorem done_op {f g : Mm → Option (Int32 × Mm)} (h : Lk k X) (hf : ∀ M out, Bd RX TX M → f M = some out → Sm RX M out.2 ∧ Bd RX TX out.2) (ef : ∀ M out, Lst0 M → f M = some out → Lst0 out.2) (hg : ∀ M out, Bd RM TM M → g M = some out → Sm RM M out.2 ∧ Bd RM TM out.2) (dg : ∀ M out, DP k M → g M = some out → DP (k + 1) out.2) {v : Int32} {X1 X2 : Mm} (e1 : f X = some (v, X1)) (e2 : g X1 = some (v, X2)) (m : MLk (k + 1) X2) : OpOk k X f g := by
  obtain ⟨h1, h2, h3⟩ := h
  obtain ⟨_, _, _, _, _, _, b⟩ := h3.b
  obtain ⟨s1, b1⟩ := hf X _ b.bm e1
  have s1 : Sm RX X X1 := s1
  have b1 : Bd RX TX X1 := b1
  have bA := Bd_sx b.ba s1 b1
  obtain ⟨s2, b2⟩ := hg X1 _ bA e2
  have l1 : Lst0 X1 := ef X _ h1 e1
  exact ⟨v, X1, X2, e1, rw_ok323 (RW_sx b.rw (SmR_of s1 b.n450)), e2, Lst0_sm l1 s2, dg X1 _ (DP_sm b.ba s1 h2) e2, m⟩
theorem L_feed (fu : Nat) (hfu : 100000 ≤ fu) (hk : k < 512) (h : Lk k X) (a1 a2 a3 a4 a5 : Int32) : OpOk k X (fX11_feed fu 300 a1 a2 a3 a4 a5) (fX16_feed fu 323 a1 a2 a3 a4 a5) := by
  have a := kS_s k
  have b := kS_ok (k := k + 1) (by omega)
  have h' := h
  obtain ⟨h1, h2, h3⟩ := h'
  rcases h3 with ⟨im, ig, ek, ty, m, m1, m2, m3⟩ | ⟨t, T, im, ig, F, ek, ty, nw, m, m1, m2, m3, m4⟩
  · obtain ⟨v, X1, X2, y, e1, e2, e3, e4, e5, e6⟩ := op_feed0 fu (by omega) m h1 (KN' := 640 + (k + 1)) (KS' := kS (k + 1)) (by omega) (by omega) (by omega) b a1 a2 a3 a4 a5
    exact done_op h (fun M out b e => oX11_feed fu 300 a1 a2 a3 a4 a5 M b (by unfold RX; omega) e) (fun M out b e => eX11_feed fu 300 a1 a2 a3 a4 a5 M b e) (fun M out b e => oX16_feed fu 323 a1 a2 a3 a4 a5 M b (by unfold RM; omega) e) (fun M out b e => DP_s (dX16_feed fu 323 a1 a2 a3 a4 a5 M b e)) e1 e2 (Or.inl ⟨im, ig, ek, y, e4, by omega, e5.trans m2, e6.trans m3⟩)
  · obtain ⟨v, X1, X2, y, e1, e2, e3, e4⟩ := op_feed fu (by omega) m h1 (KN' := 640 + (k + 1)) (KS' := kS (k + 1)) (by omega) (by omega) (by omega) b a1 a2 a3 a4 a5
    exact done_op h (fun M out b e => oX11_feed fu 300 a1 a2 a3 a4 a5 M b (by unfold RX; omega) e) (fun M out b e => eX11_feed fu 300 a1 a2 a3 a4 a5 M b e) (fun M out b e => oX16_feed fu 323 a1 a2 a3 a4 a5 M b (by unfold RM; omega) e) (fun M out b e => DP_s (dX16_feed fu 323 a1 a2 a3 a4 a5 M b e)) e1 e2 (Or.inr ⟨t, T, im, ig, F, ek, y, nw, e4, by omega, by omega, fun _ => by omega, by omega⟩)
theorem L_end (fu : Nat) (hfu : 100000 ≤ fu) (hk : k < 512) (h : Lk k X) (a1 : Int32) : OpOk k X (fX11_end fu 300 a1) (fX16_end fu 323 a1) := by
  have a := kS_s k
  have b := kS_ok (k := k + 1) (by omega)
  have h' := h
  obtain ⟨h1, h2, h3⟩ := h'
  rcases h3 with ⟨im, ig, ek, ty, m, m1, m2, m3⟩ | ⟨t, T, im, ig, F, ek, ty, nw, m, m1, m2, m3, m4⟩
  · obtain ⟨v, X1, X2, y, e1, e2, e3, e4, e5, e6⟩ := op_end0 fu m a1
    exact done_op h (fun M out b e => oX11_end fu 300 a1 M b (by unfold RX; omega) e) (fun M out b e => eX11_end fu 300 a1 M b e) (fun M out b e => oX16_end fu 323 a1 M b (by unfold RM; omega) e) (fun M out b e => DP_s (dX16_end fu 323 a1 M b e)) e1 e2 (MLk_s hk (Or.inl ⟨im, ig, ek, y, e4, by omega, e5.trans m2, e6.trans m3⟩))
  · obtain ⟨v, X1, X2, y, e1, e2, e3, e4⟩ := op_end fu m a1
    exact done_op h (fun M out b e => oX11_end fu 300 a1 M b (by unfold RX; omega) e) (fun M out b e => eX11_end fu 300 a1 M b e) (fun M out b e => oX16_end fu 323 a1 M b (by unfold RM; omega) e) (fun M out b e => DP_s (dX16_end fu 323 a1 M b e)) e1 e2 (MLk_s hk (Or.inr ⟨t, T, im, ig, F, ek, y, nw, e4, by omega, by omega, fun q => m3 (by omega), by omega⟩))
theorem L_install (fu : Nat) (hfu : 100000 ≤ fu) (hk : k < 512) (h : Lk k X) : OpOk k X (fX11_install fu 300 ) (fX16_install fu 323 ) := by
  have a := kS_s k
  have b := kS_ok (k := k + 1) (by omega)
  have h' := h
  obtain ⟨h1, h2, h3⟩ := h'
  have key : ∀ im ig ek ty, LB (640 + k) (kS k) im ig ek ty X → ty ≤ 20 * k → OpOk k X (fX11_install fu 300) (fX16_install fu 323) := fun im ig ek ty m m1 => by
    obtain ⟨v, X1, X2, e1, e2, e3⟩ := op_install fu (by omega) m h1 (KN' := 640 + (k + 1)) (KS' := kS (k + 1)) (by omega) (by omega) (by omega) b
    refine done_op h (fun M out b e => oX11_install fu 300  M b (by unfold RX; omega) e) (fun M out b e => eX11_install fu 300  M b e) (fun M out b e => oX16_install fu 323  M b (by unfold RM; omega) e) (fun M out b e => DP_s (dX16_install fu 323  M b e)) e1 e2 ?_
    rcases e3 with ⟨q, -⟩ | ⟨ig', e4, e5, e6⟩
    · omega
    · exact Or.inl ⟨ty, ig', ek, 0, e4, by omega, e5, e6⟩
  rcases h3 with ⟨im, ig, ek, ty, m, m1, m2, m3⟩ | ⟨t, T, im, ig, F, ek, ty, nw, m, m1, m2, m3, m4⟩
  · exact key im ig ek ty m m1
  · exact key im ig ek ty (JJ_LB m) m1
theorem L_boot (fu : Nat) (hfu : 100000 ≤ fu) (hk : k < 512) (h : Lk k X) (a1 a2 a3 a4 a5 : Int32) : OpOk k X (fX11_boot fu 300 a1 a2 a3 a4 a5) (fX16_boot fu 323 a1 a2 a3 a4 a5) := by
  have a := kS_s k
  have b := kS_ok (k := k + 1) (by omega)
  have h' := h
  obtain ⟨h1, h2, h3⟩ := h'
  have key : ∀ im ig ek ty, LB (640 + k) (kS k) im ig ek ty X → ty ≤ 20 * k → OpOk k X (fX11_boot fu 300 a1 a2 a3 a4 a5) (fX16_boot fu 323 a1 a2 a3 a4 a5) := fun im ig ek ty m m1 => by
    obtain ⟨v, X1, X2, e1, e2, e3⟩ := op_boot fu (by omega) m h1 (KN' := 640 + (k + 1)) (KS' := kS (k + 1)) (by omega) (by omega) (by omega) b a1 a2 a3 a4 a5
    refine done_op h (fun M out b e => oX11_boot fu 300 a1 a2 a3 a4 a5 M b (by unfold RX; omega) e) (fun M out b e => eX11_boot fu 300 a1 a2 a3 a4 a5 M b e) (fun M out b e => oX16_boot fu 323 a1 a2 a3 a4 a5 M b (by unfold RM; omega) e) (fun M out b e => DP_s (dX16_boot fu 323 a1 a2 a3 a4 a5 M b e)) e1 e2 ?_
    rcases e3 with q | ⟨F, ek', e4⟩
    · rw [q]; exact MLk_s hk h3
    · exact Or.inr ⟨0, 0, im, ig, F, ek', ty, 0, e4, by omega, by omega, fun _ => by omega, by omega⟩
  rcases h3 with ⟨im, ig, ek, ty, m, m1, m2, m3⟩ | ⟨t, T, im, ig, F, ek, ty, nw, m, m1, m2, m3, m4⟩
  · exact key im ig ek ty m m1
  · exact key im ig ek ty (JJ_LB m) m1
theorem L_arrive (fu : Nat) (hfu : 100000 ≤ fu) (hk : k < 512) (h : Lk k X) (a1 : Int32) : OpOk k X (fX11_arrive fu 300 a1) (fX16_arrive fu 323 a1) := by
  have a := kS_s k
  have b := kS_ok (k := k + 1) (by omega)
  have h' := h
  obtain ⟨h1, h2, h3⟩ := h'
  rcases h3 with ⟨im, ig, ek, ty, m, m1, m2, m3⟩ | ⟨t, T, im, ig, F, ek, ty, nw, m, m1, m2, m3, m4⟩
  · exact seen_op hk h (n_arrive fu m m2 m3 a1)
  · obtain ⟨v, X1, X2, T', ty', nw', u, e1, e2, e3, e4, e5, e6⟩ := op_arrive fu hfu m (by omega) (by omega) a1
    have e7 := JJ_K e6 (KN' := 640 + (k + 1)) (KS' := kS (k + 1)) (by omega) (by omega) (by omega) b
    refine done_op h (fun M out b e => oX11_arrive fu 300 a1 M b (by unfold RX; omega) e) (fun M out b e => eX11_arrive fu 300 a1 M b e) (fun M out b e => oX16_arrive fu 323 a1 M b (by unfold RM; omega) e) (fun M out b e => dX16_arrive fu (by omega) 323 a1 M b e) e1 e2 (Or.inr ⟨t + u, T', im, ig, F, ek, ty', nw', e7, ?_, ?_, ?_, by omega⟩)
    · omega
    · rcases e5 with ⟨q1, q2⟩ | ⟨q1, q2, q3⟩
      · omega
      · have := m3 q2; omega
    · rcases e5 with ⟨q1, q2⟩ | ⟨q1, q2, q3⟩
      · intro q
        have := m3 (by omega)
        omega
      · intro q
        exact absurd q3 q
theorem L_pass (fu : Nat) (hfu : 100000 ≤ fu) (hk : k < 512) (h : Lk k X) (a1 : Int32) : OpOk k X (fX11_pass fu 300 a1) (fX16_pass fu 323 a1) := by
  have a := kS_s k
  have b := kS_ok (k := k + 1) (by omega)
  have h' := h
  obtain ⟨h1, h2, h3⟩ := h'
  rcases h3 with ⟨im, ig, ek, ty, m, m1, m2, m3⟩ | ⟨t, T, im, ig, F, ek, ty, nw, m, m1, m2, m3, m4⟩
  · exact seen_op hk h (n_pass fu m m2 m3 a1)
  · obtain ⟨v, X1, X2, T', nw', e1, e2, e3, e4, e5⟩ := op_pass fu hfu m (by omega) a1
    exact done_op h (fun M out b e => oX11_pass fu 300 a1 M b (by unfold RX; omega) e) (fun M out b e => eX11_pass fu 300 a1 M b e) (fun M out b e => oX16_pass fu 323 a1 M b (by unfold RM; omega) e) (fun M out b e => DP_s (dX16_pass fu 323 a1 M b e)) e1 e2 (Or.inr ⟨t, T', im, ig, F, ek, ty, nw', JJ_K e5 (by omega) (by omega) (by omega) b, by omega, by omega, fun q => by have := m3 q; omega, by omega⟩)
theorem L_now (fu : Nat) (hfu : 100000 ≤ fu) (hk : k < 512) (h : Lk k X) : OpOk k X (fX11_now fu 300 ) (fX16_now fu 323 ) := by
  have a := kS_s k
  have b := kS_ok (k := k + 1) (by omega)
  have h' := h
  obtain ⟨h1, h2, h3⟩ := h'
  rcases h3 with ⟨im, ig, ek, ty, m, m1, m2, m3⟩ | ⟨t, T, im, ig, F, ek, ty, nw, m, m1, m2, m3, m4⟩
  · exact seen_op hk h (n_now fu m m2 m3)
  · exact seen_op hk h (⟨_, ob_now fu m⟩)
theorem L_sent (fu : Nat) (hfu : 100000 ≤ fu) (hk : k < 512) (h : Lk k X) : OpOk k X (fX11_sent fu 300 ) (fX16_sent fu 323 ) := by
  have a := kS_s k
  have b := kS_ok (k := k + 1) (by omega)
  have h' := h
  obtain ⟨h1, h2, h3⟩ := h'
  rcases h3 with ⟨im, ig, ek, ty, m, m1, m2, m3⟩ | ⟨t, T, im, ig, F, ek, ty, nw, m, m1, m2, m3, m4⟩
  · exact seen_op hk h (n_sent fu m m2 m3)
  · exact seen_op hk h (⟨_, ob_sent fu m⟩)
theorem L_length (fu : Nat) (hfu : 100000 ≤ fu) (hk : k < 512) (h : Lk k X) (a1 : Int32) : OpOk k X (fX11_length fu 300 a1) (fX16_length fu 323 a1) := by
  have a := kS_s k
  have b := kS_ok (k := k + 1) (by omega)
  have h' := h
  obtain ⟨h1, h2, h3⟩ := h'
  rcases h3 with ⟨im, ig, ek, ty, m, m1, m2, m3⟩ | ⟨t, T, im, ig, F, ek, ty, nw, m, m1, m2, m3, m4⟩
  · exact seen_op hk h (n_length fu m m2 m3 a1)
  · exact seen_op hk h (ob_length fu m (by omega) a1)
theorem L_at (fu : Nat) (hfu : 100000 ≤ fu) (hk : k < 512) (h : Lk k X) (a1 a2 : Int32) : OpOk k X (fX11_at fu 300 a1 a2) (fX16_at fu 323 a1 a2) := by
  have a := kS_s k
  have b := kS_ok (k := k + 1) (by omega)
  have h' := h
  obtain ⟨h1, h2, h3⟩ := h'
  rcases h3 with ⟨im, ig, ek, ty, m, m1, m2, m3⟩ | ⟨t, T, im, ig, F, ek, ty, nw, m, m1, m2, m3, m4⟩
  · exact seen_op hk h (n_at fu m m2 m3 a1 a2)
  · exact seen_op hk h (ob_at fu m (by omega) a1 a2)
theorem L_time (fu : Nat) (hfu : 100000 ≤ fu) (hk : k < 512) (h : Lk k X) (a1 : Int32) : OpOk k X (fX11_time fu 300 a1) (fX16_time fu 323 a1) := by
  have a := kS_s k
  have b := kS_ok (k := k + 1) (by omega)
  have h' := h
  obtain ⟨h1, h2, h3⟩ := h'
  rcases h3 with ⟨im, ig, ek, ty, m, m1, m2, m3⟩ | ⟨t, T, im, ig, F, ek, ty, nw, m, m1, m2, m3, m4⟩
  · exact seen_op hk h (n_time fu m m2 m3 a1)
  · exact seen_op hk h (ob_time fu m (by omega) a1)
theorem L_state (fu : Nat) (hfu : 100000 ≤ fu) (hk : k < 512) (h : Lk k X) (a1 : Int32) : OpOk k X (fX11_state fu 300 a1) (fX16_state fu 323 a1) := by
  have a := kS_s k
  have b := kS_ok (k := k + 1) (by omega)
  have h' := h
  obtain ⟨h1, h2, h3⟩ := h'
  rcases h3 with ⟨im, ig, ek, ty, m, m1, m2, m3⟩ | ⟨t, T, im, ig, F, ek, ty, nw, m, m1, m2, m3, m4⟩
  · obtain ⟨v, -, e1, e2⟩ := n_state fu m m2 m3 a1
    exact seen_op hk h ⟨v, e1, e2⟩
  · exact seen_op hk h (ob_state fu m a1)
theorem L_look (fu : Nat) (hfu : 100000 ≤ fu) (hk : k < 512) (h : Lk k X) (a1 a2 : Int32) : OpOk k X (fX11_look fu 300 a1 a2) (fX16_look fu 323 a1 a2) := by
  have a := kS_s k
  have b := kS_ok (k := k + 1) (by omega)
  have h' := h
  obtain ⟨h1, h2, h3⟩ := h'
  rcases h3 with ⟨im, ig, ek, ty, m, m1, m2, m3⟩ | ⟨t, T, im, ig, F, ek, ty, nw, m, m1, m2, m3, m4⟩
  · exact seen_op hk h (n_look fu m m2 m3 a1 a2)
  · exact seen_op hk h (ob_look fu m h2 (by omega) a1 a2)
theorem L_cached (fu : Nat) (hfu : 100000 ≤ fu) (hk : k < 512) (h : Lk k X) (a1 : Int32) : OpOk k X (fX11_cached fu 300 a1) (fX16_cached fu 323 a1) := by
  have a := kS_s k
  have b := kS_ok (k := k + 1) (by omega)
  have h' := h
  obtain ⟨h1, h2, h3⟩ := h'
  rcases h3 with ⟨im, ig, ek, ty, m, m1, m2, m3⟩ | ⟨t, T, im, ig, F, ek, ty, nw, m, m1, m2, m3, m4⟩
  · exact seen_op hk h (n_cached fu m m2 m3 a1)
  · exact seen_op hk h (ob_cached fu (by omega) m a1)
theorem L_waiting (fu : Nat) (hfu : 100000 ≤ fu) (hk : k < 512) (h : Lk k X) : OpOk k X (fX11_waiting fu 300 ) (fX16_waiting fu 323 ) := by
  have a := kS_s k
  have b := kS_ok (k := k + 1) (by omega)
  have h' := h
  obtain ⟨h1, h2, h3⟩ := h'
  rcases h3 with ⟨im, ig, ek, ty, m, m1, m2, m3⟩ | ⟨t, T, im, ig, F, ek, ty, nw, m, m1, m2, m3, m4⟩
  · exact seen_op hk h (n_waiting fu (by omega) m m2 m3)
  · exact seen_op hk h (ob_waiting fu (by omega) m)
theorem L_counted (fu : Nat) (hfu : 100000 ≤ fu) (hk : k < 512) (h : Lk k X) (a1 : Int32) : OpOk k X (fX11_counted fu 300 a1) (fX16_counted fu 323 a1) := by
  have a := kS_s k
  have b := kS_ok (k := k + 1) (by omega)
  have h' := h
  obtain ⟨h1, h2, h3⟩ := h'
  rcases h3 with ⟨im, ig, ek, ty, m, m1, m2, m3⟩ | ⟨t, T, im, ig, F, ek, ty, nw, m, m1, m2, m3, m4⟩
  · exact seen_op hk h (n_counted fu m m2 m3 a1)
  · exact seen_op hk h (ob_counted fu m a1)
theorem L_damage (fu : Nat) (hfu : 100000 ≤ fu) (hk : k < 512) (h : Lk k X) (a1 a2 : Int32) : OpOk k X (fX11_damage fu 300 a1 a2) (fX16_damage fu 323 a1 a2) := by
  have a := kS_s k
  have b := kS_ok (k := k + 1) (by omega)
  have h' := h
  obtain ⟨h1, h2, h3⟩ := h'
  rcases h3 with ⟨im, ig, ek, ty, m, m1, m2, m3⟩ | ⟨t, T, im, ig, F, ek, ty, nw, m, m1, m2, m3, m4⟩
  · obtain ⟨v, X1, X2, e1, e2, e3, e4, e5⟩ := op_damage0 fu (by omega) m m2 m3 a1 a2
    exact done_op h (fun M out b e => oX11_damage fu 300 a1 a2 M b (by unfold RX; omega) e) (fun M out b e => eX11_damage fu 300 a1 a2 M b e) (fun M out b e => oX16_damage fu 323 a1 a2 M b (by unfold RM; omega) e) (fun M out b e => DP_s (dX16_damage fu 323 a1 a2 M b e)) e1 e2 (MLk_s hk (Or.inl ⟨im, ig, ek, ty, e3, by omega, e4, e5⟩))
  · obtain ⟨v, X1, X2, e1, e2, e3⟩ := op_damage fu (by omega) m a1 a2
    exact done_op h (fun M out b e => oX11_damage fu 300 a1 a2 M b (by unfold RX; omega) e) (fun M out b e => eX11_damage fu 300 a1 a2 M b e) (fun M out b e => oX16_damage fu 323 a1 a2 M b (by unfold RM; omega) e) (fun M out b e => DP_s (dX16_damage fu 323 a1 a2 M b e)) e1 e2 (MLk_s hk (Or.inr ⟨t, T, im, ig, F, ek, ty, nw, e3, by omega, by omega, m3, by omega⟩))
theorem L_strays (fu : Nat) (hfu : 100000 ≤ fu) (hk : k < 512) (h : Lk k X) : OpOk k X (fX11_strays fu 300 ) (fX16_strays fu 323 ) := by
  have a := kS_s k
  have b := kS_ok (k := k + 1) (by omega)
  have h' := h
  obtain ⟨h1, h2, h3⟩ := h'
  rcases h3 with ⟨im, ig, ek, ty, m, m1, m2, m3⟩ | ⟨t, T, im, ig, F, ek, ty, nw, m, m1, m2, m3, m4⟩
  · exact seen_op hk h (n_strays fu m m3)
  · exact seen_op hk h (⟨_, ob_strays fu m⟩)
theorem cmp_self (v : Int64) : lg_cmp v v = 0 := by
  unfold lg_cmp
  simp
theorem scr {sc : Nat → Int32} {Ln i : Nat} (h : i < Ln) (hL : Ln ≤ 3072) : scG sc Ln (some 250) (nI i) = some (sc i) := by
  unfold scG
  rw [nI_clamp (by omega), if_pos ⟨rfl, nI_pos (by omega), h⟩]
theorem law_loop (fu : Nat) (hfu : 100000 ≤ fu) (sc : Nat → Int32) {Ln : Nat} (hL : Ln ≤ 3072) : ∀ n k X, Lk k X → k ≤ 512 → 512 < k + n → ∃ M', fL_law_L18 fu sc Ln n (some 250) (some 300) (some 323) (nI (6 * k)) X = some M'
  | 0, k, X, _, h1, h2 => absurd h2 (by omega)
  | n + 1, k, X, h, h1, h2 => by
    have sL : scL Ln (some 250) = some (nI Ln) := if_pos rfl
    rw [fL_law_L18, sL, ob_some]
    by_cases q : Ln < 6 * k + 6
    · refine ⟨X, ?_⟩
      rw [if_pos]
      by_cases z : 6 ≤ Ln
      · rw [show nI Ln - (6 : Int32) = nI (Ln - 6) from nI_sub (y := 6) z]
        exact nI_lt (by omega) (by omega)
      · have e : nI Ln - (6 : Int32) < 0 := by
          rcases (by omega : Ln = 0 ∨ Ln = 1 ∨ Ln = 2 ∨ Ln = 3 ∨ Ln = 4 ∨ Ln = 5) with e | e | e | e | e | e <;> rw [e] <;> decide
        exact Int32.lt_of_lt_of_le e (nI_0le (by omega))
    have hk : k < 512 := by omega
    rw [show nI Ln - (6 : Int32) = nI (Ln - 6) from nI_sub (y := 6) (by omega), if_neg (nI_nlt (by omega) (by omega))]
    have s0 : scG sc Ln (some 250) (nI (6 * k)) = some (sc (6 * k)) := scr (by omega) hL
    have s1 : scG sc Ln (some 250) (nI (6 * k) + (1 : Int32)) = some (sc (6 * k + 1)) := by rw [nI_1]; exact scr (by omega) hL
    have s2 : scG sc Ln (some 250) (nI (6 * k) + (2 : Int32)) = some (sc (6 * k + 2)) := by rw [show nI (6 * k) + (2 : Int32) = nI (6 * k + 2) from nI_add _ 2]; exact scr (by omega) hL
    have s3 : scG sc Ln (some 250) (nI (6 * k) + (3 : Int32)) = some (sc (6 * k + 3)) := by rw [show nI (6 * k) + (3 : Int32) = nI (6 * k + 3) from nI_add _ 3]; exact scr (by omega) hL
    have s4 : scG sc Ln (some 250) (nI (6 * k) + (4 : Int32)) = some (sc (6 * k + 4)) := by rw [show nI (6 * k) + (4 : Int32) = nI (6 * k + 4) from nI_add _ 4]; exact scr (by omega) hL
    have s5 : scG sc Ln (some 250) (nI (6 * k) + (5 : Int32)) = some (sc (6 * k + 5)) := by rw [show nI (6 * k) + (5 : Int32) = nI (6 * k + 5) from nI_add _ 5]; exact scr (by omega) hL
    have nx : ∀ X2, Lk (k + 1) X2 → ∃ M', fL_law_L595 fu sc Ln (fun b0 b1 b2 b3 M => fL_law_L18 fu sc Ln n b0 b1 b2 b3 M) (some 250) (some 300) (some 323) (nI (6 * k)) X2 = some M' := fun X2 h' => by
      unfold fL_law_L595
      rw [show nI (6 * k) + (6 : Int32) = nI (6 * (k + 1)) by rw [show nI (6 * k) + (6 : Int32) = nI (6 * k + 6) from nI_add _ 6]; congr 1]
      exact law_loop fu hfu sc hL n (k + 1) X2 h' (by omega) (by omega)
    have o11 : okA X 11 300 := by
      obtain ⟨_, _, _, _, _, _, b⟩ := h.2.2.b
      exact xw_ok300 b.xw
    rw [s0, ob_some]
    by_cases c0 : (sc (6 * k) &&& (31 : Int32)) = (0 : Int32)
    · obtain ⟨v, X1, X2, e1, e2, e3, e4⟩ := L_feed fu hfu hk h (sc (6 * k + 1)) (sc (6 * k + 2)) (sc (6 * k + 3)) (sc (6 * k + 4)) (sc (6 * k + 5))
      obtain ⟨M', e5⟩ := nx X2 e4
      refine ⟨M', ?_⟩
      rw [if_pos c0]
      simp only [s1, s2, s3, s4, s5, ob_some]
      rw [rc_ok o11, ob_some, e1, b2_some, rc_ok e2, ob_some, e3, b2_some, if_pos rfl]
      exact e5
    rw [if_neg c0]
    by_cases c1 : (sc (6 * k) &&& (31 : Int32)) = (1 : Int32)
    · obtain ⟨v, X1, X2, e1, e2, e3, e4⟩ := L_end fu hfu hk h (sc (6 * k + 1))
      obtain ⟨M', e5⟩ := nx X2 e4
      refine ⟨M', ?_⟩
      rw [if_pos c1]
      simp only [s1, ob_some]
      rw [rc_ok o11, ob_some, e1, b2_some, rc_ok e2, ob_some, e3, b2_some, if_pos rfl]
      exact e5
    rw [if_neg c1]
    by_cases c2 : (sc (6 * k) &&& (31 : Int32)) = (2 : Int32)
    · obtain ⟨v, X1, X2, e1, e2, e3, e4⟩ := L_install fu hfu hk h 
      obtain ⟨M', e5⟩ := nx X2 e4
      refine ⟨M', ?_⟩
      rw [if_pos c2]
      skip
      rw [rc_ok o11, ob_some, e1, b2_some, rc_ok e2, ob_some, e3, b2_some, if_pos rfl]
      exact e5
    rw [if_neg c2]
    by_cases c3 : (sc (6 * k) &&& (31 : Int32)) = (3 : Int32)
    · obtain ⟨v, X1, X2, e1, e2, e3, e4⟩ := L_boot fu hfu hk h (sc (6 * k + 1)) (sc (6 * k + 2)) (sc (6 * k + 3)) (sc (6 * k + 4)) (sc (6 * k + 5))
      obtain ⟨M', e5⟩ := nx X2 e4
      refine ⟨M', ?_⟩
      rw [if_pos c3]
      simp only [s1, s2, s3, s4, s5, ob_some]
      rw [rc_ok o11, ob_some, e1, b2_some, rc_ok e2, ob_some, e3, b2_some, if_pos rfl]
      exact e5
    rw [if_neg c3]
    by_cases c4 : (sc (6 * k) &&& (31 : Int32)) = (4 : Int32)
    · obtain ⟨v, X1, X2, e1, e2, e3, e4⟩ := L_arrive fu hfu hk h (sc (6 * k + 1))
      obtain ⟨M', e5⟩ := nx X2 e4
      refine ⟨M', ?_⟩
      rw [if_pos c4]
      simp only [s1, ob_some]
      rw [rc_ok o11, ob_some, e1, b2_some, rc_ok e2, ob_some, e3, b2_some, if_pos rfl]
      exact e5
    rw [if_neg c4]
    by_cases c5 : (sc (6 * k) &&& (31 : Int32)) = (5 : Int32)
    · obtain ⟨v, X1, X2, e1, e2, e3, e4⟩ := L_pass fu hfu hk h (sc (6 * k + 1))
      obtain ⟨M', e5⟩ := nx X2 e4
      refine ⟨M', ?_⟩
      rw [if_pos c5]
      simp only [s1, ob_some]
      rw [rc_ok o11, ob_some, e1, b2_some, rc_ok e2, ob_some, e3, b2_some, if_pos rfl]
      exact e5
    rw [if_neg c5]
    by_cases c6 : (sc (6 * k) &&& (31 : Int32)) = (6 : Int32)
    · obtain ⟨v, X1, X2, e1, e2, e3, e4⟩ := L_now fu hfu hk h 
      obtain ⟨M', e5⟩ := nx X2 e4
      refine ⟨M', ?_⟩
      rw [if_pos c6]
      skip
      rw [rc_ok o11, ob_some, e1, b2_some, rc_ok e2, ob_some, e3, b2_some, if_pos rfl]
      exact e5
    rw [if_neg c6]
    by_cases c7 : (sc (6 * k) &&& (31 : Int32)) = (7 : Int32)
    · obtain ⟨v, X1, X2, e1, e2, e3, e4⟩ := L_sent fu hfu hk h 
      obtain ⟨M', e5⟩ := nx X2 e4
      refine ⟨M', ?_⟩
      rw [if_pos c7]
      skip
      rw [rc_ok o11, ob_some, e1, b2_some, rc_ok e2, ob_some, e3, b2_some, if_pos rfl]
      exact e5
    rw [if_neg c7]
    by_cases c8 : (sc (6 * k) &&& (31 : Int32)) = (8 : Int32)
    · obtain ⟨v, X1, X2, e1, e2, e3, e4⟩ := L_length fu hfu hk h (sc (6 * k + 1))
      obtain ⟨M', e5⟩ := nx X2 e4
      refine ⟨M', ?_⟩
      rw [if_pos c8]
      simp only [s1, ob_some]
      rw [rc_ok o11, ob_some, e1, b2_some, rc_ok e2, ob_some, e3, b2_some, if_pos rfl]
      exact e5
    rw [if_neg c8]
    by_cases c9 : (sc (6 * k) &&& (31 : Int32)) = (9 : Int32)
    · obtain ⟨v, X1, X2, e1, e2, e3, e4⟩ := L_at fu hfu hk h (sc (6 * k + 1)) (sc (6 * k + 2))
      obtain ⟨M', e5⟩ := nx X2 e4
      refine ⟨M', ?_⟩
      rw [if_pos c9]
      simp only [s1, s2, ob_some]
      rw [rc_ok o11, ob_some, e1, b2_some, rc_ok e2, ob_some, e3, b2_some, if_pos rfl]
      exact e5
    rw [if_neg c9]
    by_cases c10 : (sc (6 * k) &&& (31 : Int32)) = (10 : Int32)
    · obtain ⟨v, X1, X2, e1, e2, e3, e4⟩ := L_time fu hfu hk h (sc (6 * k + 1))
      obtain ⟨M', e5⟩ := nx X2 e4
      refine ⟨M', ?_⟩
      rw [if_pos c10]
      simp only [s1, ob_some]
      rw [rc_ok o11, ob_some, e1, b2_some, rc_ok e2, ob_some, e3, b2_some, if_pos rfl]
      exact e5
    rw [if_neg c10]
    by_cases c11 : (sc (6 * k) &&& (31 : Int32)) = (11 : Int32)
    · obtain ⟨v, X1, X2, e1, e2, e3, e4⟩ := L_state fu hfu hk h (sc (6 * k + 1))
      obtain ⟨M', e5⟩ := nx X2 e4
      refine ⟨M', ?_⟩
      rw [if_pos c11]
      simp only [s1, ob_some]
      rw [rc_ok o11, ob_some, e1, b2_some, rc_ok e2, ob_some, e3, b2_some, if_pos rfl]
      exact e5
    rw [if_neg c11]
    by_cases c12 : (sc (6 * k) &&& (31 : Int32)) = (12 : Int32)
    · obtain ⟨v, X1, X2, e1, e2, e3, e4⟩ := L_look fu hfu hk h (sc (6 * k + 1)) (sc (6 * k + 2))
      obtain ⟨M', e5⟩ := nx X2 e4
      refine ⟨M', ?_⟩
      rw [if_pos c12]
      simp only [s1, s2, ob_some]
      rw [rc_ok o11, ob_some, e1, b2_some, rc_ok e2, ob_some, e3, b2_some, if_pos (cmp_self v)]
      exact e5
    rw [if_neg c12]
    by_cases c13 : (sc (6 * k) &&& (31 : Int32)) = (13 : Int32)
    · obtain ⟨v, X1, X2, e1, e2, e3, e4⟩ := L_cached fu hfu hk h (sc (6 * k + 1))
      obtain ⟨M', e5⟩ := nx X2 e4
      refine ⟨M', ?_⟩
      rw [if_pos c13]
      simp only [s1, ob_some]
      rw [rc_ok o11, ob_some, e1, b2_some, rc_ok e2, ob_some, e3, b2_some, if_pos rfl]
      exact e5
    rw [if_neg c13]
    by_cases c14 : (sc (6 * k) &&& (31 : Int32)) = (14 : Int32)
    · obtain ⟨v, X1, X2, e1, e2, e3, e4⟩ := L_waiting fu hfu hk h 
      obtain ⟨M', e5⟩ := nx X2 e4
      refine ⟨M', ?_⟩
      rw [if_pos c14]
      skip
      rw [rc_ok o11, ob_some, e1, b2_some, rc_ok e2, ob_some, e3, b2_some, if_pos rfl]
      exact e5
    rw [if_neg c14]
    by_cases c15 : (sc (6 * k) &&& (31 : Int32)) = (15 : Int32)
    · obtain ⟨v, X1, X2, e1, e2, e3, e4⟩ := L_counted fu hfu hk h (sc (6 * k + 1))
      obtain ⟨M', e5⟩ := nx X2 e4
      refine ⟨M', ?_⟩
      rw [if_pos c15]
      simp only [s1, ob_some]
      rw [rc_ok o11, ob_some, e1, b2_some, rc_ok e2, ob_some, e3, b2_some, if_pos rfl]
      exact e5
    rw [if_neg c15]
    by_cases c16 : (sc (6 * k) &&& (31 : Int32)) = (16 : Int32)
    · obtain ⟨v, X1, X2, e1, e2, e3, e4⟩ := L_damage fu hfu hk h (sc (6 * k + 1)) (sc (6 * k + 2))
      obtain ⟨M', e5⟩ := nx X2 e4
      refine ⟨M', ?_⟩
      rw [if_pos c16]
      simp only [s1, s2, ob_some]
      rw [rc_ok o11, ob_some, e1, b2_some, rc_ok e2, ob_some, e3, b2_some, if_pos rfl]
      exact e5
    rw [if_neg c16]
    by_cases c17 : (sc (6 * k) &&& (31 : Int32)) = (17 : Int32)
    · obtain ⟨v, X1, X2, e1, e2, e3, e4⟩ := L_strays fu hfu hk h 
      obtain ⟨M', e5⟩ := nx X2 e4
      refine ⟨M', ?_⟩
      rw [if_pos c17]
      skip
      rw [rc_ok o11, ob_some, e1, b2_some, rc_ok e2, ob_some, e3, b2_some, if_pos rfl]
      exact e5
    rw [if_neg c17]
    refine nx X ⟨h.1, DP_s h.2.1, MLk_s hk h.2.2⟩
theorem pure_law (L : Nat) (xs : Nat → Int32) (hL : L ≤ 3072) : ∃ fu M', fL_law fu xs L (some 250) M00 = some M' := by
  obtain ⟨X, e⟩ := Option.isSome_iff_exists.mp ini_some
  obtain ⟨b, b1, b2', b3, b4⟩ := ini_LB e
  have h : Lk 0 X := ⟨b3, b4, Or.inl ⟨0, 302, 303, 0, b, by decide, b1, b2'⟩⟩
  obtain ⟨M', l⟩ := law_loop 100000 (Nat.le_refl _) xs hL 100000 0 X h (by decide) (by decide)
  refine ⟨100000, M', ?_⟩
  have e' := e
  unfold ini at e'
  obtain ⟨v1, M2, e2, e'⟩ := b2d e'
  obtain ⟨M3, e3, e'⟩ := bd e'
  obtain ⟨v4, M5, e5, e'⟩ := b2d e'
  have a1 : v1 = 300 := by
    obtain ⟨-, q⟩ := ite_some e2
    exact (congrArg Prod.fst q).symm
  unfold fL_law
  rw [e2, b2_some, e3, ob_some, e5, b2_some, e', ob_some, a1]
  have a2 : v4 = 323 := by
    obtain ⟨-, q⟩ := ite_some e5
    have q1 : sN (mS M3) = v4 := congrArg Prod.fst q
    have q2 := of_decide_eq_true (ini_q3 e2 e3)
    omega
  rw [a2]
  exact l
end Law
