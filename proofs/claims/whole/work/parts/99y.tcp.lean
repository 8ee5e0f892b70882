/-! ===== part 99y: a segment, in both, whole ===== -/
section Tcp
variable {A M A' M' : Mm} {KN KS t T im ig F ek ty nw : Nat}
theorem SG_new {k bd da dx dl w : Nat} {M0 : Mm} (hW : XW M) (nn : NwC k M M0) (h : SG A M bd da dx dl w) : SG A M0 bd da dx dl w := by
  obtain ⟨n0, n1, n2⟩ := nn
  have e := n1 314 (xw_ok314 hW).2.1
  have eb := n1 bd h.bo.2.1
  have eb1 := (n1 (bd - 1) (by have := h.bo.2.1; omega)).1
  refine SG.mk ?_ ?_ ?_ ?_ ?_ ?_ h.wi ?_ h.w1 h.dl ?_ h.da ?_ h.dal ?_ ?_ ?_ ?_ ?_ h.b8 ?_ ?_ ?_
  · rw [e.2.2.1]; exact h.sd
  · rw [e.2.2.1]; exact h.fp
  · rw [e.2.2.1]; exact h.tp
  · rw [e.2.2.1]; exact h.sq
  · rw [e.2.2.1]; exact h.ak
  · rw [e.2.2.1]; exact h.fl
  · rw [e.2.2.1]; exact h.wx
  · rw [e.2.2.1]; exact h.dlx
  · rw [e.2.2.1]; exact h.dx
  · rw [e.2.2.2.1]; exact h.bd
  · exact ⟨h.bo.1, by have := h.bo.2.1; omega, by rw [eb.1]; exact h.bo.2.2⟩
  · rw [eb.2.1]; exact h.bl
  · rw [eb.2.1]; exact h.bl2
  · rw [eb.2.2.2.2.1]; exact h.by'
  · rw [eb1]; exact h.t6
  · rw [eb1]; exact h.t1
  · rw [eb1]; exact h.t0
theorem HS_new {k bd pl he : Nat} {M0 : Mm} (hW : XW M) (xw : XW M0) (bm : By M0) (nn : NwC k M M0) (h : HS A M bd pl he) : HS A M0 bd pl he := by
  obtain ⟨n0, n1, n2⟩ := nn
  have e := n1 314 (xw_ok314 hW).2.1
  have eb := n1 bd h.ok.2.1
  refine HS.mk h.rw' h.ba xw bm ?_ ?_ h.pe ?_ ?_ ?_ ?_ h.he1 ?_
  · rw [e.2.2.2.1]; exact h.pb
  · rw [e.2.2.1]; exact h.pp
  · rw [e.2.2.1]; exact h.px
  · exact ⟨h.ok.1, by have := h.ok.2.1; omega, by rw [eb.1]; exact h.ok.2.2⟩
  · rw [eb.2.1]; exact h.l1
  · rw [eb.2.1]; exact h.l2
  · rw [eb.2.2.2.2.1]; exact h.by'
/-- a segment that belongs to no connection, in both -/
theorem sp_alone (fu : Nat) (hfu : 100000 ≤ fu) {bd da dx dl w pl he : Nat} (h : JJ A M KN KS t T im ig F ek ty nw) (hG : SG A M bd da dx dl w) (hH : HS A M bd pl he) (hno : (mF A 1057 323) = 80 → ∀ j, j < 16 → ¬ mt A j) (hT : T < 2 ^ 30) :
    ∃ A' M' T', fX16_alone fu 323 A = some A' ∧ fX9_takeWithoutConnection fu 317 M = some M' ∧ T ≤ T' ∧ T' ≤ T + 1 ∧ JJ A' M' KN KS t T' im ig F ek ty nw := by
  have hR := h.rw'
  have hW := h.xw
  have o323 := rw_ok323 hR
  have o3 := xw_ok314 hW
  have o317 := xw_ok317 hW
  have f4 : fX3_has fu 314 4 M = _ := x_hasA fu hW hG 4 (by decide)
  have f16 : fX3_has fu 314 16 M = _ := x_hasA fu hW hG 16 (by decide)
  have f2 : fX3_has fu 314 2 M = _ := x_hasA fu hW hG 2 (by decide)
  have f1 : fX3_has fu 314 1 M = _ := x_hasA fu hW hG 1 (by decide)
  have rst : ∃ A' M' T', fX16_alone_L27 fu 323 A = some A' ∧ fX9_takeWithoutConnection_L36 fu 317 M = some M' ∧ T ≤ T' ∧ T' ≤ T + 1 ∧ JJ A' M' KN KS t T' im ig F ek ty nw := by
    obtain ⟨A1, M1, T1, r1, r2, r3, r4, r5, r6, r7, r8, r9, r10⟩ := sp_reset fu (by omega) h.jl h.ba h.bm h.jn hG hT
    refine ⟨A1, M1, T1, ?_, ?_, r3, r4, JJ_link (u := 0) h r5 r6 r7 r8 r9 r10 (zX16_reset fu 323 A hR rfl r1).1⟩
    · unfold fX16_alone_L27
      rw [rc_ok o323, ob_some, r1, ob_some]
    · unfold fX9_takeWithoutConnection_L36
      rw [rc_ok o317, ob_some, r2, ob_some]
  unfold fX16_alone fX9_takeWithoutConnection
  rw [rc_ok o323, ob_some, m_is fu hR, b2_some, if01, gR_ok o317, ob_some, xw_g579_317 hW, rc_ok o3, ob_some, f4, b2_some, if01]
  by_cases q4 : ((mF A 1060 323) &&& 4) = 0
  · rw [if_pos q4, if_pos q4, gI_ok o323, ob_some, gR_ok o317, ob_some, xw_g579_317 hW, gI_ok o3, ob_some, ← hG.tp]
    by_cases q80 : (mF A 1057 323) = (80 : Int32)
    · rw [if_pos q80, if_pos q80, rc_ok o323, ob_some, m_is fu hR, b2_some, if01, ob_some, rc_ok o3, ob_some, f16, b2_some, if01]
      by_cases q16 : ((mF A 1060 323) &&& 16) = 0
      · rw [if_pos q16, if_pos q16, rc_ok o323, ob_some, m_is fu hR, b2_some, if01, gR_ok o317, ob_some, xw_g579_317 hW, rc_ok o3, ob_some, f2, b2_some, if01]
        by_cases q2 : ((mF A 1060 323) &&& 2) = 0
        · rw [if_pos q2, if_pos q2]
          unfold fX9_takeWithoutConnection_L70 fX9_takeWithoutConnection_L71
          rw [if_pos rfl]
          exact ⟨A, M, T, rfl, rfl, Nat.le_refl _, by omega, h⟩
        · rw [if_neg q2, if_neg q2, rc_ok o323, ob_some, m_is fu hR, b2_some, if01, gR_ok o317, ob_some, xw_g579_317 hW, rc_ok o3, ob_some, f1, b2_some, if01]
          by_cases q1 : ((mF A 1060 323) &&& 1) = 0
          · rw [if_pos q1, if_pos q1, rc_ok o317, ob_some]
            rcases sp_free fu (by omega) h with ⟨k, c, M0, k1, k2, k3, k4, k5, k6, k7, k8⟩ | ⟨k1, k2⟩
            · obtain ⟨A', M', T', s1, s2, s3, s4, s5⟩ := sp_syn fu hfu k5 k1 k6 (SG_new hW k8 hG) (HS_new hW k5.xw k5.bm.2.2.2.2 k8 hH) (hno q80) hT
              rw [k3, k4, b2_some, s1, s2]
              exact ⟨A', M', T', rfl, rfl, s3, s4, s5⟩
            · rw [k1, k2, b2_some]
              unfold fX9_takeWithoutConnection_L71
              rw [if_pos rfl]
              exact ⟨A, M, T, rfl, rfl, Nat.le_refl _, by omega, h⟩
          · rw [if_neg q1, if_neg q1]
            unfold fX9_takeWithoutConnection_L70 fX9_takeWithoutConnection_L71
            rw [if_pos rfl]
            exact ⟨A, M, T, rfl, rfl, Nat.le_refl _, by omega, h⟩
      · rw [if_neg q16, if_neg q16]
        exact rst
    · rw [if_neg q80, if_neg q80]
      exact rst
  · rw [if_neg q4, if_neg q4]
    exact ⟨A, M, T, rfl, rfl, Nat.le_refl _, by omega, h⟩
theorem hdA_ff (A : Mm) (e he : Nat) : FF (fun f => 1053 ≤ f ∧ f ≤ 1065) 323 A (hdA A e he) := by
  unfold hdA
  exact (((((((((FF.s _ (by omega)).tr (FF.s _ (by omega))).tr (FF.s _ (by omega))).tr (FF.s _ (by omega))).tr (FF.s _ (by omega))).tr (FF.s _ (by omega))).tr (FF.s _ (by omega))).tr (FF.s _ (by omega))).tr (FF.s _ (by omega)))
theorem hdX_ff (M : Mm) (g : Nat → Int32) (pl e he : Nat) : FF (fun f => 193 ≤ f ∧ f ≤ 204) 314 M (hdX M g pl e he) := by
  unfold hdX
  exact ((((((((FF.s _ (by omega)).tr (FF.s _ (by omega))).tr (FF.s _ (by omega))).tr (FF.s _ (by omega))).tr (FF.s _ (by omega))).tr (FF.s _ (by omega))).tr (FF.s _ (by omega))).tr (FF.s _ (by omega)))
theorem JJ_mono {u : Nat} (hu : t + u ≤ 1000) (h : JJ A M KN KS t T im ig F ek ty nw) : JJ A M KN KS (t + u) T im ig F ek ty nw := by
  refine JJ.mk (JL0_mono hu h.jl) h.ba h.bm h.jn h.jd h.ji h.fi h.nw h.n2 (fun k hk => ?_) h.uq h.zb h.tr h.ts
  rcases h.cc k hk with h1 | ⟨cj, h1, h2, h3⟩
  · exact Or.inl h1
  · refine Or.inr ⟨cj, h1, h2, ?_⟩
    rcases h3 with h3 | ⟨e1, e2, ⟨b0, v, e3, e4⟩, hd, ft, e5⟩
    · exact Or.inl h3
    · exact Or.inr ⟨e1, e2, ⟨b0, v, CI_mono e3, e4⟩, hd, ft, e5⟩
/-- a segment, in both -/
theorem sp_tcp (fu : Nat) (hfu : 100000 ≤ fu) {e bd pl : Nat} (h : JJ A M KN KS t T im ig F ek ty nw) (hB : BodyR e bd pl A M) (hT : T + 200000 < 2 ^ 30) (ht : t ≤ 600) :
    ∃ A' M' T', fX16_tcp fu 323 (nI e) A = some A' ∧ (∀ {β : Type} (K : Mm → Option β), (b2 (fX3_readSegment fu 314 M) fun v23 M22 => if v23 = 0 then K M22 else (gR M22 11 708 (some 300)).bind fun v24 => (rc M22 9 v24).bind fun q25 => b2 (fX9_take fu q25 M22) fun v27 M26 => if v27 = none then K M26 else (gR M26 11 709 (some 300)).bind fun v28 => (rc M26 7 v28).bind fun q29 => (fX7_lookAt fu q29 v27 M26).bind fun M30 => (gR M30 11 708 (some 300)).bind fun v31 => (rc M30 9 v31).bind fun q32 => (fX9_sendAllDue fu q32 v27 M30).bind fun M33 => K M33) = K M') ∧ T ≤ T' ∧ T' ≤ T + 70000 ∧ JJ A' M' KN KS (t + 1) T' im ig F ek ty nw := by
  have t1 : t + 1 ≤ 1000 := by omega
  rcases sp_tcpHead fu (by omega) h.jl h.ba.2.2.2.2 h.bm.2.2.2.2 hB with ⟨A', r1, r2, r3⟩ | ⟨he, w, r1, r2, r3, r4, r5, r6, r7⟩
  · refine ⟨A', M, T, r1, fun K => ?_, Nat.le_refl _, by omega, JJ_mono t1 (JJ_note h (r3.mono (by intro f hf; omega)) FF.rf)⟩
    rw [r2, b2_some, if_pos rfl]
  · have h1 := JJ_note h (hdA_ff A e he) (hdX_ff M (mA A 338) pl e he)
    generalize hdA A e he = B at r4 r6 r7 h1
    generalize hdX M (mA A 338) pl e he = N at r5 r6 r7 h1
    have hR := h1.rw'
    have hW := h1.xw
    have o323 := rw_ok323 hR
    have o317 := xw_ok317 hW
    rw [r4]
    rcases sp_find' fu (by omega) h1 r6 with ⟨k, c, k1, k2, k3, k4, k5⟩ | ⟨k1, k2, k3⟩
    · obtain ⟨hd, ft, b0, v, tk⟩ := h1.tk k1 k2 k3
      obtain ⟨A', M', T', o, M1, s1, s2, s3, s4, s5, s6, s7, s8⟩ := sp_segment fu hfu tk k1 r6 h1.fi hT ht
      refine ⟨A', M', T', ?_, fun K => ?_, s4, s5, JJ_put h1 k1 k2 k3 s6 s7 (zX16_segment fu 323 _ B hR rfl s1).1 s8⟩
      · rw [k4]
        unfold fX16_tcp_L218
        rw [if_neg (by simp), rc_ok o323, ob_some, s1, ob_some]
      · rw [r5, b2_some, if_neg (by decide), gR_ok (xw_ok300 hW), ob_some, xw_g708_300 hW, rc_ok o317, ob_some]
        have tkE : fX9_take fu 317 N = some (o, M1) := by
          unfold fX9_take
          rw [rc_ok o317, ob_some, k5, b2_some, if_neg (by simp)]
          exact s2
        rw [tkE, b2_some]
        rcases s3 with ⟨e1, e2⟩ | ⟨e1, e2, M2, e3, e4, e5⟩
        · rw [e1, if_pos rfl, e2]
        · rw [e1, if_neg (by simp), gR_ok (xw_ok300 e2), ob_some, xw_g709_300 e2, rc_ok (xw_ok319 e2), ob_some, e3, ob_some, gR_ok (xw_ok300 e4), ob_some, xw_g708_300 e4, rc_ok (xw_ok317 e4), ob_some, e5, ob_some]
    · obtain ⟨A', M', T', s1, s2, s3, s4, s5⟩ := sp_alone fu hfu h1 r6 r7 k1 (by omega)
      refine ⟨A', M', T', ?_, fun K => ?_, s3, by omega, JJ_mono t1 s5⟩
      · rw [k2]
        unfold fX16_tcp_L218
        rw [if_pos rfl, rc_ok o323, ob_some, s1, ob_some]
      · rw [r5, b2_some, if_neg (by decide), gR_ok (xw_ok300 hW), ob_some, xw_g708_300 hW, rc_ok o317, ob_some]
        have tkE : fX9_take fu 317 N = some (none, M') := by
          unfold fX9_take
          rw [rc_ok o317, ob_some, k3, b2_some, if_pos rfl, rc_ok o317, ob_some, s2, ob_some]
        rw [tkE, b2_some, if_pos rfl]
end Tcp
