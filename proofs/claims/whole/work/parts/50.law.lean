/-! ===== the law: its end, its rows, its walk ===== -/
def R_law : String := "WebHostLaw"
def lw_P (b : Addr) (xs : List Int32) (args : Array Value) (s : State) : Prop := args = #[.ref b] ∧ s.IntsAt b xs ∧ xs.length ≤ 3072 ∧ (Jvm.Cond.and given_1 narrow_1).before args s = true
def lw_Q (_ : Array Value) (s : State) (o : Outcome) (t : State) : Prop := o = .returned (some (.int 1)) ∧ Framed s o t [] 600000 7302250
def lw_Z (below : List Frame) (a : Array Value) (s : State) : State → Prop := fun t => ∃ o, t.status = .running ∧ Ended t below o ∧ lw_Q a s o t
/-- the law's own end, with 1 on the stack, nothing written that was there before, its room as the claim has it -/
theorem lw_ret {p : Program} {l : Launch} {e : Env} {s : State} {m : MethodId} {below : List Frame} {meth : Method} {c : Code} {b : Nat} (hx : p.tables.exec = Jvm.exec) (hb : c.code = code) (hr : meth.sig.returnType = ret) (hlocks : meth.locks = false) {pc : Nat} {H : Heap} {ls : Array Slot} (hdg : decode code pc = .ok (.ireturn, 1)) : W p l e room_1 s m #[Value.ref b] below meth c H [] 600000 7302250 (lw_Z below #[Value.ref b] s) (F0 m pc ls [.int 1]) := by
  intro T hT X
  obtain ⟨fs, hret, hrun, hended, hW, hframe⟩ := X.leave (v := some (.int 1)) (hlocks := hlocks) (fun h => by rw [hr] at h; cases h)
  have hmeth' : T.vm.method? m = some meth := X.method'
  refine ⟨T.setFrames fs, ?_, .returned (some (.int 1)), hrun, hended, rfl, ⟨_, rfl⟩, hW, hframe⟩
  jvm_step X.here [X.here.top, hx, hb, hdg, hmeth', hr, ret, narrow_b1]
  (try refine ⟨rfl, ?_⟩); (try refine ⟨rfl, ?_⟩)
  first | (intro acts; rw [hret _ acts rfl rfl rfl]) | rw [hret _ _ rfl rfl rfl]
  exact Steps.refl _
/-- what holds at the law's entry: the machine, the code, the tables' words (any of lw_tbl by 'hts w (by decide +kernel)'), the script of L ints xs at the cell b, what the Statement gives of the start (any of its parts by flat_of_before) -/
def lw_At (p : Program) (s : State) (m : MethodId) (meth : Method) (c : Code) (b L : Nat) (xs : Nat → Int32) : Prop :=
  p.tables.exec = Jvm.exec ∧ c.code = code ∧ meth.sig.returnType = ret ∧ c.maxLocals = 4 ∧ s.vm.findClass R_law = some m.cls ∧ (∀ w ∈ lw_tbl, w.before #[Value.ref b] s = true) ∧ va_X b L xs s s.heap ∧ b < s.heap.size ∧ meth.locks = false ∧ (Jvm.Cond.and given_1 narrow_1).before #[Value.ref b] s = true
/-- the script, at plain address 250 -/
def scG (sc : Nat → Int32) (Ln : Nat) (o : Option Nat) (i : Int32) : Option Int32 := if o = some 250 ∧ ¬ i < 0 ∧ i.toNatClampNeg < Ln then some (sc i.toNatClampNeg) else none
def scL (Ln : Nat) (o : Option Nat) : Option Int32 := if o = some 250 then some (nI Ln) else none
/-- the law's body ends as the claim wants it -/
def EndsL (x : GX) : Prop := xR x = room_1 ∧ xo x = (xs x).heap.size ∧ (xc x).code = code ∧ (xt x).sig.returnType = ret ∧ ∃ b, xa x = #[Value.ref b] ∧ xQ x = lw_Z (xb x) #[Value.ref b] (xs x)
section RowsL
variable {x : GX} {cc : ByteArray} {own : String} {rt : Option FieldType} {fr lc n0 sl0 pc : Nat} {M : Mm} {L : List (Nat × PV)} {st : List PV}
theorem g_slen (X : Cx x cc own rt n0 sl0 fr lc) {sc : Nat → Int32} {Ln : Nat} (hX : va_X (xE x 250) Ln sc (xs x) (xH x) ∧ xE x 250 < xo x) {o : Option Nat} {v : Int32} (hg : scL Ln o = some v) (hd : decode cc pc = .ok (.arraylength, 1)) (kk : Gw x M (pc + 1) L (pI v :: st)) : Gw x M pc L (pR o :: st) := fun H locs ls hw hl => by
  obtain ⟨rfl, rfl⟩ := ite_some hg
  obtain ⟨scr, h1, h2, h3, h4, h5⟩ := hX.1
  exact W.alen (n := nI Ln) X.1.1 X.1.2.1 (by rw [hw.1.2.2.2.2.2.1 _ hX.2]; exact h1) h2 (by rw [h4]; rfl) rfl rfl hd (kk H locs ls hw hl)
theorem g_sld (X : Cx x cc own rt n0 sl0 fr lc) {sc : Nat → Int32} {Ln : Nat} (hX : va_X (xE x 250) Ln sc (xs x) (xH x) ∧ xE x 250 < xo x) {o : Option Nat} {i v : Int32} (hg : scG sc Ln o i = some v) (hd : decode cc pc = .ok (.iaload, 1)) (kk : Gw x M (pc + 1) L (pI v :: st)) : Gw x M pc L (pI i :: pR o :: st) := fun H locs ls hw hl => by
  obtain ⟨⟨rfl, g1, g2⟩, rfl⟩ := ite_some hg
  obtain ⟨scr, h1, h2, h3, h4, h5⟩ := hX.1
  exact W.iald X.1.1 X.1.2.1 (by rw [hw.1.2.2.2.2.2.1 _ hX.2]; exact h1) h2 h3 (by rw [h4]; rintro (h9 | h9); exact g1 h9; omega) (h5 _ g2) rfl rfl hd (kk H locs ls hw hl)
theorem g_lret (X : Cx x cc own rt n0 sl0 fr lc) (hE : EndsL x) (hd : decode code pc = .ok (.ireturn, 1)) : Gw x M pc L [pI 1] := fun H locs ls hw hl => by
  obtain ⟨p, l, e, R, s, m, args, below, meth, c, Q, nL, E, D, dA, lo, H0⟩ := x
  obtain ⟨hR, ho, hc, hr, b, ha, hQ⟩ := hE
  have c9 := Ends.cells X hw
  have hx := X.1.1
  have hlk := X.2.2.2.2.2.2.2.2.1
  have hw4 := hw.2.2.2
  have e1 := X.2.2.2.2.2.1
  dsimp only [xR, xo, xs, xc, xt, xa, xQ, xb, xp] at hR ho hc hr ha hQ c9 hx hlk hw4
  subst hR
  subst ha
  subst hQ
  subst ho
  have c1 : H.size - s.heap.size ≤ 600000 := by omega
  have c2 : hsum s.heap.size H ≤ 7302250 := by omega
  exact va_forget hw4 (W.widen c1 c2 (lw_ret hx hc hr hlk hd))
end RowsL
/-! WebHostLaw.law([I)Z -/
def fL_law_L595 (fu : Nat) (sc : Nat → Int32) (Ln : Nat) (k18 : Option Nat → Option Nat → Option Nat → Int32 → Mm → Option (Mm)) (a0 : Option Nat) (a1 : Option Nat) (a2 : Option Nat) (a3 : Int32)  (M : Mm) : Option (Mm) :=
    k18 a0 a1 a2 (a3 + (6 : Int32)) M
def fL_law_L18 (fu : Nat) (sc : Nat → Int32) (Ln : Nat)  : Nat → Option Nat → Option Nat → Option Nat → Int32 → Mm → Option (Mm)
  | 0, _, _, _, _, _ => none
  | n + 1, a0, a1, a2, a3, M =>
    (scL Ln a0).bind fun v1 =>
    if (v1 - (6 : Int32)) < a3 then (
    some M)
    else (
    (scG sc Ln a0 a3).bind fun v2 =>
    if (v2 &&& (31 : Int32)) = (0 : Int32) then (
    (scG sc Ln a0 (a3 + (1 : Int32))).bind fun v3 =>
    (scG sc Ln a0 (a3 + (2 : Int32))).bind fun v4 =>
    (scG sc Ln a0 (a3 + (3 : Int32))).bind fun v5 =>
    (scG sc Ln a0 (a3 + (4 : Int32))).bind fun v6 =>
    (scG sc Ln a0 (a3 + (5 : Int32))).bind fun v7 =>
    (rc M 11 a1).bind fun q8 =>
    b2 (fX11_feed fu q8 v3 v4 v5 v6 v7 M) fun v10 M9 =>
    (scG sc Ln a0 (a3 + (1 : Int32))).bind fun v11 =>
    (scG sc Ln a0 (a3 + (2 : Int32))).bind fun v12 =>
    (scG sc Ln a0 (a3 + (3 : Int32))).bind fun v13 =>
    (scG sc Ln a0 (a3 + (4 : Int32))).bind fun v14 =>
    (scG sc Ln a0 (a3 + (5 : Int32))).bind fun v15 =>
    (rc M9 16 a2).bind fun q16 =>
    b2 (fX16_feed fu q16 v11 v12 v13 v14 v15 M9) fun v18 M17 =>
    if v10 = v18 then (
    fL_law_L595 fu sc Ln (fun b0 b1 b2 b3 M => fL_law_L18 fu sc Ln  n b0 b1 b2 b3 M) a0 a1 a2 a3 M17)
    else (
    none))
    else (
    if (v2 &&& (31 : Int32)) = (1 : Int32) then (
    (scG sc Ln a0 (a3 + (1 : Int32))).bind fun v19 =>
    (rc M 11 a1).bind fun q20 =>
    b2 (fX11_end fu q20 v19 M) fun v22 M21 =>
    (scG sc Ln a0 (a3 + (1 : Int32))).bind fun v23 =>
    (rc M21 16 a2).bind fun q24 =>
    b2 (fX16_end fu q24 v23 M21) fun v26 M25 =>
    if v22 = v26 then (
    fL_law_L595 fu sc Ln (fun b0 b1 b2 b3 M => fL_law_L18 fu sc Ln  n b0 b1 b2 b3 M) a0 a1 a2 a3 M25)
    else (
    none))
    else (
    if (v2 &&& (31 : Int32)) = (2 : Int32) then (
    (rc M 11 a1).bind fun q27 =>
    b2 (fX11_install fu q27  M) fun v29 M28 =>
    (rc M28 16 a2).bind fun q30 =>
    b2 (fX16_install fu q30  M28) fun v32 M31 =>
    if v29 = v32 then (
    fL_law_L595 fu sc Ln (fun b0 b1 b2 b3 M => fL_law_L18 fu sc Ln  n b0 b1 b2 b3 M) a0 a1 a2 a3 M31)
    else (
    none))
    else (
    if (v2 &&& (31 : Int32)) = (3 : Int32) then (
    (scG sc Ln a0 (a3 + (1 : Int32))).bind fun v33 =>
    (scG sc Ln a0 (a3 + (2 : Int32))).bind fun v34 =>
    (scG sc Ln a0 (a3 + (3 : Int32))).bind fun v35 =>
    (scG sc Ln a0 (a3 + (4 : Int32))).bind fun v36 =>
    (scG sc Ln a0 (a3 + (5 : Int32))).bind fun v37 =>
    (rc M 11 a1).bind fun q38 =>
    b2 (fX11_boot fu q38 v33 v34 v35 v36 v37 M) fun v40 M39 =>
    (scG sc Ln a0 (a3 + (1 : Int32))).bind fun v41 =>
    (scG sc Ln a0 (a3 + (2 : Int32))).bind fun v42 =>
    (scG sc Ln a0 (a3 + (3 : Int32))).bind fun v43 =>
    (scG sc Ln a0 (a3 + (4 : Int32))).bind fun v44 =>
    (scG sc Ln a0 (a3 + (5 : Int32))).bind fun v45 =>
    (rc M39 16 a2).bind fun q46 =>
    b2 (fX16_boot fu q46 v41 v42 v43 v44 v45 M39) fun v48 M47 =>
    if v40 = v48 then (
    fL_law_L595 fu sc Ln (fun b0 b1 b2 b3 M => fL_law_L18 fu sc Ln  n b0 b1 b2 b3 M) a0 a1 a2 a3 M47)
    else (
    none))
    else (
    if (v2 &&& (31 : Int32)) = (4 : Int32) then (
    (scG sc Ln a0 (a3 + (1 : Int32))).bind fun v49 =>
    (rc M 11 a1).bind fun q50 =>
    b2 (fX11_arrive fu q50 v49 M) fun v52 M51 =>
    (scG sc Ln a0 (a3 + (1 : Int32))).bind fun v53 =>
    (rc M51 16 a2).bind fun q54 =>
    b2 (fX16_arrive fu q54 v53 M51) fun v56 M55 =>
    if v52 = v56 then (
    fL_law_L595 fu sc Ln (fun b0 b1 b2 b3 M => fL_law_L18 fu sc Ln  n b0 b1 b2 b3 M) a0 a1 a2 a3 M55)
    else (
    none))
    else (
    if (v2 &&& (31 : Int32)) = (5 : Int32) then (
    (scG sc Ln a0 (a3 + (1 : Int32))).bind fun v57 =>
    (rc M 11 a1).bind fun q58 =>
    b2 (fX11_pass fu q58 v57 M) fun v60 M59 =>
    (scG sc Ln a0 (a3 + (1 : Int32))).bind fun v61 =>
    (rc M59 16 a2).bind fun q62 =>
    b2 (fX16_pass fu q62 v61 M59) fun v64 M63 =>
    if v60 = v64 then (
    fL_law_L595 fu sc Ln (fun b0 b1 b2 b3 M => fL_law_L18 fu sc Ln  n b0 b1 b2 b3 M) a0 a1 a2 a3 M63)
    else (
    none))
    else (
    if (v2 &&& (31 : Int32)) = (6 : Int32) then (
    (rc M 11 a1).bind fun q65 =>
    b2 (fX11_now fu q65  M) fun v67 M66 =>
    (rc M66 16 a2).bind fun q68 =>
    b2 (fX16_now fu q68  M66) fun v70 M69 =>
    if v67 = v70 then (
    fL_law_L595 fu sc Ln (fun b0 b1 b2 b3 M => fL_law_L18 fu sc Ln  n b0 b1 b2 b3 M) a0 a1 a2 a3 M69)
    else (
    none))
    else (
    if (v2 &&& (31 : Int32)) = (7 : Int32) then (
    (rc M 11 a1).bind fun q71 =>
    b2 (fX11_sent fu q71  M) fun v73 M72 =>
    (rc M72 16 a2).bind fun q74 =>
    b2 (fX16_sent fu q74  M72) fun v76 M75 =>
    if v73 = v76 then (
    fL_law_L595 fu sc Ln (fun b0 b1 b2 b3 M => fL_law_L18 fu sc Ln  n b0 b1 b2 b3 M) a0 a1 a2 a3 M75)
    else (
    none))
    else (
    if (v2 &&& (31 : Int32)) = (8 : Int32) then (
    (scG sc Ln a0 (a3 + (1 : Int32))).bind fun v77 =>
    (rc M 11 a1).bind fun q78 =>
    b2 (fX11_length fu q78 v77 M) fun v80 M79 =>
    (scG sc Ln a0 (a3 + (1 : Int32))).bind fun v81 =>
    (rc M79 16 a2).bind fun q82 =>
    b2 (fX16_length fu q82 v81 M79) fun v84 M83 =>
    if v80 = v84 then (
    fL_law_L595 fu sc Ln (fun b0 b1 b2 b3 M => fL_law_L18 fu sc Ln  n b0 b1 b2 b3 M) a0 a1 a2 a3 M83)
    else (
    none))
    else (
    if (v2 &&& (31 : Int32)) = (9 : Int32) then (
    (scG sc Ln a0 (a3 + (1 : Int32))).bind fun v85 =>
    (scG sc Ln a0 (a3 + (2 : Int32))).bind fun v86 =>
    (rc M 11 a1).bind fun q87 =>
    b2 (fX11_at fu q87 v85 v86 M) fun v89 M88 =>
    (scG sc Ln a0 (a3 + (1 : Int32))).bind fun v90 =>
    (scG sc Ln a0 (a3 + (2 : Int32))).bind fun v91 =>
    (rc M88 16 a2).bind fun q92 =>
    b2 (fX16_at fu q92 v90 v91 M88) fun v94 M93 =>
    if v89 = v94 then (
    fL_law_L595 fu sc Ln (fun b0 b1 b2 b3 M => fL_law_L18 fu sc Ln  n b0 b1 b2 b3 M) a0 a1 a2 a3 M93)
    else (
    none))
    else (
    if (v2 &&& (31 : Int32)) = (10 : Int32) then (
    (scG sc Ln a0 (a3 + (1 : Int32))).bind fun v95 =>
    (rc M 11 a1).bind fun q96 =>
    b2 (fX11_time fu q96 v95 M) fun v98 M97 =>
    (scG sc Ln a0 (a3 + (1 : Int32))).bind fun v99 =>
    (rc M97 16 a2).bind fun q100 =>
    b2 (fX16_time fu q100 v99 M97) fun v102 M101 =>
    if v98 = v102 then (
    fL_law_L595 fu sc Ln (fun b0 b1 b2 b3 M => fL_law_L18 fu sc Ln  n b0 b1 b2 b3 M) a0 a1 a2 a3 M101)
    else (
    none))
    else (
    if (v2 &&& (31 : Int32)) = (11 : Int32) then (
    (scG sc Ln a0 (a3 + (1 : Int32))).bind fun v103 =>
    (rc M 11 a1).bind fun q104 =>
    b2 (fX11_state fu q104 v103 M) fun v106 M105 =>
    (scG sc Ln a0 (a3 + (1 : Int32))).bind fun v107 =>
    (rc M105 16 a2).bind fun q108 =>
    b2 (fX16_state fu q108 v107 M105) fun v110 M109 =>
    if v106 = v110 then (
    fL_law_L595 fu sc Ln (fun b0 b1 b2 b3 M => fL_law_L18 fu sc Ln  n b0 b1 b2 b3 M) a0 a1 a2 a3 M109)
    else (
    none))
    else (
    if (v2 &&& (31 : Int32)) = (12 : Int32) then (
    (scG sc Ln a0 (a3 + (1 : Int32))).bind fun v111 =>
    (scG sc Ln a0 (a3 + (2 : Int32))).bind fun v112 =>
    (rc M 11 a1).bind fun q113 =>
    b2 (fX11_look fu q113 v111 v112 M) fun v115 M114 =>
    (scG sc Ln a0 (a3 + (1 : Int32))).bind fun v116 =>
    (scG sc Ln a0 (a3 + (2 : Int32))).bind fun v117 =>
    (rc M114 16 a2).bind fun q118 =>
    b2 (fX16_look fu q118 v116 v117 M114) fun v120 M119 =>
    if (lg_cmp v115 v120) = 0 then (
    fL_law_L595 fu sc Ln (fun b0 b1 b2 b3 M => fL_law_L18 fu sc Ln  n b0 b1 b2 b3 M) a0 a1 a2 a3 M119)
    else (
    none))
    else (
    if (v2 &&& (31 : Int32)) = (13 : Int32) then (
    (scG sc Ln a0 (a3 + (1 : Int32))).bind fun v121 =>
    (rc M 11 a1).bind fun q122 =>
    b2 (fX11_cached fu q122 v121 M) fun v124 M123 =>
    (scG sc Ln a0 (a3 + (1 : Int32))).bind fun v125 =>
    (rc M123 16 a2).bind fun q126 =>
    b2 (fX16_cached fu q126 v125 M123) fun v128 M127 =>
    if v124 = v128 then (
    fL_law_L595 fu sc Ln (fun b0 b1 b2 b3 M => fL_law_L18 fu sc Ln  n b0 b1 b2 b3 M) a0 a1 a2 a3 M127)
    else (
    none))
    else (
    if (v2 &&& (31 : Int32)) = (14 : Int32) then (
    (rc M 11 a1).bind fun q129 =>
    b2 (fX11_waiting fu q129  M) fun v131 M130 =>
    (rc M130 16 a2).bind fun q132 =>
    b2 (fX16_waiting fu q132  M130) fun v134 M133 =>
    if v131 = v134 then (
    fL_law_L595 fu sc Ln (fun b0 b1 b2 b3 M => fL_law_L18 fu sc Ln  n b0 b1 b2 b3 M) a0 a1 a2 a3 M133)
    else (
    none))
    else (
    if (v2 &&& (31 : Int32)) = (15 : Int32) then (
    (scG sc Ln a0 (a3 + (1 : Int32))).bind fun v135 =>
    (rc M 11 a1).bind fun q136 =>
    b2 (fX11_counted fu q136 v135 M) fun v138 M137 =>
    (scG sc Ln a0 (a3 + (1 : Int32))).bind fun v139 =>
    (rc M137 16 a2).bind fun q140 =>
    b2 (fX16_counted fu q140 v139 M137) fun v142 M141 =>
    if v138 = v142 then (
    fL_law_L595 fu sc Ln (fun b0 b1 b2 b3 M => fL_law_L18 fu sc Ln  n b0 b1 b2 b3 M) a0 a1 a2 a3 M141)
    else (
    none))
    else (
    if (v2 &&& (31 : Int32)) = (16 : Int32) then (
    (scG sc Ln a0 (a3 + (1 : Int32))).bind fun v143 =>
    (scG sc Ln a0 (a3 + (2 : Int32))).bind fun v144 =>
    (rc M 11 a1).bind fun q145 =>
    b2 (fX11_damage fu q145 v143 v144 M) fun v147 M146 =>
    (scG sc Ln a0 (a3 + (1 : Int32))).bind fun v148 =>
    (scG sc Ln a0 (a3 + (2 : Int32))).bind fun v149 =>
    (rc M146 16 a2).bind fun q150 =>
    b2 (fX16_damage fu q150 v148 v149 M146) fun v152 M151 =>
    if v147 = v152 then (
    fL_law_L595 fu sc Ln (fun b0 b1 b2 b3 M => fL_law_L18 fu sc Ln  n b0 b1 b2 b3 M) a0 a1 a2 a3 M151)
    else (
    none))
    else (
    if (v2 &&& (31 : Int32)) = (17 : Int32) then (
    (rc M 11 a1).bind fun q153 =>
    b2 (fX11_strays fu q153  M) fun v155 M154 =>
    (rc M154 16 a2).bind fun q156 =>
    b2 (fX16_strays fu q156  M154) fun v158 M157 =>
    if v155 = v158 then (
    fL_law_L595 fu sc Ln (fun b0 b1 b2 b3 M => fL_law_L18 fu sc Ln  n b0 b1 b2 b3 M) a0 a1 a2 a3 M157)
    else (
    none))
    else (
    fL_law_L595 fu sc Ln (fun b0 b1 b2 b3 M => fL_law_L18 fu sc Ln  n b0 b1 b2 b3 M) a0 a1 a2 a3 M)))))))))))))))))))
def fL_law (fu : Nat) (sc : Nat → Int32) (Ln : Nat)  (a0 : Option Nat)  (M : Mm) : Option (Mm) :=
    b2 (mkO M 11) fun v1 M2 =>
    (fX11_init fu v1  M2).bind fun M3 =>
    b2 (mkO M3 16) fun v4 M5 =>
    (fX16_init fu v4  M5).bind fun M6 =>
    fL_law_L18 fu sc Ln  fu a0 (some v1) (some v4) (0 : Int32) M6
theorem dL_law_0 : decode cL_law 0 = .ok (.new 7, 3) := by decide +kernel
theorem dL_law_3 : decode cL_law 3 = .ok (.dup, 1) := by decide +kernel
theorem dL_law_4 : decode cL_law 4 = .ok (.invokespecial 9, 3) := by decide +kernel
theorem dL_law_7 : decode cL_law 7 = .ok (.astore_n 1, 1) := by decide +kernel
theorem dL_law_8 : decode cL_law 8 = .ok (.new 10, 3) := by decide +kernel
theorem dL_law_11 : decode cL_law 11 = .ok (.dup, 1) := by decide +kernel
theorem dL_law_12 : decode cL_law 12 = .ok (.invokespecial 12, 3) := by decide +kernel
theorem dL_law_15 : decode cL_law 15 = .ok (.astore_n 2, 1) := by decide +kernel
theorem dL_law_16 : decode cL_law 16 = .ok (.iconst 0, 1) := by decide +kernel
theorem dL_law_17 : decode cL_law 17 = .ok (.istore_n 3, 1) := by decide +kernel
theorem dL_law_18 : decode cL_law 18 = .ok (.iload_n 3, 1) := by decide +kernel
theorem dL_law_19 : decode cL_law 19 = .ok (.aload_n 0, 1) := by decide +kernel
theorem dL_law_20 : decode cL_law 20 = .ok (.arraylength, 1) := by decide +kernel
theorem dL_law_21 : decode cL_law 21 = .ok (.bipush 6, 2) := by decide +kernel
theorem dL_law_23 : decode cL_law 23 = .ok (.isub, 1) := by decide +kernel
theorem dL_law_24 : decode cL_law 24 = .ok (.if_icmp .gt 577, 3) := by decide +kernel
theorem dL_law_27 : decode cL_law 27 = .ok (.aload_n 0, 1) := by decide +kernel
theorem dL_law_28 : decode cL_law 28 = .ok (.iload_n 3, 1) := by decide +kernel
theorem dL_law_29 : decode cL_law 29 = .ok (.iaload, 1) := by decide +kernel
theorem dL_law_30 : decode cL_law 30 = .ok (.bipush 31, 2) := by decide +kernel
theorem dL_law_32 : decode cL_law 32 = .ok (.iand, 1) := by decide +kernel
theorem dL_law_33 : decode cL_law 33 = .ok (.tableswitch 562 0 17 #[87, 150, 173, 186, 249, 272, 295, 308, 321, 344, 377, 400, 423, 457, 480, 493, 516, 549], 87) := by decide +kernel
theorem dL_law_120 : decode cL_law 120 = .ok (.aload_n 1, 1) := by decide +kernel
theorem dL_law_121 : decode cL_law 121 = .ok (.aload_n 0, 1) := by decide +kernel
theorem dL_law_122 : decode cL_law 122 = .ok (.iload_n 3, 1) := by decide +kernel
theorem dL_law_123 : decode cL_law 123 = .ok (.iconst 1, 1) := by decide +kernel
theorem dL_law_124 : decode cL_law 124 = .ok (.iadd, 1) := by decide +kernel
theorem dL_law_125 : decode cL_law 125 = .ok (.iaload, 1) := by decide +kernel
theorem dL_law_126 : decode cL_law 126 = .ok (.aload_n 0, 1) := by decide +kernel
theorem dL_law_127 : decode cL_law 127 = .ok (.iload_n 3, 1) := by decide +kernel
theorem dL_law_128 : decode cL_law 128 = .ok (.iconst 2, 1) := by decide +kernel
theorem dL_law_129 : decode cL_law 129 = .ok (.iadd, 1) := by decide +kernel
theorem dL_law_130 : decode cL_law 130 = .ok (.iaload, 1) := by decide +kernel
theorem dL_law_131 : decode cL_law 131 = .ok (.aload_n 0, 1) := by decide +kernel
theorem dL_law_132 : decode cL_law 132 = .ok (.iload_n 3, 1) := by decide +kernel
theorem dL_law_133 : decode cL_law 133 = .ok (.iconst 3, 1) := by decide +kernel
theorem dL_law_134 : decode cL_law 134 = .ok (.iadd, 1) := by decide +kernel
theorem dL_law_135 : decode cL_law 135 = .ok (.iaload, 1) := by decide +kernel
theorem dL_law_136 : decode cL_law 136 = .ok (.aload_n 0, 1) := by decide +kernel
theorem dL_law_137 : decode cL_law 137 = .ok (.iload_n 3, 1) := by decide +kernel
theorem dL_law_138 : decode cL_law 138 = .ok (.iconst 4, 1) := by decide +kernel
theorem dL_law_139 : decode cL_law 139 = .ok (.iadd, 1) := by decide +kernel
theorem dL_law_140 : decode cL_law 140 = .ok (.iaload, 1) := by decide +kernel
theorem dL_law_141 : decode cL_law 141 = .ok (.aload_n 0, 1) := by decide +kernel
theorem dL_law_142 : decode cL_law 142 = .ok (.iload_n 3, 1) := by decide +kernel
theorem dL_law_143 : decode cL_law 143 = .ok (.iconst 5, 1) := by decide +kernel
theorem dL_law_144 : decode cL_law 144 = .ok (.iadd, 1) := by decide +kernel
theorem dL_law_145 : decode cL_law 145 = .ok (.iaload, 1) := by decide +kernel
theorem dL_law_146 : decode cL_law 146 = .ok (.invokevirtual 13, 3) := by decide +kernel
theorem dL_law_149 : decode cL_law 149 = .ok (.aload_n 2, 1) := by decide +kernel
theorem dL_law_150 : decode cL_law 150 = .ok (.aload_n 0, 1) := by decide +kernel
theorem dL_law_151 : decode cL_law 151 = .ok (.iload_n 3, 1) := by decide +kernel
theorem dL_law_152 : decode cL_law 152 = .ok (.iconst 1, 1) := by decide +kernel
theorem dL_law_153 : decode cL_law 153 = .ok (.iadd, 1) := by decide +kernel
theorem dL_law_154 : decode cL_law 154 = .ok (.iaload, 1) := by decide +kernel
theorem dL_law_155 : decode cL_law 155 = .ok (.aload_n 0, 1) := by decide +kernel
theorem dL_law_156 : decode cL_law 156 = .ok (.iload_n 3, 1) := by decide +kernel
theorem dL_law_157 : decode cL_law 157 = .ok (.iconst 2, 1) := by decide +kernel
theorem dL_law_158 : decode cL_law 158 = .ok (.iadd, 1) := by decide +kernel
theorem dL_law_159 : decode cL_law 159 = .ok (.iaload, 1) := by decide +kernel
theorem dL_law_160 : decode cL_law 160 = .ok (.aload_n 0, 1) := by decide +kernel
theorem dL_law_161 : decode cL_law 161 = .ok (.iload_n 3, 1) := by decide +kernel
theorem dL_law_162 : decode cL_law 162 = .ok (.iconst 3, 1) := by decide +kernel
theorem dL_law_163 : decode cL_law 163 = .ok (.iadd, 1) := by decide +kernel
theorem dL_law_164 : decode cL_law 164 = .ok (.iaload, 1) := by decide +kernel
theorem dL_law_165 : decode cL_law 165 = .ok (.aload_n 0, 1) := by decide +kernel
theorem dL_law_166 : decode cL_law 166 = .ok (.iload_n 3, 1) := by decide +kernel
theorem dL_law_167 : decode cL_law 167 = .ok (.iconst 4, 1) := by decide +kernel
theorem dL_law_168 : decode cL_law 168 = .ok (.iadd, 1) := by decide +kernel
theorem dL_law_169 : decode cL_law 169 = .ok (.iaload, 1) := by decide +kernel
theorem dL_law_170 : decode cL_law 170 = .ok (.aload_n 0, 1) := by decide +kernel
theorem dL_law_171 : decode cL_law 171 = .ok (.iload_n 3, 1) := by decide +kernel
theorem dL_law_172 : decode cL_law 172 = .ok (.iconst 5, 1) := by decide +kernel
theorem dL_law_173 : decode cL_law 173 = .ok (.iadd, 1) := by decide +kernel
theorem dL_law_174 : decode cL_law 174 = .ok (.iaload, 1) := by decide +kernel
theorem dL_law_175 : decode cL_law 175 = .ok (.invokevirtual 17, 3) := by decide +kernel
theorem dL_law_178 : decode cL_law 178 = .ok (.if_icmp .eq 417, 3) := by decide +kernel
theorem dL_law_181 : decode cL_law 181 = .ok (.iconst 0, 1) := by decide +kernel
theorem dL_law_182 : decode cL_law 182 = .ok (.ireturn, 1) := by decide +kernel
theorem dL_law_183 : decode cL_law 183 = .ok (.aload_n 1, 1) := by decide +kernel
theorem dL_law_184 : decode cL_law 184 = .ok (.aload_n 0, 1) := by decide +kernel
theorem dL_law_185 : decode cL_law 185 = .ok (.iload_n 3, 1) := by decide +kernel
theorem dL_law_186 : decode cL_law 186 = .ok (.iconst 1, 1) := by decide +kernel
theorem dL_law_187 : decode cL_law 187 = .ok (.iadd, 1) := by decide +kernel
theorem dL_law_188 : decode cL_law 188 = .ok (.iaload, 1) := by decide +kernel
theorem dL_law_189 : decode cL_law 189 = .ok (.invokevirtual 18, 3) := by decide +kernel
theorem dL_law_192 : decode cL_law 192 = .ok (.aload_n 2, 1) := by decide +kernel
theorem dL_law_193 : decode cL_law 193 = .ok (.aload_n 0, 1) := by decide +kernel
theorem dL_law_194 : decode cL_law 194 = .ok (.iload_n 3, 1) := by decide +kernel
theorem dL_law_195 : decode cL_law 195 = .ok (.iconst 1, 1) := by decide +kernel
theorem dL_law_196 : decode cL_law 196 = .ok (.iadd, 1) := by decide +kernel
theorem dL_law_197 : decode cL_law 197 = .ok (.iaload, 1) := by decide +kernel
theorem dL_law_198 : decode cL_law 198 = .ok (.invokevirtual 22, 3) := by decide +kernel
theorem dL_law_201 : decode cL_law 201 = .ok (.if_icmp .eq 394, 3) := by decide +kernel
theorem dL_law_204 : decode cL_law 204 = .ok (.iconst 0, 1) := by decide +kernel
theorem dL_law_205 : decode cL_law 205 = .ok (.ireturn, 1) := by decide +kernel
theorem dL_law_206 : decode cL_law 206 = .ok (.aload_n 1, 1) := by decide +kernel
theorem dL_law_207 : decode cL_law 207 = .ok (.invokevirtual 23, 3) := by decide +kernel
theorem dL_law_210 : decode cL_law 210 = .ok (.aload_n 2, 1) := by decide +kernel
theorem dL_law_211 : decode cL_law 211 = .ok (.invokevirtual 27, 3) := by decide +kernel
theorem dL_law_214 : decode cL_law 214 = .ok (.if_icmp .eq 381, 3) := by decide +kernel
theorem dL_law_217 : decode cL_law 217 = .ok (.iconst 0, 1) := by decide +kernel
theorem dL_law_218 : decode cL_law 218 = .ok (.ireturn, 1) := by decide +kernel
theorem dL_law_219 : decode cL_law 219 = .ok (.aload_n 1, 1) := by decide +kernel
theorem dL_law_220 : decode cL_law 220 = .ok (.aload_n 0, 1) := by decide +kernel
theorem dL_law_221 : decode cL_law 221 = .ok (.iload_n 3, 1) := by decide +kernel
theorem dL_law_222 : decode cL_law 222 = .ok (.iconst 1, 1) := by decide +kernel
theorem dL_law_223 : decode cL_law 223 = .ok (.iadd, 1) := by decide +kernel
theorem dL_law_224 : decode cL_law 224 = .ok (.iaload, 1) := by decide +kernel
theorem dL_law_225 : decode cL_law 225 = .ok (.aload_n 0, 1) := by decide +kernel
theorem dL_law_226 : decode cL_law 226 = .ok (.iload_n 3, 1) := by decide +kernel
theorem dL_law_227 : decode cL_law 227 = .ok (.iconst 2, 1) := by decide +kernel
theorem dL_law_228 : decode cL_law 228 = .ok (.iadd, 1) := by decide +kernel
theorem dL_law_229 : decode cL_law 229 = .ok (.iaload, 1) := by decide +kernel
theorem dL_law_230 : decode cL_law 230 = .ok (.aload_n 0, 1) := by decide +kernel
theorem dL_law_231 : decode cL_law 231 = .ok (.iload_n 3, 1) := by decide +kernel
theorem dL_law_232 : decode cL_law 232 = .ok (.iconst 3, 1) := by decide +kernel
theorem dL_law_233 : decode cL_law 233 = .ok (.iadd, 1) := by decide +kernel
theorem dL_law_234 : decode cL_law 234 = .ok (.iaload, 1) := by decide +kernel
theorem dL_law_235 : decode cL_law 235 = .ok (.aload_n 0, 1) := by decide +kernel
theorem dL_law_236 : decode cL_law 236 = .ok (.iload_n 3, 1) := by decide +kernel
theorem dL_law_237 : decode cL_law 237 = .ok (.iconst 4, 1) := by decide +kernel
theorem dL_law_238 : decode cL_law 238 = .ok (.iadd, 1) := by decide +kernel
theorem dL_law_239 : decode cL_law 239 = .ok (.iaload, 1) := by decide +kernel
theorem dL_law_240 : decode cL_law 240 = .ok (.aload_n 0, 1) := by decide +kernel
theorem dL_law_241 : decode cL_law 241 = .ok (.iload_n 3, 1) := by decide +kernel
theorem dL_law_242 : decode cL_law 242 = .ok (.iconst 5, 1) := by decide +kernel
theorem dL_law_243 : decode cL_law 243 = .ok (.iadd, 1) := by decide +kernel
theorem dL_law_244 : decode cL_law 244 = .ok (.iaload, 1) := by decide +kernel
theorem dL_law_245 : decode cL_law 245 = .ok (.invokevirtual 28, 3) := by decide +kernel
theorem dL_law_248 : decode cL_law 248 = .ok (.aload_n 2, 1) := by decide +kernel
theorem dL_law_249 : decode cL_law 249 = .ok (.aload_n 0, 1) := by decide +kernel
theorem dL_law_250 : decode cL_law 250 = .ok (.iload_n 3, 1) := by decide +kernel
theorem dL_law_251 : decode cL_law 251 = .ok (.iconst 1, 1) := by decide +kernel
theorem dL_law_252 : decode cL_law 252 = .ok (.iadd, 1) := by decide +kernel
theorem dL_law_253 : decode cL_law 253 = .ok (.iaload, 1) := by decide +kernel
theorem dL_law_254 : decode cL_law 254 = .ok (.aload_n 0, 1) := by decide +kernel
theorem dL_law_255 : decode cL_law 255 = .ok (.iload_n 3, 1) := by decide +kernel
theorem dL_law_256 : decode cL_law 256 = .ok (.iconst 2, 1) := by decide +kernel
theorem dL_law_257 : decode cL_law 257 = .ok (.iadd, 1) := by decide +kernel
theorem dL_law_258 : decode cL_law 258 = .ok (.iaload, 1) := by decide +kernel
theorem dL_law_259 : decode cL_law 259 = .ok (.aload_n 0, 1) := by decide +kernel
theorem dL_law_260 : decode cL_law 260 = .ok (.iload_n 3, 1) := by decide +kernel
theorem dL_law_261 : decode cL_law 261 = .ok (.iconst 3, 1) := by decide +kernel
theorem dL_law_262 : decode cL_law 262 = .ok (.iadd, 1) := by decide +kernel
theorem dL_law_263 : decode cL_law 263 = .ok (.iaload, 1) := by decide +kernel
theorem dL_law_264 : decode cL_law 264 = .ok (.aload_n 0, 1) := by decide +kernel
theorem dL_law_265 : decode cL_law 265 = .ok (.iload_n 3, 1) := by decide +kernel
theorem dL_law_266 : decode cL_law 266 = .ok (.iconst 4, 1) := by decide +kernel
theorem dL_law_267 : decode cL_law 267 = .ok (.iadd, 1) := by decide +kernel
theorem dL_law_268 : decode cL_law 268 = .ok (.iaload, 1) := by decide +kernel
theorem dL_law_269 : decode cL_law 269 = .ok (.aload_n 0, 1) := by decide +kernel
theorem dL_law_270 : decode cL_law 270 = .ok (.iload_n 3, 1) := by decide +kernel
theorem dL_law_271 : decode cL_law 271 = .ok (.iconst 5, 1) := by decide +kernel
theorem dL_law_272 : decode cL_law 272 = .ok (.iadd, 1) := by decide +kernel
theorem dL_law_273 : decode cL_law 273 = .ok (.iaload, 1) := by decide +kernel
theorem dL_law_274 : decode cL_law 274 = .ok (.invokevirtual 31, 3) := by decide +kernel
theorem dL_law_277 : decode cL_law 277 = .ok (.if_icmp .eq 318, 3) := by decide +kernel
theorem dL_law_280 : decode cL_law 280 = .ok (.iconst 0, 1) := by decide +kernel
theorem dL_law_281 : decode cL_law 281 = .ok (.ireturn, 1) := by decide +kernel
theorem dL_law_282 : decode cL_law 282 = .ok (.aload_n 1, 1) := by decide +kernel
theorem dL_law_283 : decode cL_law 283 = .ok (.aload_n 0, 1) := by decide +kernel
theorem dL_law_284 : decode cL_law 284 = .ok (.iload_n 3, 1) := by decide +kernel
theorem dL_law_285 : decode cL_law 285 = .ok (.iconst 1, 1) := by decide +kernel
theorem dL_law_286 : decode cL_law 286 = .ok (.iadd, 1) := by decide +kernel
theorem dL_law_287 : decode cL_law 287 = .ok (.iaload, 1) := by decide +kernel
theorem dL_law_288 : decode cL_law 288 = .ok (.invokevirtual 32, 3) := by decide +kernel
theorem dL_law_291 : decode cL_law 291 = .ok (.aload_n 2, 1) := by decide +kernel
theorem dL_law_292 : decode cL_law 292 = .ok (.aload_n 0, 1) := by decide +kernel
theorem dL_law_293 : decode cL_law 293 = .ok (.iload_n 3, 1) := by decide +kernel
theorem dL_law_294 : decode cL_law 294 = .ok (.iconst 1, 1) := by decide +kernel
theorem dL_law_295 : decode cL_law 295 = .ok (.iadd, 1) := by decide +kernel
theorem dL_law_296 : decode cL_law 296 = .ok (.iaload, 1) := by decide +kernel
theorem dL_law_297 : decode cL_law 297 = .ok (.invokevirtual 35, 3) := by decide +kernel
theorem dL_law_300 : decode cL_law 300 = .ok (.if_icmp .eq 295, 3) := by decide +kernel
theorem dL_law_303 : decode cL_law 303 = .ok (.iconst 0, 1) := by decide +kernel
theorem dL_law_304 : decode cL_law 304 = .ok (.ireturn, 1) := by decide +kernel
theorem dL_law_305 : decode cL_law 305 = .ok (.aload_n 1, 1) := by decide +kernel
theorem dL_law_306 : decode cL_law 306 = .ok (.aload_n 0, 1) := by decide +kernel
theorem dL_law_307 : decode cL_law 307 = .ok (.iload_n 3, 1) := by decide +kernel
theorem dL_law_308 : decode cL_law 308 = .ok (.iconst 1, 1) := by decide +kernel
theorem dL_law_309 : decode cL_law 309 = .ok (.iadd, 1) := by decide +kernel
theorem dL_law_310 : decode cL_law 310 = .ok (.iaload, 1) := by decide +kernel
theorem dL_law_311 : decode cL_law 311 = .ok (.invokevirtual 36, 3) := by decide +kernel
theorem dL_law_314 : decode cL_law 314 = .ok (.aload_n 2, 1) := by decide +kernel
theorem dL_law_315 : decode cL_law 315 = .ok (.aload_n 0, 1) := by decide +kernel
theorem dL_law_316 : decode cL_law 316 = .ok (.iload_n 3, 1) := by decide +kernel
theorem dL_law_317 : decode cL_law 317 = .ok (.iconst 1, 1) := by decide +kernel
theorem dL_law_318 : decode cL_law 318 = .ok (.iadd, 1) := by decide +kernel
theorem dL_law_319 : decode cL_law 319 = .ok (.iaload, 1) := by decide +kernel
theorem dL_law_320 : decode cL_law 320 = .ok (.invokevirtual 39, 3) := by decide +kernel
theorem dL_law_323 : decode cL_law 323 = .ok (.if_icmp .eq 272, 3) := by decide +kernel
theorem dL_law_326 : decode cL_law 326 = .ok (.iconst 0, 1) := by decide +kernel
theorem dL_law_327 : decode cL_law 327 = .ok (.ireturn, 1) := by decide +kernel
theorem dL_law_328 : decode cL_law 328 = .ok (.aload_n 1, 1) := by decide +kernel
theorem dL_law_329 : decode cL_law 329 = .ok (.invokevirtual 40, 3) := by decide +kernel
theorem dL_law_332 : decode cL_law 332 = .ok (.aload_n 2, 1) := by decide +kernel
theorem dL_law_333 : decode cL_law 333 = .ok (.invokevirtual 43, 3) := by decide +kernel
theorem dL_law_336 : decode cL_law 336 = .ok (.if_icmp .eq 259, 3) := by decide +kernel
theorem dL_law_339 : decode cL_law 339 = .ok (.iconst 0, 1) := by decide +kernel
theorem dL_law_340 : decode cL_law 340 = .ok (.ireturn, 1) := by decide +kernel
theorem dL_law_341 : decode cL_law 341 = .ok (.aload_n 1, 1) := by decide +kernel
theorem dL_law_342 : decode cL_law 342 = .ok (.invokevirtual 44, 3) := by decide +kernel
theorem dL_law_345 : decode cL_law 345 = .ok (.aload_n 2, 1) := by decide +kernel
theorem dL_law_346 : decode cL_law 346 = .ok (.invokevirtual 47, 3) := by decide +kernel
theorem dL_law_349 : decode cL_law 349 = .ok (.if_icmp .eq 246, 3) := by decide +kernel
theorem dL_law_352 : decode cL_law 352 = .ok (.iconst 0, 1) := by decide +kernel
theorem dL_law_353 : decode cL_law 353 = .ok (.ireturn, 1) := by decide +kernel
theorem dL_law_354 : decode cL_law 354 = .ok (.aload_n 1, 1) := by decide +kernel
theorem dL_law_355 : decode cL_law 355 = .ok (.aload_n 0, 1) := by decide +kernel
theorem dL_law_356 : decode cL_law 356 = .ok (.iload_n 3, 1) := by decide +kernel
theorem dL_law_357 : decode cL_law 357 = .ok (.iconst 1, 1) := by decide +kernel
theorem dL_law_358 : decode cL_law 358 = .ok (.iadd, 1) := by decide +kernel
theorem dL_law_359 : decode cL_law 359 = .ok (.iaload, 1) := by decide +kernel
theorem dL_law_360 : decode cL_law 360 = .ok (.invokevirtual 48, 3) := by decide +kernel
theorem dL_law_363 : decode cL_law 363 = .ok (.aload_n 2, 1) := by decide +kernel
theorem dL_law_364 : decode cL_law 364 = .ok (.aload_n 0, 1) := by decide +kernel
theorem dL_law_365 : decode cL_law 365 = .ok (.iload_n 3, 1) := by decide +kernel
theorem dL_law_366 : decode cL_law 366 = .ok (.iconst 1, 1) := by decide +kernel
theorem dL_law_367 : decode cL_law 367 = .ok (.iadd, 1) := by decide +kernel
theorem dL_law_368 : decode cL_law 368 = .ok (.iaload, 1) := by decide +kernel
theorem dL_law_369 : decode cL_law 369 = .ok (.invokevirtual 51, 3) := by decide +kernel
theorem dL_law_372 : decode cL_law 372 = .ok (.if_icmp .eq 223, 3) := by decide +kernel
theorem dL_law_375 : decode cL_law 375 = .ok (.iconst 0, 1) := by decide +kernel
theorem dL_law_376 : decode cL_law 376 = .ok (.ireturn, 1) := by decide +kernel
theorem dL_law_377 : decode cL_law 377 = .ok (.aload_n 1, 1) := by decide +kernel
theorem dL_law_378 : decode cL_law 378 = .ok (.aload_n 0, 1) := by decide +kernel
theorem dL_law_379 : decode cL_law 379 = .ok (.iload_n 3, 1) := by decide +kernel
theorem dL_law_380 : decode cL_law 380 = .ok (.iconst 1, 1) := by decide +kernel
theorem dL_law_381 : decode cL_law 381 = .ok (.iadd, 1) := by decide +kernel
theorem dL_law_382 : decode cL_law 382 = .ok (.iaload, 1) := by decide +kernel
theorem dL_law_383 : decode cL_law 383 = .ok (.aload_n 0, 1) := by decide +kernel
theorem dL_law_384 : decode cL_law 384 = .ok (.iload_n 3, 1) := by decide +kernel
theorem dL_law_385 : decode cL_law 385 = .ok (.iconst 2, 1) := by decide +kernel
theorem dL_law_386 : decode cL_law 386 = .ok (.iadd, 1) := by decide +kernel
theorem dL_law_387 : decode cL_law 387 = .ok (.iaload, 1) := by decide +kernel
theorem dL_law_388 : decode cL_law 388 = .ok (.invokevirtual 52, 3) := by decide +kernel
theorem dL_law_391 : decode cL_law 391 = .ok (.aload_n 2, 1) := by decide +kernel
theorem dL_law_392 : decode cL_law 392 = .ok (.aload_n 0, 1) := by decide +kernel
theorem dL_law_393 : decode cL_law 393 = .ok (.iload_n 3, 1) := by decide +kernel
theorem dL_law_394 : decode cL_law 394 = .ok (.iconst 1, 1) := by decide +kernel
theorem dL_law_395 : decode cL_law 395 = .ok (.iadd, 1) := by decide +kernel
theorem dL_law_396 : decode cL_law 396 = .ok (.iaload, 1) := by decide +kernel
theorem dL_law_397 : decode cL_law 397 = .ok (.aload_n 0, 1) := by decide +kernel
theorem dL_law_398 : decode cL_law 398 = .ok (.iload_n 3, 1) := by decide +kernel
theorem dL_law_399 : decode cL_law 399 = .ok (.iconst 2, 1) := by decide +kernel
theorem dL_law_400 : decode cL_law 400 = .ok (.iadd, 1) := by decide +kernel
theorem dL_law_401 : decode cL_law 401 = .ok (.iaload, 1) := by decide +kernel
theorem dL_law_402 : decode cL_law 402 = .ok (.invokevirtual 56, 3) := by decide +kernel
theorem dL_law_405 : decode cL_law 405 = .ok (.if_icmp .eq 190, 3) := by decide +kernel
theorem dL_law_408 : decode cL_law 408 = .ok (.iconst 0, 1) := by decide +kernel
theorem dL_law_409 : decode cL_law 409 = .ok (.ireturn, 1) := by decide +kernel
theorem dL_law_410 : decode cL_law 410 = .ok (.aload_n 1, 1) := by decide +kernel
theorem dL_law_411 : decode cL_law 411 = .ok (.aload_n 0, 1) := by decide +kernel
theorem dL_law_412 : decode cL_law 412 = .ok (.iload_n 3, 1) := by decide +kernel
theorem dL_law_413 : decode cL_law 413 = .ok (.iconst 1, 1) := by decide +kernel
theorem dL_law_414 : decode cL_law 414 = .ok (.iadd, 1) := by decide +kernel
theorem dL_law_415 : decode cL_law 415 = .ok (.iaload, 1) := by decide +kernel
theorem dL_law_416 : decode cL_law 416 = .ok (.invokevirtual 57, 3) := by decide +kernel
theorem dL_law_419 : decode cL_law 419 = .ok (.aload_n 2, 1) := by decide +kernel
theorem dL_law_420 : decode cL_law 420 = .ok (.aload_n 0, 1) := by decide +kernel
theorem dL_law_421 : decode cL_law 421 = .ok (.iload_n 3, 1) := by decide +kernel
theorem dL_law_422 : decode cL_law 422 = .ok (.iconst 1, 1) := by decide +kernel
theorem dL_law_423 : decode cL_law 423 = .ok (.iadd, 1) := by decide +kernel
theorem dL_law_424 : decode cL_law 424 = .ok (.iaload, 1) := by decide +kernel
theorem dL_law_425 : decode cL_law 425 = .ok (.invokevirtual 60, 3) := by decide +kernel
theorem dL_law_428 : decode cL_law 428 = .ok (.if_icmp .eq 167, 3) := by decide +kernel
theorem dL_law_431 : decode cL_law 431 = .ok (.iconst 0, 1) := by decide +kernel
theorem dL_law_432 : decode cL_law 432 = .ok (.ireturn, 1) := by decide +kernel
theorem dL_law_433 : decode cL_law 433 = .ok (.aload_n 1, 1) := by decide +kernel
theorem dL_law_434 : decode cL_law 434 = .ok (.aload_n 0, 1) := by decide +kernel
theorem dL_law_435 : decode cL_law 435 = .ok (.iload_n 3, 1) := by decide +kernel
theorem dL_law_436 : decode cL_law 436 = .ok (.iconst 1, 1) := by decide +kernel
theorem dL_law_437 : decode cL_law 437 = .ok (.iadd, 1) := by decide +kernel
theorem dL_law_438 : decode cL_law 438 = .ok (.iaload, 1) := by decide +kernel
theorem dL_law_439 : decode cL_law 439 = .ok (.invokevirtual 61, 3) := by decide +kernel
theorem dL_law_442 : decode cL_law 442 = .ok (.aload_n 2, 1) := by decide +kernel
theorem dL_law_443 : decode cL_law 443 = .ok (.aload_n 0, 1) := by decide +kernel
theorem dL_law_444 : decode cL_law 444 = .ok (.iload_n 3, 1) := by decide +kernel
theorem dL_law_445 : decode cL_law 445 = .ok (.iconst 1, 1) := by decide +kernel
theorem dL_law_446 : decode cL_law 446 = .ok (.iadd, 1) := by decide +kernel
theorem dL_law_447 : decode cL_law 447 = .ok (.iaload, 1) := by decide +kernel
theorem dL_law_448 : decode cL_law 448 = .ok (.invokevirtual 64, 3) := by decide +kernel
theorem dL_law_451 : decode cL_law 451 = .ok (.if_icmp .eq 144, 3) := by decide +kernel
theorem dL_law_454 : decode cL_law 454 = .ok (.iconst 0, 1) := by decide +kernel
theorem dL_law_455 : decode cL_law 455 = .ok (.ireturn, 1) := by decide +kernel
theorem dL_law_456 : decode cL_law 456 = .ok (.aload_n 1, 1) := by decide +kernel
theorem dL_law_457 : decode cL_law 457 = .ok (.aload_n 0, 1) := by decide +kernel
theorem dL_law_458 : decode cL_law 458 = .ok (.iload_n 3, 1) := by decide +kernel
theorem dL_law_459 : decode cL_law 459 = .ok (.iconst 1, 1) := by decide +kernel
theorem dL_law_460 : decode cL_law 460 = .ok (.iadd, 1) := by decide +kernel
theorem dL_law_461 : decode cL_law 461 = .ok (.iaload, 1) := by decide +kernel
theorem dL_law_462 : decode cL_law 462 = .ok (.aload_n 0, 1) := by decide +kernel
theorem dL_law_463 : decode cL_law 463 = .ok (.iload_n 3, 1) := by decide +kernel
theorem dL_law_464 : decode cL_law 464 = .ok (.iconst 2, 1) := by decide +kernel
theorem dL_law_465 : decode cL_law 465 = .ok (.iadd, 1) := by decide +kernel
theorem dL_law_466 : decode cL_law 466 = .ok (.iaload, 1) := by decide +kernel
theorem dL_law_467 : decode cL_law 467 = .ok (.invokevirtual 65, 3) := by decide +kernel
theorem dL_law_470 : decode cL_law 470 = .ok (.aload_n 2, 1) := by decide +kernel
theorem dL_law_471 : decode cL_law 471 = .ok (.aload_n 0, 1) := by decide +kernel
theorem dL_law_472 : decode cL_law 472 = .ok (.iload_n 3, 1) := by decide +kernel
theorem dL_law_473 : decode cL_law 473 = .ok (.iconst 1, 1) := by decide +kernel
theorem dL_law_474 : decode cL_law 474 = .ok (.iadd, 1) := by decide +kernel
theorem dL_law_475 : decode cL_law 475 = .ok (.iaload, 1) := by decide +kernel
theorem dL_law_476 : decode cL_law 476 = .ok (.aload_n 0, 1) := by decide +kernel
theorem dL_law_477 : decode cL_law 477 = .ok (.iload_n 3, 1) := by decide +kernel
theorem dL_law_478 : decode cL_law 478 = .ok (.iconst 2, 1) := by decide +kernel
theorem dL_law_479 : decode cL_law 479 = .ok (.iadd, 1) := by decide +kernel
theorem dL_law_480 : decode cL_law 480 = .ok (.iaload, 1) := by decide +kernel
theorem dL_law_481 : decode cL_law 481 = .ok (.invokevirtual 69, 3) := by decide +kernel
theorem dL_law_484 : decode cL_law 484 = .ok (.lcmp, 1) := by decide +kernel
theorem dL_law_485 : decode cL_law 485 = .ok (.ifCond .eq 110, 3) := by decide +kernel
theorem dL_law_488 : decode cL_law 488 = .ok (.iconst 0, 1) := by decide +kernel
theorem dL_law_489 : decode cL_law 489 = .ok (.ireturn, 1) := by decide +kernel
theorem dL_law_490 : decode cL_law 490 = .ok (.aload_n 1, 1) := by decide +kernel
theorem dL_law_491 : decode cL_law 491 = .ok (.aload_n 0, 1) := by decide +kernel
theorem dL_law_492 : decode cL_law 492 = .ok (.iload_n 3, 1) := by decide +kernel
theorem dL_law_493 : decode cL_law 493 = .ok (.iconst 1, 1) := by decide +kernel
theorem dL_law_494 : decode cL_law 494 = .ok (.iadd, 1) := by decide +kernel
theorem dL_law_495 : decode cL_law 495 = .ok (.iaload, 1) := by decide +kernel
theorem dL_law_496 : decode cL_law 496 = .ok (.invokevirtual 70, 3) := by decide +kernel
theorem dL_law_499 : decode cL_law 499 = .ok (.aload_n 2, 1) := by decide +kernel
theorem dL_law_500 : decode cL_law 500 = .ok (.aload_n 0, 1) := by decide +kernel
theorem dL_law_501 : decode cL_law 501 = .ok (.iload_n 3, 1) := by decide +kernel
theorem dL_law_502 : decode cL_law 502 = .ok (.iconst 1, 1) := by decide +kernel
theorem dL_law_503 : decode cL_law 503 = .ok (.iadd, 1) := by decide +kernel
theorem dL_law_504 : decode cL_law 504 = .ok (.iaload, 1) := by decide +kernel
theorem dL_law_505 : decode cL_law 505 = .ok (.invokevirtual 74, 3) := by decide +kernel
theorem dL_law_508 : decode cL_law 508 = .ok (.if_icmp .eq 87, 3) := by decide +kernel
theorem dL_law_511 : decode cL_law 511 = .ok (.iconst 0, 1) := by decide +kernel
theorem dL_law_512 : decode cL_law 512 = .ok (.ireturn, 1) := by decide +kernel
theorem dL_law_513 : decode cL_law 513 = .ok (.aload_n 1, 1) := by decide +kernel
theorem dL_law_514 : decode cL_law 514 = .ok (.invokevirtual 75, 3) := by decide +kernel
theorem dL_law_517 : decode cL_law 517 = .ok (.aload_n 2, 1) := by decide +kernel
theorem dL_law_518 : decode cL_law 518 = .ok (.invokevirtual 78, 3) := by decide +kernel
theorem dL_law_521 : decode cL_law 521 = .ok (.if_icmp .eq 74, 3) := by decide +kernel
theorem dL_law_524 : decode cL_law 524 = .ok (.iconst 0, 1) := by decide +kernel
theorem dL_law_525 : decode cL_law 525 = .ok (.ireturn, 1) := by decide +kernel
theorem dL_law_526 : decode cL_law 526 = .ok (.aload_n 1, 1) := by decide +kernel
theorem dL_law_527 : decode cL_law 527 = .ok (.aload_n 0, 1) := by decide +kernel
theorem dL_law_528 : decode cL_law 528 = .ok (.iload_n 3, 1) := by decide +kernel
theorem dL_law_529 : decode cL_law 529 = .ok (.iconst 1, 1) := by decide +kernel
theorem dL_law_530 : decode cL_law 530 = .ok (.iadd, 1) := by decide +kernel
theorem dL_law_531 : decode cL_law 531 = .ok (.iaload, 1) := by decide +kernel
theorem dL_law_532 : decode cL_law 532 = .ok (.invokevirtual 79, 3) := by decide +kernel
theorem dL_law_535 : decode cL_law 535 = .ok (.aload_n 2, 1) := by decide +kernel
theorem dL_law_536 : decode cL_law 536 = .ok (.aload_n 0, 1) := by decide +kernel
theorem dL_law_537 : decode cL_law 537 = .ok (.iload_n 3, 1) := by decide +kernel
theorem dL_law_538 : decode cL_law 538 = .ok (.iconst 1, 1) := by decide +kernel
theorem dL_law_539 : decode cL_law 539 = .ok (.iadd, 1) := by decide +kernel
theorem dL_law_540 : decode cL_law 540 = .ok (.iaload, 1) := by decide +kernel
theorem dL_law_541 : decode cL_law 541 = .ok (.invokevirtual 82, 3) := by decide +kernel
theorem dL_law_544 : decode cL_law 544 = .ok (.if_icmp .eq 51, 3) := by decide +kernel
theorem dL_law_547 : decode cL_law 547 = .ok (.iconst 0, 1) := by decide +kernel
theorem dL_law_548 : decode cL_law 548 = .ok (.ireturn, 1) := by decide +kernel
theorem dL_law_549 : decode cL_law 549 = .ok (.aload_n 1, 1) := by decide +kernel
theorem dL_law_550 : decode cL_law 550 = .ok (.aload_n 0, 1) := by decide +kernel
theorem dL_law_551 : decode cL_law 551 = .ok (.iload_n 3, 1) := by decide +kernel
theorem dL_law_552 : decode cL_law 552 = .ok (.iconst 1, 1) := by decide +kernel
theorem dL_law_553 : decode cL_law 553 = .ok (.iadd, 1) := by decide +kernel
theorem dL_law_554 : decode cL_law 554 = .ok (.iaload, 1) := by decide +kernel
theorem dL_law_555 : decode cL_law 555 = .ok (.aload_n 0, 1) := by decide +kernel
theorem dL_law_556 : decode cL_law 556 = .ok (.iload_n 3, 1) := by decide +kernel
theorem dL_law_557 : decode cL_law 557 = .ok (.iconst 2, 1) := by decide +kernel
theorem dL_law_558 : decode cL_law 558 = .ok (.iadd, 1) := by decide +kernel
theorem dL_law_559 : decode cL_law 559 = .ok (.iaload, 1) := by decide +kernel
theorem dL_law_560 : decode cL_law 560 = .ok (.invokevirtual 83, 3) := by decide +kernel
theorem dL_law_563 : decode cL_law 563 = .ok (.aload_n 2, 1) := by decide +kernel
theorem dL_law_564 : decode cL_law 564 = .ok (.aload_n 0, 1) := by decide +kernel
theorem dL_law_565 : decode cL_law 565 = .ok (.iload_n 3, 1) := by decide +kernel
theorem dL_law_566 : decode cL_law 566 = .ok (.iconst 1, 1) := by decide +kernel
theorem dL_law_567 : decode cL_law 567 = .ok (.iadd, 1) := by decide +kernel
theorem dL_law_568 : decode cL_law 568 = .ok (.iaload, 1) := by decide +kernel
theorem dL_law_569 : decode cL_law 569 = .ok (.aload_n 0, 1) := by decide +kernel
theorem dL_law_570 : decode cL_law 570 = .ok (.iload_n 3, 1) := by decide +kernel
theorem dL_law_571 : decode cL_law 571 = .ok (.iconst 2, 1) := by decide +kernel
theorem dL_law_572 : decode cL_law 572 = .ok (.iadd, 1) := by decide +kernel
theorem dL_law_573 : decode cL_law 573 = .ok (.iaload, 1) := by decide +kernel
theorem dL_law_574 : decode cL_law 574 = .ok (.invokevirtual 87, 3) := by decide +kernel
theorem dL_law_577 : decode cL_law 577 = .ok (.if_icmp .eq 18, 3) := by decide +kernel
theorem dL_law_580 : decode cL_law 580 = .ok (.iconst 0, 1) := by decide +kernel
theorem dL_law_581 : decode cL_law 581 = .ok (.ireturn, 1) := by decide +kernel
theorem dL_law_582 : decode cL_law 582 = .ok (.aload_n 1, 1) := by decide +kernel
theorem dL_law_583 : decode cL_law 583 = .ok (.invokevirtual 88, 3) := by decide +kernel
theorem dL_law_586 : decode cL_law 586 = .ok (.aload_n 2, 1) := by decide +kernel
theorem dL_law_587 : decode cL_law 587 = .ok (.invokevirtual 91, 3) := by decide +kernel
theorem dL_law_590 : decode cL_law 590 = .ok (.if_icmp .eq 5, 3) := by decide +kernel
theorem dL_law_593 : decode cL_law 593 = .ok (.iconst 0, 1) := by decide +kernel
theorem dL_law_594 : decode cL_law 594 = .ok (.ireturn, 1) := by decide +kernel
theorem dL_law_595 : decode cL_law 595 = .ok (.iinc 3 6, 3) := by decide +kernel
theorem dL_law_598 : decode cL_law 598 = .ok (.goto (-580), 3) := by decide +kernel
theorem dL_law_601 : decode cL_law 601 = .ok (.iconst 1, 1) := by decide +kernel
theorem dL_law_602 : decode cL_law 602 = .ok (.ireturn, 1) := by decide +kernel
theorem wL_law_L595 {x : GX} {n0 sl0 : Nat} (X : Cx x cL_law RL (some .boolean) n0 sl0 20 860) {out : Mm} (hE : EndsL x) (hn : xn x = 4) (fu : Nat) (sc : Nat → Int32) (Ln : Nat) (hX : va_X (xE x 250) Ln sc (xs x) (xH x) ∧ xE x 250 < xo x) (k18 : Option Nat → Option Nat → Option Nat → Int32 → Mm → Option (Mm)) (hk18 : ∀ (b0 : Option Nat) (b1 : Option Nat) (b2 : Option Nat) (b3 : Int32)  (M : Mm), k18 b0 b1 b2 b3 M = some out → Gw x M 18 [(0, pR b0), (1, pR b1), (2, pR b2), (3, pI b3)] []) (a0 : Option Nat) (a1 : Option Nat) (a2 : Option Nat) (a3 : Int32)  (M : Mm) (h : fL_law_L595 fu sc Ln k18 a0 a1 a2 a3 M = some out) : Gw x M 595 [(0, pR a0), (1, pR a1), (2, pR a2), (3, pI a3)] [] := by
  unfold fL_law_L595 at h
  refine g_iinc X (pc := 595) 3 [(3, pI (a3 + (6 : Int32))), (0, pR a0), (1, pR a1), (2, pR a2)] rfl (iinc_e (by decide)) (lt_n hn (by decide)) rfl dL_law_595 ?_
  refine g_goto X (pc := 598) (tgt := 18) dL_law_598 (by decide) ?_
  refine g_sub [1, 2, 3, 0] [(0, pR a0), (1, pR a1), (2, pR a2), (3, pI (a3 + (6 : Int32)))] rfl ?_
  exact hk18 a0 a1 a2 (a3 + (6 : Int32)) M h
theorem wL_law_L18 {x : GX} {n0 sl0 : Nat} (X : Cx x cL_law RL (some .boolean) n0 sl0 20 860) {out : Mm} (hE : EndsL x) (hn : xn x = 4) (fu : Nat) (sc : Nat → Int32) (Ln : Nat) (hX : va_X (xE x 250) Ln sc (xs x) (xH x) ∧ xE x 250 < xo x)   : ∀ (n : Nat) (a0 : Option Nat) (a1 : Option Nat) (a2 : Option Nat) (a3 : Int32)  (M : Mm), fL_law_L18 fu sc Ln  n a0 a1 a2 a3 M = some out → Gw x M 18 [(0, pR a0), (1, pR a1), (2, pR a2), (3, pI a3)] [] := by
  intro n
  induction n with
  | zero =>
    intro a0 a1 a2 a3 M h
    have h : (none : Option (Mm)) = some out := h
    cases h
  | succ n ih =>
    intro a0 a1 a2 a3 M h
    rw [fL_law_L18] at h
    refine g_iload_n X (pc := 18) 3 rfl rfl dL_law_18 ?_
    refine g_aload_n X (pc := 19) 0 rfl rfl dL_law_19 ?_
    obtain ⟨v1, ev1, h⟩ := bd h
    refine g_slen X (pc := 20) hX ev1 dL_law_20 ?_
    refine g_bipush X (pc := 21) (v := 6) dL_law_21 (by decide) ?_
    refine g_isub X (pc := 23) dL_law_23 ?_
    refine g_icmp_gt X (pc := 24) (tgt := 601) dL_law_24 (by decide) (fun hc => ?_) (fun hc => ?_)
    · have h := (if_pos hc).symm.trans h
      refine g_iconst X (pc := 601) (v := 1) dL_law_601 (by decide) ?_
      obtain rfl := Option.some.inj h
      exact g_lret X hE dL_law_602
    · have h := (if_neg hc).symm.trans h
      refine g_aload_n X (pc := 27) 0 rfl rfl dL_law_27 ?_
      refine g_iload_n X (pc := 28) 3 rfl rfl dL_law_28 ?_
      obtain ⟨v2, ev2, h⟩ := bd h
      refine g_sld X (pc := 29) hX ev2 dL_law_29 ?_
      refine g_bipush X (pc := 30) (v := 31) dL_law_30 (by decide) ?_
      refine g_iand X (pc := 32) dL_law_32 ?_
      by_cases hc0 : (v2 &&& (31 : Int32)) = (0 : Int32)
      · have h := (if_pos hc0).symm.trans h
        refine g_tab X (pc := 33) 0 (tgt := 120) hc0 (by decide) (by decide) dL_law_33 rfl (by decide) ?_
        refine g_aload_n X (pc := 120) 1 rfl rfl dL_law_120 ?_
        refine g_aload_n X (pc := 121) 0 rfl rfl dL_law_121 ?_
        refine g_iload_n X (pc := 122) 3 rfl rfl dL_law_122 ?_
        refine g_iconst X (pc := 123) (v := 1) dL_law_123 (by decide) ?_
        refine g_iadd X (pc := 124) dL_law_124 ?_
        obtain ⟨v3, ev3, h⟩ := bd h
        refine g_sld X (pc := 125) hX ev3 dL_law_125 ?_
        refine g_aload_n X (pc := 126) 0 rfl rfl dL_law_126 ?_
        refine g_iload_n X (pc := 127) 3 rfl rfl dL_law_127 ?_
        refine g_iconst X (pc := 128) (v := 2) dL_law_128 (by decide) ?_
        refine g_iadd X (pc := 129) dL_law_129 ?_
        obtain ⟨v4, ev4, h⟩ := bd h
        refine g_sld X (pc := 130) hX ev4 dL_law_130 ?_
        refine g_aload_n X (pc := 131) 0 rfl rfl dL_law_131 ?_
        refine g_iload_n X (pc := 132) 3 rfl rfl dL_law_132 ?_
        refine g_iconst X (pc := 133) (v := 3) dL_law_133 (by decide) ?_
        refine g_iadd X (pc := 134) dL_law_134 ?_
        obtain ⟨v5, ev5, h⟩ := bd h
        refine g_sld X (pc := 135) hX ev5 dL_law_135 ?_
        refine g_aload_n X (pc := 136) 0 rfl rfl dL_law_136 ?_
        refine g_iload_n X (pc := 137) 3 rfl rfl dL_law_137 ?_
        refine g_iconst X (pc := 138) (v := 4) dL_law_138 (by decide) ?_
        refine g_iadd X (pc := 139) dL_law_139 ?_
        obtain ⟨v6, ev6, h⟩ := bd h
        refine g_sld X (pc := 140) hX ev6 dL_law_140 ?_
        refine g_aload_n X (pc := 141) 0 rfl rfl dL_law_141 ?_
        refine g_iload_n X (pc := 142) 3 rfl rfl dL_law_142 ?_
        refine g_iconst X (pc := 143) (v := 5) dL_law_143 (by decide) ?_
        refine g_iadd X (pc := 144) dL_law_144 ?_
        obtain ⟨v7, ev7, h⟩ := bd h
        refine g_sld X (pc := 145) hX ev7 dL_law_145 ?_
        obtain ⟨q8, eq8, h⟩ := bd h
        obtain ⟨v10, M9, eM9, h⟩ := b2d h
        refine g_callV X (pc := 146) (M' := M9) (ro := some (pI v10)) (c := 11) rfl (by decide) (as := [pI v3, pI v4, pI v5, pI v6, pI v7]) (as' := [pI v7, pI v6, pI v5, pI v4, pI v3]) (st := []) eq8 (ctX11_feed _ _ _ _ _ _ fu q8 v3 v4 v5 v6 v7 M _ eM9) tb_345 tb_342 tb_343 tb_344 tb_1 ⟨rfl, hyX11_feed⟩ rfl rfl ⟨by decide, by decide⟩ (Nat.le_of_ble_eq_true rfl) dL_law_146 ?_
        refine g_aload_n X (pc := 149) 2 rfl rfl dL_law_149 ?_
        refine g_aload_n X (pc := 150) 0 rfl rfl dL_law_150 ?_
        refine g_iload_n X (pc := 151) 3 rfl rfl dL_law_151 ?_
        refine g_iconst X (pc := 152) (v := 1) dL_law_152 (by decide) ?_
        refine g_iadd X (pc := 153) dL_law_153 ?_
        obtain ⟨v11, ev11, h⟩ := bd h
        refine g_sld X (pc := 154) hX ev11 dL_law_154 ?_
        refine g_aload_n X (pc := 155) 0 rfl rfl dL_law_155 ?_
        refine g_iload_n X (pc := 156) 3 rfl rfl dL_law_156 ?_
        refine g_iconst X (pc := 157) (v := 2) dL_law_157 (by decide) ?_
        refine g_iadd X (pc := 158) dL_law_158 ?_
        obtain ⟨v12, ev12, h⟩ := bd h
        refine g_sld X (pc := 159) hX ev12 dL_law_159 ?_
        refine g_aload_n X (pc := 160) 0 rfl rfl dL_law_160 ?_
        refine g_iload_n X (pc := 161) 3 rfl rfl dL_law_161 ?_
        refine g_iconst X (pc := 162) (v := 3) dL_law_162 (by decide) ?_
        refine g_iadd X (pc := 163) dL_law_163 ?_
        obtain ⟨v13, ev13, h⟩ := bd h
        refine g_sld X (pc := 164) hX ev13 dL_law_164 ?_
        refine g_aload_n X (pc := 165) 0 rfl rfl dL_law_165 ?_
        refine g_iload_n X (pc := 166) 3 rfl rfl dL_law_166 ?_
        refine g_iconst X (pc := 167) (v := 4) dL_law_167 (by decide) ?_
        refine g_iadd X (pc := 168) dL_law_168 ?_
        obtain ⟨v14, ev14, h⟩ := bd h
        refine g_sld X (pc := 169) hX ev14 dL_law_169 ?_
        refine g_aload_n X (pc := 170) 0 rfl rfl dL_law_170 ?_
        refine g_iload_n X (pc := 171) 3 rfl rfl dL_law_171 ?_
        refine g_iconst X (pc := 172) (v := 5) dL_law_172 (by decide) ?_
        refine g_iadd X (pc := 173) dL_law_173 ?_
        obtain ⟨v15, ev15, h⟩ := bd h
        refine g_sld X (pc := 174) hX ev15 dL_law_174 ?_
        obtain ⟨q16, eq16, h⟩ := bd h
        obtain ⟨v18, M17, eM17, h⟩ := b2d h
        refine g_callV X (pc := 175) (M' := M17) (ro := some (pI v18)) (c := 16) rfl (by decide) (as := [pI v11, pI v12, pI v13, pI v14, pI v15]) (as' := [pI v15, pI v14, pI v13, pI v12, pI v11]) (st := [pI v10]) eq16 (ctX16_feed _ _ _ _ _ _ fu q16 v11 v12 v13 v14 v15 M9 _ eM17) tb_2007 tb_2004 tb_2005 tb_2006 tb_8 ⟨rfl, hyX16_feed⟩ rfl rfl ⟨by decide, by decide⟩ (Nat.le_of_ble_eq_true rfl) dL_law_175 ?_
        refine g_icmp_eq X (pc := 178) (tgt := 595) dL_law_178 (by decide) (fun hc => ?_) (fun hc => ?_)
        · have h := (if_pos hc).symm.trans h
          exact wL_law_L595 X hE hn fu sc Ln hX (fun b0 b1 b2 b3 M => fL_law_L18 fu sc Ln  n b0 b1 b2 b3 M) ih a0 a1 a2 a3 M17 h
        · have h := (if_neg hc).symm.trans h
          refine g_iconst X (pc := 181) (v := 0) dL_law_181 (by decide) ?_
          cases h
      have h := (if_neg hc0).symm.trans h
      by_cases hc1 : (v2 &&& (31 : Int32)) = (1 : Int32)
      · have h := (if_pos hc1).symm.trans h
        refine g_tab X (pc := 33) 1 (tgt := 183) hc1 (by decide) (by decide) dL_law_33 rfl (by decide) ?_
        refine g_aload_n X (pc := 183) 1 rfl rfl dL_law_183 ?_
        refine g_aload_n X (pc := 184) 0 rfl rfl dL_law_184 ?_
        refine g_iload_n X (pc := 185) 3 rfl rfl dL_law_185 ?_
        refine g_iconst X (pc := 186) (v := 1) dL_law_186 (by decide) ?_
        refine g_iadd X (pc := 187) dL_law_187 ?_
        obtain ⟨v19, ev19, h⟩ := bd h
        refine g_sld X (pc := 188) hX ev19 dL_law_188 ?_
        obtain ⟨q20, eq20, h⟩ := bd h
        obtain ⟨v22, M21, eM21, h⟩ := b2d h
        refine g_callV X (pc := 189) (M' := M21) (ro := some (pI v22)) (c := 11) rfl (by decide) (as := [pI v19]) (as' := [pI v19]) (st := []) eq20 (ctX11_end _ _ _ _ _ _ fu q20 v19 M _ eM21) tb_370 tb_367 tb_368 tb_369 tb_1 ⟨rfl, hyX11_end⟩ rfl rfl ⟨by decide, by decide⟩ (Nat.le_of_ble_eq_true rfl) dL_law_189 ?_
        refine g_aload_n X (pc := 192) 2 rfl rfl dL_law_192 ?_
        refine g_aload_n X (pc := 193) 0 rfl rfl dL_law_193 ?_
        refine g_iload_n X (pc := 194) 3 rfl rfl dL_law_194 ?_
        refine g_iconst X (pc := 195) (v := 1) dL_law_195 (by decide) ?_
        refine g_iadd X (pc := 196) dL_law_196 ?_
        obtain ⟨v23, ev23, h⟩ := bd h
        refine g_sld X (pc := 197) hX ev23 dL_law_197 ?_
        obtain ⟨q24, eq24, h⟩ := bd h
        obtain ⟨v26, M25, eM25, h⟩ := b2d h
        refine g_callV X (pc := 198) (M' := M25) (ro := some (pI v26)) (c := 16) rfl (by decide) (as := [pI v23]) (as' := [pI v23]) (st := [pI v22]) eq24 (ctX16_end _ _ _ _ _ _ fu q24 v23 M21 _ eM25) tb_2015 tb_2012 tb_2013 tb_2014 tb_8 ⟨rfl, hyX16_end⟩ rfl rfl ⟨by decide, by decide⟩ (Nat.le_of_ble_eq_true rfl) dL_law_198 ?_
        refine g_icmp_eq X (pc := 201) (tgt := 595) dL_law_201 (by decide) (fun hc => ?_) (fun hc => ?_)
        · have h := (if_pos hc).symm.trans h
          exact wL_law_L595 X hE hn fu sc Ln hX (fun b0 b1 b2 b3 M => fL_law_L18 fu sc Ln  n b0 b1 b2 b3 M) ih a0 a1 a2 a3 M25 h
        · have h := (if_neg hc).symm.trans h
          refine g_iconst X (pc := 204) (v := 0) dL_law_204 (by decide) ?_
          cases h
      have h := (if_neg hc1).symm.trans h
      by_cases hc2 : (v2 &&& (31 : Int32)) = (2 : Int32)
      · have h := (if_pos hc2).symm.trans h
        refine g_tab X (pc := 33) 2 (tgt := 206) hc2 (by decide) (by decide) dL_law_33 rfl (by decide) ?_
        refine g_aload_n X (pc := 206) 1 rfl rfl dL_law_206 ?_
        obtain ⟨q27, eq27, h⟩ := bd h
        obtain ⟨v29, M28, eM28, h⟩ := b2d h
        refine g_callV X (pc := 207) (M' := M28) (ro := some (pI v29)) (c := 11) rfl (by decide) (as := []) (as' := []) (st := []) eq27 (ctX11_install _ _ _ _ _ _ fu q27  M _ eM28) tb_374 tb_371 tb_372 tb_373 tb_1 ⟨rfl, hyX11_install⟩ rfl rfl ⟨by decide, by decide⟩ (Nat.le_of_ble_eq_true rfl) dL_law_207 ?_
        refine g_aload_n X (pc := 210) 2 rfl rfl dL_law_210 ?_
        obtain ⟨q30, eq30, h⟩ := bd h
        obtain ⟨v32, M31, eM31, h⟩ := b2d h
        refine g_callV X (pc := 211) (M' := M31) (ro := some (pI v32)) (c := 16) rfl (by decide) (as := []) (as' := []) (st := [pI v29]) eq30 (ctX16_install _ _ _ _ _ _ fu q30  M28 _ eM31) tb_2019 tb_2016 tb_2017 tb_2018 tb_8 ⟨rfl, hyX16_install⟩ rfl rfl ⟨by decide, by decide⟩ (Nat.le_of_ble_eq_true rfl) dL_law_211 ?_
        refine g_icmp_eq X (pc := 214) (tgt := 595) dL_law_214 (by decide) (fun hc => ?_) (fun hc => ?_)
        · have h := (if_pos hc).symm.trans h
          exact wL_law_L595 X hE hn fu sc Ln hX (fun b0 b1 b2 b3 M => fL_law_L18 fu sc Ln  n b0 b1 b2 b3 M) ih a0 a1 a2 a3 M31 h
        · have h := (if_neg hc).symm.trans h
          refine g_iconst X (pc := 217) (v := 0) dL_law_217 (by decide) ?_
          cases h
      have h := (if_neg hc2).symm.trans h
      by_cases hc3 : (v2 &&& (31 : Int32)) = (3 : Int32)
      · have h := (if_pos hc3).symm.trans h
        refine g_tab X (pc := 33) 3 (tgt := 219) hc3 (by decide) (by decide) dL_law_33 rfl (by decide) ?_
        refine g_aload_n X (pc := 219) 1 rfl rfl dL_law_219 ?_
        refine g_aload_n X (pc := 220) 0 rfl rfl dL_law_220 ?_
        refine g_iload_n X (pc := 221) 3 rfl rfl dL_law_221 ?_
        refine g_iconst X (pc := 222) (v := 1) dL_law_222 (by decide) ?_
        refine g_iadd X (pc := 223) dL_law_223 ?_
        obtain ⟨v33, ev33, h⟩ := bd h
        refine g_sld X (pc := 224) hX ev33 dL_law_224 ?_
        refine g_aload_n X (pc := 225) 0 rfl rfl dL_law_225 ?_
        refine g_iload_n X (pc := 226) 3 rfl rfl dL_law_226 ?_
        refine g_iconst X (pc := 227) (v := 2) dL_law_227 (by decide) ?_
        refine g_iadd X (pc := 228) dL_law_228 ?_
        obtain ⟨v34, ev34, h⟩ := bd h
        refine g_sld X (pc := 229) hX ev34 dL_law_229 ?_
        refine g_aload_n X (pc := 230) 0 rfl rfl dL_law_230 ?_
        refine g_iload_n X (pc := 231) 3 rfl rfl dL_law_231 ?_
        refine g_iconst X (pc := 232) (v := 3) dL_law_232 (by decide) ?_
        refine g_iadd X (pc := 233) dL_law_233 ?_
        obtain ⟨v35, ev35, h⟩ := bd h
        refine g_sld X (pc := 234) hX ev35 dL_law_234 ?_
        refine g_aload_n X (pc := 235) 0 rfl rfl dL_law_235 ?_
        refine g_iload_n X (pc := 236) 3 rfl rfl dL_law_236 ?_
        refine g_iconst X (pc := 237) (v := 4) dL_law_237 (by decide) ?_
        refine g_iadd X (pc := 238) dL_law_238 ?_
        obtain ⟨v36, ev36, h⟩ := bd h
        refine g_sld X (pc := 239) hX ev36 dL_law_239 ?_
        refine g_aload_n X (pc := 240) 0 rfl rfl dL_law_240 ?_
        refine g_iload_n X (pc := 241) 3 rfl rfl dL_law_241 ?_
        refine g_iconst X (pc := 242) (v := 5) dL_law_242 (by decide) ?_
        refine g_iadd X (pc := 243) dL_law_243 ?_
        obtain ⟨v37, ev37, h⟩ := bd h
        refine g_sld X (pc := 244) hX ev37 dL_law_244 ?_
        obtain ⟨q38, eq38, h⟩ := bd h
        obtain ⟨v40, M39, eM39, h⟩ := b2d h
        refine g_callV X (pc := 245) (M' := M39) (ro := some (pI v40)) (c := 11) rfl (by decide) (as := [pI v33, pI v34, pI v35, pI v36, pI v37]) (as' := [pI v37, pI v36, pI v35, pI v34, pI v33]) (st := []) eq38 (ctX11_boot _ _ _ _ _ _ fu q38 v33 v34 v35 v36 v37 M _ eM39) tb_384 tb_381 tb_382 tb_383 tb_1 ⟨rfl, hyX11_boot⟩ rfl rfl ⟨by decide, by decide⟩ (Nat.le_of_ble_eq_true rfl) dL_law_245 ?_
        refine g_aload_n X (pc := 248) 2 rfl rfl dL_law_248 ?_
        refine g_aload_n X (pc := 249) 0 rfl rfl dL_law_249 ?_
        refine g_iload_n X (pc := 250) 3 rfl rfl dL_law_250 ?_
        refine g_iconst X (pc := 251) (v := 1) dL_law_251 (by decide) ?_
        refine g_iadd X (pc := 252) dL_law_252 ?_
        obtain ⟨v41, ev41, h⟩ := bd h
        refine g_sld X (pc := 253) hX ev41 dL_law_253 ?_
        refine g_aload_n X (pc := 254) 0 rfl rfl dL_law_254 ?_
        refine g_iload_n X (pc := 255) 3 rfl rfl dL_law_255 ?_
        refine g_iconst X (pc := 256) (v := 2) dL_law_256 (by decide) ?_
        refine g_iadd X (pc := 257) dL_law_257 ?_
        obtain ⟨v42, ev42, h⟩ := bd h
        refine g_sld X (pc := 258) hX ev42 dL_law_258 ?_
        refine g_aload_n X (pc := 259) 0 rfl rfl dL_law_259 ?_
        refine g_iload_n X (pc := 260) 3 rfl rfl dL_law_260 ?_
        refine g_iconst X (pc := 261) (v := 3) dL_law_261 (by decide) ?_
        refine g_iadd X (pc := 262) dL_law_262 ?_
        obtain ⟨v43, ev43, h⟩ := bd h
        refine g_sld X (pc := 263) hX ev43 dL_law_263 ?_
        refine g_aload_n X (pc := 264) 0 rfl rfl dL_law_264 ?_
        refine g_iload_n X (pc := 265) 3 rfl rfl dL_law_265 ?_
        refine g_iconst X (pc := 266) (v := 4) dL_law_266 (by decide) ?_
        refine g_iadd X (pc := 267) dL_law_267 ?_
        obtain ⟨v44, ev44, h⟩ := bd h
        refine g_sld X (pc := 268) hX ev44 dL_law_268 ?_
        refine g_aload_n X (pc := 269) 0 rfl rfl dL_law_269 ?_
        refine g_iload_n X (pc := 270) 3 rfl rfl dL_law_270 ?_
        refine g_iconst X (pc := 271) (v := 5) dL_law_271 (by decide) ?_
        refine g_iadd X (pc := 272) dL_law_272 ?_
        obtain ⟨v45, ev45, h⟩ := bd h
        refine g_sld X (pc := 273) hX ev45 dL_law_273 ?_
        obtain ⟨q46, eq46, h⟩ := bd h
        obtain ⟨v48, M47, eM47, h⟩ := b2d h
        refine g_callV X (pc := 274) (M' := M47) (ro := some (pI v48)) (c := 16) rfl (by decide) (as := [pI v41, pI v42, pI v43, pI v44, pI v45]) (as' := [pI v45, pI v44, pI v43, pI v42, pI v41]) (st := [pI v40]) eq46 (ctX16_boot _ _ _ _ _ _ fu q46 v41 v42 v43 v44 v45 M39 _ eM47) tb_2023 tb_2020 tb_2021 tb_2022 tb_8 ⟨rfl, hyX16_boot⟩ rfl rfl ⟨by decide, by decide⟩ (Nat.le_of_ble_eq_true rfl) dL_law_274 ?_
        refine g_icmp_eq X (pc := 277) (tgt := 595) dL_law_277 (by decide) (fun hc => ?_) (fun hc => ?_)
        · have h := (if_pos hc).symm.trans h
          exact wL_law_L595 X hE hn fu sc Ln hX (fun b0 b1 b2 b3 M => fL_law_L18 fu sc Ln  n b0 b1 b2 b3 M) ih a0 a1 a2 a3 M47 h
        · have h := (if_neg hc).symm.trans h
          refine g_iconst X (pc := 280) (v := 0) dL_law_280 (by decide) ?_
          cases h
      have h := (if_neg hc3).symm.trans h
      by_cases hc4 : (v2 &&& (31 : Int32)) = (4 : Int32)
      · have h := (if_pos hc4).symm.trans h
        refine g_tab X (pc := 33) 4 (tgt := 282) hc4 (by decide) (by decide) dL_law_33 rfl (by decide) ?_
        refine g_aload_n X (pc := 282) 1 rfl rfl dL_law_282 ?_
        refine g_aload_n X (pc := 283) 0 rfl rfl dL_law_283 ?_
        refine g_iload_n X (pc := 284) 3 rfl rfl dL_law_284 ?_
        refine g_iconst X (pc := 285) (v := 1) dL_law_285 (by decide) ?_
        refine g_iadd X (pc := 286) dL_law_286 ?_
        obtain ⟨v49, ev49, h⟩ := bd h
        refine g_sld X (pc := 287) hX ev49 dL_law_287 ?_
        obtain ⟨q50, eq50, h⟩ := bd h
        obtain ⟨v52, M51, eM51, h⟩ := b2d h
        refine g_callV X (pc := 288) (M' := M51) (ro := some (pI v52)) (c := 11) rfl (by decide) (as := [pI v49]) (as' := [pI v49]) (st := []) eq50 (ctX11_arrive _ _ _ _ _ _ fu q50 v49 M _ eM51) tb_457 tb_454 tb_455 tb_456 tb_1 ⟨rfl, hyX11_arrive⟩ rfl rfl ⟨by decide, by decide⟩ (Nat.le_of_ble_eq_true rfl) dL_law_288 ?_
        refine g_aload_n X (pc := 291) 2 rfl rfl dL_law_291 ?_
        refine g_aload_n X (pc := 292) 0 rfl rfl dL_law_292 ?_
        refine g_iload_n X (pc := 293) 3 rfl rfl dL_law_293 ?_
        refine g_iconst X (pc := 294) (v := 1) dL_law_294 (by decide) ?_
        refine g_iadd X (pc := 295) dL_law_295 ?_
        obtain ⟨v53, ev53, h⟩ := bd h
        refine g_sld X (pc := 296) hX ev53 dL_law_296 ?_
        obtain ⟨q54, eq54, h⟩ := bd h
        obtain ⟨v56, M55, eM55, h⟩ := b2d h
        refine g_callV X (pc := 297) (M' := M55) (ro := some (pI v56)) (c := 16) rfl (by decide) (as := [pI v53]) (as' := [pI v53]) (st := [pI v52]) eq54 (ctX16_arrive _ _ _ _ _ _ fu q54 v53 M51 _ eM55) tb_2043 tb_2040 tb_2041 tb_2042 tb_8 ⟨rfl, hyX16_arrive⟩ rfl rfl ⟨by decide, by decide⟩ (Nat.le_of_ble_eq_true rfl) dL_law_297 ?_
        refine g_icmp_eq X (pc := 300) (tgt := 595) dL_law_300 (by decide) (fun hc => ?_) (fun hc => ?_)
        · have h := (if_pos hc).symm.trans h
          exact wL_law_L595 X hE hn fu sc Ln hX (fun b0 b1 b2 b3 M => fL_law_L18 fu sc Ln  n b0 b1 b2 b3 M) ih a0 a1 a2 a3 M55 h
        · have h := (if_neg hc).symm.trans h
          refine g_iconst X (pc := 303) (v := 0) dL_law_303 (by decide) ?_
          cases h
      have h := (if_neg hc4).symm.trans h
      by_cases hc5 : (v2 &&& (31 : Int32)) = (5 : Int32)
      · have h := (if_pos hc5).symm.trans h
        refine g_tab X (pc := 33) 5 (tgt := 305) hc5 (by decide) (by decide) dL_law_33 rfl (by decide) ?_
        refine g_aload_n X (pc := 305) 1 rfl rfl dL_law_305 ?_
        refine g_aload_n X (pc := 306) 0 rfl rfl dL_law_306 ?_
        refine g_iload_n X (pc := 307) 3 rfl rfl dL_law_307 ?_
        refine g_iconst X (pc := 308) (v := 1) dL_law_308 (by decide) ?_
        refine g_iadd X (pc := 309) dL_law_309 ?_
        obtain ⟨v57, ev57, h⟩ := bd h
        refine g_sld X (pc := 310) hX ev57 dL_law_310 ?_
        obtain ⟨q58, eq58, h⟩ := bd h
        obtain ⟨v60, M59, eM59, h⟩ := b2d h
        refine g_callV X (pc := 311) (M' := M59) (ro := some (pI v60)) (c := 11) rfl (by decide) (as := [pI v57]) (as' := [pI v57]) (st := []) eq58 (ctX11_pass _ _ _ _ _ _ fu q58 v57 M _ eM59) tb_1483 tb_1480 tb_1481 tb_1482 tb_1 ⟨rfl, hyX11_pass⟩ rfl rfl ⟨by decide, by decide⟩ (Nat.le_of_ble_eq_true rfl) dL_law_311 ?_
        refine g_aload_n X (pc := 314) 2 rfl rfl dL_law_314 ?_
        refine g_aload_n X (pc := 315) 0 rfl rfl dL_law_315 ?_
        refine g_iload_n X (pc := 316) 3 rfl rfl dL_law_316 ?_
        refine g_iconst X (pc := 317) (v := 1) dL_law_317 (by decide) ?_
        refine g_iadd X (pc := 318) dL_law_318 ?_
        obtain ⟨v61, ev61, h⟩ := bd h
        refine g_sld X (pc := 319) hX ev61 dL_law_319 ?_
        obtain ⟨q62, eq62, h⟩ := bd h
        obtain ⟨v64, M63, eM63, h⟩ := b2d h
        refine g_callV X (pc := 320) (M' := M63) (ro := some (pI v64)) (c := 16) rfl (by decide) (as := [pI v61]) (as' := [pI v61]) (st := [pI v60]) eq62 (ctX16_pass _ _ _ _ _ _ fu q62 v61 M59 _ eM63) tb_2491 tb_2488 tb_2489 tb_2490 tb_8 ⟨rfl, hyX16_pass⟩ rfl rfl ⟨by decide, by decide⟩ (Nat.le_of_ble_eq_true rfl) dL_law_320 ?_
        refine g_icmp_eq X (pc := 323) (tgt := 595) dL_law_323 (by decide) (fun hc => ?_) (fun hc => ?_)
        · have h := (if_pos hc).symm.trans h
          exact wL_law_L595 X hE hn fu sc Ln hX (fun b0 b1 b2 b3 M => fL_law_L18 fu sc Ln  n b0 b1 b2 b3 M) ih a0 a1 a2 a3 M63 h
        · have h := (if_neg hc).symm.trans h
          refine g_iconst X (pc := 326) (v := 0) dL_law_326 (by decide) ?_
          cases h
      have h := (if_neg hc5).symm.trans h
      by_cases hc6 : (v2 &&& (31 : Int32)) = (6 : Int32)
      · have h := (if_pos hc6).symm.trans h
        refine g_tab X (pc := 33) 6 (tgt := 328) hc6 (by decide) (by decide) dL_law_33 rfl (by decide) ?_
        refine g_aload_n X (pc := 328) 1 rfl rfl dL_law_328 ?_
        obtain ⟨q65, eq65, h⟩ := bd h
        obtain ⟨v67, M66, eM66, h⟩ := b2d h
        refine g_callV X (pc := 329) (M' := M66) (ro := some (pI v67)) (c := 11) rfl (by decide) (as := []) (as' := []) (st := []) eq65 (ctX11_now _ _ _ _ _ _ fu q65  M _ eM66) tb_1487 tb_1484 tb_1485 tb_1486 tb_1 ⟨rfl, hyX11_now⟩ rfl rfl ⟨by decide, by decide⟩ (Nat.le_of_ble_eq_true rfl) dL_law_329 ?_
        refine g_aload_n X (pc := 332) 2 rfl rfl dL_law_332 ?_
        obtain ⟨q68, eq68, h⟩ := bd h
        obtain ⟨v70, M69, eM69, h⟩ := b2d h
        refine g_callV X (pc := 333) (M' := M69) (ro := some (pI v70)) (c := 16) rfl (by decide) (as := []) (as' := []) (st := [pI v67]) eq68 (ctX16_now _ _ _ _ _ _ fu q68  M66 _ eM69) tb_2495 tb_2492 tb_2493 tb_2494 tb_8 ⟨rfl, hyX16_now⟩ rfl rfl ⟨by decide, by decide⟩ (Nat.le_of_ble_eq_true rfl) dL_law_333 ?_
        refine g_icmp_eq X (pc := 336) (tgt := 595) dL_law_336 (by decide) (fun hc => ?_) (fun hc => ?_)
        · have h := (if_pos hc).symm.trans h
          exact wL_law_L595 X hE hn fu sc Ln hX (fun b0 b1 b2 b3 M => fL_law_L18 fu sc Ln  n b0 b1 b2 b3 M) ih a0 a1 a2 a3 M69 h
        · have h := (if_neg hc).symm.trans h
          refine g_iconst X (pc := 339) (v := 0) dL_law_339 (by decide) ?_
          cases h
      have h := (if_neg hc6).symm.trans h
      by_cases hc7 : (v2 &&& (31 : Int32)) = (7 : Int32)
      · have h := (if_pos hc7).symm.trans h
        refine g_tab X (pc := 33) 7 (tgt := 341) hc7 (by decide) (by decide) dL_law_33 rfl (by decide) ?_
        refine g_aload_n X (pc := 341) 1 rfl rfl dL_law_341 ?_
        obtain ⟨q71, eq71, h⟩ := bd h
        obtain ⟨v73, M72, eM72, h⟩ := b2d h
        refine g_callV X (pc := 342) (M' := M72) (ro := some (pI v73)) (c := 11) rfl (by decide) (as := []) (as' := []) (st := []) eq71 (ctX11_sent _ _ _ _ _ _ fu q71  M _ eM72) tb_1491 tb_1488 tb_1489 tb_1490 tb_1 ⟨rfl, hyX11_sent⟩ rfl rfl ⟨by decide, by decide⟩ (Nat.le_of_ble_eq_true rfl) dL_law_342 ?_
        refine g_aload_n X (pc := 345) 2 rfl rfl dL_law_345 ?_
        obtain ⟨q74, eq74, h⟩ := bd h
        obtain ⟨v76, M75, eM75, h⟩ := b2d h
        refine g_callV X (pc := 346) (M' := M75) (ro := some (pI v76)) (c := 16) rfl (by decide) (as := []) (as' := []) (st := [pI v73]) eq74 (ctX16_sent _ _ _ _ _ _ fu q74  M72 _ eM75) tb_2499 tb_2496 tb_2497 tb_2498 tb_8 ⟨rfl, hyX16_sent⟩ rfl rfl ⟨by decide, by decide⟩ (Nat.le_of_ble_eq_true rfl) dL_law_346 ?_
        refine g_icmp_eq X (pc := 349) (tgt := 595) dL_law_349 (by decide) (fun hc => ?_) (fun hc => ?_)
        · have h := (if_pos hc).symm.trans h
          exact wL_law_L595 X hE hn fu sc Ln hX (fun b0 b1 b2 b3 M => fL_law_L18 fu sc Ln  n b0 b1 b2 b3 M) ih a0 a1 a2 a3 M75 h
        · have h := (if_neg hc).symm.trans h
          refine g_iconst X (pc := 352) (v := 0) dL_law_352 (by decide) ?_
          cases h
      have h := (if_neg hc7).symm.trans h
      by_cases hc8 : (v2 &&& (31 : Int32)) = (8 : Int32)
      · have h := (if_pos hc8).symm.trans h
        refine g_tab X (pc := 33) 8 (tgt := 354) hc8 (by decide) (by decide) dL_law_33 rfl (by decide) ?_
        refine g_aload_n X (pc := 354) 1 rfl rfl dL_law_354 ?_
        refine g_aload_n X (pc := 355) 0 rfl rfl dL_law_355 ?_
        refine g_iload_n X (pc := 356) 3 rfl rfl dL_law_356 ?_
        refine g_iconst X (pc := 357) (v := 1) dL_law_357 (by decide) ?_
        refine g_iadd X (pc := 358) dL_law_358 ?_
        obtain ⟨v77, ev77, h⟩ := bd h
        refine g_sld X (pc := 359) hX ev77 dL_law_359 ?_
        obtain ⟨q78, eq78, h⟩ := bd h
        obtain ⟨v80, M79, eM79, h⟩ := b2d h
        refine g_callV X (pc := 360) (M' := M79) (ro := some (pI v80)) (c := 11) rfl (by decide) (as := [pI v77]) (as' := [pI v77]) (st := []) eq78 (ctX11_length _ _ _ _ _ _ fu q78 v77 M _ eM79) tb_1495 tb_1492 tb_1493 tb_1494 tb_1 ⟨rfl, hyX11_length⟩ rfl rfl ⟨by decide, by decide⟩ (Nat.le_of_ble_eq_true rfl) dL_law_360 ?_
        refine g_aload_n X (pc := 363) 2 rfl rfl dL_law_363 ?_
        refine g_aload_n X (pc := 364) 0 rfl rfl dL_law_364 ?_
        refine g_iload_n X (pc := 365) 3 rfl rfl dL_law_365 ?_
        refine g_iconst X (pc := 366) (v := 1) dL_law_366 (by decide) ?_
        refine g_iadd X (pc := 367) dL_law_367 ?_
        obtain ⟨v81, ev81, h⟩ := bd h
        refine g_sld X (pc := 368) hX ev81 dL_law_368 ?_
        obtain ⟨q82, eq82, h⟩ := bd h
        obtain ⟨v84, M83, eM83, h⟩ := b2d h
        refine g_callV X (pc := 369) (M' := M83) (ro := some (pI v84)) (c := 16) rfl (by decide) (as := [pI v81]) (as' := [pI v81]) (st := [pI v80]) eq82 (ctX16_length _ _ _ _ _ _ fu q82 v81 M79 _ eM83) tb_2503 tb_2500 tb_2501 tb_2502 tb_8 ⟨rfl, hyX16_length⟩ rfl rfl ⟨by decide, by decide⟩ (Nat.le_of_ble_eq_true rfl) dL_law_369 ?_
        refine g_icmp_eq X (pc := 372) (tgt := 595) dL_law_372 (by decide) (fun hc => ?_) (fun hc => ?_)
        · have h := (if_pos hc).symm.trans h
          exact wL_law_L595 X hE hn fu sc Ln hX (fun b0 b1 b2 b3 M => fL_law_L18 fu sc Ln  n b0 b1 b2 b3 M) ih a0 a1 a2 a3 M83 h
        · have h := (if_neg hc).symm.trans h
          refine g_iconst X (pc := 375) (v := 0) dL_law_375 (by decide) ?_
          cases h
      have h := (if_neg hc8).symm.trans h
      by_cases hc9 : (v2 &&& (31 : Int32)) = (9 : Int32)
      · have h := (if_pos hc9).symm.trans h
        refine g_tab X (pc := 33) 9 (tgt := 377) hc9 (by decide) (by decide) dL_law_33 rfl (by decide) ?_
        refine g_aload_n X (pc := 377) 1 rfl rfl dL_law_377 ?_
        refine g_aload_n X (pc := 378) 0 rfl rfl dL_law_378 ?_
        refine g_iload_n X (pc := 379) 3 rfl rfl dL_law_379 ?_
        refine g_iconst X (pc := 380) (v := 1) dL_law_380 (by decide) ?_
        refine g_iadd X (pc := 381) dL_law_381 ?_
        obtain ⟨v85, ev85, h⟩ := bd h
        refine g_sld X (pc := 382) hX ev85 dL_law_382 ?_
        refine g_aload_n X (pc := 383) 0 rfl rfl dL_law_383 ?_
        refine g_iload_n X (pc := 384) 3 rfl rfl dL_law_384 ?_
        refine g_iconst X (pc := 385) (v := 2) dL_law_385 (by decide) ?_
        refine g_iadd X (pc := 386) dL_law_386 ?_
        obtain ⟨v86, ev86, h⟩ := bd h
        refine g_sld X (pc := 387) hX ev86 dL_law_387 ?_
        obtain ⟨q87, eq87, h⟩ := bd h
        obtain ⟨v89, M88, eM88, h⟩ := b2d h
        refine g_callV X (pc := 388) (M' := M88) (ro := some (pI v89)) (c := 11) rfl (by decide) (as := [pI v85, pI v86]) (as' := [pI v86, pI v85]) (st := []) eq87 (ctX11_at _ _ _ _ _ _ fu q87 v85 v86 M _ eM88) tb_1507 tb_1504 tb_1505 tb_1506 tb_1 ⟨rfl, hyX11_at⟩ rfl rfl ⟨by decide, by decide⟩ (Nat.le_of_ble_eq_true rfl) dL_law_388 ?_
        refine g_aload_n X (pc := 391) 2 rfl rfl dL_law_391 ?_
        refine g_aload_n X (pc := 392) 0 rfl rfl dL_law_392 ?_
        refine g_iload_n X (pc := 393) 3 rfl rfl dL_law_393 ?_
        refine g_iconst X (pc := 394) (v := 1) dL_law_394 (by decide) ?_
        refine g_iadd X (pc := 395) dL_law_395 ?_
        obtain ⟨v90, ev90, h⟩ := bd h
        refine g_sld X (pc := 396) hX ev90 dL_law_396 ?_
        refine g_aload_n X (pc := 397) 0 rfl rfl dL_law_397 ?_
        refine g_iload_n X (pc := 398) 3 rfl rfl dL_law_398 ?_
        refine g_iconst X (pc := 399) (v := 2) dL_law_399 (by decide) ?_
        refine g_iadd X (pc := 400) dL_law_400 ?_
        obtain ⟨v91, ev91, h⟩ := bd h
        refine g_sld X (pc := 401) hX ev91 dL_law_401 ?_
        obtain ⟨q92, eq92, h⟩ := bd h
        obtain ⟨v94, M93, eM93, h⟩ := b2d h
        refine g_callV X (pc := 402) (M' := M93) (ro := some (pI v94)) (c := 16) rfl (by decide) (as := [pI v90, pI v91]) (as' := [pI v91, pI v90]) (st := [pI v89]) eq92 (ctX16_at _ _ _ _ _ _ fu q92 v90 v91 M88 _ eM93) tb_2511 tb_2508 tb_2509 tb_2510 tb_8 ⟨rfl, hyX16_at⟩ rfl rfl ⟨by decide, by decide⟩ (Nat.le_of_ble_eq_true rfl) dL_law_402 ?_
        refine g_icmp_eq X (pc := 405) (tgt := 595) dL_law_405 (by decide) (fun hc => ?_) (fun hc => ?_)
        · have h := (if_pos hc).symm.trans h
          exact wL_law_L595 X hE hn fu sc Ln hX (fun b0 b1 b2 b3 M => fL_law_L18 fu sc Ln  n b0 b1 b2 b3 M) ih a0 a1 a2 a3 M93 h
        · have h := (if_neg hc).symm.trans h
          refine g_iconst X (pc := 408) (v := 0) dL_law_408 (by decide) ?_
          cases h
      have h := (if_neg hc9).symm.trans h
      by_cases hc10 : (v2 &&& (31 : Int32)) = (10 : Int32)
      · have h := (if_pos hc10).symm.trans h
        refine g_tab X (pc := 33) 10 (tgt := 410) hc10 (by decide) (by decide) dL_law_33 rfl (by decide) ?_
        refine g_aload_n X (pc := 410) 1 rfl rfl dL_law_410 ?_
        refine g_aload_n X (pc := 411) 0 rfl rfl dL_law_411 ?_
        refine g_iload_n X (pc := 412) 3 rfl rfl dL_law_412 ?_
        refine g_iconst X (pc := 413) (v := 1) dL_law_413 (by decide) ?_
        refine g_iadd X (pc := 414) dL_law_414 ?_
        obtain ⟨v95, ev95, h⟩ := bd h
        refine g_sld X (pc := 415) hX ev95 dL_law_415 ?_
        obtain ⟨q96, eq96, h⟩ := bd h
        obtain ⟨v98, M97, eM97, h⟩ := b2d h
        refine g_callV X (pc := 416) (M' := M97) (ro := some (pI v98)) (c := 11) rfl (by decide) (as := [pI v95]) (as' := [pI v95]) (st := []) eq96 (ctX11_time _ _ _ _ _ _ fu q96 v95 M _ eM97) tb_1511 tb_1508 tb_1509 tb_1510 tb_1 ⟨rfl, hyX11_time⟩ rfl rfl ⟨by decide, by decide⟩ (Nat.le_of_ble_eq_true rfl) dL_law_416 ?_
        refine g_aload_n X (pc := 419) 2 rfl rfl dL_law_419 ?_
        refine g_aload_n X (pc := 420) 0 rfl rfl dL_law_420 ?_
        refine g_iload_n X (pc := 421) 3 rfl rfl dL_law_421 ?_
        refine g_iconst X (pc := 422) (v := 1) dL_law_422 (by decide) ?_
        refine g_iadd X (pc := 423) dL_law_423 ?_
        obtain ⟨v99, ev99, h⟩ := bd h
        refine g_sld X (pc := 424) hX ev99 dL_law_424 ?_
        obtain ⟨q100, eq100, h⟩ := bd h
        obtain ⟨v102, M101, eM101, h⟩ := b2d h
        refine g_callV X (pc := 425) (M' := M101) (ro := some (pI v102)) (c := 16) rfl (by decide) (as := [pI v99]) (as' := [pI v99]) (st := [pI v98]) eq100 (ctX16_time _ _ _ _ _ _ fu q100 v99 M97 _ eM101) tb_2515 tb_2512 tb_2513 tb_2514 tb_8 ⟨rfl, hyX16_time⟩ rfl rfl ⟨by decide, by decide⟩ (Nat.le_of_ble_eq_true rfl) dL_law_425 ?_
        refine g_icmp_eq X (pc := 428) (tgt := 595) dL_law_428 (by decide) (fun hc => ?_) (fun hc => ?_)
        · have h := (if_pos hc).symm.trans h
          exact wL_law_L595 X hE hn fu sc Ln hX (fun b0 b1 b2 b3 M => fL_law_L18 fu sc Ln  n b0 b1 b2 b3 M) ih a0 a1 a2 a3 M101 h
        · have h := (if_neg hc).symm.trans h
          refine g_iconst X (pc := 431) (v := 0) dL_law_431 (by decide) ?_
          cases h
      have h := (if_neg hc10).symm.trans h
      by_cases hc11 : (v2 &&& (31 : Int32)) = (11 : Int32)
      · have h := (if_pos hc11).symm.trans h
        refine g_tab X (pc := 33) 11 (tgt := 433) hc11 (by decide) (by decide) dL_law_33 rfl (by decide) ?_
        refine g_aload_n X (pc := 433) 1 rfl rfl dL_law_433 ?_
        refine g_aload_n X (pc := 434) 0 rfl rfl dL_law_434 ?_
        refine g_iload_n X (pc := 435) 3 rfl rfl dL_law_435 ?_
        refine g_iconst X (pc := 436) (v := 1) dL_law_436 (by decide) ?_
        refine g_iadd X (pc := 437) dL_law_437 ?_
        obtain ⟨v103, ev103, h⟩ := bd h
        refine g_sld X (pc := 438) hX ev103 dL_law_438 ?_
        obtain ⟨q104, eq104, h⟩ := bd h
        obtain ⟨v106, M105, eM105, h⟩ := b2d h
        refine g_callV X (pc := 439) (M' := M105) (ro := some (pI v106)) (c := 11) rfl (by decide) (as := [pI v103]) (as' := [pI v103]) (st := []) eq104 (ctX11_state _ _ _ _ _ _ fu q104 v103 M _ eM105) tb_1515 tb_1512 tb_1513 tb_1514 tb_1 ⟨rfl, hyX11_state⟩ rfl rfl ⟨by decide, by decide⟩ (Nat.le_of_ble_eq_true rfl) dL_law_439 ?_
        refine g_aload_n X (pc := 442) 2 rfl rfl dL_law_442 ?_
        refine g_aload_n X (pc := 443) 0 rfl rfl dL_law_443 ?_
        refine g_iload_n X (pc := 444) 3 rfl rfl dL_law_444 ?_
        refine g_iconst X (pc := 445) (v := 1) dL_law_445 (by decide) ?_
        refine g_iadd X (pc := 446) dL_law_446 ?_
        obtain ⟨v107, ev107, h⟩ := bd h
        refine g_sld X (pc := 447) hX ev107 dL_law_447 ?_
        obtain ⟨q108, eq108, h⟩ := bd h
        obtain ⟨v110, M109, eM109, h⟩ := b2d h
        refine g_callV X (pc := 448) (M' := M109) (ro := some (pI v110)) (c := 16) rfl (by decide) (as := [pI v107]) (as' := [pI v107]) (st := [pI v106]) eq108 (ctX16_state _ _ _ _ _ _ fu q108 v107 M105 _ eM109) tb_2519 tb_2516 tb_2517 tb_2518 tb_8 ⟨rfl, hyX16_state⟩ rfl rfl ⟨by decide, by decide⟩ (Nat.le_of_ble_eq_true rfl) dL_law_448 ?_
        refine g_icmp_eq X (pc := 451) (tgt := 595) dL_law_451 (by decide) (fun hc => ?_) (fun hc => ?_)
        · have h := (if_pos hc).symm.trans h
          exact wL_law_L595 X hE hn fu sc Ln hX (fun b0 b1 b2 b3 M => fL_law_L18 fu sc Ln  n b0 b1 b2 b3 M) ih a0 a1 a2 a3 M109 h
        · have h := (if_neg hc).symm.trans h
          refine g_iconst X (pc := 454) (v := 0) dL_law_454 (by decide) ?_
          cases h
      have h := (if_neg hc11).symm.trans h
      by_cases hc12 : (v2 &&& (31 : Int32)) = (12 : Int32)
      · have h := (if_pos hc12).symm.trans h
        refine g_tab X (pc := 33) 12 (tgt := 456) hc12 (by decide) (by decide) dL_law_33 rfl (by decide) ?_
        refine g_aload_n X (pc := 456) 1 rfl rfl dL_law_456 ?_
        refine g_aload_n X (pc := 457) 0 rfl rfl dL_law_457 ?_
        refine g_iload_n X (pc := 458) 3 rfl rfl dL_law_458 ?_
        refine g_iconst X (pc := 459) (v := 1) dL_law_459 (by decide) ?_
        refine g_iadd X (pc := 460) dL_law_460 ?_
        obtain ⟨v111, ev111, h⟩ := bd h
        refine g_sld X (pc := 461) hX ev111 dL_law_461 ?_
        refine g_aload_n X (pc := 462) 0 rfl rfl dL_law_462 ?_
        refine g_iload_n X (pc := 463) 3 rfl rfl dL_law_463 ?_
        refine g_iconst X (pc := 464) (v := 2) dL_law_464 (by decide) ?_
        refine g_iadd X (pc := 465) dL_law_465 ?_
        obtain ⟨v112, ev112, h⟩ := bd h
        refine g_sld X (pc := 466) hX ev112 dL_law_466 ?_
        obtain ⟨q113, eq113, h⟩ := bd h
        obtain ⟨v115, M114, eM114, h⟩ := b2d h
        refine g_callV X (pc := 467) (M' := M114) (ro := some (pL v115)) (c := 11) rfl (by decide) (as := [pI v111, pI v112]) (as' := [pI v112, pI v111]) (st := []) eq113 (ctX11_look _ _ _ _ _ _ fu q113 v111 v112 M _ eM114) tb_1524 tb_1521 tb_1522 tb_1523 tb_1 ⟨rfl, hyX11_look⟩ rfl rfl ⟨by decide, by decide⟩ (Nat.le_of_ble_eq_true rfl) dL_law_467 ?_
        refine g_aload_n X (pc := 470) 2 rfl rfl dL_law_470 ?_
        refine g_aload_n X (pc := 471) 0 rfl rfl dL_law_471 ?_
        refine g_iload_n X (pc := 472) 3 rfl rfl dL_law_472 ?_
        refine g_iconst X (pc := 473) (v := 1) dL_law_473 (by decide) ?_
        refine g_iadd X (pc := 474) dL_law_474 ?_
        obtain ⟨v116, ev116, h⟩ := bd h
        refine g_sld X (pc := 475) hX ev116 dL_law_475 ?_
        refine g_aload_n X (pc := 476) 0 rfl rfl dL_law_476 ?_
        refine g_iload_n X (pc := 477) 3 rfl rfl dL_law_477 ?_
        refine g_iconst X (pc := 478) (v := 2) dL_law_478 (by decide) ?_
        refine g_iadd X (pc := 479) dL_law_479 ?_
        obtain ⟨v117, ev117, h⟩ := bd h
        refine g_sld X (pc := 480) hX ev117 dL_law_480 ?_
        obtain ⟨q118, eq118, h⟩ := bd h
        obtain ⟨v120, M119, eM119, h⟩ := b2d h
        refine g_callV X (pc := 481) (M' := M119) (ro := some (pL v120)) (c := 16) rfl (by decide) (as := [pI v116, pI v117]) (as' := [pI v117, pI v116]) (st := [pL v115]) eq118 (ctX16_look _ _ _ _ _ _ fu q118 v116 v117 M114 _ eM119) tb_2523 tb_2520 tb_2521 tb_2522 tb_8 ⟨rfl, hyX16_look⟩ rfl rfl ⟨by decide, by decide⟩ (Nat.le_of_ble_eq_true rfl) dL_law_481 ?_
        refine g_lcmp X (pc := 484) dL_law_484 ?_
        refine g_if_eq X (pc := 485) (tgt := 595) dL_law_485 (by decide) (fun hc => ?_) (fun hc => ?_)
        · have h := (if_pos hc).symm.trans h
          exact wL_law_L595 X hE hn fu sc Ln hX (fun b0 b1 b2 b3 M => fL_law_L18 fu sc Ln  n b0 b1 b2 b3 M) ih a0 a1 a2 a3 M119 h
        · have h := (if_neg hc).symm.trans h
          refine g_iconst X (pc := 488) (v := 0) dL_law_488 (by decide) ?_
          cases h
      have h := (if_neg hc12).symm.trans h
      by_cases hc13 : (v2 &&& (31 : Int32)) = (13 : Int32)
      · have h := (if_pos hc13).symm.trans h
        refine g_tab X (pc := 33) 13 (tgt := 490) hc13 (by decide) (by decide) dL_law_33 rfl (by decide) ?_
        refine g_aload_n X (pc := 490) 1 rfl rfl dL_law_490 ?_
        refine g_aload_n X (pc := 491) 0 rfl rfl dL_law_491 ?_
        refine g_iload_n X (pc := 492) 3 rfl rfl dL_law_492 ?_
        refine g_iconst X (pc := 493) (v := 1) dL_law_493 (by decide) ?_
        refine g_iadd X (pc := 494) dL_law_494 ?_
        obtain ⟨v121, ev121, h⟩ := bd h
        refine g_sld X (pc := 495) hX ev121 dL_law_495 ?_
        obtain ⟨q122, eq122, h⟩ := bd h
        obtain ⟨v124, M123, eM123, h⟩ := b2d h
        refine g_callV X (pc := 496) (M' := M123) (ro := some (pI v124)) (c := 11) rfl (by decide) (as := [pI v121]) (as' := [pI v121]) (st := []) eq122 (ctX11_cached _ _ _ _ _ _ fu q122 v121 M _ eM123) tb_1535 tb_1532 tb_1533 tb_1534 tb_1 ⟨rfl, hyX11_cached⟩ rfl rfl ⟨by decide, by decide⟩ (Nat.le_of_ble_eq_true rfl) dL_law_496 ?_
        refine g_aload_n X (pc := 499) 2 rfl rfl dL_law_499 ?_
        refine g_aload_n X (pc := 500) 0 rfl rfl dL_law_500 ?_
        refine g_iload_n X (pc := 501) 3 rfl rfl dL_law_501 ?_
        refine g_iconst X (pc := 502) (v := 1) dL_law_502 (by decide) ?_
        refine g_iadd X (pc := 503) dL_law_503 ?_
        obtain ⟨v125, ev125, h⟩ := bd h
        refine g_sld X (pc := 504) hX ev125 dL_law_504 ?_
        obtain ⟨q126, eq126, h⟩ := bd h
        obtain ⟨v128, M127, eM127, h⟩ := b2d h
        refine g_callV X (pc := 505) (M' := M127) (ro := some (pI v128)) (c := 16) rfl (by decide) (as := [pI v125]) (as' := [pI v125]) (st := [pI v124]) eq126 (ctX16_cached _ _ _ _ _ _ fu q126 v125 M123 _ eM127) tb_2530 tb_2527 tb_2528 tb_2529 tb_8 ⟨rfl, hyX16_cached⟩ rfl rfl ⟨by decide, by decide⟩ (Nat.le_of_ble_eq_true rfl) dL_law_505 ?_
        refine g_icmp_eq X (pc := 508) (tgt := 595) dL_law_508 (by decide) (fun hc => ?_) (fun hc => ?_)
        · have h := (if_pos hc).symm.trans h
          exact wL_law_L595 X hE hn fu sc Ln hX (fun b0 b1 b2 b3 M => fL_law_L18 fu sc Ln  n b0 b1 b2 b3 M) ih a0 a1 a2 a3 M127 h
        · have h := (if_neg hc).symm.trans h
          refine g_iconst X (pc := 511) (v := 0) dL_law_511 (by decide) ?_
          cases h
      have h := (if_neg hc13).symm.trans h
      by_cases hc14 : (v2 &&& (31 : Int32)) = (14 : Int32)
      · have h := (if_pos hc14).symm.trans h
        refine g_tab X (pc := 33) 14 (tgt := 513) hc14 (by decide) (by decide) dL_law_33 rfl (by decide) ?_
        refine g_aload_n X (pc := 513) 1 rfl rfl dL_law_513 ?_
        obtain ⟨q129, eq129, h⟩ := bd h
        obtain ⟨v131, M130, eM130, h⟩ := b2d h
        refine g_callV X (pc := 514) (M' := M130) (ro := some (pI v131)) (c := 11) rfl (by decide) (as := []) (as' := []) (st := []) eq129 (ctX11_waiting _ _ _ _ _ _ fu q129  M _ eM130) tb_1540 tb_1537 tb_1538 tb_1539 tb_1 ⟨rfl, hyX11_waiting⟩ rfl rfl ⟨by decide, by decide⟩ (Nat.le_of_ble_eq_true rfl) dL_law_514 ?_
        refine g_aload_n X (pc := 517) 2 rfl rfl dL_law_517 ?_
        obtain ⟨q132, eq132, h⟩ := bd h
        obtain ⟨v134, M133, eM133, h⟩ := b2d h
        refine g_callV X (pc := 518) (M' := M133) (ro := some (pI v134)) (c := 16) rfl (by decide) (as := []) (as' := []) (st := [pI v131]) eq132 (ctX16_waiting _ _ _ _ _ _ fu q132  M130 _ eM133) tb_2534 tb_2531 tb_2532 tb_2533 tb_8 ⟨rfl, hyX16_waiting⟩ rfl rfl ⟨by decide, by decide⟩ (Nat.le_of_ble_eq_true rfl) dL_law_518 ?_
        refine g_icmp_eq X (pc := 521) (tgt := 595) dL_law_521 (by decide) (fun hc => ?_) (fun hc => ?_)
        · have h := (if_pos hc).symm.trans h
          exact wL_law_L595 X hE hn fu sc Ln hX (fun b0 b1 b2 b3 M => fL_law_L18 fu sc Ln  n b0 b1 b2 b3 M) ih a0 a1 a2 a3 M133 h
        · have h := (if_neg hc).symm.trans h
          refine g_iconst X (pc := 524) (v := 0) dL_law_524 (by decide) ?_
          cases h
      have h := (if_neg hc14).symm.trans h
      by_cases hc15 : (v2 &&& (31 : Int32)) = (15 : Int32)
      · have h := (if_pos hc15).symm.trans h
        refine g_tab X (pc := 33) 15 (tgt := 526) hc15 (by decide) (by decide) dL_law_33 rfl (by decide) ?_
        refine g_aload_n X (pc := 526) 1 rfl rfl dL_law_526 ?_
        refine g_aload_n X (pc := 527) 0 rfl rfl dL_law_527 ?_
        refine g_iload_n X (pc := 528) 3 rfl rfl dL_law_528 ?_
        refine g_iconst X (pc := 529) (v := 1) dL_law_529 (by decide) ?_
        refine g_iadd X (pc := 530) dL_law_530 ?_
        obtain ⟨v135, ev135, h⟩ := bd h
        refine g_sld X (pc := 531) hX ev135 dL_law_531 ?_
        obtain ⟨q136, eq136, h⟩ := bd h
        obtain ⟨v138, M137, eM137, h⟩ := b2d h
        refine g_callV X (pc := 532) (M' := M137) (ro := some (pI v138)) (c := 11) rfl (by decide) (as := [pI v135]) (as' := [pI v135]) (st := []) eq136 (ctX11_counted _ _ _ _ _ _ fu q136 v135 M _ eM137) tb_1544 tb_1541 tb_1542 tb_1543 tb_1 ⟨rfl, hyX11_counted⟩ rfl rfl ⟨by decide, by decide⟩ (Nat.le_of_ble_eq_true rfl) dL_law_532 ?_
        refine g_aload_n X (pc := 535) 2 rfl rfl dL_law_535 ?_
        refine g_aload_n X (pc := 536) 0 rfl rfl dL_law_536 ?_
        refine g_iload_n X (pc := 537) 3 rfl rfl dL_law_537 ?_
        refine g_iconst X (pc := 538) (v := 1) dL_law_538 (by decide) ?_
        refine g_iadd X (pc := 539) dL_law_539 ?_
        obtain ⟨v139, ev139, h⟩ := bd h
        refine g_sld X (pc := 540) hX ev139 dL_law_540 ?_
        obtain ⟨q140, eq140, h⟩ := bd h
        obtain ⟨v142, M141, eM141, h⟩ := b2d h
        refine g_callV X (pc := 541) (M' := M141) (ro := some (pI v142)) (c := 16) rfl (by decide) (as := [pI v139]) (as' := [pI v139]) (st := [pI v138]) eq140 (ctX16_counted _ _ _ _ _ _ fu q140 v139 M137 _ eM141) tb_2538 tb_2535 tb_2536 tb_2537 tb_8 ⟨rfl, hyX16_counted⟩ rfl rfl ⟨by decide, by decide⟩ (Nat.le_of_ble_eq_true rfl) dL_law_541 ?_
        refine g_icmp_eq X (pc := 544) (tgt := 595) dL_law_544 (by decide) (fun hc => ?_) (fun hc => ?_)
        · have h := (if_pos hc).symm.trans h
          exact wL_law_L595 X hE hn fu sc Ln hX (fun b0 b1 b2 b3 M => fL_law_L18 fu sc Ln  n b0 b1 b2 b3 M) ih a0 a1 a2 a3 M141 h
        · have h := (if_neg hc).symm.trans h
          refine g_iconst X (pc := 547) (v := 0) dL_law_547 (by decide) ?_
          cases h
      have h := (if_neg hc15).symm.trans h
      by_cases hc16 : (v2 &&& (31 : Int32)) = (16 : Int32)
      · have h := (if_pos hc16).symm.trans h
        refine g_tab X (pc := 33) 16 (tgt := 549) hc16 (by decide) (by decide) dL_law_33 rfl (by decide) ?_
        refine g_aload_n X (pc := 549) 1 rfl rfl dL_law_549 ?_
        refine g_aload_n X (pc := 550) 0 rfl rfl dL_law_550 ?_
        refine g_iload_n X (pc := 551) 3 rfl rfl dL_law_551 ?_
        refine g_iconst X (pc := 552) (v := 1) dL_law_552 (by decide) ?_
        refine g_iadd X (pc := 553) dL_law_553 ?_
        obtain ⟨v143, ev143, h⟩ := bd h
        refine g_sld X (pc := 554) hX ev143 dL_law_554 ?_
        refine g_aload_n X (pc := 555) 0 rfl rfl dL_law_555 ?_
        refine g_iload_n X (pc := 556) 3 rfl rfl dL_law_556 ?_
        refine g_iconst X (pc := 557) (v := 2) dL_law_557 (by decide) ?_
        refine g_iadd X (pc := 558) dL_law_558 ?_
        obtain ⟨v144, ev144, h⟩ := bd h
        refine g_sld X (pc := 559) hX ev144 dL_law_559 ?_
        obtain ⟨q145, eq145, h⟩ := bd h
        obtain ⟨v147, M146, eM146, h⟩ := b2d h
        refine g_callV X (pc := 560) (M' := M146) (ro := some (pI v147)) (c := 11) rfl (by decide) (as := [pI v143, pI v144]) (as' := [pI v144, pI v143]) (st := []) eq145 (ctX11_damage _ _ _ _ _ _ fu q145 v143 v144 M _ eM146) tb_1548 tb_1545 tb_1546 tb_1547 tb_1 ⟨rfl, hyX11_damage⟩ rfl rfl ⟨by decide, by decide⟩ (Nat.le_of_ble_eq_true rfl) dL_law_560 ?_
        refine g_aload_n X (pc := 563) 2 rfl rfl dL_law_563 ?_
        refine g_aload_n X (pc := 564) 0 rfl rfl dL_law_564 ?_
        refine g_iload_n X (pc := 565) 3 rfl rfl dL_law_565 ?_
        refine g_iconst X (pc := 566) (v := 1) dL_law_566 (by decide) ?_
        refine g_iadd X (pc := 567) dL_law_567 ?_
        obtain ⟨v148, ev148, h⟩ := bd h
        refine g_sld X (pc := 568) hX ev148 dL_law_568 ?_
        refine g_aload_n X (pc := 569) 0 rfl rfl dL_law_569 ?_
        refine g_iload_n X (pc := 570) 3 rfl rfl dL_law_570 ?_
        refine g_iconst X (pc := 571) (v := 2) dL_law_571 (by decide) ?_
        refine g_iadd X (pc := 572) dL_law_572 ?_
        obtain ⟨v149, ev149, h⟩ := bd h
        refine g_sld X (pc := 573) hX ev149 dL_law_573 ?_
        obtain ⟨q150, eq150, h⟩ := bd h
        obtain ⟨v152, M151, eM151, h⟩ := b2d h
        refine g_callV X (pc := 574) (M' := M151) (ro := some (pI v152)) (c := 16) rfl (by decide) (as := [pI v148, pI v149]) (as' := [pI v149, pI v148]) (st := [pI v147]) eq150 (ctX16_damage _ _ _ _ _ _ fu q150 v148 v149 M146 _ eM151) tb_2542 tb_2539 tb_2540 tb_2541 tb_8 ⟨rfl, hyX16_damage⟩ rfl rfl ⟨by decide, by decide⟩ (Nat.le_of_ble_eq_true rfl) dL_law_574 ?_
        refine g_icmp_eq X (pc := 577) (tgt := 595) dL_law_577 (by decide) (fun hc => ?_) (fun hc => ?_)
        · have h := (if_pos hc).symm.trans h
          exact wL_law_L595 X hE hn fu sc Ln hX (fun b0 b1 b2 b3 M => fL_law_L18 fu sc Ln  n b0 b1 b2 b3 M) ih a0 a1 a2 a3 M151 h
        · have h := (if_neg hc).symm.trans h
          refine g_iconst X (pc := 580) (v := 0) dL_law_580 (by decide) ?_
          cases h
      have h := (if_neg hc16).symm.trans h
      by_cases hc17 : (v2 &&& (31 : Int32)) = (17 : Int32)
      · have h := (if_pos hc17).symm.trans h
        refine g_tab X (pc := 33) 17 (tgt := 582) hc17 (by decide) (by decide) dL_law_33 rfl (by decide) ?_
        refine g_aload_n X (pc := 582) 1 rfl rfl dL_law_582 ?_
        obtain ⟨q153, eq153, h⟩ := bd h
        obtain ⟨v155, M154, eM154, h⟩ := b2d h
        refine g_callV X (pc := 583) (M' := M154) (ro := some (pI v155)) (c := 11) rfl (by decide) (as := []) (as' := []) (st := []) eq153 (ctX11_strays _ _ _ _ _ _ fu q153  M _ eM154) tb_1557 tb_1554 tb_1555 tb_1556 tb_1 ⟨rfl, hyX11_strays⟩ rfl rfl ⟨by decide, by decide⟩ (Nat.le_of_ble_eq_true rfl) dL_law_583 ?_
        refine g_aload_n X (pc := 586) 2 rfl rfl dL_law_586 ?_
        obtain ⟨q156, eq156, h⟩ := bd h
        obtain ⟨v158, M157, eM157, h⟩ := b2d h
        refine g_callV X (pc := 587) (M' := M157) (ro := some (pI v158)) (c := 16) rfl (by decide) (as := []) (as' := []) (st := [pI v155]) eq156 (ctX16_strays _ _ _ _ _ _ fu q156  M154 _ eM157) tb_2546 tb_2543 tb_2544 tb_2545 tb_8 ⟨rfl, hyX16_strays⟩ rfl rfl ⟨by decide, by decide⟩ (Nat.le_of_ble_eq_true rfl) dL_law_587 ?_
        refine g_icmp_eq X (pc := 590) (tgt := 595) dL_law_590 (by decide) (fun hc => ?_) (fun hc => ?_)
        · have h := (if_pos hc).symm.trans h
          exact wL_law_L595 X hE hn fu sc Ln hX (fun b0 b1 b2 b3 M => fL_law_L18 fu sc Ln  n b0 b1 b2 b3 M) ih a0 a1 a2 a3 M157 h
        · have h := (if_neg hc).symm.trans h
          refine g_iconst X (pc := 593) (v := 0) dL_law_593 (by decide) ?_
          cases h
      have h := (if_neg hc17).symm.trans h
      refine g_tabD X (pc := 33) 18 (tgt := 595) (by decide) ⟨⟨⟨⟨⟨⟨⟨⟨⟨⟨⟨⟨⟨⟨⟨⟨⟨⟨trivial, hc0⟩, hc1⟩, hc2⟩, hc3⟩, hc4⟩, hc5⟩, hc6⟩, hc7⟩, hc8⟩, hc9⟩, hc10⟩, hc11⟩, hc12⟩, hc13⟩, hc14⟩, hc15⟩, hc16⟩, hc17⟩ dL_law_33 (by decide) ?_
      exact wL_law_L595 X hE hn fu sc Ln hX (fun b0 b1 b2 b3 M => fL_law_L18 fu sc Ln  n b0 b1 b2 b3 M) ih a0 a1 a2 a3 M h
theorem wL_law {x : GX} {n0 sl0 : Nat} (X : Cx x cL_law RL (some .boolean) n0 sl0 20 860) {out : Mm} (hE : EndsL x) (hn : xn x = 4) (fu : Nat) (sc : Nat → Int32) (Ln : Nat) (hX : va_X (xE x 250) Ln sc (xs x) (xH x) ∧ xE x 250 < xo x)   (a0 : Option Nat)  (M : Mm) (h : fL_law fu sc Ln  a0 M = some out) : Gw x M 0 [(0, pR a0)] [] := by
  unfold fL_law at h
  obtain ⟨v1, M2, eM2, h⟩ := b2d h
  refine g_new X (pc := 0) fk_11_0 dvX11 eM2 tb_26 tb_27 tb_1 dL_law_0 ?_
  refine g_dup X (pc := 3) rfl dL_law_3 ?_
  obtain ⟨M3, eM3, h⟩ := bd h
  refine g_callI X (pc := 4) (M' := M3) (as := []) (as' := []) (st := [pR (some v1)]) (ctX11_init _ _ _ _ _ _ fu v1  M2 _ eM3) tb_30 tb_28 tb_29 tb_1 rfl hyX11_init rfl rfl ⟨by decide, by decide⟩ (Nat.le_of_ble_eq_true rfl) dL_law_4 ?_
  refine g_astore_n X (pc := 7) [(1, pR (some v1)), (0, pR a0)] rfl (lt_n hn (by decide)) rfl dL_law_7 ?_
  obtain ⟨v4, M5, eM5, h⟩ := b2d h
  refine g_new X (pc := 8) fk_16_0 dvX16 eM5 tb_1558 tb_1559 tb_8 dL_law_8 ?_
  refine g_dup X (pc := 11) rfl dL_law_11 ?_
  obtain ⟨M6, eM6, h⟩ := bd h
  refine g_callI X (pc := 12) (M' := M6) (as := []) (as' := []) (st := [pR (some v4)]) (ctX16_init _ _ _ _ _ _ fu v4  M5 _ eM6) tb_1562 tb_1560 tb_1561 tb_8 rfl hyX16_init rfl rfl ⟨by decide, by decide⟩ (Nat.le_of_ble_eq_true rfl) dL_law_12 ?_
  refine g_astore_n X (pc := 15) [(2, pR (some v4)), (1, pR (some v1)), (0, pR a0)] rfl (lt_n hn (by decide)) rfl dL_law_15 ?_
  refine g_iconst X (pc := 16) (v := 0) dL_law_16 (by decide) ?_
  refine g_istore_n X (pc := 17) [(3, pI (0 : Int32)), (2, pR (some v4)), (1, pR (some v1)), (0, pR a0)] rfl (lt_n hn (by decide)) rfl dL_law_17 ?_
  refine g_sub [3, 2, 1, 0] [(0, pR a0), (1, pR (some v1)), (2, pR (some v4)), (3, pI (0 : Int32))] rfl ?_
  exact wL_law_L18 X hE hn fu sc Ln hX   fu a0 (some v1) (some v4) (0 : Int32) M6 h
