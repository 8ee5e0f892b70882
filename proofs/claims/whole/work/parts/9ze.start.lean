/-! ===== part 9ze: both as they are made (written by gen/mk9ze.py) ===== -/
def ini (fu : Nat) : Option Mm := b2 (mkO M00 11) fun v1 M2 => (fX11_init fu v1 M2).bind fun M3 => b2 (mkO M3 16) fun v4 M5 => fX16_init fu v4 M5
theorem ini_some : (ini 100000).isSome = true := by decide +kernel
theorem ini_q {p : Mm → Bool} {X : Mm} (e : ini 100000 = some X) (h : (ini 100000).map p = some true) : p X = true := by
  rw [e] at h
  exact Option.some.inj h
theorem okA_iff {M : Mm} {t a : Nat} : okA M t a ↔ (300 ≤ a ∧ a < sN (mS M) ∧ sTy (mS M) a = t) := Iff.rfl
theorem qRW_0 : ((ini 100000).map fun M => decide ((300 ≤ 323 ∧ 323 < sN (mS M) ∧ sTy (mS M) 323 = 16) ∧ mG M 1024 323 = some 324 ∧ mG M 1026 323 = some 325 ∧ mG M 1037 323 = some 326 ∧ mG M 1038 323 = some 327 ∧ mG M 1039 323 = some 328 ∧ mG M 1040 323 = some 329 ∧ mG M 1041 323 = some 330 ∧ mG M 1043 323 = some 331 ∧ mG M 1044 323 = some 332 ∧ mG M 1045 323 = some 333 ∧ mG M 1046 323 = some 334)) = some true := by decide +kernel
theorem qRW_1 : ((ini 100000).map fun M => decide (mG M 1050 323 = some 335 ∧ mG M 1051 323 = some 336 ∧ mG M 1052 323 = some 337 ∧ mG M 1053 323 = some 338 ∧ mG M 1055 323 = some 339 ∧ mG M 1065 323 = some 340 ∧ mG M 1082 323 = some 341 ∧ (300 ≤ 324 ∧ 324 < sN (mS M) ∧ sTy (mS M) 324 = 100) ∧ sLen (mS M) 324 = 65540 ∧ (300 ≤ 325 ∧ 325 < sN (mS M) ∧ sTy (mS M) 325 = 100) ∧ sLen (mS M) 325 = 65535 ∧ (300 ≤ 326 ∧ 326 < sN (mS M) ∧ sTy (mS M) 326 = 100))) = some true := by decide +kernel
theorem qRW_2 : ((ini 100000).map fun M => decide (sLen (mS M) 326 = 3072 ∧ (300 ≤ 327 ∧ 327 < sN (mS M) ∧ sTy (mS M) 327 = 101) ∧ sLen (mS M) 327 = 64 ∧ (300 ≤ 328 ∧ 328 < sN (mS M) ∧ sTy (mS M) 328 = 101) ∧ sLen (mS M) 328 = 64 ∧ (300 ≤ 329 ∧ 329 < sN (mS M) ∧ sTy (mS M) 329 = 101) ∧ sLen (mS M) 329 = 64 ∧ (300 ≤ 330 ∧ 330 < sN (mS M) ∧ sTy (mS M) 330 = 101) ∧ sLen (mS M) 330 = 8 ∧ (300 ≤ 331 ∧ 331 < sN (mS M) ∧ sTy (mS M) 331 = 100) ∧ sLen (mS M) 331 = 1514 ∧ (300 ≤ 332 ∧ 332 < sN (mS M) ∧ sTy (mS M) 332 = 100))) = some true := by decide +kernel
theorem qRW_3 : ((ini 100000).map fun M => decide (sLen (mS M) 332 = 48448 ∧ (300 ≤ 333 ∧ 333 < sN (mS M) ∧ sTy (mS M) 333 = 101) ∧ sLen (mS M) 333 = 32 ∧ (300 ≤ 334 ∧ 334 < sN (mS M) ∧ sTy (mS M) 334 = 101) ∧ sLen (mS M) 334 = 32 ∧ (300 ≤ 335 ∧ 335 < sN (mS M) ∧ sTy (mS M) 335 = 124) ∧ sLen (mS M) 335 = 16 ∧ (300 ≤ 336 ∧ 336 < sN (mS M) ∧ sTy (mS M) 336 = 125) ∧ sLen (mS M) 336 = 8 ∧ (300 ≤ 337 ∧ 337 < sN (mS M) ∧ sTy (mS M) 337 = 123) ∧ sLen (mS M) 337 = 4 ∧ (300 ≤ 338 ∧ 338 < sN (mS M) ∧ sTy (mS M) 338 = 100))) = some true := by decide +kernel
theorem qRW_4 : ((ini 100000).map fun M => decide (sLen (mS M) 338 = 4096 ∧ (300 ≤ 339 ∧ 339 < sN (mS M) ∧ sTy (mS M) 339 = 122) ∧ sLen (mS M) 339 = 16 ∧ (300 ≤ 340 ∧ 340 < sN (mS M) ∧ sTy (mS M) 340 = 100) ∧ sLen (mS M) 340 = 4096 ∧ (300 ≤ 341 ∧ 341 < sN (mS M) ∧ sTy (mS M) 341 = 100) ∧ sLen (mS M) 341 = 8192 ∧ (∀ k, k < 16 → mB M 339 k = some (342 + 4 * k)) ∧ (∀ k, k < 16 → mB M 335 k = some (406 + k)) ∧ (∀ k, k < 8 → mB M 336 k = some (422 + 2 * k)) ∧ (∀ k, k < 4 → mB M 337 k = some (438 + 3 * k)) ∧ (∀ k, k < 16 → (300 ≤ (342 + 4 * k) ∧ (342 + 4 * k) < sN (mS M) ∧ sTy (mS M) (342 + 4 * k) = 12)))) = some true := by decide +kernel
theorem qRW_5 : ((ini 100000).map fun M => decide ((∀ k, k < 16 → (300 ≤ (343 + 4 * k) ∧ (343 + 4 * k) < sN (mS M) ∧ sTy (mS M) (343 + 4 * k) = 100)) ∧ (∀ k, k < 16 → (300 ≤ (344 + 4 * k) ∧ (344 + 4 * k) < sN (mS M) ∧ sTy (mS M) (344 + 4 * k) = 100)) ∧ (∀ k, k < 16 → (300 ≤ (345 + 4 * k) ∧ (345 + 4 * k) < sN (mS M) ∧ sTy (mS M) (345 + 4 * k) = 102)) ∧ (∀ k, k < 16 → sLen (mS M) (343 + 4 * k) = 512) ∧ (∀ k, k < 16 → sLen (mS M) (344 + 4 * k) = 4096) ∧ (∀ k, k < 16 → sLen (mS M) (345 + 4 * k) = 4096) ∧ (∀ k, k < 16 → mG M 793 (342 + 4 * k) = some (343 + 4 * k)) ∧ (∀ k, k < 16 → mG M 800 (342 + 4 * k) = some (344 + 4 * k)) ∧ (∀ k, k < 16 → mG M 801 (342 + 4 * k) = some (345 + 4 * k)) ∧ (∀ k, k < 16 → (300 ≤ (406 + k) ∧ (406 + k) < sN (mS M) ∧ sTy (mS M) (406 + k) = 14)) ∧ (∀ k, k < 8 → (300 ≤ (422 + 2 * k) ∧ (422 + 2 * k) < sN (mS M) ∧ sTy (mS M) (422 + 2 * k) = 15)) ∧ (∀ k, k < 8 → (300 ≤ (423 + 2 * k) ∧ (423 + 2 * k) < sN (mS M) ∧ sTy (mS M) (423 + 2 * k) = 100)))) = some true := by decide +kernel
theorem qRW_6 : ((ini 100000).map fun M => decide ((∀ k, k < 8 → sLen (mS M) (423 + 2 * k) = 1500) ∧ (∀ k, k < 8 → mG M 966 (422 + 2 * k) = some (423 + 2 * k)) ∧ (∀ k, k < 4 → (300 ≤ (438 + 3 * k) ∧ (438 + 3 * k) < sN (mS M) ∧ sTy (mS M) (438 + 3 * k) = 13)) ∧ (∀ k, k < 4 → (300 ≤ (439 + 3 * k) ∧ (439 + 3 * k) < sN (mS M) ∧ sTy (mS M) (439 + 3 * k) = 100)) ∧ (∀ k, k < 4 → sLen (mS M) (439 + 3 * k) = 4096) ∧ (∀ k, k < 4 → (300 ≤ (440 + 3 * k) ∧ (440 + 3 * k) < sN (mS M) ∧ sTy (mS M) (440 + 3 * k) = 102)) ∧ (∀ k, k < 4 → sLen (mS M) (440 + 3 * k) = 4096) ∧ (∀ k, k < 4 → mG M 839 (438 + 3 * k) = some (439 + 3 * k)) ∧ (∀ k, k < 4 → mG M 840 (438 + 3 * k) = some (440 + 3 * k)))) = some true := by decide +kernel
theorem ini_RW {X : Mm} (e : ini 100000 = some X) : RW X := by
  obtain ⟨h0, h1, h2, h3, h4, h5, h6, h7, h8, h9, h10, h11⟩ := of_decide_eq_true (ini_q e qRW_0)
  obtain ⟨h12, h13, h14, h15, h16, h17, h18, h19, h20, h21, h22, h23⟩ := of_decide_eq_true (ini_q e qRW_1)
  obtain ⟨h24, h25, h26, h27, h28, h29, h30, h31, h32, h33, h34, h35⟩ := of_decide_eq_true (ini_q e qRW_2)
  obtain ⟨h36, h37, h38, h39, h40, h41, h42, h43, h44, h45, h46, h47⟩ := of_decide_eq_true (ini_q e qRW_3)
  obtain ⟨h48, h49, h50, h51, h52, h53, h54, h55, h56, h57, h58, h59⟩ := of_decide_eq_true (ini_q e qRW_4)
  obtain ⟨h60, h61, h62, h63, h64, h65, h66, h67, h68, h69, h70, h71⟩ := of_decide_eq_true (ini_q e qRW_5)
  obtain ⟨h72, h73, h74, h75, h76, h77, h78, h79, h80⟩ := of_decide_eq_true (ini_q e qRW_6)
  exact ⟨h0, h1, h2, h3, h4, h5, h6, h7, h8, h9, h10, h11, h12, h13, h14, h15, h16, h17, h18, h19, h20, h21, h22, h23, h24, h25, h26, h27, h28, h29, h30, h31, h32, h33, h34, h35, h36, h37, h38, h39, h40, h41, h42, h43, h44, h45, h46, h47, h48, h49, h50, h51, h52, h53, h54, h55, h56, h57, h58, h59, h60, h61, h62, h63, h64, h65, h66, h67, h68, h69, h70, h71, h72, h73, h74, h75, h76, h77, h78, h79, h80, trivial⟩
theorem qXW_0 : ((ini 100000).map fun M => decide ((300 ≤ 300 ∧ 300 < sN (mS M) ∧ sTy (mS M) 300 = 11) ∧ mG M 704 300 = some 301 ∧ mG M 705 300 = some 304 ∧ mG M 706 300 = some 307 ∧ mG M 707 300 = some 314 ∧ mG M 708 300 = some 317 ∧ mG M 709 300 = some 319 ∧ (300 ≤ 301 ∧ 301 < sN (mS M) ∧ sTy (mS M) 301 = 8) ∧ (300 ≤ 302 ∧ 302 < sN (mS M) ∧ sTy (mS M) 302 = 100) ∧ sLen (mS M) 302 = 0 ∧ (300 ≤ 303 ∧ 303 < sN (mS M) ∧ sTy (mS M) 303 = 100) ∧ sLen (mS M) 303 = 0)) = some true := by decide +kernel
theorem qXW_1 : ((ini 100000).map fun M => decide ((300 ≤ 304 ∧ 304 < sN (mS M) ∧ sTy (mS M) 304 = 10) ∧ mG M 640 304 = some 305 ∧ mG M 644 304 = some 306 ∧ (300 ≤ 305 ∧ 305 < sN (mS M) ∧ sTy (mS M) 305 = 101) ∧ sLen (mS M) 305 = 8 ∧ (300 ≤ 306 ∧ 306 < sN (mS M) ∧ sTy (mS M) 306 = 116) ∧ sLen (mS M) 306 = 32 ∧ (300 ≤ 307 ∧ 307 < sN (mS M) ∧ sTy (mS M) 307 = 4) ∧ mG M 256 307 = some 308 ∧ mG M 261 307 = some 304 ∧ mG M 266 307 = some 309 ∧ mG M 267 307 = some 310)) = some true := by decide +kernel
theorem qXW_2 : ((ini 100000).map fun M => decide (mG M 268 307 = some 311 ∧ mG M 269 307 = some 312 ∧ mG M 270 307 = some 313 ∧ (300 ≤ 308 ∧ 308 < sN (mS M) ∧ sTy (mS M) 308 = 100) ∧ sLen (mS M) 308 = 1514 ∧ (300 ≤ 309 ∧ 309 < sN (mS M) ∧ sTy (mS M) 309 = 101) ∧ sLen (mS M) 309 = 16 ∧ (300 ≤ 310 ∧ 310 < sN (mS M) ∧ sTy (mS M) 310 = 101) ∧ sLen (mS M) 310 = 16 ∧ (300 ≤ 311 ∧ 311 < sN (mS M) ∧ sTy (mS M) 311 = 101) ∧ sLen (mS M) 311 = 16 ∧ (300 ≤ 312 ∧ 312 < sN (mS M) ∧ sTy (mS M) 312 = 101))) = some true := by decide +kernel
theorem qXW_3 : ((ini 100000).map fun M => decide (sLen (mS M) 312 = 16 ∧ (300 ≤ 313 ∧ 313 < sN (mS M) ∧ sTy (mS M) 313 = 116) ∧ sLen (mS M) 313 = 8 ∧ (300 ≤ 314 ∧ 314 < sN (mS M) ∧ sTy (mS M) 314 = 3) ∧ mG M 205 314 = some 304 ∧ mG M 206 314 = some 307 ∧ mG M 207 314 = some 316 ∧ (300 ≤ 315 ∧ 315 < sN (mS M) ∧ sTy (mS M) 315 = 100) ∧ sLen (mS M) 315 = 0 ∧ (300 ≤ 316 ∧ 316 < sN (mS M) ∧ sTy (mS M) 316 = 112) ∧ sLen (mS M) 316 = 4 ∧ (300 ≤ 317 ∧ 317 < sN (mS M) ∧ sTy (mS M) 317 = 9))) = some true := by decide +kernel
theorem qXW_4 : ((ini 100000).map fun M => decide (mG M 576 317 = some 304 ∧ mG M 577 317 = some 307 ∧ mG M 578 317 = some 301 ∧ mG M 579 317 = some 314 ∧ mG M 580 317 = some 318 ∧ (300 ≤ 318 ∧ 318 < sN (mS M) ∧ sTy (mS M) 318 = 111) ∧ sLen (mS M) 318 = 16 ∧ (300 ≤ 319 ∧ 319 < sN (mS M) ∧ sTy (mS M) 319 = 7) ∧ mG M 448 319 = some 301 ∧ mG M 449 319 = some 304 ∧ mG M 450 319 = some 320 ∧ mG M 451 319 = some 321)) = some true := by decide +kernel
theorem qXW_5 : ((ini 100000).map fun M => decide ((300 ≤ 320 ∧ 320 < sN (mS M) ∧ sTy (mS M) 320 = 100) ∧ sLen (mS M) 320 = 4096 ∧ (300 ≤ 321 ∧ 321 < sN (mS M) ∧ sTy (mS M) 321 = 100) ∧ sLen (mS M) 321 = 48)) = some true := by decide +kernel
theorem ini_XW {X : Mm} (e : ini 100000 = some X) : XW X := by
  obtain ⟨h0, h1, h2, h3, h4, h5, h6, h7, h8, h9, h10, h11⟩ := of_decide_eq_true (ini_q e qXW_0)
  obtain ⟨h12, h13, h14, h15, h16, h17, h18, h19, h20, h21, h22, h23⟩ := of_decide_eq_true (ini_q e qXW_1)
  obtain ⟨h24, h25, h26, h27, h28, h29, h30, h31, h32, h33, h34, h35⟩ := of_decide_eq_true (ini_q e qXW_2)
  obtain ⟨h36, h37, h38, h39, h40, h41, h42, h43, h44, h45, h46, h47⟩ := of_decide_eq_true (ini_q e qXW_3)
  obtain ⟨h48, h49, h50, h51, h52, h53, h54, h55, h56, h57, h58, h59⟩ := of_decide_eq_true (ini_q e qXW_4)
  obtain ⟨h60, h61, h62, h63⟩ := of_decide_eq_true (ini_q e qXW_5)
  exact ⟨h0, h1, h2, h3, h4, h5, h6, h7, h8, h9, h10, h11, h12, h13, h14, h15, h16, h17, h18, h19, h20, h21, h22, h23, h24, h25, h26, h27, h28, h29, h30, h31, h32, h33, h34, h35, h36, h37, h38, h39, h40, h41, h42, h43, h44, h45, h46, h47, h48, h49, h50, h51, h52, h53, h54, h55, h56, h57, h58, h59, h60, h61, h62, h63, trivial⟩
theorem qN : ((ini 100000).map fun M => decide (sN (mS M) = 450 ∧ sSl (mS M) ≤ 420000 ∧ mG M 512 301 = some 302 ∧ mG M 514 301 = some 303 ∧ mG M 710 300 = some 322 ∧ sTy (mS M) 322 = 100 ∧ sLen (mS M) 322 = 80 ∧ sTy (mS M) 321 = 100 ∧ sTy (mS M) 302 = 100 ∧ sTy (mS M) 301 = 8 ∧ sLen (mS M) 302 = 0 ∧ sLen (mS M) 303 = 0 ∧ sTy (mS M) 303 = 100)) = some true := by decide +kernel
def allN (n : Nat) (p : Nat → Bool) : Bool := (List.range n).all p
theorem allN_at {n : Nat} {p : Nat → Bool} (h : allN n p = true) {i : Nat} (hi : i < n) : p i = true := List.all_eq_true.mp h i (List.mem_range.mpr hi)
theorem qT : ((ini 100000).map fun M => allN 150 fun d => decide ((sTy (mS M) (300 + d) ≠ 6 ∧ sTy (mS M) (300 + d) ≠ 2 ∧ sTy (mS M) (300 + d) ≠ 1 ∧ sTy (mS M) (300 + d) ≠ 0) ∧ (12 ≤ sTy (mS M) (300 + d) → sTy (mS M) (300 + d) ≤ 16 → 323 ≤ 300 + d) ∧ (sTy (mS M) (300 + d) ≤ 11 → 300 + d < 323))) = some true := by decide +kernel
theorem qG : ((ini 100000).map fun M => allN 150 fun d => decide (17 ≤ sTy (mS M) (300 + d)) || allN 64 fun k => (mG M (64 * sTy (mS M) (300 + d) + k) (300 + d)).all fun b => (decide (323 ≤ 300 + d) == decide (323 ≤ b)) && decide (300 ≤ b) && decide (b < 450)) = some true := by decide +kernel
theorem qB : ((ini 100000).map fun M => allN 150 fun d => decide (sTy (mS M) (300 + d) < 110) || (decide (sLen (mS M) (300 + d) ≤ 32) && allN 32 fun i => (mB M (300 + d) i).all fun b => decide (323 ≤ 300 + d) && decide (323 ≤ b) && decide (b < 450))) = some true := by decide +kernel
theorem q323 : ((b2 (mkO M00 11) fun v1 M2 => fX11_init 100000 v1 M2).map fun M => decide (sN (mS M) = 323)) = some true := by decide +kernel
theorem ini_q3 {v1 : Nat} {M2 M3 : Mm} (e2 : mkO M00 11 = some (v1, M2)) (e3 : fX11_init 100000 v1 M2 = some M3) : decide (sN (mS M3) = 323) = true := by
  have h := q323
  rw [e2, b2_some, e3] at h
  exact Option.some.inj h
section Start
variable {X : Mm}
theorem ini_HI (e : ini 100000 = some X) : HI X := by
  unfold ini at e
  obtain ⟨v1, M2, e2, e⟩ := b2d e
  obtain ⟨M3, e3, e⟩ := bd e
  obtain ⟨v4, M5, e5, e⟩ := b2d e
  exact hX16_init 100000 v4 M5 (h_mkO (hX11_init 100000 v1 M2 (h_mkO h_00 e2) e3) e5) e
/-- the first state -/
theorem ini_LB (e : ini 100000 = some X) : LB 640 570076 0 302 303 0 X ∧ mF X 1028 323 = 0 ∧ mF X 712 300 = 0 ∧ Lst0 X ∧ DP 0 X := by
  obtain ⟨g1, g2, g3, g4⟩ := ini_HI e
  obtain ⟨n1, n2, n3, n4, n5, n6, n7, n8, n9, n10, n11, n12, n13⟩ := of_decide_eq_true (ini_q e qN)
  have sub : ∀ a, 300 ≤ a → 300 + (a - 300) = a := fun a h => by omega
  have T : ∀ a, a < 450 → 300 ≤ a → (sTy (mS X) a ≠ 6 ∧ sTy (mS X) a ≠ 2 ∧ sTy (mS X) a ≠ 1 ∧ sTy (mS X) a ≠ 0) ∧ (12 ≤ sTy (mS X) a → sTy (mS X) a ≤ 16 → 323 ≤ a) ∧ (sTy (mS X) a ≤ 11 → a < 323) := fun a h1 h2 => by
    have q := of_decide_eq_true (allN_at (ini_q e qT) (i := a - 300) (by omega))
    rw [sub a h2] at q
    exact q
  have G : ∀ a, a < 450 → 300 ≤ a → sTy (mS X) a < 17 → ∀ k, k < 64 → ((mG X (64 * sTy (mS X) a + k) a).all fun b => (decide (323 ≤ a) == decide (323 ≤ b)) && decide (300 ≤ b) && decide (b < 450)) = true := fun a h1 h2 h3 k hk => by
    have q := allN_at (ini_q e qG) (i := a - 300) (by omega)
    rw [sub a h2, Bool.or_eq_true] at q
    rcases q with q | q
    · have := of_decide_eq_true q
      omega
    · exact allN_at q hk
  have B : ∀ a, a < 450 → 300 ≤ a → 110 ≤ sTy (mS X) a → sLen (mS X) a ≤ 32 ∧ ∀ i, i < 32 → ((mB X a i).all fun b => decide (323 ≤ a) && decide (323 ≤ b) && decide (b < 450)) = true := fun a h1 h2 h3 => by
    have q := allN_at (ini_q e qB) (i := a - 300) (by omega)
    rw [sub a h2, Bool.or_eq_true] at q
    rcases q with q | q
    · have := of_decide_eq_true q
      omega
    · rw [Bool.and_eq_true] at q
      exact ⟨of_decide_eq_true q.1, fun i hi => allN_at q.2 hi⟩
  have okl : ∀ {t a : Nat}, okA X t a → 300 ≤ a ∧ a < 450 ∧ sTy (mS X) a = t := fun {t a} o => ⟨o.1, by have := o.2.1; omega, o.2.2⟩
  have ty : ∀ {t a : Nat}, okA X t a → t ≠ 6 ∧ t ≠ 2 ∧ t ≠ 1 ∧ t ≠ 0 := fun {t a} o => by
    obtain ⟨o1, o2, o3⟩ := okl o
    obtain ⟨q, -⟩ := T a o2 o1
    rw [o3] at q
    exact q
  have gg : ∀ f a b, mG X f a = some b → (323 ≤ a ↔ 323 ≤ b) ∧ 300 ≤ b ∧ b < 450 := fun f a b h => by
    obtain ⟨o, f1⟩ := g1 f a b h
    obtain ⟨o1, o2, o3⟩ := okl o
    have q := G a o2 o1 (by omega) (f % 64) (Nat.mod_lt _ (by decide))
    rw [o3, show 64 * (f / 64) + f % 64 = f from Nat.div_add_mod f 64, h] at q
    have q : ((decide (323 ≤ a) == decide (323 ≤ b)) && decide (300 ≤ b) && decide (b < 450)) = true := q
    rw [Bool.and_eq_true, Bool.and_eq_true] at q
    obtain ⟨⟨q1, q2⟩, q3⟩ := q
    have q1 := eq_of_beq q1
    refine ⟨?_, of_decide_eq_true q2, of_decide_eq_true q3⟩
    by_cases z : 323 ≤ a
    · rw [decide_eq_true z] at q1
      exact ⟨fun _ => of_decide_eq_true q1.symm, fun _ => z⟩
    · rw [decide_eq_false z] at q1
      exact ⟨fun y => absurd y z, fun y => absurd y (of_decide_eq_false q1.symm)⟩
  have bb : ∀ a i b, mB X a i = some b → 323 ≤ a ∧ a < 450 ∧ 323 ≤ b ∧ b < 450 := fun a i b h => by
    obtain ⟨t, o, t1, t2⟩ := g2 a i b h
    obtain ⟨o1, o2, o3⟩ := okl o
    obtain ⟨q0, q⟩ := B a o2 o1 (by omega)
    have q := q i (by omega)
    rw [h] at q
    have q : (decide (323 ≤ a) && decide (323 ≤ b) && decide (b < 450)) = true := q
    rw [Bool.and_eq_true, Bool.and_eq_true] at q
    exact ⟨of_decide_eq_true q.1.1, o2, of_decide_eq_true q.1.2, of_decide_eq_true q.2⟩
  have by' : By X := fun a i _ => by rw [g3]; exact isB_0
  have none' : ∀ a i, a < 323 → mB X a i = none := fun a i ha => by
    cases h : mB X a i with
    | none => rfl
    | some b => have := (bb a i b h).1; omega
  have row : ∀ a t, a < 323 → rowN X a t 0 := fun a t ha => ⟨fun i hi => by omega, fun i _ => none' a i ha, fun i j p h1 _ => by rw [none' a i ha] at h1; cases h1⟩
  have z := nI_0
  refine ⟨LB.mk (ini_RW e) (ini_XW e) ⟨fun p hp => absurd rfl (ty hp).1, fun d hd => absurd rfl (ty hd).2.1, fun c hc => absurd rfl (ty hc).2.2.1⟩ ⟨0, 0, 0, 0, by decide, by decide, by decide, by decide, row _ _ (by decide), row _ _ (by decide), row _ _ (by decide), row _ _ (by decide), fun i j p h1 _ => (by rw [none' 306 i (by decide)] at h1; cases h1), by omega, by omega, by decide, by decide, by omega⟩ ⟨fun a c o hc => ?_, fun f a b ha hb => ?_, fun a i b ha hb => ?_, by omega, by'⟩ ⟨fun a c o hc => ?_, fun f a b ha hb => ?_, fun a i b ha hb => ?_, by omega, by'⟩ ⟨n3, ⟨by decide, by omega, n9⟩, n11, by decide, fun j hj => by omega, by decide, by rw [n10]; decide, by rw [n10]; decide, by rw [n10]; decide, by rw [n10]; decide, by decide, by decide⟩ (by decide) ((g4 _ _).trans z.symm) ((g4 _ _).trans z.symm) ((g4 _ _).trans z.symm) ⟨322, n5, ⟨by decide, by omega, n6⟩, by omega, by omega, by omega, fun j hj => by omega, by decide, by decide, by decide, by rw [n8]; decide, by rw [n8]; decide, by rw [n8]; decide, by rw [n8]; decide, by decide, by decide⟩ (by decide) n4 ⟨by decide, by omega, n13⟩ (by omega) ⟨by decide, by rw [n9]; decide, by rw [n9]; decide, by rw [n9]; decide, by rw [n9]; decide, by decide, by decide⟩ (g4 _ _), g4 _ _, g4 _ _, fun a o => absurd rfl (ty o).2.2.2, fun a => ⟨fun o => ⟨⟨0, Nat.le_refl _, (g4 _ _).trans z.symm⟩, 0, by decide, (g4 _ _).trans z.symm⟩, fun o => ⟨0, by decide, (g4 _ _).trans z.symm⟩⟩⟩
  · obtain ⟨o1, o2, o3⟩ := okl o
    obtain ⟨-, q, -⟩ := T a o2 o1
    unfold TM at hc
    exact ⟨q (by omega) (by omega), o2⟩
  · obtain ⟨q, q1, q2⟩ := gg f a b hb
    exact ⟨q.mp ha.1, q2⟩
  · obtain ⟨-, -, q1, q2⟩ := bb a i b hb
    exact ⟨q1, q2⟩
  · obtain ⟨o1, o2, o3⟩ := okl o
    obtain ⟨-, -, q⟩ := T a o2 o1
    unfold TX at hc
    exact Or.inl ⟨o1, q (by omega)⟩
  · obtain ⟨q, q1, q2⟩ := gg f a b hb
    obtain ⟨o, -⟩ := g1 f a b hb
    have := okl o
    unfold RX at ha ⊢
    omega
  · obtain ⟨q0, q3, q1, q2⟩ := bb a i b hb
    unfold RX at ha
    omega
end Start

