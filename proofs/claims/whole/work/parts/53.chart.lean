section CH
variable {σ : St} {sh : Nat → Int}
theorem FU_val : FU = 2000 := rfl
theorem tmod10 {z : Int} : True := trivial
/-- the height of the tide, in the class -/
theorem tide_rng (V : Val sh) {m : Int} (h0 : 0 ≤ m) (h1 : m < 100000) : (0 ≤ m / 10 % sh 75 ∧ m / 10 % sh 75 < sh 75) ∧ 0 ≤ tideZ sh m ∧ tideZ sh m ≤ 20 := by
  obtain ⟨-, ⟨v1, v2⟩, -, -, -, vh, -, -⟩ := V
  have k1 := Int.emod_nonneg (m / 10) (b := sh 75) (by omega)
  have k2 := Int.emod_lt_of_pos (m / 10) (b := sh 75) (by omega)
  refine ⟨⟨k1, k2⟩, ?_⟩
  unfold tideZ
  generalize m / 10 % sh 75 = k at k1 k2 ⊢
  have c := vh k.toNat (by omega)
  have d := vh (if k + 1 < sh 75 then k + 1 else 0).toNat (by split <;> omega)
  simp only
  generalize sh (5 + k.toNat) = cc at c ⊢
  generalize sh (5 + (if k + 1 < sh 75 then k + 1 else 0).toNat) = dd at d ⊢
  have r1 : 0 ≤ m % 10 := by omega
  have r2 : m % 10 ≤ 9 := by omega
  generalize m % 10 = r at r1 r2 ⊢
  rcases (show r = 0 ∨ r = 1 ∨ r = 2 ∨ r = 3 ∨ r = 4 ∨ r = 5 ∨ r = 6 ∨ r = 7 ∨ r = 8 ∨ r = 9 by omega) with rfl | rfl | rfl | rfl | rfl | rfl | rfl | rfl | rfl | rfl <;>
  · rcases Int.le_total 0 (dd - cc) with hp | hp
    · rw [Int.tdiv_eq_ediv_of_nonneg (by omega)]; omega
    · have e : ∀ z : Int, z ≤ 0 → z.tdiv 10 = -((-z) / 10) := fun z hz => by
        rw [← Int.neg_neg z, Int.neg_tdiv, Int.tdiv_eq_ediv_of_nonneg (by omega), Int.neg_neg]
      rw [e _ (by omega)]; omega
theorem e_heightAt (R : RC (σ 14) sh) (V : Val sh) {m : Int} (h0 : 0 ≤ m) (h1 : m < 100000) : f_X1_heightAt σ (iI m) = some (iI (tideZ sh m), σ) := by
  obtain ⟨⟨k1, k2⟩, -⟩ := tide_rng V h0 h1
  obtain ⟨-, ⟨v1, v2⟩, -, -, -, vh, -, -⟩ := V
  unfold f_X1_heightAt f_X1_heightAt_p54 tideZ
  simp (disch := omega) only [e_heightCount R, obs, iI_lit, iI_add, iI_sub, iI_mul, iI_neg, iI_lt, iI_le, iI_eq, iI_divp, iI_toInt, iI_clamp, bI_0, bI_1, b_tf, Int.toNat_natCast, Int.reduceToNat, Int.toNat_zero, Int.toNat_one, modf, if_pos, if_neg, reduceIte, reduceCtorEq]
  generalize m / 10 % sh 75 = k at k1 k2 ⊢
  have hc := vh k.toNat (by omega)
  have key : ∀ d : Int, 0 ≤ d → d ≤ 20 → iI ((d - sh (5 + k.toNat)) * (m % 10)) / iI 10 = iI (((d - sh (5 + k.toNat)) * (m % 10)).tdiv 10) := by
    intro d d1 d2
    have b1 : -180 ≤ (d - sh (5 + k.toNat)) * (m % 10) ∧ (d - sh (5 + k.toNat)) * (m % 10) ≤ 180 := by
      have r1 : 0 ≤ m % 10 := by omega
      have r2 : m % 10 ≤ 9 := by omega
      generalize m % 10 = r at r1 r2 ⊢
      rcases (show r = 0 ∨ r = 1 ∨ r = 2 ∨ r = 3 ∨ r = 4 ∨ r = 5 ∨ r = 6 ∨ r = 7 ∨ r = 8 ∨ r = 9 by omega) with rfl | rfl | rfl | rfl | rfl | rfl | rfl | rfl | rfl | rfl <;> omega
    rw [iI_div (by omega) (by omega) (by omega) (by omega)]
  by_cases p : k + 1 < sh 75
  · have hd := vh (k + 1).toNat (by omega)
    simp (disch := omega) only [e_heightCell R, key, p, obs, iI_lit, iI_add, iI_sub, iI_mul, iI_neg, iI_lt, iI_le, iI_eq, iI_divp, iI_toInt, iI_clamp, bI_0, bI_1, b_tf, Int.toNat_natCast, Int.reduceToNat, Int.toNat_zero, Int.toNat_one, modf, if_pos, if_neg, reduceIte, reduceCtorEq]
  · have hd := vh 0 (by omega)
    have e0 := key (sh (5 + 0)) (by omega) (by omega)
    simp (disch := omega) only [e_heightCell R, e0, p, obs, iI_lit, iI_add, iI_sub, iI_mul, iI_neg, iI_lt, iI_le, iI_eq, iI_divp, iI_toInt, iI_clamp, bI_0, bI_1, b_tf, Int.toNat_natCast, Int.reduceToNat, Int.toNat_zero, Int.toNat_one, modf, if_pos, if_neg, reduceIte, reduceCtorEq]
end CH
section CH2
variable {σ : St} {sh : Nat → Int}
theorem lies_b {x y : Int} (V : Val sh) {k : Nat} (hk : (k : Int) < sh 76) (hx : -100 ≤ x ∧ x ≤ 100) (hy : -100 ≤ y ∧ y ≤ 100) : (0 ≤ (x - tT sh k 1) * (x - tT sh k 1) ∧ (x - tT sh k 1) * (x - tT sh k 1) ≤ 90000) ∧ (0 ≤ (y - tT sh k 2) * (y - tT sh k 2) ∧ (y - tT sh k 2) * (y - tT sh k 2) ≤ 90000) ∧ (0 ≤ tT sh k 3 * tT sh k 3 ∧ tT sh k 3 * tT sh k 3 ≤ 90000) := by
  have T := V.2.2.2.2.2.2.1 k hk
  unfold ValT at T
  exact ⟨sqb (by omega) (by omega), sqb (by omega) (by omega), sqb (by omega) (by omega)⟩
theorem e_liesIn (R : RC (σ 14) sh) (V : Val sh) {k : Nat} (hk : (k : Int) < sh 76) {x y : Int} (hx : -100 ≤ x ∧ x ≤ 100) (hy : -100 ≤ y ∧ y ≤ 100) : f_X1_liesIn σ (iI k) (iI x) (iI y) = some (bI (lies sh k x y), σ) := by
  obtain ⟨b1, b2, b3⟩ := lies_b V hk hx hy
  have T := V.2.2.2.2.2.2.1 k hk
  have h8 := V.2.2.1
  unfold ValT at T
  unfold f_X1_liesIn lies
  simp (disch := omega) only [e_thingCell R, obs, iI_lit, iI_add, iI_sub, iI_mul, iI_neg, iI_lt, iI_le, iI_eq, iI_divp, iI_toInt, iI_clamp, bI_0, bI_1, b_tf, Int.toNat_natCast, Int.reduceToNat, Int.toNat_zero, Int.toNat_one, modf, if_pos, if_neg, reduceIte, reduceCtorEq]
  by_cases p : 4 ≤ tT sh k 0
  · by_cases q : tT sh k 0 = 6
    · simp (disch := omega) only [p, q, decide_true, Bool.true_and, obs, iI_lit, iI_add, iI_sub, iI_mul, iI_neg, iI_lt, iI_le, iI_eq, iI_divp, iI_toInt, iI_clamp, bI_0, bI_1, b_tf, Int.toNat_natCast, Int.reduceToNat, Int.toNat_zero, Int.toNat_one, modf, if_pos, if_neg, reduceIte, reduceCtorEq]
      simp (disch := omega) only [iI_ite, obs, iI_lit, iI_add, iI_sub, iI_mul, iI_neg, iI_lt, iI_le, iI_eq, iI_divp, iI_toInt, iI_clamp, bI_0, bI_1, b_tf, Int.toNat_natCast, Int.reduceToNat, Int.toNat_zero, Int.toNat_one, modf, if_pos, if_neg, reduceIte, reduceCtorEq]
      generalize x - tT sh k 1 = dx
      generalize y - tT sh k 2 = dy
      by_cases u : tT sh k 3 < (if 0 ≤ dx then dx else 0 - dx)
      · rw [if_pos u, decide_eq_false (p := -tT sh k 3 ≤ dx ∧ dx ≤ tT sh k 3) (by split at u <;> omega)]; rfl
      · rw [if_neg u, decide_eq_true (p := -tT sh k 3 ≤ dx ∧ dx ≤ tT sh k 3) (by split at u <;> omega)]
        exact bz (by simp only [Bool.and_eq_false_iff, Bool.or_eq_false_iff, Bool.and_eq_true, Bool.or_eq_true, decide_eq_false_iff_not, decide_eq_true_eq, reduceCtorEq, false_or, or_false, true_and, and_true]; first | omega | (split <;> omega))
    · simp (disch := omega) only [p, q, decide_true, Bool.true_and, obs, iI_lit, iI_add, iI_sub, iI_mul, iI_neg, iI_lt, iI_le, iI_eq, iI_divp, iI_toInt, iI_clamp, bI_0, bI_1, b_tf, Int.toNat_natCast, Int.reduceToNat, Int.toNat_zero, Int.toNat_one, modf, if_pos, if_neg, reduceIte, reduceCtorEq]
      exact bz (by rw [decide_eq_false_iff_not]; omega)
  · simp (disch := omega) only [p, decide_false, Bool.false_and, obs, iI_lit, iI_add, iI_sub, iI_mul, iI_neg, iI_lt, iI_le, iI_eq, iI_divp, iI_toInt, iI_clamp, bI_0, bI_1, b_tf, Int.toNat_natCast, Int.reduceToNat, Int.toNat_zero, Int.toNat_one, modf, if_pos, if_neg, reduceIte, reduceCtorEq]
    rfl
theorem e_depthOf (R : RC (σ 14) sh) (V : Val sh) {k : Nat} (hk : (k : Int) < sh 76) : f_X1_depthOf σ (iI k) = some (iI (dOf sh k), σ) := by
  have T := V.2.2.2.2.2.2.1 k hk
  have h8 := V.2.2.1
  unfold ValT at T
  unfold f_X1_depthOf dOf
  simp (disch := omega) only [e_thingCell R, obs, iI_lit, iI_add, iI_sub, iI_mul, iI_neg, iI_lt, iI_le, iI_eq, iI_divp, iI_toInt, iI_clamp, bI_0, bI_1, b_tf, Int.toNat_natCast, Int.reduceToNat, Int.toNat_zero, Int.toNat_one, modf, if_pos, if_neg, reduceIte, reduceCtorEq]
  by_cases q : tT sh k 0 = 5
  · simp (disch := omega) only [q, obs, iI_lit, iI_add, iI_sub, iI_mul, iI_neg, iI_lt, iI_le, iI_eq, iI_divp, iI_toInt, iI_clamp, bI_0, bI_1, b_tf, Int.toNat_natCast, Int.reduceToNat, Int.toNat_zero, Int.toNat_one, modf, if_pos, if_neg, reduceIte, reduceCtorEq]
  · simp (disch := omega) only [q, obs, iI_lit, iI_add, iI_sub, iI_mul, iI_neg, iI_lt, iI_le, iI_eq, iI_divp, iI_toInt, iI_clamp, bI_0, bI_1, b_tf, Int.toNat_natCast, Int.reduceToNat, Int.toNat_zero, Int.toNat_one, modf, if_pos, if_neg, reduceIte, reduceCtorEq]
theorem dOf_b (V : Val sh) {k : Nat} (hk : (k : Int) < sh 76) : -20 ≤ dOf sh k ∧ dOf sh k ≤ 20 := by
  have T := V.2.2.2.2.2.2.1 k hk
  unfold ValT at T
  unfold dOf
  split <;> omega
theorem depF_s (x y : Int) (n : Nat) : depF sh x y (n + 1) = if lies sh n x y = true ∧ dOf sh n < depF sh x y n then dOf sh n else depF sh x y n := rfl
theorem depF_b (V : Val sh) {x y : Int} : ∀ n : Nat, (n : Int) ≤ sh 76 → -20 ≤ depF sh x y n ∧ depF sh x y n ≤ 40 := by
  intro n
  induction n with
  | zero => intro _; unfold depF; omega
  | succ n ih =>
    intro h
    have a := ih (by omega)
    have b := dOf_b V (k := n) (by omega)
    unfold depF
    split <;> omega
theorem e_depthAt_loop (R : RC (σ 14) sh) (V : Val sh) {x y : Int} (hx : -100 ≤ x ∧ x ≤ 100) (hy : -100 ≤ y ∧ y ≤ 100) : ∀ (d k f : Nat), (k : Int) + d = sh 76 → d < f → fx F_X1_depthAt_h6 z_X1_depthAt_h6 f σ (iI x) (iI y) (iI (depF sh x y k)) (iI k) = some (iI (depZ sh x y), σ) := by
  have h8 := V.2.2.1
  intro d
  induction d with
  | zero =>
    intro k f hk hf
    obtain ⟨f, rfl⟩ : ∃ g, f = g + 1 := ⟨f - 1, by omega⟩
    rw [fx_s]
    unfold F_X1_depthAt_h6 depZ
    simp (disch := omega) only [e_thingCount R, obs, iI_lit, iI_add, iI_sub, iI_mul, iI_neg, iI_lt, iI_le, iI_eq, iI_divp, iI_toInt, iI_clamp, bI_0, bI_1, b_tf, Int.toNat_natCast, Int.reduceToNat, Int.toNat_zero, Int.toNat_one, modf, if_pos, if_neg, reduceIte, reduceCtorEq]
    rw [show (sh 76).toNat = k by omega]
  | succ d ih =>
    intro k f hk hf
    obtain ⟨f, rfl⟩ : ∃ g, f = g + 1 := ⟨f - 1, by omega⟩
    rw [fx_s]
    have b1 := depF_b V (x := x) (y := y) k (by omega)
    have b2 := dOf_b V (k := k) (by omega)
    have i1 := ih (k + 1) f (by omega) (by omega)
    rw [Int.natCast_succ, depF_s] at i1
    generalize fx F_X1_depthAt_h6 z_X1_depthAt_h6 f = K at i1 ⊢
    unfold F_X1_depthAt_h6 f_X1_depthAt_p40
    simp (disch := omega) only [e_thingCount R, e_liesIn R V (k := k) (by omega) hx hy, obs, iI_lit, iI_add, iI_sub, iI_mul, iI_neg, iI_lt, iI_le, iI_eq, iI_divp, iI_toInt, iI_clamp, bI_0, bI_1, b_tf, Int.toNat_natCast, Int.reduceToNat, Int.toNat_zero, Int.toNat_one, modf, if_pos, if_neg, reduceIte, reduceCtorEq]
    cases hl : lies sh k x y
    · rw [hl, if_neg (fun h => by cases h.1)] at i1
      simp (disch := omega) only [obs, iI_lit, iI_add, iI_sub, iI_mul, iI_neg, iI_lt, iI_le, iI_eq, iI_divp, iI_toInt, iI_clamp, bI_0, bI_1, b_tf, Int.toNat_natCast, Int.reduceToNat, Int.toNat_zero, Int.toNat_one, modf, if_pos, if_neg, reduceIte, reduceCtorEq]
      exact i1
    · rw [hl] at i1
      simp only [true_and] at i1
      simp (disch := omega) only [e_depthOf R V (k := k) (by omega), iI_ite, obs, iI_lit, iI_add, iI_sub, iI_mul, iI_neg, iI_lt, iI_le, iI_eq, iI_divp, iI_toInt, iI_clamp, bI_0, bI_1, b_tf, Int.toNat_natCast, Int.reduceToNat, Int.toNat_zero, Int.toNat_one, modf, if_pos, if_neg, reduceIte, reduceCtorEq]
      exact i1
theorem e_depthAt (R : RC (σ 14) sh) (V : Val sh) {x y : Int} (hx : -100 ≤ x ∧ x ≤ 100) (hy : -100 ≤ y ∧ y ≤ 100) : f_X1_depthAt σ (iI x) (iI y) = some (iI (depZ sh x y), σ) := by
  have h8 := V.2.2.1
  exact e_depthAt_loop R V hx hy (sh 76).toNat 0 FU (by omega) (by rw [FU_val]; omega)
end CH2
