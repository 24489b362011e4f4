section SH
variable {σ : St} {sh : Nat → Int} {ka : Nat}
theorem e_isWithin {a b c : Int} (h1 : -2147483648 ≤ a) (h2 : a < 2147483648) (h3 : -2147483648 ≤ b) (h4 : b < 2147483648) (h5 : -2147483648 ≤ c) (h6 : c < 2147483648) : f_X10_isWithin σ (iI a) (iI b) (iI c) = some (bI (decide (b ≤ a ∧ a ≤ c)), σ) := by
  unfold f_X10_isWithin
  simp (disch := omega) only [obs, iI_lit, iI_add, iI_sub, iI_mul, iI_neg, iI_lt, iI_le, iI_eq, iI_divp, iI_toInt, iI_clamp, bI_0, bI_1, b_tf, Int.toNat_natCast, Int.reduceToNat, Int.toNat_zero, Int.toNat_one, modf, if_pos, if_neg, reduceIte, reduceCtorEq]
  by_cases p : a < b
  · rw [if_pos p, decide_eq_false (by omega)]; rfl
  · by_cases q : c < a
    · rw [if_neg p, if_pos q, decide_eq_false (by omega)]; rfl
    · rw [if_neg p, if_neg q, decide_eq_true (by omega)]; rfl
theorem e_isTold (h : σ ka 77 = iI (sh 77)) (h1 : 0 ≤ sh 77) (h2 : sh 77 ≤ 6) : f_X6_isTold ka σ = some (bI (decide (0 < sh 77)), σ) := by
  unfold f_X6_isTold
  simp (disch := omega) only [h, obs, iI_lit, iI_add, iI_sub, iI_mul, iI_neg, iI_lt, iI_le, iI_eq, iI_divp, iI_toInt, iI_clamp, bI_0, bI_1, b_tf, Int.toNat_natCast, Int.reduceToNat, Int.toNat_zero, Int.toNat_one, modf, if_pos, if_neg, reduceIte, reduceCtorEq]
  by_cases p : sh 77 ≤ 0
  · rw [if_pos p, decide_eq_false (by omega)]; rfl
  · rw [if_neg p, decide_eq_true (by omega)]; rfl
theorem e_hasThing (h : σ ka 76 = iI (sh 76)) (h1 : 0 ≤ sh 76) (h2 : sh 76 ≤ 8) {a : Int} (h3 : -2147483648 ≤ a) (h4 : a < 2147483648) : f_X6_hasThing ka σ (iI a) = some (bI (decide (0 ≤ a ∧ a < sh 76)), σ) := by
  unfold f_X6_hasThing
  simp (disch := omega) only [h, obs, iI_lit, iI_add, iI_sub, iI_mul, iI_neg, iI_lt, iI_le, iI_eq, iI_divp, iI_toInt, iI_clamp, bI_0, bI_1, b_tf, Int.toNat_natCast, Int.reduceToNat, Int.toNat_zero, Int.toNat_one, modf, if_pos, if_neg, reduceIte, reduceCtorEq]
  by_cases p : a < 0
  · rw [if_pos p, decide_eq_false (by omega)]; rfl
  · by_cases q : sh 76 ≤ a
    · rw [if_neg p, if_pos q, decide_eq_false (by omega)]; rfl
    · rw [if_neg p, if_neg q, decide_eq_true (by omega)]; rfl
theorem e_hasLeg (h : σ ka 77 = iI (sh 77)) (h1 : 0 ≤ sh 77) (h2 : sh 77 ≤ 6) {a : Int} (h3 : -2147483648 ≤ a) (h4 : a < 2147483648) : f_X6_hasLeg ka σ (iI a) = some (bI (decide (0 ≤ a ∧ a < sh 77)), σ) := by
  unfold f_X6_hasLeg
  simp (disch := omega) only [h, obs, iI_lit, iI_add, iI_sub, iI_mul, iI_neg, iI_lt, iI_le, iI_eq, iI_divp, iI_toInt, iI_clamp, bI_0, bI_1, b_tf, Int.toNat_natCast, Int.reduceToNat, Int.toNat_zero, Int.toNat_one, modf, if_pos, if_neg, reduceIte, reduceCtorEq]
  by_cases p : a < 0
  · rw [if_pos p, decide_eq_false (by omega)]; rfl
  · by_cases q : sh 77 ≤ a
    · rw [if_neg p, if_pos q, decide_eq_false (by omega)]; rfl
    · rw [if_neg p, if_neg q, decide_eq_true (by omega)]; rfl
theorem e_thingCell (R : RC (σ ka) sh) {t w : Int} (h1 : 0 ≤ t) (h2 : t < 8) (h3 : 0 ≤ w) (h4 : w < 5) : f_X6_thingCell ka σ (iI t) (iI w) = some (iI (tT sh t.toNat w.toNat), σ) := by
  unfold f_X6_thingCell
  simp (disch := omega) only [obs, iI_lit, iI_add, iI_sub, iI_mul, iI_neg, iI_lt, iI_le, iI_eq, iI_divp, iI_toInt, iI_clamp, bI_0, bI_1, b_tf, Int.toNat_natCast, Int.reduceToNat, Int.toNat_zero, Int.toNat_one, modf, if_pos, if_neg, reduceIte, reduceCtorEq]
  rw [R _ (by omega), show (11 + t * 5 + w).toNat = 11 + 5 * t.toNat + w.toNat by omega]
  rfl
theorem e_legCell (R : RC (σ ka) sh) {t w : Int} (h1 : 0 ≤ t) (h2 : t < 6) (h3 : 0 ≤ w) (h4 : w < 4) : f_X6_legCell ka σ (iI t) (iI w) = some (iI (tL sh t.toNat w.toNat), σ) := by
  unfold f_X6_legCell
  simp (disch := omega) only [obs, iI_lit, iI_add, iI_sub, iI_mul, iI_neg, iI_lt, iI_le, iI_eq, iI_divp, iI_toInt, iI_clamp, bI_0, bI_1, b_tf, Int.toNat_natCast, Int.reduceToNat, Int.toNat_zero, Int.toNat_one, modf, if_pos, if_neg, reduceIte, reduceCtorEq]
  rw [R _ (by omega), show (51 + t * 4 + w).toNat = 51 + 4 * t.toNat + w.toNat by omega]
  rfl
theorem e_shipCell (R : RC (σ ka) sh) {w : Int} (h3 : 0 ≤ w) (h4 : w < 5) : f_X6_shipCell ka σ (iI w) = some (iI (sh w.toNat), σ) := by
  unfold f_X6_shipCell
  simp (disch := omega) only [obs, iI_lit, iI_add, iI_sub, iI_mul, iI_neg, iI_lt, iI_le, iI_eq, iI_divp, iI_toInt, iI_clamp, bI_0, bI_1, b_tf, Int.toNat_natCast, Int.reduceToNat, Int.toNat_zero, Int.toNat_one, modf, if_pos, if_neg, reduceIte, reduceCtorEq]
  rw [R _ (by omega)]
theorem e_heightCell (R : RC (σ ka) sh) {w : Int} (h3 : 0 ≤ w) (h4 : w < 6) : f_X6_heightCell ka σ (iI w) = some (iI (sh (5 + w.toNat)), σ) := by
  unfold f_X6_heightCell
  simp (disch := omega) only [obs, iI_lit, iI_add, iI_sub, iI_mul, iI_neg, iI_lt, iI_le, iI_eq, iI_divp, iI_toInt, iI_clamp, bI_0, bI_1, b_tf, Int.toNat_natCast, Int.reduceToNat, Int.toNat_zero, Int.toNat_one, modf, if_pos, if_neg, reduceIte, reduceCtorEq]
  rw [R _ (by omega), show (5 + w).toNat = 5 + w.toNat by omega]
theorem e_heightCount (R : RC (σ ka) sh) : f_X6_heightCount ka σ = some (iI (sh 75), σ) := by
  unfold f_X6_heightCount
  rw [R _ (by omega)]
theorem e_thingCount (R : RC (σ ka) sh) : f_X6_thingCount ka σ = some (iI (sh 76), σ) := by
  unfold f_X6_thingCount
  rw [R _ (by omega)]
theorem e_legCount (R : RC (σ ka) sh) : f_X6_legCount ka σ = some (iI (sh 77), σ) := by
  unfold f_X6_legCount
  rw [R _ (by omega)]
theorem e_isMark (R : RC (σ ka) sh) (h1 : 0 ≤ sh 76) (h2 : sh 76 ≤ 8) (hv : ∀ k : Nat, (k : Int) < sh 76 → ValT sh k) {a : Int} (h3 : -2147483648 ≤ a) (h4 : a < 2147483648) : f_X6_isMark ka σ (iI a) = some (bI (isMk sh a), σ) := by
  unfold f_X6_isMark isMk
  by_cases p : 0 ≤ a ∧ a < sh 76
  · have hT := hv a.toNat (by omega)
    unfold ValT at hT
    simp (disch := omega) only [e_hasThing (R 76 (by omega)) h1 h2 h3 h4, decide_eq_true p, bI_t, e_thingCell R, p.1, p.2, decide_true, Bool.true_and, obs, iI_lit, iI_add, iI_sub, iI_mul, iI_neg, iI_lt, iI_le, iI_eq, iI_divp, iI_toInt, iI_clamp, bI_0, bI_1, b_tf, Int.toNat_natCast, Int.reduceToNat, Int.toNat_zero, Int.toNat_one, modf, if_pos, if_neg, reduceIte, reduceCtorEq]
    exact bz (by rw [decide_eq_false_iff_not]; omega)
  · simp (disch := omega) only [e_hasThing (R 76 (by omega)) h1 h2 h3 h4, decide_eq_false p, bI_f, obs, iI_lit, iI_add, iI_sub, iI_mul, iI_neg, iI_lt, iI_le, iI_eq, iI_divp, iI_toInt, iI_clamp, bI_0, bI_1, b_tf, Int.toNat_natCast, Int.reduceToNat, Int.toNat_zero, Int.toNat_one, modf, if_pos, if_neg, reduceIte, reduceCtorEq]
    by_cases q : 0 ≤ a
    · rw [decide_eq_true q, decide_eq_false (p := a < sh 76) (by omega)]; rfl
    · rw [decide_eq_false q]; rfl
end SH
