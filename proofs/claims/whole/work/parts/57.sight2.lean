section SI2
variable {σ : St} {sh : Nat → Int}
def mX (sh : Nat → Int) (k : Nat) (h : Int) : Int := tT sh k 1 + (if tT sh k 0 = 3 then h / 4 else 0)
def sq (a b : Int) : Int := a * a + b * b
def seenZ (sh : Nat → Int) (o : Nat → Bool) (k : Nat) (x y h : Int) : Bool := !o k && (if tT sh k 0 = 1 then decide (sq (x - mX sh k h) (y - tT sh k 2) ≤ 400) else if tT sh k 0 = 2 then secM (tT sh k 3).toNat (tT sh k 4).toNat (x - tT sh k 1) (y - tT sh k 2) else decide (sq (x - mX sh k h) (y - tT sh k 2) ≤ 100))
/-- which marks are out, as bits -/
def OutB (b : Int32) (o : Nat → Bool) : Prop := ∀ k : Nat, k < 8 → ((b >>> (iI k &&& iI 31)) &&& iI 1) = bI (o k)
theorem sqb2 {a b : Int} (h1 : -300 ≤ a ∧ a ≤ 300) (h2 : -300 ≤ b ∧ b ≤ 300) : 0 ≤ sq a b ∧ sq a b ≤ 180000 := by
  have := sqb h1.1 h1.2
  have := sqb h2.1 h2.2
  unfold sq
  omega
theorem e_markX (R : RC (σ 14) sh) (V : Val sh) {k : Nat} (hk : (k : Int) < sh 76) {h : Int} (h0 : 0 ≤ h) (h1 : h ≤ 100) : f_X1_markX σ (iI k) (iI h) = some (iI (mX sh k h), σ) := by
  have T := V.2.2.2.2.2.2.1 k hk
  have h8 := V.2.2.1
  unfold ValT at T
  unfold f_X1_markX f_X1_markX_p20 mX
  by_cases p : tT sh k 0 = 3
  · simp (disch := omega) only [e_thingCell R, p, obs, iI_lit, iI_add, iI_sub, iI_mul, iI_neg, iI_lt, iI_le, iI_eq, iI_divp, iI_toInt, iI_clamp, bI_0, bI_1, b_tf, Int.toNat_natCast, Int.reduceToNat, Int.toNat_zero, Int.toNat_one, modf, if_pos, if_neg, reduceIte, reduceCtorEq]
  · simp (disch := omega) only [e_thingCell R, p, obs, iI_lit, iI_add, iI_sub, iI_mul, iI_neg, iI_lt, iI_le, iI_eq, iI_divp, iI_toInt, iI_clamp, bI_0, bI_1, b_tf, Int.toNat_natCast, Int.reduceToNat, Int.toNat_zero, Int.toNat_one, modf, if_pos, if_neg, reduceIte, reduceCtorEq]
theorem mX_b (V : Val sh) {k : Nat} (hk : (k : Int) < sh 76) {h : Int} (h0 : 0 ≤ h) (h1 : h ≤ 100) : 0 ≤ mX sh k h ∧ mX sh k h ≤ 85 := by
  have T := V.2.2.2.2.2.2.1 k hk
  unfold ValT at T
  unfold mX
  split <;> omega
theorem e_isInSight (R : RC (σ 14) sh) (V : Val sh) {k : Nat} (hk : (k : Int) < sh 76) (hm : tT sh k 0 ≤ 3) {h : Int} (h0 : 0 ≤ h) (h1 : h ≤ 100) {x y : Int} (hx : -100 ≤ x ∧ x ≤ 100) (hy : -100 ≤ y ∧ y ≤ 100) {ob : Int32} {o : Nat → Bool} (hO : OutB ob o) : f_X1_isInSight σ (iI k) (iI x) (iI y) (iI h) ob = some (bI (seenZ sh o k x y h), σ) := by
  have T := V.2.2.2.2.2.2.1 k hk
  have h8 := V.2.2.1
  have M := mX_b V hk h0 h1
  have hok := hO k (by omega)
  unfold ValT at T
  have sb := sqb2 (a := x - mX sh k h) (b := y - tT sh k 2) (by omega) (by omega)
  unfold f_X1_isInSight seenZ
  cases hk2 : o k
  · rw [hk2, bI_f] at hok
    have sqd : sq (x - mX sh k h) (y - tT sh k 2) = (x - mX sh k h) * (x - mX sh k h) + (y - tT sh k 2) * (y - tT sh k 2) := rfl
    rw [sqd] at sb ⊢
    simp (disch := omega) only [hok, e_markX R V hk h0 h1, e_thingCell R, obs, iI_lit, iI_add, iI_sub, iI_mul, iI_neg, iI_lt, iI_le, iI_eq, iI_divp, iI_toInt, iI_clamp, bI_0, bI_1, b_tf, Int.toNat_natCast, Int.reduceToNat, Int.toNat_zero, Int.toNat_one, modf, if_pos, if_neg, reduceIte, reduceCtorEq]
    by_cases p1 : tT sh k 0 = 1
    · simp (disch := omega) only [p1, Bool.not_false, Bool.true_and, obs, iI_lit, iI_add, iI_sub, iI_mul, iI_neg, iI_lt, iI_le, iI_eq, iI_divp, iI_toInt, iI_clamp, bI_0, bI_1, b_tf, Int.toNat_natCast, Int.reduceToNat, Int.toNat_zero, Int.toNat_one, modf, if_pos, if_neg, reduceIte, reduceCtorEq]
      exact bz (by rw [decide_eq_false_iff_not]; omega)
    · by_cases p2 : tT sh k 0 = 2
      · have em : mX sh k h = tT sh k 1 := by unfold mX; rw [if_neg (by omega)]; omega
        have e3 := e_isInSector (σ := σ) (a := tT sh k 3) (b := tT sh k 4) (e := x - tT sh k 1) (n := y - tT sh k 2) (by omega) (by omega) (by omega) (by omega) (by omega) (by omega)
        rw [sec_eq (by omega) (by omega)] at e3
        rw [em]
        simp (disch := omega) only [p2, e3, Bool.not_false, Bool.true_and, obs, iI_lit, iI_add, iI_sub, iI_mul, iI_neg, iI_lt, iI_le, iI_eq, iI_divp, iI_toInt, iI_clamp, bI_0, bI_1, b_tf, Int.toNat_natCast, Int.reduceToNat, Int.toNat_zero, Int.toNat_one, modf, if_pos, if_neg, reduceIte, reduceCtorEq]

      · simp (disch := omega) only [p1, p2, Bool.not_false, Bool.true_and, obs, iI_lit, iI_add, iI_sub, iI_mul, iI_neg, iI_lt, iI_le, iI_eq, iI_divp, iI_toInt, iI_clamp, bI_0, bI_1, b_tf, Int.toNat_natCast, Int.reduceToNat, Int.toNat_zero, Int.toNat_one, modf, if_pos, if_neg, reduceIte, reduceCtorEq]
        exact bz (by rw [decide_eq_false_iff_not]; omega)
  · rw [hk2, bI_t] at hok
    simp (disch := omega) only [hok, Bool.not_true, Bool.false_and, obs, iI_lit, iI_add, iI_sub, iI_mul, iI_neg, iI_lt, iI_le, iI_eq, iI_divp, iI_toInt, iI_clamp, bI_0, bI_1, b_tf, Int.toNat_natCast, Int.reduceToNat, Int.toNat_zero, Int.toNat_one, modf, if_pos, if_neg, reduceIte, reduceCtorEq]
    rfl
end SI2
section MB
variable {σ : St} {sh : Nat → Int}
theorem cmp_w (a b : Int32) : (lg_cmp a.toInt64 b.toInt64 < 0 ↔ a < b) ∧ (0 < lg_cmp a.toInt64 b.toInt64 ↔ b < a) := by
  unfold lg_cmp
  simp only [gt_iff_lt, Int64.lt_iff_toInt_lt, ← Int64.toInt_inj, Int32.toInt_toInt64, Int32.lt_iff_toInt_lt]
  constructor
  · split
    · constructor
      · intro h; exact absurd h (by decide)
      · intro h; omega
    · split
      · constructor
        · intro h; exact absurd h (by decide)
        · intro h; omega
      · constructor
        · intro h; omega
        · intro h; decide
  · split
    · constructor
      · intro h; assumption
      · intro h; decide
    · split
      · constructor
        · intro h; exact absurd h (by decide)
        · intro h; omega
      · constructor
        · intro h; exact absurd h (by decide)
        · intro h; omega
theorem e_in {a b c : Int} (h1 : -2147483648 ≤ a) (h2 : a < 2147483648) (h3 : -2147483648 ≤ b) (h4 : b < 2147483648) (h5 : -2147483648 ≤ c) (h6 : c < 2147483648) : f_X11_in σ (iI a).toInt64 (iI b).toInt64 (iI c).toInt64 = some (bI (decide (b ≤ a ∧ a ≤ c)), σ) := by
  unfold f_X11_in
  simp only [(cmp_w _ _).1, (cmp_w _ _).2]
  simp (disch := omega) only [obs, iI_lit, iI_add, iI_sub, iI_mul, iI_neg, iI_lt, iI_le, iI_eq, iI_divp, iI_toInt, iI_clamp, bI_0, bI_1, b_tf, Int.toNat_natCast, Int.reduceToNat, Int.toNat_zero, Int.toNat_one, modf, if_pos, if_neg, reduceIte, reduceCtorEq]
  by_cases p : a < b
  · rw [if_pos p, decide_eq_false (by omega)]; rfl
  · by_cases q : c < a
    · rw [if_neg p, if_pos q, decide_eq_false (by omega)]; rfl
    · rw [if_neg p, if_neg q, decide_eq_true (by omega)]; rfl
theorem L0 : (0 : Int64) = (iI 0).toInt64 := by decide
theorem L1 : (1 : Int64) = (iI 1).toInt64 := by decide
theorem L2 : (2 : Int64) = (iI 2).toInt64 := by decide
theorem L3 : (3 : Int64) = (iI 3).toInt64 := by decide
theorem L4 : (4 : Int64) = (iI 4).toInt64 := by decide
theorem L6 : (6 : Int64) = (iI 6).toInt64 := by decide
theorem L7 : (7 : Int64) = (iI 7).toInt64 := by decide
theorem L10 : (10 : Int64) = (iI 10).toInt64 := by decide
theorem L12 : (12 : Int64) = (iI 12).toInt64 := by decide
theorem L15 : (15 : Int64) = (iI 15).toInt64 := by decide
theorem L20 : (20 : Int64) = (iI 20).toInt64 := by decide
theorem L48 : (48 : Int64) = (iI 48).toInt64 := by decide
theorem L57 : (57 : Int64) = (iI 57).toInt64 := by decide
theorem L60 : (60 : Int64) = (iI 60).toInt64 := by decide
theorem L97 : (97 : Int64) = (iI 97).toInt64 := by decide
theorem L99 : (99 : Int64) = (iI 99).toInt64 := by decide
theorem L122 : (122 : Int64) = (iI 122).toInt64 := by decide
theorem L255 : (255 : Int64) = (iI 255).toInt64 := by decide
theorem L9999 : (9999 : Int64) = (iI 9999).toInt64 := by decide
theorem L999999 : (999999 : Int64) = (iI 999999).toInt64 := by decide
end MB
