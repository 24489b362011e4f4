/-! THE INVARIANT: the class's cells and the reference's say the same. -/
def SH (r w : Nat → Int32) (o : Nat) : Prop := ∃ sh, Val sh ∧ RC r sh ∧ RM w o sh
def Un (σ : St) : Prop := σ 14 75 = iI 0 ∧ σ 14 76 = iI 0 ∧ σ 14 77 = iI 0 ∧ σ 27 0 = iI 0 ∧ σ 27 6 = iI 0 ∧ σ 27 13 = iI 0 ∧ σ 27 54 = iI 0
def IvT (σ : St) : Prop := ∃ n : Nat, n ≤ 160 ∧ σ 1 1 = iI n ∧ σ 26 4 = iI n ∧ ∀ j, j < n → ∃ b : Int, (0 ≤ b ∧ b ≤ 255) ∧ σ 13 j = iI b ∧ σ 29 j = iI b
def IvS (σ : St) : Prop := Un σ ∨ SH (σ 14) (σ 27) 0
def IvI (σ : St) : Prop := ((σ 15 77 = iI 0 ∧ σ 28 0 = iI 0) ∨ (σ 28 0 = iI 1 ∧ SH (σ 15) (σ 27) 79)) ∧ ((σ 16 77 = iI 0 ∧ σ 28 1 = iI 0) ∨ (σ 28 1 = iI 1 ∧ SH (σ 16) (σ 27) 158))
def IvH (σ : St) : Prop := ∃ nx sz : Nat, nx < 20 ∧ sz ≤ 20 ∧ σ 4 1 = iI nx ∧ σ 4 2 = iI sz ∧ σ 26 2 = iI sz ∧ ∀ i, i < sz → SH (fun j => σ 18 (78 * ((nx + 20 - sz + i) % 20) + j)) (σ 27) (237 + 79 * i)
def IvC (σ : St) : Prop := (∀ i, i < 16 → σ 30 i = iI (eZ.getD i 0)) ∧ (∀ i, i < 16 → σ 31 i = iI (nZ.getD i 0)) ∧ σ 26 13 = iI 0
def Inv (σ : St) : Prop := IvT σ ∧ σ 26 5 = σ 0 10 ∧ IvS σ ∧ IvI σ ∧ IvH σ ∧ IvC σ
/-- the cells that the invariant speaks of -/
def kept (k : Nat) : Bool := k == 0 || k == 1 || k == 4 || k == 13 || k == 14 || k == 15 || k == 16 || k == 18 || k == 27 || k == 28 || k == 29 || k == 30 || k == 31
section IV
variable {σ τ : St} {sh : Nat → Int}
theorem Inv_same (h : Inv σ) (hk : ∀ k, kept k = true → τ k = σ k) (hj : τ 26 2 = σ 26 2 ∧ τ 26 4 = σ 26 4 ∧ τ 26 5 = σ 26 5 ∧ τ 26 13 = σ 26 13) : Inv τ := by
  unfold Inv IvT IvS Un IvI IvH IvC at *
  rw [hk 0 rfl, hk 1 rfl, hk 4 rfl, hk 13 rfl, hk 14 rfl, hk 15 rfl, hk 16 rfl, hk 18 rfl, hk 27 rfl, hk 28 rfl, hk 29 rfl, hk 30 rfl, hk 31 rfl, hj.1, hj.2.1, hj.2.2.1, hj.2.2.2]
  exact h
theorem iv_sheet (h : Inv σ) : Un σ ∨ ∃ sh, Val sh ∧ RC (σ 14) sh ∧ MR σ sh := by
  obtain ⟨-, -, hs, -, -, hc⟩ := h
  rcases hs with hs | ⟨sh, V, R, W⟩
  · exact Or.inl hs
  · exact Or.inr ⟨sh, V, R, W, hc.1, hc.2.1⟩
theorem iv_out (h : Inv σ) : σ 26 13 = iI 0 := h.2.2.2.2.2.2.2
theorem OutB0 : OutB (iI 0) (fun _ => false) := by
  intro k hk
  have : k = 0 ∨ k = 1 ∨ k = 2 ∨ k = 3 ∨ k = 4 ∨ k = 5 ∨ k = 6 ∨ k = 7 := by omega
  rcases this with h | h | h | h | h | h | h | h <;> subst h <;> decide
theorem told_t (V : Val sh) (R : RC (σ 14) sh) : f_X6_isTold 14 σ = some (iI 1, σ) := by
  have h6 := V.1
  rw [e_isTold (R 77 (by decide)) (by omega) (by omega), decide_eq_true (by omega)]
  rfl
theorem told_u (h : Un σ) : f_X6_isTold 14 σ = some (iI 0, σ) := by
  unfold f_X6_isTold
  simp (disch := omega) only [h.2.2.1, obs, iI_lit, iI_add, iI_sub, iI_mul, iI_neg, iI_lt, iI_le, iI_eq, iI_divp, iI_toInt, iI_clamp, bI_0, bI_1, b_tf, Int.toNat_natCast, Int.reduceToNat, Int.toNat_zero, Int.toNat_one, modf, if_pos, if_neg, reduceIte, reduceCtorEq]
theorem sheet_u (h : Un σ) : f_X11_isSheet σ = some (iI 0, σ) := by
  unfold f_X11_isSheet
  simp (disch := omega) only [h.2.2.2.1, obs, iI_lit, iI_add, iI_sub, iI_mul, iI_neg, iI_lt, iI_le, iI_eq, iI_divp, iI_toInt, iI_clamp, bI_0, bI_1, b_tf, Int.toNat_natCast, Int.reduceToNat, Int.toNat_zero, Int.toNat_one, modf, if_pos, if_neg, reduceIte, reduceCtorEq]
theorem hasThing_u (h : Un σ) (a : Int32) : f_X6_hasThing 14 σ a = some (iI 0, σ) := by
  obtain ⟨z, rfl, z1, z2⟩ := iI_ex a
  rw [e_hasThing (sh := fun _ => 0) h.2.1 (by decide) (by decide) z1 z2, decide_eq_false (by show ¬ (0 ≤ z ∧ z < 0); omega)]
  rfl
theorem isThing_u (h : Un σ) (a : Int32) : f_X11_isThing σ a = some (iI 0, σ) := by
  obtain ⟨z, rfl, z1, z2⟩ := iI_ex a
  unfold f_X11_isThing
  simp (disch := omega) only [h.2.2.2.2.2.1, L0, e_in, obs, iI_lit, iI_add, iI_sub, iI_mul, iI_neg, iI_lt, iI_le, iI_eq, iI_divp, iI_toInt, iI_clamp, bI_0, bI_1, b_tf, Int.toNat_natCast, Int.reduceToNat, Int.toNat_zero, Int.toNat_one, modf, if_pos, if_neg, reduceIte, reduceCtorEq]
  rw [decide_eq_false (by omega)]; rfl
theorem hasLeg_u (h : Un σ) (a : Int32) : f_X6_hasLeg 14 σ a = some (iI 0, σ) := by
  obtain ⟨z, rfl, z1, z2⟩ := iI_ex a
  rw [e_hasLeg (sh := fun _ => 0) h.2.2.1 (by decide) (by decide) z1 z2, decide_eq_false (by show ¬ (0 ≤ z ∧ z < 0); omega)]
  rfl
theorem isLeg_u (h : Un σ) (a : Int32) : f_X11_isLeg σ a = some (iI 0, σ) := by
  obtain ⟨z, rfl, z1, z2⟩ := iI_ex a
  unfold f_X11_isLeg
  simp (disch := omega) only [h.2.2.2.2.2.2, L0, e_in, obs, iI_lit, iI_add, iI_sub, iI_mul, iI_neg, iI_lt, iI_le, iI_eq, iI_divp, iI_toInt, iI_clamp, bI_0, bI_1, b_tf, Int.toNat_natCast, Int.reduceToNat, Int.toNat_zero, Int.toNat_one, modf, if_pos, if_neg, reduceIte, reduceCtorEq]
  rw [decide_eq_false (by omega)]; rfl
theorem w_charted {x y : Int} (h1 : -2147483648 ≤ x) (h2 : x < 2147483648) (h3 : -2147483648 ≤ y) (h4 : y < 2147483648) : f_X1_isCharted τ (iI x) (iI y) = some (bI (chZ x y), τ) := by
  unfold f_X1_isCharted chZ
  simp (disch := omega) only [obs, iI_lit, iI_add, iI_sub, iI_mul, iI_neg, iI_lt, iI_le, iI_eq, iI_divp, iI_toInt, iI_clamp, bI_0, bI_1, b_tf, Int.toNat_natCast, Int.reduceToNat, Int.toNat_zero, Int.toNat_one, modf, if_pos, if_neg, reduceIte, reduceCtorEq]
  by_cases p1 : x < 0
  · rw [if_pos p1, decide_eq_false (by omega)]; rfl
  · by_cases p2 : 60 < x
    · rw [if_neg p1, if_pos p2, decide_eq_false (by omega)]; rfl
    · by_cases p3 : y < 0
      · rw [if_neg p1, if_neg p2, if_pos p3, decide_eq_false (by omega)]; rfl
      · rw [if_neg p1, if_neg p2, if_neg p3]
        exact bz (by rw [decide_eq_false_iff_not]; omega)
theorem w_isPlace {x y : Int} (h1 : -2147483648 ≤ x) (h2 : x < 2147483648) (h3 : -2147483648 ≤ y) (h4 : y < 2147483648) : f_X11_isPlace τ (iI x) (iI y) = some (bI (chZ x y), τ) := by
  unfold f_X11_isPlace chZ
  simp (disch := omega) only [L0, L60, e_in, obs, iI_lit, iI_add, iI_sub, iI_mul, iI_neg, iI_lt, iI_le, iI_eq, iI_divp, iI_toInt, iI_clamp, bI_0, bI_1, b_tf, Int.toNat_natCast, Int.reduceToNat, Int.toNat_zero, Int.toNat_one, modf, if_pos, if_neg, reduceIte, reduceCtorEq]
  by_cases p1 : 0 ≤ x ∧ x ≤ 60
  · by_cases p2 : 0 ≤ y ∧ y ≤ 60
    · rw [decide_eq_true p1, decide_eq_true p2, decide_eq_true ⟨p1.1, p1.2, p2⟩]; rfl
    · rw [decide_eq_true p1, decide_eq_false p2, decide_eq_false (fun h => p2 h.2.2)]; rfl
  · rw [decide_eq_false p1, decide_eq_false (show ¬ (0 ≤ x ∧ x ≤ 60 ∧ 0 ≤ y ∧ y ≤ 60) from fun h => p1 ⟨h.1, h.2.1⟩)]; rfl
theorem ch_t {x y : Int} (h : chZ x y = true) : 0 ≤ x ∧ x ≤ 60 ∧ 0 ≤ y ∧ y ≤ 60 := by
  unfold chZ at h
  exact decide_eq_true_eq.mp h
theorem w_isMinute {z : Int} (h1 : -2147483648 ≤ z) (h2 : z < 2147483648) : f_X11_isMinute τ (iI z) = some (bI (decide (0 ≤ z ∧ z ≤ 9999)), τ) := by
  unfold f_X11_isMinute
  simp (disch := omega) only [L0, L9999, e_in, obs, iI_lit, iI_add, iI_sub, iI_mul, iI_neg, iI_lt, iI_le, iI_eq, iI_divp, iI_toInt, iI_clamp, bI_0, bI_1, b_tf, Int.toNat_natCast, Int.reduceToNat, Int.toNat_zero, Int.toNat_one, modf, if_pos, if_neg, reduceIte, reduceCtorEq]
theorem w_isStart {z : Int} (h1 : -2147483648 ≤ z) (h2 : z < 2147483648) : f_X11_isStart τ (iI z) = some (bI (decide (0 ≤ z ∧ z ≤ 99)), τ) := by
  unfold f_X11_isStart
  simp (disch := omega) only [L0, L99, e_in, obs, iI_lit, iI_add, iI_sub, iI_mul, iI_neg, iI_lt, iI_le, iI_eq, iI_divp, iI_toInt, iI_clamp, bI_0, bI_1, b_tf, Int.toNat_natCast, Int.reduceToNat, Int.toNat_zero, Int.toNat_one, modf, if_pos, if_neg, reduceIte, reduceCtorEq]
theorem w_isStart0 {z : Int} (h1 : -2147483648 ≤ z) (h2 : z < 2147483648) : f_X10_isStart τ (iI z) = some (bI (decide (0 ≤ z ∧ z ≤ 99)), τ) := by
  unfold f_X10_isStart
  simp (disch := omega) only [e_isWithin, obs, iI_lit, iI_add, iI_sub, iI_mul, iI_neg, iI_lt, iI_le, iI_eq, iI_divp, iI_toInt, iI_clamp, bI_0, bI_1, b_tf, Int.toNat_natCast, Int.reduceToNat, Int.toNat_zero, Int.toNat_one, modf, if_pos, if_neg, reduceIte, reduceCtorEq]
theorem p_fault : P_fault Inv := fun σ h => ⟨(σ 0 10, σ), (σ 26 5, σ), rfl, rfl, h.2.1.symm, h⟩
theorem p_height : P_height Inv := by
  intro σ a1 h
  obtain ⟨z, rfl, z1, z2⟩ := iI_ex a1
  rcases iv_sheet h with u | ⟨sh, V, R, M⟩
  · refine ⟨(iI (-1000002), σ), (iI (-1000002), σ), ?_, ?_, rfl, h⟩
    · unfold f_X10_height; simp (disch := omega) only [told_u u, obs, iI_lit, iI_add, iI_sub, iI_mul, iI_neg, iI_lt, iI_le, iI_eq, iI_divp, iI_toInt, iI_clamp, bI_0, bI_1, b_tf, Int.toNat_natCast, Int.reduceToNat, Int.toNat_zero, Int.toNat_one, modf, if_pos, if_neg, reduceIte, reduceCtorEq]
    · unfold f_X11_height; simp (disch := omega) only [sheet_u u, obs, iI_lit, iI_add, iI_sub, iI_mul, iI_neg, iI_lt, iI_le, iI_eq, iI_divp, iI_toInt, iI_clamp, bI_0, bI_1, b_tf, Int.toNat_natCast, Int.reduceToNat, Int.toNat_zero, Int.toNat_one, modf, if_pos, if_neg, reduceIte, reduceCtorEq]
  · by_cases p : 0 ≤ z ∧ z ≤ 9999
    · refine ⟨(iI (tideZ sh z), σ), (iI (tideZ sh z), σ), ?_, ?_, rfl, h⟩
      · unfold f_X10_height; simp (disch := omega) only [told_t V R, e_isWithin, decide_eq_true p, bI_t, e_heightAt R V, obs, iI_lit, iI_add, iI_sub, iI_mul, iI_neg, iI_lt, iI_le, iI_eq, iI_divp, iI_toInt, iI_clamp, bI_0, bI_1, b_tf, Int.toNat_natCast, Int.reduceToNat, Int.toNat_zero, Int.toNat_one, modf, if_pos, if_neg, reduceIte, reduceCtorEq]
      · unfold f_X11_height; simp (disch := omega) only [m_isSheet M, w_isMinute z1 z2, decide_eq_true p, bI_t, m_tideAt M V, obs, iI_lit, iI_add, iI_sub, iI_mul, iI_neg, iI_lt, iI_le, iI_eq, iI_divp, iI_toInt, iI_clamp, bI_0, bI_1, b_tf, Int.toNat_natCast, Int.reduceToNat, Int.toNat_zero, Int.toNat_one, modf, if_pos, if_neg, reduceIte, reduceCtorEq]
    · refine ⟨(iI (-1000001), σ), (iI (-1000001), σ), ?_, ?_, rfl, h⟩
      · unfold f_X10_height; simp (disch := omega) only [told_t V R, e_isWithin, decide_eq_false p, bI_f, obs, iI_lit, iI_add, iI_sub, iI_mul, iI_neg, iI_lt, iI_le, iI_eq, iI_divp, iI_toInt, iI_clamp, bI_0, bI_1, b_tf, Int.toNat_natCast, Int.reduceToNat, Int.toNat_zero, Int.toNat_one, modf, if_pos, if_neg, reduceIte, reduceCtorEq]
      · unfold f_X11_height; simp (disch := omega) only [m_isSheet M, w_isMinute z1 z2, decide_eq_false p, bI_f, obs, iI_lit, iI_add, iI_sub, iI_mul, iI_neg, iI_lt, iI_le, iI_eq, iI_divp, iI_toInt, iI_clamp, bI_0, bI_1, b_tf, Int.toNat_natCast, Int.reduceToNat, Int.toNat_zero, Int.toNat_one, modf, if_pos, if_neg, reduceIte, reduceCtorEq]
theorem p_water : P_water Inv := by
  intro σ a1 a2 a3 h
  obtain ⟨x, rfl, x1, x2⟩ := iI_ex a1
  obtain ⟨y, rfl, y1, y2⟩ := iI_ex a2
  obtain ⟨z, rfl, z1, z2⟩ := iI_ex a3
  rcases iv_sheet h with u | ⟨sh, V, R, M⟩
  · refine ⟨(iI (-1000002), σ), (iI (-1000002), σ), ?_, ?_, rfl, h⟩
    · unfold f_X10_water; simp (disch := omega) only [told_u u, obs, iI_lit, iI_add, iI_sub, iI_mul, iI_neg, iI_lt, iI_le, iI_eq, iI_divp, iI_toInt, iI_clamp, bI_0, bI_1, b_tf, Int.toNat_natCast, Int.reduceToNat, Int.toNat_zero, Int.toNat_one, modf, if_pos, if_neg, reduceIte, reduceCtorEq]
    · unfold f_X11_water; simp (disch := omega) only [sheet_u u, obs, iI_lit, iI_add, iI_sub, iI_mul, iI_neg, iI_lt, iI_le, iI_eq, iI_divp, iI_toInt, iI_clamp, bI_0, bI_1, b_tf, Int.toNat_natCast, Int.reduceToNat, Int.toNat_zero, Int.toNat_one, modf, if_pos, if_neg, reduceIte, reduceCtorEq]
  · cases hc : chZ x y
    · refine ⟨(iI (-1000001), σ), (iI (-1000001), σ), ?_, ?_, rfl, h⟩
      · unfold f_X10_water; simp (disch := omega) only [told_t V R, w_charted x1 x2 y1 y2, hc, obs, iI_lit, iI_add, iI_sub, iI_mul, iI_neg, iI_lt, iI_le, iI_eq, iI_divp, iI_toInt, iI_clamp, bI_0, bI_1, b_tf, Int.toNat_natCast, Int.reduceToNat, Int.toNat_zero, Int.toNat_one, modf, if_pos, if_neg, reduceIte, reduceCtorEq]
      · unfold f_X11_water; simp (disch := omega) only [m_isSheet M, w_isPlace x1 x2 y1 y2, hc, obs, iI_lit, iI_add, iI_sub, iI_mul, iI_neg, iI_lt, iI_le, iI_eq, iI_divp, iI_toInt, iI_clamp, bI_0, bI_1, b_tf, Int.toNat_natCast, Int.reduceToNat, Int.toNat_zero, Int.toNat_one, modf, if_pos, if_neg, reduceIte, reduceCtorEq]
    · have c := ch_t hc
      have dx : -100 ≤ x ∧ x ≤ 100 := by omega
      have dy : -100 ≤ y ∧ y ≤ 100 := by omega
      by_cases p : 0 ≤ z ∧ z ≤ 1
      · by_cases q : z = 0
        · refine ⟨(iI (depZ sh x y), σ), (iI (depZ sh x y), σ), ?_, ?_, rfl, h⟩
          · unfold f_X10_water; simp (disch := omega) only [told_t V R, w_charted x1 x2 y1 y2, hc, e_isWithin, decide_eq_true p, e_depthAt R V dx dy, obs, iI_lit, iI_add, iI_sub, iI_mul, iI_neg, iI_lt, iI_le, iI_eq, iI_divp, iI_toInt, iI_clamp, bI_0, bI_1, b_tf, Int.toNat_natCast, Int.reduceToNat, Int.toNat_zero, Int.toNat_one, modf, if_pos, if_neg, reduceIte, reduceCtorEq]
          · unfold f_X11_water; simp (disch := omega) only [m_isSheet M, w_isPlace x1 x2 y1 y2, hc, L0, L1, e_in, decide_eq_true p, m_charted M V dx dy, obs, iI_lit, iI_add, iI_sub, iI_mul, iI_neg, iI_lt, iI_le, iI_eq, iI_divp, iI_toInt, iI_clamp, bI_0, bI_1, b_tf, Int.toNat_natCast, Int.reduceToNat, Int.toNat_zero, Int.toNat_one, modf, if_pos, if_neg, reduceIte, reduceCtorEq]
        · refine ⟨(iI (shoZ sh x y), σ), (iI (shoZ sh x y), σ), ?_, ?_, rfl, h⟩
          · unfold f_X10_water; simp (disch := omega) only [told_t V R, w_charted x1 x2 y1 y2, hc, e_isWithin, decide_eq_true p, e_firstShoalAt R V dx dy, obs, iI_lit, iI_add, iI_sub, iI_mul, iI_neg, iI_lt, iI_le, iI_eq, iI_divp, iI_toInt, iI_clamp, bI_0, bI_1, b_tf, Int.toNat_natCast, Int.reduceToNat, Int.toNat_zero, Int.toNat_one, modf, if_pos, if_neg, reduceIte, reduceCtorEq]
          · unfold f_X11_water; simp (disch := omega) only [m_isSheet M, w_isPlace x1 x2 y1 y2, hc, L0, L1, e_in, decide_eq_true p, m_shoalAt M V dx dy, obs, iI_lit, iI_add, iI_sub, iI_mul, iI_neg, iI_lt, iI_le, iI_eq, iI_divp, iI_toInt, iI_clamp, bI_0, bI_1, b_tf, Int.toNat_natCast, Int.reduceToNat, Int.toNat_zero, Int.toNat_one, modf, if_pos, if_neg, reduceIte, reduceCtorEq]
      · refine ⟨(iI (-1000001), σ), (iI (-1000001), σ), ?_, ?_, rfl, h⟩
        · unfold f_X10_water; simp (disch := omega) only [told_t V R, w_charted x1 x2 y1 y2, hc, e_isWithin, decide_eq_false p, obs, iI_lit, iI_add, iI_sub, iI_mul, iI_neg, iI_lt, iI_le, iI_eq, iI_divp, iI_toInt, iI_clamp, bI_0, bI_1, b_tf, Int.toNat_natCast, Int.reduceToNat, Int.toNat_zero, Int.toNat_one, modf, if_pos, if_neg, reduceIte, reduceCtorEq]
        · unfold f_X11_water; simp (disch := omega) only [m_isSheet M, w_isPlace x1 x2 y1 y2, hc, L0, L1, e_in, decide_eq_false p, obs, iI_lit, iI_add, iI_sub, iI_mul, iI_neg, iI_lt, iI_le, iI_eq, iI_divp, iI_toInt, iI_clamp, bI_0, bI_1, b_tf, Int.toNat_natCast, Int.reduceToNat, Int.toNat_zero, Int.toNat_one, modf, if_pos, if_neg, reduceIte, reduceCtorEq]
theorem p_mark : P_mark Inv := by
  intro σ a1 a2 a3 h
  obtain ⟨x, rfl, x1, x2⟩ := iI_ex a1
  obtain ⟨y, rfl, y1, y2⟩ := iI_ex a2
  obtain ⟨z, rfl, z1, z2⟩ := iI_ex a3
  rcases iv_sheet h with u | ⟨sh, V, R, M⟩
  · refine ⟨(iI (-1000001), σ), (iI (-1000001), σ), ?_, ?_, rfl, h⟩
    · unfold f_X10_mark; simp (disch := omega) only [hasThing_u u, obs, iI_lit, iI_add, iI_sub, iI_mul, iI_neg, iI_lt, iI_le, iI_eq, iI_divp, iI_toInt, iI_clamp, bI_0, bI_1, b_tf, Int.toNat_natCast, Int.reduceToNat, Int.toNat_zero, Int.toNat_one, modf, if_pos, if_neg, reduceIte, reduceCtorEq]
    · unfold f_X11_mark; simp (disch := omega) only [isThing_u u, obs, iI_lit, iI_add, iI_sub, iI_mul, iI_neg, iI_lt, iI_le, iI_eq, iI_divp, iI_toInt, iI_clamp, bI_0, bI_1, b_tf, Int.toNat_natCast, Int.reduceToNat, Int.toNat_zero, Int.toNat_one, modf, if_pos, if_neg, reduceIte, reduceCtorEq]
  · have h8 := V.2.2.1
    have ht := e_hasThing (σ := σ) (ka := 14) (R 76 (by decide)) h8.1 h8.2 x1 x2
    have it := m_isThing M h8.1 h8.2 x1 x2
    by_cases a : 0 ≤ x ∧ x < sh 76
    · rw [decide_eq_true a] at ht it
      by_cases b : 0 ≤ y ∧ y ≤ 9999
      · by_cases p : 0 ≤ z ∧ z ≤ 1
        · cases hm : isMk sh x
          · refine ⟨(iI (-1000002), σ), (iI (-1000002), σ), ?_, ?_, rfl, h⟩
            · unfold f_X10_mark; simp (disch := omega) only [ht, e_isWithin, decide_eq_true b, decide_eq_true p, q_isMark R V rfl, hm, obs, iI_lit, iI_add, iI_sub, iI_mul, iI_neg, iI_lt, iI_le, iI_eq, iI_divp, iI_toInt, iI_clamp, bI_0, bI_1, b_tf, Int.toNat_natCast, Int.reduceToNat, Int.toNat_zero, Int.toNat_one, modf, if_pos, if_neg, reduceIte, reduceCtorEq]
            · unfold f_X11_mark; simp (disch := omega) only [it, w_isMinute y1 y2, L0, L1, e_in, decide_eq_true b, decide_eq_true p, m_isMark M V, hm, obs, iI_lit, iI_add, iI_sub, iI_mul, iI_neg, iI_lt, iI_le, iI_eq, iI_divp, iI_toInt, iI_clamp, bI_0, bI_1, b_tf, Int.toNat_natCast, Int.reduceToNat, Int.toNat_zero, Int.toNat_one, modf, if_pos, if_neg, reduceIte, reduceCtorEq]
          · have tb := (tide_rng V (m := y) (by omega) (by omega)).2
            by_cases q : z = 0
            · refine ⟨(iI (mX sh x.toNat (tideZ sh y)), σ), (iI (mX sh x.toNat (tideZ sh y)), σ), ?_, ?_, rfl, h⟩
              · unfold f_X10_mark; simp (disch := omega) only [ht, e_isWithin, decide_eq_true b, decide_eq_true p, q_isMark R V rfl, hm, e_heightAt R V, q_markX R V rfl, obs, iI_lit, iI_add, iI_sub, iI_mul, iI_neg, iI_lt, iI_le, iI_eq, iI_divp, iI_toInt, iI_clamp, bI_0, bI_1, b_tf, Int.toNat_natCast, Int.reduceToNat, Int.toNat_zero, Int.toNat_one, modf, if_pos, if_neg, reduceIte, reduceCtorEq]
              · have e := m_eastOf M V (k := x.toNat) (by omega) (m := y) (by omega) (by omega)
                rw [show ((x.toNat : Nat) : Int) = x by omega] at e
                unfold f_X11_mark; simp (disch := omega) only [it, w_isMinute y1 y2, L0, L1, e_in, decide_eq_true b, decide_eq_true p, m_isMark M V, hm, e, obs, iI_lit, iI_add, iI_sub, iI_mul, iI_neg, iI_lt, iI_le, iI_eq, iI_divp, iI_toInt, iI_clamp, bI_0, bI_1, b_tf, Int.toNat_natCast, Int.reduceToNat, Int.toNat_zero, Int.toNat_one, modf, if_pos, if_neg, reduceIte, reduceCtorEq]
            · refine ⟨(iI (tT sh x.toNat 2), σ), (iI (tT sh x.toNat 2), σ), ?_, ?_, rfl, h⟩
              · unfold f_X10_mark; simp (disch := omega) only [ht, e_isWithin, decide_eq_true b, decide_eq_true p, q_isMark R V rfl, hm, e_thingCell R, obs, iI_lit, iI_add, iI_sub, iI_mul, iI_neg, iI_lt, iI_le, iI_eq, iI_divp, iI_toInt, iI_clamp, bI_0, bI_1, b_tf, Int.toNat_natCast, Int.reduceToNat, Int.toNat_zero, Int.toNat_one, modf, if_pos, if_neg, reduceIte, reduceCtorEq]
              · unfold f_X11_mark; simp (disch := omega) only [it, w_isMinute y1 y2, L0, L1, e_in, decide_eq_true b, decide_eq_true p, m_isMark M V, hm, m_of M h8.2, obs, iI_lit, iI_add, iI_sub, iI_mul, iI_neg, iI_lt, iI_le, iI_eq, iI_divp, iI_toInt, iI_clamp, bI_0, bI_1, b_tf, Int.toNat_natCast, Int.reduceToNat, Int.toNat_zero, Int.toNat_one, modf, if_pos, if_neg, reduceIte, reduceCtorEq]
        · refine ⟨(iI (-1000001), σ), (iI (-1000001), σ), ?_, ?_, rfl, h⟩
          · unfold f_X10_mark; simp (disch := omega) only [ht, e_isWithin, decide_eq_true b, decide_eq_false p, obs, iI_lit, iI_add, iI_sub, iI_mul, iI_neg, iI_lt, iI_le, iI_eq, iI_divp, iI_toInt, iI_clamp, bI_0, bI_1, b_tf, Int.toNat_natCast, Int.reduceToNat, Int.toNat_zero, Int.toNat_one, modf, if_pos, if_neg, reduceIte, reduceCtorEq]
          · unfold f_X11_mark; simp (disch := omega) only [it, w_isMinute y1 y2, L0, L1, e_in, decide_eq_true b, decide_eq_false p, obs, iI_lit, iI_add, iI_sub, iI_mul, iI_neg, iI_lt, iI_le, iI_eq, iI_divp, iI_toInt, iI_clamp, bI_0, bI_1, b_tf, Int.toNat_natCast, Int.reduceToNat, Int.toNat_zero, Int.toNat_one, modf, if_pos, if_neg, reduceIte, reduceCtorEq]
      · refine ⟨(iI (-1000001), σ), (iI (-1000001), σ), ?_, ?_, rfl, h⟩
        · unfold f_X10_mark; simp (disch := omega) only [ht, e_isWithin, decide_eq_false b, obs, iI_lit, iI_add, iI_sub, iI_mul, iI_neg, iI_lt, iI_le, iI_eq, iI_divp, iI_toInt, iI_clamp, bI_0, bI_1, b_tf, Int.toNat_natCast, Int.reduceToNat, Int.toNat_zero, Int.toNat_one, modf, if_pos, if_neg, reduceIte, reduceCtorEq]
        · unfold f_X11_mark; simp (disch := omega) only [it, w_isMinute y1 y2, decide_eq_false b, obs, iI_lit, iI_add, iI_sub, iI_mul, iI_neg, iI_lt, iI_le, iI_eq, iI_divp, iI_toInt, iI_clamp, bI_0, bI_1, b_tf, Int.toNat_natCast, Int.reduceToNat, Int.toNat_zero, Int.toNat_one, modf, if_pos, if_neg, reduceIte, reduceCtorEq]
    · rw [decide_eq_false a] at ht it
      refine ⟨(iI (-1000001), σ), (iI (-1000001), σ), ?_, ?_, rfl, h⟩
      · unfold f_X10_mark; simp (disch := omega) only [ht, obs, iI_lit, iI_add, iI_sub, iI_mul, iI_neg, iI_lt, iI_le, iI_eq, iI_divp, iI_toInt, iI_clamp, bI_0, bI_1, b_tf, Int.toNat_natCast, Int.reduceToNat, Int.toNat_zero, Int.toNat_one, modf, if_pos, if_neg, reduceIte, reduceCtorEq]
      · unfold f_X11_mark; simp (disch := omega) only [it, obs, iI_lit, iI_add, iI_sub, iI_mul, iI_neg, iI_lt, iI_le, iI_eq, iI_divp, iI_toInt, iI_clamp, bI_0, bI_1, b_tf, Int.toNat_natCast, Int.reduceToNat, Int.toNat_zero, Int.toNat_one, modf, if_pos, if_neg, reduceIte, reduceCtorEq]
theorem p_seen : P_seen Inv := by
  intro σ a1 a2 a3 a4 h
  obtain ⟨k, rfl, k1, k2⟩ := iI_ex a1
  obtain ⟨x, rfl, x1, x2⟩ := iI_ex a2
  obtain ⟨y, rfl, y1, y2⟩ := iI_ex a3
  obtain ⟨z, rfl, z1, z2⟩ := iI_ex a4
  rcases iv_sheet h with u | ⟨sh, V, R, M⟩
  · refine ⟨(iI (-1000001), σ), (iI (-1000001), σ), ?_, ?_, rfl, h⟩
    · unfold f_X10_seen; simp (disch := omega) only [hasThing_u u, obs, iI_lit, iI_add, iI_sub, iI_mul, iI_neg, iI_lt, iI_le, iI_eq, iI_divp, iI_toInt, iI_clamp, bI_0, bI_1, b_tf, Int.toNat_natCast, Int.reduceToNat, Int.toNat_zero, Int.toNat_one, modf, if_pos, if_neg, reduceIte, reduceCtorEq]
    · unfold f_X11_seen; simp (disch := omega) only [isThing_u u, obs, iI_lit, iI_add, iI_sub, iI_mul, iI_neg, iI_lt, iI_le, iI_eq, iI_divp, iI_toInt, iI_clamp, bI_0, bI_1, b_tf, Int.toNat_natCast, Int.reduceToNat, Int.toNat_zero, Int.toNat_one, modf, if_pos, if_neg, reduceIte, reduceCtorEq]
  · have h8 := V.2.2.1
    have ht := e_hasThing (σ := σ) (ka := 14) (R 76 (by decide)) h8.1 h8.2 k1 k2
    have it := m_isThing M h8.1 h8.2 k1 k2
    by_cases a : 0 ≤ k ∧ k < sh 76
    · rw [decide_eq_true a] at ht it
      cases hc : chZ x y
      · refine ⟨(iI (-1000001), σ), (iI (-1000001), σ), ?_, ?_, rfl, h⟩
        · unfold f_X10_seen; simp (disch := omega) only [ht, w_charted x1 x2 y1 y2, hc, obs, iI_lit, iI_add, iI_sub, iI_mul, iI_neg, iI_lt, iI_le, iI_eq, iI_divp, iI_toInt, iI_clamp, bI_0, bI_1, b_tf, Int.toNat_natCast, Int.reduceToNat, Int.toNat_zero, Int.toNat_one, modf, if_pos, if_neg, reduceIte, reduceCtorEq]
        · unfold f_X11_seen; simp (disch := omega) only [it, w_isPlace x1 x2 y1 y2, hc, obs, iI_lit, iI_add, iI_sub, iI_mul, iI_neg, iI_lt, iI_le, iI_eq, iI_divp, iI_toInt, iI_clamp, bI_0, bI_1, b_tf, Int.toNat_natCast, Int.reduceToNat, Int.toNat_zero, Int.toNat_one, modf, if_pos, if_neg, reduceIte, reduceCtorEq]
      · have c := ch_t hc
        by_cases b : 0 ≤ z ∧ z ≤ 9999
        · cases hm : isMk sh k
          · refine ⟨(iI (-1000002), σ), (iI (-1000002), σ), ?_, ?_, rfl, h⟩
            · unfold f_X10_seen; simp (disch := omega) only [ht, w_charted x1 x2 y1 y2, hc, e_isWithin, decide_eq_true b, q_isMark R V rfl, hm, obs, iI_lit, iI_add, iI_sub, iI_mul, iI_neg, iI_lt, iI_le, iI_eq, iI_divp, iI_toInt, iI_clamp, bI_0, bI_1, b_tf, Int.toNat_natCast, Int.reduceToNat, Int.toNat_zero, Int.toNat_one, modf, if_pos, if_neg, reduceIte, reduceCtorEq]
            · unfold f_X11_seen; simp (disch := omega) only [it, w_isPlace x1 x2 y1 y2, hc, w_isMinute z1 z2, decide_eq_true b, m_isMark M V, hm, obs, iI_lit, iI_add, iI_sub, iI_mul, iI_neg, iI_lt, iI_le, iI_eq, iI_divp, iI_toInt, iI_clamp, bI_0, bI_1, b_tf, Int.toNat_natCast, Int.reduceToNat, Int.toNat_zero, Int.toNat_one, modf, if_pos, if_neg, reduceIte, reduceCtorEq]
          · have tb := (tide_rng V (m := z) (by omega) (by omega)).2
            have s1 := q_isInSight R V OutB0 (σ := σ) rfl hm (h := tideZ sh z) (by omega) (by omega) (x := x) (y := y) (by omega) (by omega) (by omega) (by omega)
            have s2 := m_isSeen M V (k := k.toNat) (by omega) (isMk_t hm).2.2 (m := z) (by omega) (by omega) (x := x) (y := y) ⟨by omega, by omega⟩ ⟨by omega, by omega⟩ (o := fun _ => false) (by rw [iv_out h]; exact OutB0)
            rw [show ((k.toNat : Nat) : Int) = k by omega] at s2
            refine ⟨(bI (seenZ sh (fun _ => false) k.toNat x y (tideZ sh z)), σ), (bI (seenZ sh (fun _ => false) k.toNat x y (tideZ sh z)), σ), ?_, ?_, rfl, h⟩
            · unfold f_X10_seen; simp (disch := omega) only [ht, w_charted x1 x2 y1 y2, hc, e_isWithin, decide_eq_true b, q_isMark R V rfl, hm, e_heightAt R V, s1, obs, iI_lit, iI_add, iI_sub, iI_mul, iI_neg, iI_lt, iI_le, iI_eq, iI_divp, iI_toInt, iI_clamp, bI_0, bI_1, b_tf, Int.toNat_natCast, Int.reduceToNat, Int.toNat_zero, Int.toNat_one, modf, if_pos, if_neg, reduceIte, reduceCtorEq]
              exact bz Iff.rfl
            · unfold f_X11_seen; simp (disch := omega) only [it, w_isPlace x1 x2 y1 y2, hc, w_isMinute z1 z2, decide_eq_true b, m_isMark M V, hm, s2, obs, iI_lit, iI_add, iI_sub, iI_mul, iI_neg, iI_lt, iI_le, iI_eq, iI_divp, iI_toInt, iI_clamp, bI_0, bI_1, b_tf, Int.toNat_natCast, Int.reduceToNat, Int.toNat_zero, Int.toNat_one, modf, if_pos, if_neg, reduceIte, reduceCtorEq]
              exact bz Iff.rfl
        · refine ⟨(iI (-1000001), σ), (iI (-1000001), σ), ?_, ?_, rfl, h⟩
          · unfold f_X10_seen; simp (disch := omega) only [ht, w_charted x1 x2 y1 y2, hc, e_isWithin, decide_eq_false b, obs, iI_lit, iI_add, iI_sub, iI_mul, iI_neg, iI_lt, iI_le, iI_eq, iI_divp, iI_toInt, iI_clamp, bI_0, bI_1, b_tf, Int.toNat_natCast, Int.reduceToNat, Int.toNat_zero, Int.toNat_one, modf, if_pos, if_neg, reduceIte, reduceCtorEq]
          · unfold f_X11_seen; simp (disch := omega) only [it, w_isPlace x1 x2 y1 y2, hc, w_isMinute z1 z2, decide_eq_false b, obs, iI_lit, iI_add, iI_sub, iI_mul, iI_neg, iI_lt, iI_le, iI_eq, iI_divp, iI_toInt, iI_clamp, bI_0, bI_1, b_tf, Int.toNat_natCast, Int.reduceToNat, Int.toNat_zero, Int.toNat_one, modf, if_pos, if_neg, reduceIte, reduceCtorEq]
    · rw [decide_eq_false a] at ht it
      refine ⟨(iI (-1000001), σ), (iI (-1000001), σ), ?_, ?_, rfl, h⟩
      · unfold f_X10_seen; simp (disch := omega) only [ht, obs, iI_lit, iI_add, iI_sub, iI_mul, iI_neg, iI_lt, iI_le, iI_eq, iI_divp, iI_toInt, iI_clamp, bI_0, bI_1, b_tf, Int.toNat_natCast, Int.reduceToNat, Int.toNat_zero, Int.toNat_one, modf, if_pos, if_neg, reduceIte, reduceCtorEq]
      · unfold f_X11_seen; simp (disch := omega) only [it, obs, iI_lit, iI_add, iI_sub, iI_mul, iI_neg, iI_lt, iI_le, iI_eq, iI_divp, iI_toInt, iI_clamp, bI_0, bI_1, b_tf, Int.toNat_natCast, Int.reduceToNat, Int.toNat_zero, Int.toNat_one, modf, if_pos, if_neg, reduceIte, reduceCtorEq]
theorem p_thing : P_thing Inv := by
  intro σ a1 a2 h
  obtain ⟨x, rfl, x1, x2⟩ := iI_ex a1
  obtain ⟨y, rfl, y1, y2⟩ := iI_ex a2
  rcases iv_sheet h with u | ⟨sh, V, R, M⟩
  · refine ⟨(iI (-1000001), σ), (iI (-1000001), σ), ?_, ?_, rfl, h⟩
    · unfold f_X10_thing; simp (disch := omega) only [hasThing_u u, obs, iI_lit, iI_add, iI_sub, iI_mul, iI_neg, iI_lt, iI_le, iI_eq, iI_divp, iI_toInt, iI_clamp, bI_0, bI_1, b_tf, Int.toNat_natCast, Int.reduceToNat, Int.toNat_zero, Int.toNat_one, modf, if_pos, if_neg, reduceIte, reduceCtorEq]
    · unfold f_X11_thing; simp (disch := omega) only [isThing_u u, obs, iI_lit, iI_add, iI_sub, iI_mul, iI_neg, iI_lt, iI_le, iI_eq, iI_divp, iI_toInt, iI_clamp, bI_0, bI_1, b_tf, Int.toNat_natCast, Int.reduceToNat, Int.toNat_zero, Int.toNat_one, modf, if_pos, if_neg, reduceIte, reduceCtorEq]
  · have h8 := V.2.2.1
    have ht := e_hasThing (σ := σ) (ka := 14) (R 76 (by decide)) h8.1 h8.2 x1 x2
    have it := m_isThing M h8.1 h8.2 x1 x2
    by_cases a : 0 ≤ x ∧ x < sh 76
    · rw [decide_eq_true a] at ht it
      by_cases b : 0 ≤ y ∧ y ≤ 4
      · refine ⟨(iI (tT sh x.toNat y.toNat), σ), (iI (tT sh x.toNat y.toNat), σ), ?_, ?_, rfl, h⟩
        · unfold f_X10_thing; simp (disch := omega) only [ht, e_isWithin, decide_eq_true b, e_thingCell R, obs, iI_lit, iI_add, iI_sub, iI_mul, iI_neg, iI_lt, iI_le, iI_eq, iI_divp, iI_toInt, iI_clamp, bI_0, bI_1, b_tf, Int.toNat_natCast, Int.reduceToNat, Int.toNat_zero, Int.toNat_one, modf, if_pos, if_neg, reduceIte, reduceCtorEq]
        · unfold f_X11_thing; simp (disch := omega) only [it, L0, L4, e_in, decide_eq_true b, m_of M h8.2, obs, iI_lit, iI_add, iI_sub, iI_mul, iI_neg, iI_lt, iI_le, iI_eq, iI_divp, iI_toInt, iI_clamp, bI_0, bI_1, b_tf, Int.toNat_natCast, Int.reduceToNat, Int.toNat_zero, Int.toNat_one, modf, if_pos, if_neg, reduceIte, reduceCtorEq]
      · refine ⟨(iI (-1000001), σ), (iI (-1000001), σ), ?_, ?_, rfl, h⟩
        · unfold f_X10_thing; simp (disch := omega) only [ht, e_isWithin, decide_eq_false b, obs, iI_lit, iI_add, iI_sub, iI_mul, iI_neg, iI_lt, iI_le, iI_eq, iI_divp, iI_toInt, iI_clamp, bI_0, bI_1, b_tf, Int.toNat_natCast, Int.reduceToNat, Int.toNat_zero, Int.toNat_one, modf, if_pos, if_neg, reduceIte, reduceCtorEq]
        · unfold f_X11_thing; simp (disch := omega) only [it, L0, L4, e_in, decide_eq_false b, obs, iI_lit, iI_add, iI_sub, iI_mul, iI_neg, iI_lt, iI_le, iI_eq, iI_divp, iI_toInt, iI_clamp, bI_0, bI_1, b_tf, Int.toNat_natCast, Int.reduceToNat, Int.toNat_zero, Int.toNat_one, modf, if_pos, if_neg, reduceIte, reduceCtorEq]
    · rw [decide_eq_false a] at ht it
      refine ⟨(iI (-1000001), σ), (iI (-1000001), σ), ?_, ?_, rfl, h⟩
      · unfold f_X10_thing; simp (disch := omega) only [ht, obs, iI_lit, iI_add, iI_sub, iI_mul, iI_neg, iI_lt, iI_le, iI_eq, iI_divp, iI_toInt, iI_clamp, bI_0, bI_1, b_tf, Int.toNat_natCast, Int.reduceToNat, Int.toNat_zero, Int.toNat_one, modf, if_pos, if_neg, reduceIte, reduceCtorEq]
      · unfold f_X11_thing; simp (disch := omega) only [it, obs, iI_lit, iI_add, iI_sub, iI_mul, iI_neg, iI_lt, iI_le, iI_eq, iI_divp, iI_toInt, iI_clamp, bI_0, bI_1, b_tf, Int.toNat_natCast, Int.reduceToNat, Int.toNat_zero, Int.toNat_one, modf, if_pos, if_neg, reduceIte, reduceCtorEq]
theorem p_leg : P_leg Inv := by
  intro σ a1 a2 h
  obtain ⟨x, rfl, x1, x2⟩ := iI_ex a1
  obtain ⟨y, rfl, y1, y2⟩ := iI_ex a2
  rcases iv_sheet h with u | ⟨sh, V, R, M⟩
  · refine ⟨(iI (-1000001), σ), (iI (-1000001), σ), ?_, ?_, rfl, h⟩
    · unfold f_X10_leg; simp (disch := omega) only [hasLeg_u u, obs, iI_lit, iI_add, iI_sub, iI_mul, iI_neg, iI_lt, iI_le, iI_eq, iI_divp, iI_toInt, iI_clamp, bI_0, bI_1, b_tf, Int.toNat_natCast, Int.reduceToNat, Int.toNat_zero, Int.toNat_one, modf, if_pos, if_neg, reduceIte, reduceCtorEq]
    · unfold f_X11_leg; simp (disch := omega) only [isLeg_u u, obs, iI_lit, iI_add, iI_sub, iI_mul, iI_neg, iI_lt, iI_le, iI_eq, iI_divp, iI_toInt, iI_clamp, bI_0, bI_1, b_tf, Int.toNat_natCast, Int.reduceToNat, Int.toNat_zero, Int.toNat_one, modf, if_pos, if_neg, reduceIte, reduceCtorEq]
  · have h6 := V.1
    have ht := e_hasLeg (σ := σ) (ka := 14) (R 77 (by decide)) (by omega) h6.2 x1 x2
    have it := m_isLeg M (by omega) h6.2 x1 x2
    by_cases a : 0 ≤ x ∧ x < sh 77
    · rw [decide_eq_true a] at ht it
      by_cases b : 0 ≤ y ∧ y ≤ 3
      · refine ⟨(iI (tL sh x.toNat y.toNat), σ), (iI (tL sh x.toNat y.toNat), σ), ?_, ?_, rfl, h⟩
        · unfold f_X10_leg; simp (disch := omega) only [ht, e_isWithin, decide_eq_true b, e_legCell R, obs, iI_lit, iI_add, iI_sub, iI_mul, iI_neg, iI_lt, iI_le, iI_eq, iI_divp, iI_toInt, iI_clamp, bI_0, bI_1, b_tf, Int.toNat_natCast, Int.reduceToNat, Int.toNat_zero, Int.toNat_one, modf, if_pos, if_neg, reduceIte, reduceCtorEq]
        · unfold f_X11_leg; simp (disch := omega) only [it, L0, L3, e_in, decide_eq_true b, obs, iI_lit, iI_add, iI_sub, iI_mul, iI_neg, iI_lt, iI_le, iI_eq, iI_divp, iI_toInt, iI_clamp, bI_0, bI_1, b_tf, Int.toNat_natCast, Int.reduceToNat, Int.toNat_zero, Int.toNat_one, modf, if_pos, if_neg, reduceIte, reduceCtorEq]
          rw [show (55 + 4 * x + y).toNat = 55 + 4 * x.toNat + y.toNat by omega, M.leg _ (by omega) _ (by omega)]
      · refine ⟨(iI (-1000001), σ), (iI (-1000001), σ), ?_, ?_, rfl, h⟩
        · unfold f_X10_leg; simp (disch := omega) only [ht, e_isWithin, decide_eq_false b, obs, iI_lit, iI_add, iI_sub, iI_mul, iI_neg, iI_lt, iI_le, iI_eq, iI_divp, iI_toInt, iI_clamp, bI_0, bI_1, b_tf, Int.toNat_natCast, Int.reduceToNat, Int.toNat_zero, Int.toNat_one, modf, if_pos, if_neg, reduceIte, reduceCtorEq]
        · unfold f_X11_leg; simp (disch := omega) only [it, L0, L3, e_in, decide_eq_false b, obs, iI_lit, iI_add, iI_sub, iI_mul, iI_neg, iI_lt, iI_le, iI_eq, iI_divp, iI_toInt, iI_clamp, bI_0, bI_1, b_tf, Int.toNat_natCast, Int.reduceToNat, Int.toNat_zero, Int.toNat_one, modf, if_pos, if_neg, reduceIte, reduceCtorEq]
    · rw [decide_eq_false a] at ht it
      refine ⟨(iI (-1000001), σ), (iI (-1000001), σ), ?_, ?_, rfl, h⟩
      · unfold f_X10_leg; simp (disch := omega) only [ht, obs, iI_lit, iI_add, iI_sub, iI_mul, iI_neg, iI_lt, iI_le, iI_eq, iI_divp, iI_toInt, iI_clamp, bI_0, bI_1, b_tf, Int.toNat_natCast, Int.reduceToNat, Int.toNat_zero, Int.toNat_one, modf, if_pos, if_neg, reduceIte, reduceCtorEq]
      · unfold f_X11_leg; simp (disch := omega) only [it, obs, iI_lit, iI_add, iI_sub, iI_mul, iI_neg, iI_lt, iI_le, iI_eq, iI_divp, iI_toInt, iI_clamp, bI_0, bI_1, b_tf, Int.toNat_natCast, Int.reduceToNat, Int.toNat_zero, Int.toNat_one, modf, if_pos, if_neg, reduceIte, reduceCtorEq]
end IV
