section MO
variable {σ : St} {sh : Nat → Int}
/-- the reference's sheet, and its rows of courses -/
def MR (σ : St) (sh : Nat → Int) : Prop := RM (σ 27) 0 sh ∧ (∀ i, i < 16 → σ 30 i = iI (eZ.getD i 0)) ∧ (∀ i, i < 16 → σ 31 i = iI (nZ.getD i 0))
theorem MR.c75 (M : MR σ sh) : σ 27 6 = iI (sh 75) := M.1.2.1
theorem MR.c76 (M : MR σ sh) : σ 27 13 = iI (sh 76) := M.1.2.2.1
theorem MR.c77 (M : MR σ sh) : σ 27 54 = iI (sh 77) := M.1.2.2.2.1
theorem MR.told (M : MR σ sh) : σ 27 0 = iI 1 := M.1.2.2.2.2.1
theorem MR.ship (M : MR σ sh) (j : Nat) (hj : j < 5) : σ 27 (1 + j) = iI (sh j) := by
  have := M.1.1 j hj
  rw [Nat.zero_add] at this
  exact this
theorem MR.hgt (M : MR σ sh) (k : Nat) (hk : (k : Int) < sh 75) : σ 27 (7 + k) = iI (sh (5 + k)) := by
  have := M.1.2.2.2.2.2.1 k hk
  rw [Nat.zero_add] at this
  exact this
theorem MR.thg (M : MR σ sh) (k : Nat) (hk : (k : Int) < sh 76) (j : Nat) (hj : j < 5) : σ 27 (14 + 5 * k + j) = iI (tT sh k j) := by
  have := M.1.2.2.2.2.2.2.1 k hk j hj
  rw [Nat.zero_add] at this
  exact this
theorem MR.leg (M : MR σ sh) (k : Nat) (hk : (k : Int) < sh 77) (j : Nat) (hj : j < 4) : σ 27 (55 + 4 * k + j) = iI (tL sh k j) := by
  have := M.1.2.2.2.2.2.2.2 k hk j hj
  rw [Nat.zero_add] at this
  exact this
theorem m_isSheet (M : MR σ sh) : f_X11_isSheet σ = some (iI 1, σ) := by
  unfold f_X11_isSheet
  simp (disch := omega) only [M.told, obs, iI_lit, iI_add, iI_sub, iI_mul, iI_neg, iI_lt, iI_le, iI_eq, iI_divp, iI_toInt, iI_clamp, bI_0, bI_1, b_tf, Int.toNat_natCast, Int.reduceToNat, Int.toNat_zero, Int.toNat_one, modf, if_pos, if_neg, reduceIte, reduceCtorEq]
theorem m_isThing (M : MR σ sh) (h1 : 0 ≤ sh 76) (h2 : sh 76 ≤ 8) {a : Int} (h3 : -2147483648 ≤ a) (h4 : a < 2147483648) : f_X11_isThing σ (iI a) = some (bI (decide (0 ≤ a ∧ a < sh 76)), σ) := by
  unfold f_X11_isThing
  simp (disch := omega) only [M.c76, L0, e_in, obs, iI_lit, iI_add, iI_sub, iI_mul, iI_neg, iI_lt, iI_le, iI_eq, iI_divp, iI_toInt, iI_clamp, bI_0, bI_1, b_tf, Int.toNat_natCast, Int.reduceToNat, Int.toNat_zero, Int.toNat_one, modf, if_pos, if_neg, reduceIte, reduceCtorEq]
  rw [decide_eq_decide.mpr (show (0 ≤ a ∧ a ≤ sh 76 - 1) ↔ (0 ≤ a ∧ a < sh 76) by omega)]
theorem m_isLeg (M : MR σ sh) (h1 : 0 ≤ sh 77) (h2 : sh 77 ≤ 6) {a : Int} (h3 : -2147483648 ≤ a) (h4 : a < 2147483648) : f_X11_isLeg σ (iI a) = some (bI (decide (0 ≤ a ∧ a < sh 77)), σ) := by
  unfold f_X11_isLeg
  simp (disch := omega) only [M.c77, L0, e_in, obs, iI_lit, iI_add, iI_sub, iI_mul, iI_neg, iI_lt, iI_le, iI_eq, iI_divp, iI_toInt, iI_clamp, bI_0, bI_1, b_tf, Int.toNat_natCast, Int.reduceToNat, Int.toNat_zero, Int.toNat_one, modf, if_pos, if_neg, reduceIte, reduceCtorEq]
  rw [decide_eq_decide.mpr (show (0 ≤ a ∧ a ≤ sh 77 - 1) ↔ (0 ≤ a ∧ a < sh 77) by omega)]
theorem m_of (M : MR σ sh) (h2 : sh 76 ≤ 8) {t w : Int} (h1 : 0 ≤ t) (h3 : t < sh 76) (h4 : 0 ≤ w) (h5 : w < 5) : f_X11_of σ (iI t) (iI w) = some (iI (tT sh t.toNat w.toNat), σ) := by
  unfold f_X11_of
  simp (disch := omega) only [obs, iI_lit, iI_add, iI_sub, iI_mul, iI_neg, iI_lt, iI_le, iI_eq, iI_divp, iI_toInt, iI_clamp, bI_0, bI_1, b_tf, Int.toNat_natCast, Int.reduceToNat, Int.toNat_zero, Int.toNat_one, modf, if_pos, if_neg, reduceIte, reduceCtorEq]
  rw [show (14 + 5 * t + w).toNat = 14 + 5 * t.toNat + w.toNat by omega, M.thg _ (by omega) _ (by omega)]
theorem m_legOf (M : MR σ sh) (h2 : sh 77 ≤ 6) {t w : Int} (h1 : 0 ≤ t) (h3 : t < sh 77) (h4 : 0 ≤ w) (h5 : w < 4) : f_X11_legOf σ (iI t) (iI w) = some (iI (tL sh t.toNat w.toNat), σ) := by
  unfold f_X11_legOf
  simp (disch := omega) only [obs, iI_lit, iI_add, iI_sub, iI_mul, iI_neg, iI_lt, iI_le, iI_eq, iI_divp, iI_toInt, iI_clamp, bI_0, bI_1, b_tf, Int.toNat_natCast, Int.reduceToNat, Int.toNat_zero, Int.toNat_one, modf, if_pos, if_neg, reduceIte, reduceCtorEq]
  rw [show (55 + 4 * t + w).toNat = 55 + 4 * t.toNat + w.toNat by omega, M.leg _ (by omega) _ (by omega)]
theorem m_isMark (M : MR σ sh) (V : Val sh) {a : Int} (h3 : -2147483648 ≤ a) (h4 : a < 2147483648) : f_X11_isMark σ (iI a) = some (bI (isMk sh a), σ) := by
  have h8 := V.2.2.1
  unfold f_X11_isMark isMk
  by_cases p : 0 ≤ a ∧ a < sh 76
  · have hT := V.2.2.2.2.2.2.1 a.toNat (by omega)
    unfold ValT at hT
    simp (disch := omega) only [m_isThing M h8.1 h8.2 h3 h4, decide_eq_true p, bI_t, m_of M h8.2, p.1, p.2, decide_true, Bool.true_and, obs, iI_lit, iI_add, iI_sub, iI_mul, iI_neg, iI_lt, iI_le, iI_eq, iI_divp, iI_toInt, iI_clamp, bI_0, bI_1, b_tf, Int.toNat_natCast, Int.reduceToNat, Int.toNat_zero, Int.toNat_one, modf, if_pos, if_neg, reduceIte, reduceCtorEq]
    exact bz (by rw [decide_eq_false_iff_not]; omega)
  · simp (disch := omega) only [m_isThing M h8.1 h8.2 h3 h4, decide_eq_false p, bI_f, obs, iI_lit, iI_add, iI_sub, iI_mul, iI_neg, iI_lt, iI_le, iI_eq, iI_divp, iI_toInt, iI_clamp, bI_0, bI_1, b_tf, Int.toNat_natCast, Int.reduceToNat, Int.toNat_zero, Int.toNat_one, modf, if_pos, if_neg, reduceIte, reduceCtorEq]
    by_cases q : 0 ≤ a
    · rw [decide_eq_true q, decide_eq_false (p := a < sh 76) (by omega)]; rfl
    · rw [decide_eq_false q]; rfl
theorem m_isShoal (M : MR σ sh) (V : Val sh) {k : Nat} (hk : (k : Int) < sh 76) : f_X11_isShoal σ (iI k) = some (bI (decide (4 ≤ tT sh k 0)), σ) := by
  have h8 := V.2.2.1
  have T := V.2.2.2.2.2.2.1 k hk
  unfold ValT at T
  unfold f_X11_isShoal
  simp (disch := omega) only [m_of M h8.2, obs, iI_lit, iI_add, iI_sub, iI_mul, iI_neg, iI_lt, iI_le, iI_eq, iI_divp, iI_toInt, iI_clamp, bI_0, bI_1, b_tf, Int.toNat_natCast, Int.reduceToNat, Int.toNat_zero, Int.toNat_one, modf, if_pos, if_neg, reduceIte, reduceCtorEq]
  exact bz (by rw [decide_eq_false_iff_not]; omega)
theorem m_plain {z : Int} (h1 : -2147483648 < z) (h2 : z < 2147483648) : f_X11_plain σ (iI z) = some (iI (if 0 ≤ z then z else -z), σ) := by
  unfold f_X11_plain
  by_cases p : 0 ≤ z
  · simp (disch := omega) only [p, obs, iI_lit, iI_add, iI_sub, iI_mul, iI_neg, iI_lt, iI_le, iI_eq, iI_divp, iI_toInt, iI_clamp, bI_0, bI_1, b_tf, Int.toNat_natCast, Int.reduceToNat, Int.toNat_zero, Int.toNat_one, modf, if_pos, if_neg, reduceIte, reduceCtorEq]
  · simp (disch := omega) only [p, obs, iI_lit, iI_add, iI_sub, iI_mul, iI_neg, iI_lt, iI_le, iI_eq, iI_divp, iI_toInt, iI_clamp, bI_0, bI_1, b_tf, Int.toNat_natCast, Int.reduceToNat, Int.toNat_zero, Int.toNat_one, modf, if_pos, if_neg, reduceIte, reduceCtorEq]
theorem m_lies (M : MR σ sh) (V : Val sh) {k : Nat} (hk : (k : Int) < sh 76) (hs : 4 ≤ tT sh k 0) {x y : Int} (hx : -100 ≤ x ∧ x ≤ 100) (hy : -100 ≤ y ∧ y ≤ 100) : f_X11_lies σ (iI k) (iI x) (iI y) = some (bI (lies sh k x y), σ) := by
  obtain ⟨b1, b2, b3⟩ := lies_b V hk hx hy
  have T := V.2.2.2.2.2.2.1 k hk
  have h8 := V.2.2.1
  unfold ValT at T
  have ab : ∀ z : Int, (if 0 ≤ z then z else -z) * (if 0 ≤ z then z else -z) = z * z := fun z => by
    split
    · rfl
    · rw [Int.neg_mul_neg]
  unfold f_X11_lies f_X11_square lies
  simp (disch := omega) only [m_of M h8.2, m_plain, ab, obs, iI_lit, iI_add, iI_sub, iI_mul, iI_neg, iI_lt, iI_le, iI_eq, iI_divp, iI_toInt, iI_clamp, bI_0, bI_1, b_tf, Int.toNat_natCast, Int.reduceToNat, Int.toNat_zero, Int.toNat_one, modf, if_pos, if_neg, reduceIte, reduceCtorEq]
  by_cases q : tT sh k 0 = 6
  · simp (disch := omega) only [q, obs, iI_lit, iI_add, iI_sub, iI_mul, iI_neg, iI_lt, iI_le, iI_eq, iI_divp, iI_toInt, iI_clamp, bI_0, bI_1, b_tf, Int.toNat_natCast, Int.reduceToNat, Int.toNat_zero, Int.toNat_one, modf, if_pos, if_neg, reduceIte, reduceCtorEq]
    generalize x - tT sh k 1 = dx
    generalize y - tT sh k 2 = dy
    by_cases u : tT sh k 3 < (if 0 ≤ dx then dx else -dx)
    · rw [if_pos u, decide_eq_false (p := -tT sh k 3 ≤ dx ∧ dx ≤ tT sh k 3) (by split at u <;> omega), Bool.false_and, Bool.and_false]; rfl
    · rw [if_neg u, decide_eq_true (p := -tT sh k 3 ≤ dx ∧ dx ≤ tT sh k 3) (by split at u <;> omega)]
      exact bz (by simp only [Bool.and_eq_false_iff, Bool.or_eq_false_iff, Bool.and_eq_true, Bool.or_eq_true, decide_eq_false_iff_not, decide_eq_true_eq, reduceCtorEq, false_or, or_false, true_and, and_true]; first | omega | (split <;> omega))
  · simp (disch := omega) only [q, hs, decide_true, Bool.true_and, obs, iI_lit, iI_add, iI_sub, iI_mul, iI_neg, iI_lt, iI_le, iI_eq, iI_divp, iI_toInt, iI_clamp, bI_0, bI_1, b_tf, Int.toNat_natCast, Int.reduceToNat, Int.toNat_zero, Int.toNat_one, modf, if_pos, if_neg, reduceIte, reduceCtorEq]
    exact bz (by rw [decide_eq_false_iff_not]; omega)
theorem m_depthOf (M : MR σ sh) (V : Val sh) {k : Nat} (hk : (k : Int) < sh 76) : f_X11_depthOf σ (iI k) = some (iI (dOf sh k), σ) := by
  have T := V.2.2.2.2.2.2.1 k hk
  have h8 := V.2.2.1
  unfold ValT at T
  unfold f_X11_depthOf dOf
  by_cases q : tT sh k 0 = 5
  · simp (disch := omega) only [m_of M h8.2, q, obs, iI_lit, iI_add, iI_sub, iI_mul, iI_neg, iI_lt, iI_le, iI_eq, iI_divp, iI_toInt, iI_clamp, bI_0, bI_1, b_tf, Int.toNat_natCast, Int.reduceToNat, Int.toNat_zero, Int.toNat_one, modf, if_pos, if_neg, reduceIte, reduceCtorEq]
  · simp (disch := omega) only [m_of M h8.2, q, obs, iI_lit, iI_add, iI_sub, iI_mul, iI_neg, iI_lt, iI_le, iI_eq, iI_divp, iI_toInt, iI_clamp, bI_0, bI_1, b_tf, Int.toNat_natCast, Int.reduceToNat, Int.toNat_zero, Int.toNat_one, modf, if_pos, if_neg, reduceIte, reduceCtorEq]
theorem lies_4 {k : Nat} {x y : Int} (h : ¬ 4 ≤ tT sh k 0) : lies sh k x y = false := by
  unfold lies
  rw [decide_eq_false h]; rfl
theorem m_shoal_loop (M : MR σ sh) (V : Val sh) {x y : Int} (hx : -100 ≤ x ∧ x ≤ 100) (hy : -100 ≤ y ∧ y ≤ 100) : ∀ (d k f : Nat), (k : Int) + d = sh 76 → d < f → fx F_X11_shoalAt_h6 z_X11_shoalAt_h6 f σ (iI x) (iI y) (iI (shoF sh x y k)) (iI k) = some (iI (shoZ sh x y), σ) := by
  have h8 := V.2.2.1
  intro d
  induction d with
  | zero =>
    intro k f hk hf
    obtain ⟨f, rfl⟩ : ∃ g, f = g + 1 := ⟨f - 1, by omega⟩
    rw [fx_s]
    unfold F_X11_shoalAt_h6 shoZ
    simp (disch := omega) only [M.c76, obs, iI_lit, iI_add, iI_sub, iI_mul, iI_neg, iI_lt, iI_le, iI_eq, iI_divp, iI_toInt, iI_clamp, bI_0, bI_1, b_tf, Int.toNat_natCast, Int.reduceToNat, Int.toNat_zero, Int.toNat_one, modf, if_pos, if_neg, reduceIte, reduceCtorEq]
    rw [show (sh 76).toNat = k by omega]
  | succ d ih =>
    intro k f hk hf
    obtain ⟨f, rfl⟩ : ∃ g, f = g + 1 := ⟨f - 1, by omega⟩
    rw [fx_s]
    have b2 := dOf_b V (k := k) (by omega)
    have i1 := ih (k + 1) f (by omega) (by omega)
    have hP := shoF_p V x y k (by omega)
    rw [Int.natCast_succ, shoF_s] at i1
    generalize fx F_X11_shoalAt_h6 z_X11_shoalAt_h6 f = K at i1 ⊢
    unfold F_X11_shoalAt_h6 f_X11_shoalAt_p61 f_X11_shoalAt_p58 f_X11_shoalAt_p61
    by_cases s4 : 4 ≤ tT sh k 0
    · cases hl : lies sh k x y
      · rw [hl, if_neg (fun h => by cases h.1)] at i1
        simp (disch := omega) only [M.c76, m_isShoal M V (k := k) (by omega), decide_eq_true s4, bI_t, m_lies M V (k := k) (by omega) s4 hx hy, hl, bI_f, obs, iI_lit, iI_add, iI_sub, iI_mul, iI_neg, iI_lt, iI_le, iI_eq, iI_divp, iI_toInt, iI_clamp, bI_0, bI_1, b_tf, Int.toNat_natCast, Int.reduceToNat, Int.toNat_zero, Int.toNat_one, modf, if_pos, if_neg, reduceIte, reduceCtorEq]
        exact i1
      · rw [hl] at i1
        simp only [true_and] at i1
        rcases hP with ⟨a1, a2, a3⟩ | ⟨b, b1, c2, b3, b4, b5, b6⟩
        · rw [if_pos (Or.inl a1)] at i1
          rw [a1]
          simp (disch := omega) only [M.c76, m_isShoal M V (k := k) (by omega), decide_eq_true s4, bI_t, m_lies M V (k := k) (by omega) s4 hx hy, hl, obs, iI_lit, iI_add, iI_sub, iI_mul, iI_neg, iI_lt, iI_le, iI_eq, iI_divp, iI_toInt, iI_clamp, bI_0, bI_1, b_tf, Int.toNat_natCast, Int.reduceToNat, Int.toNat_zero, Int.toNat_one, modf, if_pos, if_neg, reduceIte, reduceCtorEq]
          exact i1
        · rw [c2, Int.toNat_natCast] at i1
          rw [c2]
          have bb := dOf_b V (k := b) (by omega)
          by_cases q : dOf sh k < dOf sh b
          · rw [if_pos (Or.inr q)] at i1
            simp (disch := omega) only [M.c76, m_isShoal M V (k := k) (by omega), decide_eq_true s4, bI_t, m_lies M V (k := k) (by omega) s4 hx hy, hl, m_depthOf M V (k := k) (by omega), m_depthOf M V (k := b) (by omega), obs, iI_lit, iI_add, iI_sub, iI_mul, iI_neg, iI_lt, iI_le, iI_eq, iI_divp, iI_toInt, iI_clamp, bI_0, bI_1, b_tf, Int.toNat_natCast, Int.reduceToNat, Int.toNat_zero, Int.toNat_one, modf, if_pos, if_neg, reduceIte, reduceCtorEq]
            exact i1
          · rw [if_neg (by omega)] at i1
            simp (disch := omega) only [M.c76, m_isShoal M V (k := k) (by omega), decide_eq_true s4, bI_t, m_lies M V (k := k) (by omega) s4 hx hy, hl, m_depthOf M V (k := k) (by omega), m_depthOf M V (k := b) (by omega), obs, iI_lit, iI_add, iI_sub, iI_mul, iI_neg, iI_lt, iI_le, iI_eq, iI_divp, iI_toInt, iI_clamp, bI_0, bI_1, b_tf, Int.toNat_natCast, Int.reduceToNat, Int.toNat_zero, Int.toNat_one, modf, if_pos, if_neg, reduceIte, reduceCtorEq]
            exact i1
    · rw [lies_4 s4, if_neg (fun h => by cases h.1)] at i1
      simp (disch := omega) only [M.c76, m_isShoal M V (k := k) (by omega), decide_eq_false s4, bI_f, obs, iI_lit, iI_add, iI_sub, iI_mul, iI_neg, iI_lt, iI_le, iI_eq, iI_divp, iI_toInt, iI_clamp, bI_0, bI_1, b_tf, Int.toNat_natCast, Int.reduceToNat, Int.toNat_zero, Int.toNat_one, modf, if_pos, if_neg, reduceIte, reduceCtorEq]
      exact i1
theorem m_shoalAt (M : MR σ sh) (V : Val sh) {x y : Int} (hx : -100 ≤ x ∧ x ≤ 100) (hy : -100 ≤ y ∧ y ≤ 100) : f_X11_shoalAt σ (iI x) (iI y) = some (iI (shoZ sh x y), σ) := by
  have h8 := V.2.2.1
  have h := m_shoal_loop M V hx hy (sh 76).toNat 0 FU (by omega) (by rw [FU_val]; omega)
  rw [z0] at h
  unfold f_X11_shoalAt
  rw [iI_lit 0, show ((-1000000 : Int32)) = iI (shoF sh x y 0) from by rw [iI_lit, iI_neg]; rfl]
  exact h
theorem m_charted (M : MR σ sh) (V : Val sh) {x y : Int} (hx : -100 ≤ x ∧ x ≤ 100) (hy : -100 ≤ y ∧ y ≤ 100) : f_X11_charted σ (iI x) (iI y) = some (iI (depZ sh x y), σ) := by
  have h8 := V.2.2.1
  have hP := shoF_p V x y (sh 76).toNat (by omega)
  unfold f_X11_charted depZ
  rw [m_shoalAt M V hx hy]
  unfold shoZ
  rcases hP with ⟨a1, a2, a3⟩ | ⟨b, b1, c2, b3, b4, b5, b6⟩
  · rw [a1, a2]
    simp (disch := omega) only [obs, iI_lit, iI_add, iI_sub, iI_mul, iI_neg, iI_lt, iI_le, iI_eq, iI_divp, iI_toInt, iI_clamp, bI_0, bI_1, b_tf, Int.toNat_natCast, Int.reduceToNat, Int.toNat_zero, Int.toNat_one, modf, if_pos, if_neg, reduceIte, reduceCtorEq]
  · rw [c2, b4]
    simp (disch := omega) only [m_depthOf M V (k := b) (by omega), obs, iI_lit, iI_add, iI_sub, iI_mul, iI_neg, iI_lt, iI_le, iI_eq, iI_divp, iI_toInt, iI_clamp, bI_0, bI_1, b_tf, Int.toNat_natCast, Int.reduceToNat, Int.toNat_zero, Int.toNat_one, modf, if_pos, if_neg, reduceIte, reduceCtorEq]
end MO
