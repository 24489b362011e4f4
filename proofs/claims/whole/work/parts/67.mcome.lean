section MC
variable {σ τ : St} {sh : Nat → Int}
theorem m_mistaken (M : MR τ sh) (V : Val sh) {g : Nat} (hg : (g : Int) < sh 77) : f_X11_mistaken τ (iI g) = some (iI (mistZ sh g), τ) := by
  have h6 := V.1
  have h8 := V.2.2.1
  obtain ⟨-, ⟨u1, u2⟩, u3, u4, u5, u6, u7⟩ := V.2.2.2.2.2.2.2 g hg
  have l1 := m_legOf M h6.2 (t := (g : Int)) (w := 1) (by omega) hg (by omega) (by omega)
  have l2 := m_legOf M h6.2 (t := (g : Int)) (w := 2) (by omega) hg (by omega) (by omega)
  have l3 := m_legOf M h6.2 (t := (g : Int)) (w := 3) (by omega) hg (by omega) (by omega)
  simp only [Int.toNat_natCast, Int.reduceToNat, Int.toNat_one] at l1 l2 l3
  unfold f_X11_mistaken mistZ
  simp only [iI_lit, iI_neg]
  rw [l1, obs]
  simp only
  by_cases p : tL sh g 1 = 0 ∨ tL sh g 1 = 4
  · rw [if_pos p]
    rcases p with p | p
    · rw [if_pos (by rw [p])]
    · rw [p, if_neg (by decide), if_pos rfl]
  · have ua := u5 (by omega) (by omega)
    rw [if_neg p, if_neg (fun h => absurd ((iI_eq (by omega) (by omega) (by omega) (by omega)).mp h) (by omega)), if_neg (fun h => absurd ((iI_eq (by omega) (by omega) (by omega) (by omega)).mp h) (by omega)), l2, obs]
    simp only
    rw [l3, obs]
    simp only
    rw [m_isMark M V (by omega) (by omega), obs]
    simp only [bI_0]
    have p59 : ∀ z : Int, isMk sh (tL sh g 2) = true → ¬ (tL sh g 1 = 3 ∧ tT sh (tL sh g 2).toNat 0 ≠ 2) → f_X11_mistaken_p59 τ (iI (tL sh g 1)) (iI (tL sh g 3)) = some (iI (if isMk sh (tL sh g 2) = false then tL sh g 2 else if tL sh g 1 = 3 ∧ tT sh (tL sh g 2).toNat 0 ≠ 2 then tL sh g 2 else if tL sh g 1 = 2 ∧ isMk sh (tL sh g 3) = false then tL sh g 3 else -1000000), τ) := by
      intro z hm hn
      rw [hm, if_neg (by decide), if_neg hn]
      unfold f_X11_mistaken_p59
      simp only [iI_lit, iI_neg]
      by_cases p2 : tL sh g 1 = 2
      · have ub := u6 p2
        rw [if_pos (by rw [p2]), m_isMark M V (by omega) (by omega), obs]
        simp only [bI_0]
        cases hb : isMk sh (tL sh g 3)
        · rw [if_pos rfl, if_pos ⟨p2, rfl⟩]
        · rw [if_neg (by decide), if_neg (fun h => absurd h.2 (by decide))]
      · rw [if_neg (fun h => p2 ((iI_eq (by omega) (by omega) (by omega) (by omega)).mp h)), if_neg (fun h => p2 h.1)]
    cases hm : isMk sh (tL sh g 2)
    · rw [if_pos rfl, if_pos rfl]; rfl
    · obtain ⟨a1, a2, a3⟩ := isMk_t hm
      have hT := V.2.2.2.2.2.2.1 (tL sh g 2).toNat (by omega)
      unfold ValT at hT
      rw [hm] at p59
      rw [if_neg (show ¬ true = false by decide)]
      by_cases p3 : tL sh g 1 = 3
      · rw [if_pos (by rw [p3]), m_of M h8.2 a1 a2 (by omega) (by omega), obs]
        simp only [Int.toNat_zero]
        by_cases q : tT sh (tL sh g 2).toNat 0 = 2
        · rw [if_pos (by rw [q])]
          exact p59 0 rfl (fun h => h.2 q)
        · rw [if_neg (fun h => q ((iI_eq (by omega) (by omega) (by omega) (by omega)).mp h)), if_neg (by decide), if_pos ⟨p3, q⟩]
          rfl
      · rw [if_neg (fun h => p3 ((iI_eq (by omega) (by omega) (by omega) (by omega)).mp h))]
        exact p59 0 rfl (fun h => p3 h.1)
theorem m_lineOf (M : MR τ sh) (V : Val sh) {a b : Int} (ha : isMk sh a = true) (hb : isMk sh b = true) {x y m : Int} (h0 : 0 ≤ m) (h1 : m < 100000) : f_X11_lineOf τ (iI a) (iI b) (iI x) (iI y) (iI m) = some (iI (lineZ sh a.toNat b.toNat x y (tideZ sh m)), τ) := by
  obtain ⟨a1, a2, a3⟩ := isMk_t ha
  obtain ⟨b1, b2, b3⟩ := isMk_t hb
  have h8 := V.2.2.1
  obtain ⟨i, rfl⟩ : ∃ n : Nat, a = n := ⟨a.toNat, by omega⟩
  obtain ⟨j, rfl⟩ : ∃ n : Nat, b = n := ⟨b.toNat, by omega⟩
  unfold f_X11_lineOf lineZ
  simp (disch := omega) only [m_eastOf M V a2 h0 h1, m_eastOf M V b2 h0 h1, m_of M h8.2, obs, iI_lit, iI_add, iI_sub, iI_mul, iI_neg, iI_lt, iI_le, iI_eq, iI_divp, iI_toInt, iI_clamp, bI_0, bI_1, b_tf, Int.toNat_natCast, Int.reduceToNat, Int.toNat_zero, Int.toNat_one, modf, if_pos, if_neg, reduceIte, reduceCtorEq]
def sgZ (z : Int) : Int := if 0 ≤ z then (if z ≤ 0 then 0 else 1) else -1
theorem m_signOf {z : Int} (h1 : -2147483648 ≤ z) (h2 : z < 2147483648) : f_X11_signOf τ (iI z) = some (iI (sgZ z), τ) := by
  unfold f_X11_signOf sgZ
  simp (disch := omega) only [obs, iI_lit, iI_add, iI_sub, iI_mul, iI_neg, iI_lt, iI_le, iI_eq, iI_divp, iI_toInt, iI_clamp, bI_0, bI_1, b_tf, Int.toNat_natCast, Int.reduceToNat, Int.toNat_zero, Int.toNat_one, modf, if_pos, if_neg, reduceIte, reduceCtorEq]
  by_cases p : 0 ≤ z
  · rw [if_pos p, if_pos p]; split <;> rfl
  · rw [if_neg p, if_neg p]
theorem sg_cr {l l0 : Int} : crZ l l0 = (decide (sgZ l = 0) || decide (sgZ l + sgZ l0 = 0)) := by
  unfold crZ sgZ
  rcases Int.lt_trichotomy l 0 with p | p | p <;> rcases Int.lt_trichotomy l0 0 with q | q | q <;> simp (disch := omega) only [obs, iI_lit, iI_add, iI_sub, iI_mul, iI_neg, iI_lt, iI_le, iI_eq, iI_divp, iI_toInt, iI_clamp, bI_0, bI_1, b_tf, Int.toNat_natCast, Int.reduceToNat, Int.toNat_zero, Int.toNat_one, modf, if_pos, if_neg, reduceIte, reduceCtorEq, decide_eq_true, decide_eq_false, Bool.true_and, Bool.false_and, Bool.and_true, Bool.and_false, Bool.true_or, Bool.false_or, Bool.or_true, Bool.or_false, Bool.not_true, Bool.not_false, bI_t, bI_f] <;> rfl
theorem sg_b (z : Int) : -1 ≤ sgZ z ∧ sgZ z ≤ 1 := by unfold sgZ; omega
theorem m_comes (M : MR τ sh) (V : Val sh) {o : Nat → Bool} (hO : OutB (τ 26 13) o) {g : Nat} (hg : (g : Int) < sh 77) (hm : mistZ sh g = -1000000) {t : Int} (ht : 0 ≤ t ∧ t ≤ 99) {f m : Nat} (hf : f ≤ m) (hm3 : m ≤ 360) {x y x0 y0 : Int} (rx : τ 33 m = iI x) (ry : τ 34 m = iI y) (rx0 : τ 33 f = iI x0) (ry0 : τ 34 f = iI y0) (h3 : -100 ≤ x) (h4 : x ≤ 100) (h5 : -100 ≤ y) (h6 : y ≤ 100) (h7 : -100 ≤ x0) (h8 : x0 ≤ 100) (h9 : -100 ≤ y0) (h10 : y0 ≤ 100) :
    f_X11_comes τ (iI g) (iI f) (iI m) (iI t) = some (bI (comesZ sh o g (tL sh g 0) ((m : Int) - f) x y (tideZ sh (t + m)) (depZ sh x y + tideZ sh (t + m)) (wasZ sh o g x0 y0 (tideZ sh (t + f))) (lwZ sh g x0 y0 (tideZ sh (t + f)))), τ) := by
  obtain ⟨m1, m2⟩ := mist_ok hm V hg
  obtain ⟨cc, ⟨u1, u2⟩, u3, u4, u5, u6, u7⟩ := V.2.2.2.2.2.2.2 g hg
  have e6 := V.1
  have e8 := V.2.2.1
  have l0 := m_legOf M e6.2 (t := (g : Int)) (w := 0) (by omega) hg (by omega) (by omega)
  have l1 := m_legOf M e6.2 (t := (g : Int)) (w := 1) (by omega) hg (by omega) (by omega)
  have l2 := m_legOf M e6.2 (t := (g : Int)) (w := 2) (by omega) hg (by omega) (by omega)
  have l3 := m_legOf M e6.2 (t := (g : Int)) (w := 3) (by omega) hg (by omega) (by omega)
  simp only [Int.toNat_natCast, Int.reduceToNat, Int.toNat_one, Int.toNat_zero] at l0 l1 l2 l3
  have tb := (tide_rng V (m := t + (m : Int)) (by omega) (by omega)).2
  have tb0 := (tide_rng V (m := t + (f : Int)) (by omega) (by omega)).2
  have seen : ∀ a : Int, isMk sh a = true → f_X11_isSeen τ (iI a) (iI x) (iI y) (iI (t + m)) = some (bI (seenZ sh o a.toNat x y (tideZ sh (t + m))), τ) := by
    intro a ha
    obtain ⟨a1, a2, a3⟩ := isMk_t ha
    obtain ⟨n, rfl⟩ : ∃ n : Nat, a = n := ⟨a.toNat, by omega⟩
    exact m_isSeen M V a2 a3 (by omega) (by omega) ⟨h3, h4⟩ ⟨h5, h6⟩ hO
  have seen0 : ∀ a : Int, isMk sh a = true → f_X11_isSeen τ (iI a) (iI x0) (iI y0) (iI (t + f)) = some (bI (seenZ sh o a.toNat x0 y0 (tideZ sh (t + f))), τ) := by
    intro a ha
    obtain ⟨a1, a2, a3⟩ := isMk_t ha
    obtain ⟨n, rfl⟩ : ∃ n : Nat, a = n := ⟨a.toNat, by omega⟩
    exact m_isSeen M V a2 a3 (by omega) (by omega) ⟨h7, h8⟩ ⟨h9, h10⟩ hO
  unfold f_X11_comes comesZ
  simp only [iI_lit]
  rw [l2, obs]
  simp only
  rw [l3, obs, if_pos (by rw [iI_toInt (by omega) (by omega)]; omega), obs, if_pos (by rw [iI_toInt (by omega) (by omega)]; omega), obs, obs]
  simp only
  rw [l1, obs]
  simp (disch := omega) only [iI_clamp, Int.toNat_natCast, rx, ry, iI_add]
  rcases (show tL sh g 1 = 0 ∨ tL sh g 1 = 1 ∨ tL sh g 1 = 2 ∨ tL sh g 1 = 3 ∨ tL sh g 1 = 4 by omega) with p | p | p | p | p
  · have ua := u3 p
    simp (disch := omega) only [p, obs, iI_lit, iI_add, iI_sub, iI_mul, iI_neg, iI_lt, iI_le, iI_eq, iI_divp, iI_toInt, iI_clamp, bI_0, bI_1, b_tf, Int.toNat_natCast, Int.reduceToNat, Int.toNat_zero, Int.toNat_one, modf, if_pos, if_neg, reduceIte, reduceCtorEq]
    exact bz (by rw [decide_eq_false_iff_not]; omega)
  · have ma := m1 (by omega) (by omega)
    obtain ⟨a1, a2, a3⟩ := isMk_t ma
    have b := line_b V ma ma (h := tideZ sh (t + m)) (x := x) (y := y) (by omega) (by omega) h3 h4 h5 h6
    have E := eZ_b (tL sh g 0).toNat (by omega)
    have p1 := prb (a := eZ.getD (tL sh g 0).toNat 0) (e := mX sh (tL sh g 2).toNat (tideZ sh (t + m)) - x) (by omega) (by omega) (by omega) (by omega)
    have p2 := prb (a := nZ.getD (tL sh g 0).toNat 0) (e := tT sh (tL sh g 2).toNat 2 - y) (by omega) (by omega) (by omega) (by omega)
    have ea := m_eastOf M V (k := (tL sh g 2).toNat) (by omega) (m := t + m) (by omega) (by omega)
    rw [show (((tL sh g 2).toNat : Nat) : Int) = tL sh g 2 by omega] at ea
    unfold abZ
    simp (disch := omega) only [p, l0, seen _ ma, ea, M.2.1, M.2.2, m_of M e8.2, obs, iI_lit, iI_add, iI_sub, iI_mul, iI_neg, iI_lt, iI_le, iI_eq, iI_divp, iI_toInt, iI_clamp, bI_0, bI_1, b_tf, Int.toNat_natCast, Int.reduceToNat, Int.toNat_zero, Int.toNat_one, modf, if_pos, if_neg, reduceIte, reduceCtorEq]
    cases seenZ sh o (tL sh g 2).toNat x y (tideZ sh (t + m))
    · rfl
    · simp (disch := omega) only [Bool.true_and, obs, iI_lit, iI_add, iI_sub, iI_mul, iI_neg, iI_lt, iI_le, iI_eq, iI_divp, iI_toInt, iI_clamp, bI_0, bI_1, b_tf, Int.toNat_natCast, Int.reduceToNat, Int.toNat_zero, Int.toNat_one, modf, if_pos, if_neg, reduceIte, reduceCtorEq]
      exact bz (by rw [decide_eq_false_iff_not]; omega)
  · have ma := m1 (by omega) (by omega)
    have mb := m2 p
    have lb := line_b V ma mb (h := tideZ sh (t + m)) (x := x) (y := y) (by omega) (by omega) h3 h4 h5 h6
    have lb0 := line_b V ma mb (h := tideZ sh (t + f)) (x := x0) (y := y0) (by omega) (by omega) h7 h8 h9 h10
    have s1 := sg_b (lineZ sh (tL sh g 2).toNat (tL sh g 3).toNat x y (tideZ sh (t + m)))
    have s2 := sg_b (lineZ sh (tL sh g 2).toNat (tL sh g 3).toNat x0 y0 (tideZ sh (t + f)))
    unfold lwZ
    rw [sg_cr]
    simp (disch := omega) only [p, rx0, ry0, seen _ ma, seen _ mb, m_lineOf M V ma mb, m_signOf, obs, iI_lit, iI_add, iI_sub, iI_mul, iI_neg, iI_lt, iI_le, iI_eq, iI_divp, iI_toInt, iI_clamp, bI_0, bI_1, b_tf, Int.toNat_natCast, Int.reduceToNat, Int.toNat_zero, Int.toNat_one, modf, if_pos, if_neg, reduceIte, reduceCtorEq]
    cases seenZ sh o (tL sh g 2).toNat x y (tideZ sh (t + m)) <;> cases seenZ sh o (tL sh g 3).toNat x y (tideZ sh (t + m))
    · rfl
    · rfl
    · rfl
    · simp (disch := omega) only [Bool.true_and, obs, iI_lit, iI_add, iI_sub, iI_mul, iI_neg, iI_lt, iI_le, iI_eq, iI_divp, iI_toInt, iI_clamp, bI_0, bI_1, b_tf, Int.toNat_natCast, Int.reduceToNat, Int.toNat_zero, Int.toNat_one, modf, if_pos, if_neg, reduceIte, reduceCtorEq]
      generalize sgZ (lineZ sh (tL sh g 2).toNat (tL sh g 3).toNat x y (tideZ sh (t + m))) = q1
      generalize sgZ (lineZ sh (tL sh g 2).toNat (tL sh g 3).toNat x0 y0 (tideZ sh (t + f))) = q2
      by_cases c1 : q1 = 0
      · rw [if_pos c1, decide_eq_true c1]; rfl
      · rw [if_neg c1, decide_eq_false c1, Bool.false_or]
        exact bo (by rw [decide_eq_true_eq])
  · have ma := m1 (by omega) (by omega)
    unfold wasZ
    simp (disch := omega) only [p, rx0, ry0, seen _ ma, seen0 _ ma, obs, iI_lit, iI_add, iI_sub, iI_mul, iI_neg, iI_lt, iI_le, iI_eq, iI_divp, iI_toInt, iI_clamp, bI_0, bI_1, b_tf, Int.toNat_natCast, Int.reduceToNat, Int.toNat_zero, Int.toNat_one, modf, if_pos, if_neg, reduceIte, reduceCtorEq]
    cases seenZ sh o (tL sh g 2).toNat x y (tideZ sh (t + m)) <;> cases seenZ sh o (tL sh g 2).toNat x0 y0 (tideZ sh (t + f)) <;> first | rfl | (rw [if_pos rfl]; rfl) | (rw [if_neg (by decide)]; rfl)
  · have ua := u4 p
    have db := dep_b V x y
    simp (disch := omega) only [p, m_charted M V ⟨h3, h4⟩ ⟨h5, h6⟩, m_tideAt M V, obs, iI_lit, iI_add, iI_sub, iI_mul, iI_neg, iI_lt, iI_le, iI_eq, iI_divp, iI_toInt, iI_clamp, bI_0, bI_1, b_tf, Int.toNat_natCast, Int.reduceToNat, Int.toNat_zero, Int.toNat_one, modf, if_pos, if_neg, reduceIte, reduceCtorEq]
    exact bz (by rw [decide_eq_false_iff_not]; omega)
end MC
