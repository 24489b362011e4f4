section QC
variable {σ τ : St} {sh : Nat → Int} {r : Nat → Int32}
theorem prod_b {a b : Int} (h1 : -200 ≤ a ∧ a ≤ 200) (h2 : -200 ≤ b ∧ b ≤ 200) : -40000 ≤ a * b ∧ a * b ≤ 40000 := by
  have e1 : (a.natAbs * b.natAbs : Nat) ≤ 200 * 200 := Nat.mul_le_mul (by omega) (by omega)
  have e2 : (a * b).natAbs = a.natAbs * b.natAbs := Int.natAbs_mul a b
  omega
def lineZ (sh : Nat → Int) (a b : Nat) (x y h : Int) : Int := (mX sh a h - x) * (tT sh b 2 - y) - (tT sh a 2 - y) * (mX sh b h - x)
def crZ (l l0 : Int) : Bool := decide (l = 0) || (decide (l < 0) && decide (0 < l0)) || (decide (0 < l) && decide (l0 < 0))
def abZ (sh : Nat → Int) (c : Int) (a : Nat) (x y h : Int) : Bool := decide (eZ.getD c.toNat 0 * (mX sh a h - x) + nZ.getD c.toNat 0 * (tT sh a 2 - y) ≤ 0)
/-- whether what a leg lasts until has come: i minutes of it, at a place, at a height, with a water; what was when it began -/
def comesZ (sh : Nat → Int) (o : Nat → Bool) (g : Nat) (c : Int) (i x y h w : Int) (was : Bool) (l0 : Int) : Bool :=
  if tL sh g 1 = 0 then decide (tL sh g 2 ≤ i)
  else if tL sh g 1 = 1 then seenZ sh o (tL sh g 2).toNat x y h && abZ sh c (tL sh g 2).toNat x y h
  else if tL sh g 1 = 2 then seenZ sh o (tL sh g 2).toNat x y h && (seenZ sh o (tL sh g 3).toNat x y h && crZ (lineZ sh (tL sh g 2).toNat (tL sh g 3).toNat x y h) l0)
  else if tL sh g 1 = 3 then seenZ sh o (tL sh g 2).toNat x y h != was
  else decide (w ≤ tL sh g 2)
def wasZ (sh : Nat → Int) (o : Nat → Bool) (g : Nat) (x y h : Int) : Bool := if tL sh g 1 = 3 then seenZ sh o (tL sh g 2).toNat x y h else false
def lwZ (sh : Nat → Int) (g : Nat) (x y h : Int) : Int := if tL sh g 1 = 2 then lineZ sh (tL sh g 2).toNat (tL sh g 3).toNat x y h else 0
def bgS (τ : St) (w : Bool) (l : Int) : St := g_u2 (g_u2 τ 12 7 (bI w)) 12 8 (iI l)
theorem mist_ok {g : Nat} (h : mistZ sh g = -1000000) (V : Val sh) (hg : (g : Int) < sh 77) : (1 ≤ tL sh g 1 → tL sh g 1 ≤ 3 → isMk sh (tL sh g 2) = true) ∧ (tL sh g 1 = 2 → isMk sh (tL sh g 3) = true) := by
  obtain ⟨-, ⟨u1, u2⟩, u3, u4, u5, u6, u7⟩ := V.2.2.2.2.2.2.2 g hg
  unfold mistZ at h
  refine ⟨fun a b => ?_, fun a => ?_⟩
  · have ua := u5 a b
    cases hm : isMk sh (tL sh g 2)
    · rw [if_neg (by omega), if_pos hm] at h; omega
    · rfl
  · have ua := u5 (by omega) (by omega)
    have ub := u6 a
    cases hm : isMk sh (tL sh g 3)
    · cases hn : isMk sh (tL sh g 2)
      · rw [if_neg (by omega), if_pos hn] at h; omega
      · rw [if_neg (by omega), hn, if_neg (by decide), if_neg (by omega), if_pos ⟨a, hm⟩] at h; omega
    · rfl
theorem line_b (V : Val sh) {a b : Int} (ha : isMk sh a = true) (hb : isMk sh b = true) {x y h : Int} (h0 : 0 ≤ h) (h1 : h ≤ 100) (h3 : -100 ≤ x) (h4 : x ≤ 100) (h5 : -100 ≤ y) (h6 : y ≤ 100) : (-200 ≤ mX sh a.toNat h - x ∧ mX sh a.toNat h - x ≤ 200) ∧ (-200 ≤ tT sh a.toNat 2 - y ∧ tT sh a.toNat 2 - y ≤ 200) ∧ (-80000 ≤ lineZ sh a.toNat b.toNat x y h ∧ lineZ sh a.toNat b.toNat x y h ≤ 80000) ∧ (-40000 ≤ (mX sh a.toNat h - x) * (tT sh b.toNat 2 - y) ∧ (mX sh a.toNat h - x) * (tT sh b.toNat 2 - y) ≤ 40000) ∧ (-40000 ≤ (tT sh a.toNat 2 - y) * (mX sh b.toNat h - x) ∧ (tT sh a.toNat 2 - y) * (mX sh b.toNat h - x) ≤ 40000) := by
  obtain ⟨a1, a2, a3⟩ := isMk_t ha
  obtain ⟨b1, b2, b3⟩ := isMk_t hb
  have A := V.2.2.2.2.2.2.1 a.toNat (by omega)
  have B := V.2.2.2.2.2.2.1 b.toNat (by omega)
  have MA := mX_b V (k := a.toNat) (by omega) h0 h1
  have MB := mX_b V (k := b.toNat) (by omega) h0 h1
  unfold ValT at A B
  have p1 := prod_b (a := mX sh a.toNat h - x) (b := tT sh b.toNat 2 - y) (by omega) (by omega)
  have p2 := prod_b (a := tT sh a.toNat 2 - y) (b := mX sh b.toNat h - x) (by omega) (by omega)
  unfold lineZ
  omega
theorem e_turnOfMarks (R : RC r sh) (V : Val sh) (hs : τ 14 = r) {a b : Int} (r4 : τ 12 4 = iI a) (r5 : τ 12 5 = iI b) (ha : isMk sh a = true) (hb : isMk sh b = true) {x y h : Int} (h0 : 0 ≤ h) (h1 : h ≤ 100) (h3 : -100 ≤ x) (h4 : x ≤ 100) (h5 : -100 ≤ y) (h6 : y ≤ 100) : f_X9_turnOfMarks τ (iI x) (iI y) (iI h) = some (iI (lineZ sh a.toNat b.toNat x y h), τ) := by
  obtain ⟨a1, a2, a3⟩ := isMk_t ha
  obtain ⟨b1, b2, b3⟩ := isMk_t hb
  have h8 := V.2.2.1
  unfold f_X9_turnOfMarks lineZ
  simp (disch := omega) only [r4, r5, q_markX R V hs a1 a2 h0 h1, q_markX R V hs b1 b2 h0 h1, q_thingCell R hs, obs, iI_lit, iI_add, iI_sub, iI_mul, iI_neg, iI_lt, iI_le, iI_eq, iI_divp, iI_toInt, iI_clamp, bI_0, bI_1, b_tf, Int.toNat_natCast, Int.reduceToNat, Int.toNat_zero, Int.toNat_one, modf, if_pos, if_neg, reduceIte, reduceCtorEq]
theorem e_begin (R : RC r sh) (V : Val sh) (hs : τ 14 = r) {o : Nat → Bool} {ob : Int32} (hO : OutB ob o) {g : Nat} (hg : (g : Int) < sh 77) (hm : mistZ sh g = -1000000) (r2 : τ 12 2 = ob) (r3 : τ 12 3 = iI (tL sh g 1)) (r4 : τ 12 4 = iI (tL sh g 2)) (r5 : τ 12 5 = iI (tL sh g 3)) {x y h : Int} (h0 : 0 ≤ h) (h1 : h ≤ 100) (h3 : -100 ≤ x) (h4 : x ≤ 100) (h5 : -100 ≤ y) (h6 : y ≤ 100) : f_X9_begin τ (iI x) (iI y) (iI h) = some (bgS τ (wasZ sh o g x y h) (lwZ sh g x y h)) := by
  obtain ⟨m1, m2⟩ := mist_ok hm V hg
  obtain ⟨-, ⟨u1, u2⟩, -⟩ := V.2.2.2.2.2.2.2 g hg
  have body : ∀ w : Bool, f_X9_begin_p35 τ (iI x) (iI y) (iI h) (bI w) = some (bgS τ w (lwZ sh g x y h)) := by
    intro w
    have s3 : g_u2 τ 12 7 (bI w) 12 3 = iI (tL sh g 1) := by rw [g_u2_n2 (by decide), r3]
    have s4 : g_u2 τ 12 7 (bI w) 12 4 = iI (tL sh g 2) := by rw [g_u2_n2 (by decide), r4]
    have s5 : g_u2 τ 12 7 (bI w) 12 5 = iI (tL sh g 3) := by rw [g_u2_n2 (by decide), r5]
    unfold f_X9_begin_p35 f_X9_begin_p58 lwZ bgS
    simp only [iI_lit, if_pos (bI_01 w), obs]
    rw [s3]
    by_cases p : tL sh g 1 = 2
    · have e := e_turnOfMarks (τ := g_u2 τ 12 7 (bI w)) R V (u14 hs) s4 s5 (m1 (by omega) (by omega)) (m2 p) h0 h1 h3 h4 h5 h6
      simp (disch := omega) only [p, e, obs, iI_lit, iI_add, iI_sub, iI_mul, iI_neg, iI_lt, iI_le, iI_eq, iI_divp, iI_toInt, iI_clamp, bI_0, bI_1, b_tf, Int.toNat_natCast, Int.reduceToNat, Int.toNat_zero, Int.toNat_one, modf, if_pos, if_neg, reduceIte, reduceCtorEq]
    · simp (disch := omega) only [p, obs, iI_lit, iI_add, iI_sub, iI_mul, iI_neg, iI_lt, iI_le, iI_eq, iI_divp, iI_toInt, iI_clamp, bI_0, bI_1, b_tf, Int.toNat_natCast, Int.reduceToNat, Int.toNat_zero, Int.toNat_one, modf, if_pos, if_neg, reduceIte, reduceCtorEq]
  unfold f_X9_begin f_X9_begin_p34 wasZ
  rw [r3, r4, r2, iI_lit 3, iI_lit 0, iI_lit 1]
  by_cases p : tL sh g 1 = 3
  · rw [q_isInSight R V hO hs (m1 (by omega) (by omega)) h0 h1 h3 h4 h5 h6, obs, p, if_pos rfl, if_pos rfl]
    cases hq : seenZ sh o (tL sh g 2).toNat x y h
    · rw [if_pos bI_f]
      exact body false
    · rw [if_neg (by rw [bI_0]; decide)]
      exact body true
  · rw [if_neg (fun h => p ((iI_eq (by omega) (by omega) (by omega) (by omega)).mp h)), if_neg p]
    exact body false
theorem g_east_j : ∀ i, i < 16 → g_east.getD i (iI 0) = iI (eZ.getD i 0) := by decide
theorem g_north_j : ∀ i, i < 16 → g_north.getD i (iI 0) = iI (nZ.getD i 0) := by decide
theorem e_eastOf {c : Int} (h1 : 0 ≤ c) (h2 : c < 16) : f_X2_eastOf τ (iI c) = some (iI (eZ.getD c.toNat 0), τ) := by
  unfold f_X2_eastOf
  have hc : c % 16 = c := by omega
  simp (disch := omega) only [iI_and15, hc, g_east_j, obs, iI_lit, iI_add, iI_sub, iI_mul, iI_neg, iI_lt, iI_le, iI_eq, iI_divp, iI_toInt, iI_clamp, bI_0, bI_1, b_tf, Int.toNat_natCast, Int.reduceToNat, Int.toNat_zero, Int.toNat_one, modf, if_pos, if_neg, reduceIte, reduceCtorEq]
theorem e_northOf {c : Int} (h1 : 0 ≤ c) (h2 : c < 16) : f_X2_northOf τ (iI c) = some (iI (nZ.getD c.toNat 0), τ) := by
  unfold f_X2_northOf
  have hc : c % 16 = c := by omega
  simp (disch := omega) only [iI_and15, hc, g_north_j, obs, iI_lit, iI_add, iI_sub, iI_mul, iI_neg, iI_lt, iI_le, iI_eq, iI_divp, iI_toInt, iI_clamp, bI_0, bI_1, b_tf, Int.toNat_natCast, Int.reduceToNat, Int.toNat_zero, Int.toNat_one, modf, if_pos, if_neg, reduceIte, reduceCtorEq]
theorem e_isAbeam (R : RC r sh) (V : Val sh) (hs : τ 14 = r) {a c : Int} (r4 : τ 12 4 = iI a) (r6 : τ 12 6 = iI c) (hc1 : 0 ≤ c) (hc2 : c < 16) (ha : isMk sh a = true) {x y h : Int} (h0 : 0 ≤ h) (h1 : h ≤ 100) (h3 : -100 ≤ x) (h4 : x ≤ 100) (h5 : -100 ≤ y) (h6 : y ≤ 100) : f_X9_isAbeam τ (iI x) (iI y) (iI h) = some (bI (abZ sh c a.toNat x y h), τ) := by
  obtain ⟨a1, a2, a3⟩ := isMk_t ha
  have h8 := V.2.2.1
  have b := line_b V ha ha h0 h1 h3 h4 h5 h6
  have E := eZ_b c.toNat (by omega)
  have p1 := prb (a := eZ.getD c.toNat 0) (e := mX sh a.toNat h - x) (by omega) (by omega) (by omega) (by omega)
  have p2 := prb (a := nZ.getD c.toNat 0) (e := tT sh a.toNat 2 - y) (by omega) (by omega) (by omega) (by omega)
  unfold f_X9_isAbeam abZ
  simp (disch := omega) only [r4, r6, q_markX R V hs a1 a2 h0 h1, q_thingCell R hs, e_eastOf hc1 hc2, e_northOf hc1 hc2, obs, iI_lit, iI_add, iI_sub, iI_mul, iI_neg, iI_lt, iI_le, iI_eq, iI_divp, iI_toInt, iI_clamp, bI_0, bI_1, b_tf, Int.toNat_natCast, Int.reduceToNat, Int.toNat_zero, Int.toNat_one, modf, if_pos, if_neg, reduceIte, reduceCtorEq]
  exact bz (by rw [decide_eq_false_iff_not]; omega)
theorem e_isCrossed {l l0 : Int} (r8 : τ 12 8 = iI l0) (h1 : -100000 ≤ l) (h2 : l ≤ 100000) (h3 : -100000 ≤ l0) (h4 : l0 ≤ 100000) : f_X9_isCrossed τ (iI l) = some (bI (crZ l l0), τ) := by
  unfold f_X9_isCrossed f_X9_isCrossed_p15 crZ
  rcases Int.lt_trichotomy l 0 with p | p | p <;> rcases Int.lt_trichotomy l0 0 with q | q | q <;> simp (disch := omega) only [r8, obs, iI_lit, iI_add, iI_sub, iI_mul, iI_neg, iI_lt, iI_le, iI_eq, iI_divp, iI_toInt, iI_clamp, bI_0, bI_1, b_tf, Int.toNat_natCast, Int.reduceToNat, Int.toNat_zero, Int.toNat_one, modf, if_pos, if_neg, reduceIte, reduceCtorEq, decide_eq_true, decide_eq_false, Bool.true_and, Bool.false_and, Bool.and_true, Bool.and_false, Bool.true_or, Bool.false_or, Bool.or_true, Bool.or_false, Bool.not_true, Bool.not_false, bI_t, bI_f]
theorem e_hasCome (R : RC r sh) (V : Val sh) (hs : τ 14 = r) {o : Nat → Bool} {ob : Int32} (hO : OutB ob o) {g : Nat} (hg : (g : Int) < sh 77) (hm : mistZ sh g = -1000000) {c : Int} (hc1 : 0 ≤ c) (hc2 : c < 16) (r2 : τ 12 2 = ob) (r3 : τ 12 3 = iI (tL sh g 1)) (r4 : τ 12 4 = iI (tL sh g 2)) (r5 : τ 12 5 = iI (tL sh g 3)) (r6 : τ 12 6 = iI c) {was : Bool} {l0 : Int} (r7 : τ 12 7 = bI was) (r8 : τ 12 8 = iI l0) (hl1 : -100000 ≤ l0) (hl2 : l0 ≤ 100000) {i w : Int} (hi1 : 0 ≤ i) (hi2 : i ≤ 100) (hw1 : -1000 ≤ w) (hw2 : w ≤ 1000) {x y h : Int} (h0 : 0 ≤ h) (h1 : h ≤ 100) (h3 : -100 ≤ x) (h4 : x ≤ 100) (h5 : -100 ≤ y) (h6 : y ≤ 100) : f_X9_hasCome τ (iI i) (iI x) (iI y) (iI h) (iI w) = some (bI (comesZ sh o g c i x y h w was l0), τ) := by
  obtain ⟨m1, m2⟩ := mist_ok hm V hg
  obtain ⟨-, ⟨u1, u2⟩, u3, u4, u5, u6, u7⟩ := V.2.2.2.2.2.2.2 g hg
  unfold f_X9_hasCome comesZ
  rw [r3, r4, r2]
  rcases (show tL sh g 1 = 0 ∨ tL sh g 1 = 1 ∨ tL sh g 1 = 2 ∨ tL sh g 1 = 3 ∨ tL sh g 1 = 4 by omega) with p | p | p | p | p
  · have ua := u3 p
    simp (disch := omega) only [p, obs, iI_lit, iI_add, iI_sub, iI_mul, iI_neg, iI_lt, iI_le, iI_eq, iI_divp, iI_toInt, iI_clamp, bI_0, bI_1, b_tf, Int.toNat_natCast, Int.reduceToNat, Int.toNat_zero, Int.toNat_one, modf, if_pos, if_neg, reduceIte, reduceCtorEq]
    exact bz (by rw [decide_eq_false_iff_not]; omega)
  · have ma := m1 (by omega) (by omega)
    simp (disch := omega) only [p, q_isInSight R V hO hs ma h0 h1 h3 h4 h5 h6, e_isAbeam R V hs r4 r6 hc1 hc2 ma h0 h1 h3 h4 h5 h6, obs, iI_lit, iI_add, iI_sub, iI_mul, iI_neg, iI_lt, iI_le, iI_eq, iI_divp, iI_toInt, iI_clamp, bI_0, bI_1, b_tf, Int.toNat_natCast, Int.reduceToNat, Int.toNat_zero, Int.toNat_one, modf, if_pos, if_neg, reduceIte, reduceCtorEq]
    cases seenZ sh o (tL sh g 2).toNat x y h <;> cases abZ sh c (tL sh g 2).toNat x y h <;> rfl
  · have ma := m1 (by omega) (by omega)
    have mb := m2 p
    have lb := line_b V ma mb h0 h1 h3 h4 h5 h6
    simp (disch := omega) only [p, q_isInSight R V hO hs ma h0 h1 h3 h4 h5 h6, q_isInSight R V hO hs mb h0 h1 h3 h4 h5 h6, r5, r2, e_turnOfMarks R V hs r4 r5 ma mb h0 h1 h3 h4 h5 h6, e_isCrossed r8, obs, iI_lit, iI_add, iI_sub, iI_mul, iI_neg, iI_lt, iI_le, iI_eq, iI_divp, iI_toInt, iI_clamp, bI_0, bI_1, b_tf, Int.toNat_natCast, Int.reduceToNat, Int.toNat_zero, Int.toNat_one, modf, if_pos, if_neg, reduceIte, reduceCtorEq]
    cases seenZ sh o (tL sh g 2).toNat x y h <;> cases seenZ sh o (tL sh g 3).toNat x y h <;> cases crZ (lineZ sh (tL sh g 2).toNat (tL sh g 3).toNat x y h) l0 <;> rfl
  · have ma := m1 (by omega) (by omega)
    simp (disch := omega) only [p, q_isInSight R V hO hs ma h0 h1 h3 h4 h5 h6, r7, obs, iI_lit, iI_add, iI_sub, iI_mul, iI_neg, iI_lt, iI_le, iI_eq, iI_divp, iI_toInt, iI_clamp, bI_0, bI_1, b_tf, Int.toNat_natCast, Int.reduceToNat, Int.toNat_zero, Int.toNat_one, modf, if_pos, if_neg, reduceIte, reduceCtorEq]
    cases seenZ sh o (tL sh g 2).toNat x y h <;> cases was <;> first | rfl | (rw [if_pos rfl]; rfl) | (rw [if_neg (by decide)]; rfl)
  · have ua := u4 p
    simp (disch := omega) only [p, obs, iI_lit, iI_add, iI_sub, iI_mul, iI_neg, iI_lt, iI_le, iI_eq, iI_divp, iI_toInt, iI_clamp, bI_0, bI_1, b_tf, Int.toNat_natCast, Int.reduceToNat, Int.toNat_zero, Int.toNat_one, modf, if_pos, if_neg, reduceIte, reduceCtorEq]
    exact bz (by rw [decide_eq_false_iff_not]; omega)
end QC
