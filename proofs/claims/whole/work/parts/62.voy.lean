/-! The voyage: minutes, the track (X, Y, leg), the least under the keel and its minute. -/
abbrev VS : Type := Nat × (Nat → Int) × (Nat → Int) × (Nat → Int) × Int × Int
def fu (f : Nat → Int) (k : Nat) (v : Int) : Nat → Int := fun j => if j = k then v else f j
theorem fu_e (f : Nat → Int) (k : Nat) (v : Int) : fu f k v k = v := if_pos rfl
theorem fu_n {f : Nat → Int} {k j : Nat} {v : Int} (h : j ≠ k) : fu f k v j = f j := if_neg h
def chZ (x y : Int) : Bool := decide (0 ≤ x ∧ x ≤ 60 ∧ 0 ≤ y ∧ y ≤ 60)
def nX (c : Int) (s : VS) : Int := s.2.1 s.1 + eZ.getD c.toNat 0
def nY (c : Int) (s : VS) : Int := s.2.2.1 s.1 + nZ.getD c.toNat 0
/-- the ship has gone a minute -/
def goS (g : Nat) (c : Int) (s : VS) : VS := (s.1 + 1, fu s.2.1 (s.1 + 1) (nX c s), fu s.2.2.1 (s.1 + 1) (nY c s), fu s.2.2.2.1 (s.1 + 1) g, s.2.2.2.2.1, s.2.2.2.2.2)
/-- the keel is noted -/
def klS (u : Int) (s : VS) : VS := if s.2.2.2.2.2 = -1000000 ∨ u < s.2.2.2.2.1 then (s.1, s.2.1, s.2.2.1, s.2.2.2.1, u, (s.1 : Int)) else s
def wtZ (sh : Nat → Int) (t : Int) (c : Int) (s : VS) : Int := depZ sh (nX c s) (nY c s) + tideZ sh (t + (s.1 + 1 : Nat))
def vstep (sh : Nat → Int) (t dr : Int) (o : Nat → Bool) (g : Nat) (c : Int) (f : Nat) (was : Bool) (l0 : Int) (s : VS) : VS × Int :=
  if chZ (nX c s) (nY c s) = false then (goS g c s, 3)
  else if wtZ sh t c s < dr then (klS (wtZ sh t c s - dr) (goS g c s), 4)
  else if comesZ sh o g c (((s.1 + 1 : Nat) : Int) - f) (nX c s) (nY c s) (tideZ sh (t + (s.1 + 1 : Nat))) (wtZ sh t c s) was l0 = true then (klS (wtZ sh t c s - dr) (goS g c s), 1)
  else (klS (wtZ sh t c s - dr) (goS g c s), 0)
def vleg (sh : Nat → Int) (t dr : Int) (o : Nat → Bool) (g : Nat) (c : Int) (f : Nat) (was : Bool) (l0 : Int) : Nat → VS → VS × Int
  | 0, s => (s, 5)
  | n + 1, s => if (vstep sh t dr o g c f was l0 s).2 = 0 then vleg sh t dr o g c f was l0 n (vstep sh t dr o g c f was l0 s).1 else vstep sh t dr o g c f was l0 s
/-- what holds of the numbers at all times -/
def VI (s : VS) : Prop := (-1000000 ≤ s.2.2.2.2.1 ∧ s.2.2.2.2.1 ≤ 1000) ∧ (-1000000 ≤ s.2.2.2.2.2 ∧ s.2.2.2.2.2 ≤ 1000)
def VP (s : VS) : Prop := 0 ≤ s.2.1 s.1 ∧ s.2.1 s.1 ≤ 60 ∧ 0 ≤ s.2.2.1 s.1 ∧ s.2.2.1 s.1 ≤ 60
section QV
variable {σ τ : St} {sh : Nat → Int} {r : Nat → Int32}
/-- the class's voyage, as it stands: behind i minutes of leg g -/
def CV (τ σ : St) (t dr : Int) (g : Nat) (lm : Nat → Int) (i : Int) (dn en : Int) (s : VS) : Prop :=
  (∀ k, k ≠ 8 → k ≠ 12 → k ≠ 19 → k ≠ 20 → k ≠ 21 → k ≠ 22 → τ k = σ k) ∧
  (τ 8 1 = iI t ∧ τ 8 2 = iI dr ∧ τ 8 3 = iI s.1 ∧ τ 8 4 = iI (s.2.1 s.1) ∧ τ 8 5 = iI (s.2.2.1 s.1) ∧ τ 8 6 = iI (g + 1) ∧ τ 8 7 = iI dn ∧ τ 8 8 = iI en ∧ τ 8 10 = iI s.2.2.2.2.1 ∧ τ 8 11 = iI s.2.2.2.2.2) ∧
  (∀ j, j ≤ s.1 → τ 19 j = iI (s.2.1 j) ∧ τ 20 j = iI (s.2.2.1 j) ∧ τ 21 j = iI (s.2.2.2.1 j)) ∧
  (∀ j, j < g → τ 22 j = iI (lm j)) ∧ τ 22 g = iI i
/-- the watch of a leg -/
def CW (τ : St) (sh : Nat → Int) (ob : Int32) (g : Nat) (c : Int) (was : Bool) (l0 : Int) : Prop :=
  τ 12 2 = ob ∧ τ 12 3 = iI (tL sh g 1) ∧ τ 12 4 = iI (tL sh g 2) ∧ τ 12 5 = iI (tL sh g 3) ∧ τ 12 6 = iI c ∧ τ 12 7 = bI was ∧ τ 12 8 = iI l0
theorem e_noteTrack {m : Nat} (h3 : τ 8 3 = iI m) (hm : m ≤ 360) (v : Int32) : f_X8_noteTrack τ v = some (g_u2 (g_u2 (g_u2 τ 19 m (τ 8 4)) 20 m (τ 8 5)) 21 m v) := by
  unfold f_X8_noteTrack
  have e1 : g_u2 τ 19 m (τ 8 4) 8 = τ 8 := g_u2_n1 (by decide)
  have e2 : g_u2 (g_u2 τ 19 m (τ 8 4)) 20 m (τ 8 5) 8 = τ 8 := by rw [g_u2_n1 (by decide), e1]
  simp (disch := omega) only [h3, e1, e2, obs, iI_lit, iI_add, iI_sub, iI_mul, iI_neg, iI_lt, iI_le, iI_eq, iI_divp, iI_toInt, iI_clamp, bI_0, bI_1, b_tf, Int.toNat_natCast, Int.reduceToNat, Int.toNat_zero, Int.toNat_one, modf, if_pos, if_neg, reduceIte, reduceCtorEq]
theorem e_noteMinutes {g : Nat} (hg : g < 6) (v : Int32) : f_X8_noteMinutes τ (iI g) v = some (g_u2 τ 22 g v) := by
  unfold f_X8_noteMinutes
  simp (disch := omega) only [obs, iI_lit, iI_add, iI_sub, iI_mul, iI_neg, iI_lt, iI_le, iI_eq, iI_divp, iI_toInt, iI_clamp, bI_0, bI_1, b_tf, Int.toNat_natCast, Int.reduceToNat, Int.toNat_zero, Int.toNat_one, modf, if_pos, if_neg, reduceIte, reduceCtorEq]
theorem e_isCharted {x y : Int} (h1 : -1000 ≤ x) (h2 : x ≤ 1000) (h3 : -1000 ≤ y) (h4 : y ≤ 1000) : f_X1_isCharted τ (iI x) (iI y) = some (bI (chZ x y), τ) := by
  unfold f_X1_isCharted chZ
  simp (disch := omega) only [obs, iI_lit, iI_add, iI_sub, iI_mul, iI_neg, iI_lt, iI_le, iI_eq, iI_divp, iI_toInt, iI_clamp, bI_0, bI_1, b_tf, Int.toNat_natCast, Int.reduceToNat, Int.toNat_zero, Int.toNat_one, modf, if_pos, if_neg, reduceIte, reduceCtorEq]
  by_cases p1 : x < 0
  · rw [if_pos p1, decide_eq_false (by omega)]; rfl
  · by_cases p2 : 60 < x
    · rw [if_neg p1, if_pos p2, decide_eq_false (by omega)]; rfl
    · by_cases p3 : y < 0
      · rw [if_neg p1, if_neg p2, if_pos p3, decide_eq_false (by omega)]; rfl
      · rw [if_neg p1, if_neg p2, if_neg p3]
        exact bz (by rw [decide_eq_false_iff_not]; omega)
def nkS (τ : St) (u : Int) (s : VS) : St := if s.2.2.2.2.2 = -1000000 ∨ u < s.2.2.2.2.1 then g_u2 (g_u2 τ 8 10 (iI u)) 8 11 (iI s.1) else τ
theorem e_noteKeel {s : VS} (h3 : τ 8 3 = iI s.1) (h10 : τ 8 10 = iI s.2.2.2.2.1) (h11 : τ 8 11 = iI s.2.2.2.2.2) (hI : VI s) {u : Int} (h1 : -1000 ≤ u) (h2 : u ≤ 1000) : f_X8_noteKeel τ (iI u) = some (nkS τ u s) := by
  unfold VI at hI
  unfold f_X8_noteKeel f_X8_noteKeel_p17 nkS
  have e : g_u2 τ 8 10 (iI u) 8 3 = iI s.1 := by rw [g_u2_n2 (by decide), h3]
  simp only [obs]
  rw [h10, h11, e]
  by_cases p : s.2.2.2.2.2 = -1000000
  · rw [if_pos (Or.inl p), p]
    simp (disch := omega) only [obs, iI_lit, iI_add, iI_sub, iI_mul, iI_neg, iI_lt, iI_le, iI_eq, iI_divp, iI_toInt, iI_clamp, bI_0, bI_1, b_tf, Int.toNat_natCast, Int.reduceToNat, Int.toNat_zero, Int.toNat_one, modf, if_pos, if_neg, reduceIte, reduceCtorEq]
  · by_cases q : u < s.2.2.2.2.1
    · rw [if_pos (Or.inr q)]
      simp (disch := omega) only [p, obs, iI_lit, iI_add, iI_sub, iI_mul, iI_neg, iI_lt, iI_le, iI_eq, iI_divp, iI_toInt, iI_clamp, bI_0, bI_1, b_tf, Int.toNat_natCast, Int.reduceToNat, Int.toNat_zero, Int.toNat_one, modf, if_pos, if_neg, reduceIte, reduceCtorEq]
    · rw [if_neg (show ¬ (s.2.2.2.2.2 = -1000000 ∨ u < s.2.2.2.2.1) by omega)]
      simp (disch := omega) only [p, obs, iI_lit, iI_add, iI_sub, iI_mul, iI_neg, iI_lt, iI_le, iI_eq, iI_divp, iI_toInt, iI_clamp, bI_0, bI_1, b_tf, Int.toNat_natCast, Int.reduceToNat, Int.toNat_zero, Int.toNat_one, modf, if_pos, if_neg, reduceIte, reduceCtorEq]
theorem CV_go {t dr : Int} {g : Nat} {lm : Nat → Int} {i dn en : Int} {s : VS} (h : CV τ σ t dr g lm i dn en s) (c : Int) (i2 : Int) : CV (g_u2 (g_u2 (g_u2 (g_u2 (g_u2 (g_u2 (g_u2 τ 8 4 (iI (nX c s))) 8 5 (iI (nY c s))) 8 3 (iI ((s.1 + 1 : Nat) : Int))) 19 (s.1 + 1) (iI (nX c s))) 20 (s.1 + 1) (iI (nY c s))) 21 (s.1 + 1) (iI g)) 22 g (iI i2)) σ t dr g lm i2 dn en (goS g c s) := by
  obtain ⟨hF, ⟨h1, h2, h3, h4, h5, h6, h7, h8, h10, h11⟩, hT, hL, hG⟩ := h
  unfold goS
  refine ⟨fun k k1 k2 k3 k4 k5 k6 => ?_, ⟨?_, ?_, ?_, ?_, ?_, ?_, ?_, ?_, ?_, ?_⟩, fun j hj => ?_, fun j hj => ?_, ?_⟩
  · rw [g_u2_n1 k6, g_u2_n1 k5, g_u2_n1 k4, g_u2_n1 k3, g_u2_n1 k1, g_u2_n1 k1, g_u2_n1 k1, hF k k1 k2 k3 k4 k5 k6]
  · simp (disch := omega) only [g_u2_n1, g_u2_n2, g_u2_e, h1]
  · simp (disch := omega) only [g_u2_n1, g_u2_n2, g_u2_e, h2]
  · simp (disch := omega) only [g_u2_n1, g_u2_n2, g_u2_e]
  · simp (disch := omega) only [g_u2_n1, g_u2_n2, g_u2_e, fu_e]
  · simp (disch := omega) only [g_u2_n1, g_u2_n2, g_u2_e, fu_e]
  · simp (disch := omega) only [g_u2_n1, g_u2_n2, g_u2_e, h6]
  · simp (disch := omega) only [g_u2_n1, g_u2_n2, g_u2_e, h7]
  · simp (disch := omega) only [g_u2_n1, g_u2_n2, g_u2_e, h8]
  · simp (disch := omega) only [g_u2_n1, g_u2_n2, g_u2_e, h10]
  · simp (disch := omega) only [g_u2_n1, g_u2_n2, g_u2_e, h11]
  · by_cases e : j = s.1 + 1
    · subst e
      simp (disch := omega) only [g_u2_n1, g_u2_n2, g_u2_e, fu_e]
      exact ⟨trivial, trivial, trivial⟩
    · have hj2 : j ≤ s.1 := by simp only at hj; omega
      have := hT j hj2
      simp (disch := omega) only [g_u2_n1, g_u2_n2, g_u2_e, fu_n e, this]
      exact ⟨trivial, trivial, trivial⟩
  · simp (disch := omega) only [g_u2_n1, g_u2_n2, g_u2_e, hL j hj]
  · rw [g_u2_e]
theorem CV_kl {t dr : Int} {g : Nat} {lm : Nat → Int} {i dn en : Int} {s : VS} (h : CV τ σ t dr g lm i dn en s) (u : Int) : CV (nkS τ u s) σ t dr g lm i dn en (klS u s) := by
  unfold nkS klS
  by_cases p : s.2.2.2.2.2 = -1000000 ∨ u < s.2.2.2.2.1
  · rw [if_pos p, if_pos p]
    obtain ⟨hF, ⟨h1, h2, h3, h4, h5, h6, h7, h8, h10, h11⟩, hT, hL, hG⟩ := h
    refine ⟨fun k k1 k2 k3 k4 k5 k6 => ?_, ⟨?_, ?_, ?_, ?_, ?_, ?_, ?_, ?_, ?_, ?_⟩, fun j hj => ?_, fun j hj => ?_, ?_⟩
    · rw [g_u2_n1 k1, g_u2_n1 k1, hF k k1 k2 k3 k4 k5 k6]
    · simp (disch := omega) only [g_u2_n1, g_u2_n2, g_u2_e, h1]
    · simp (disch := omega) only [g_u2_n1, g_u2_n2, g_u2_e, h2]
    · simp (disch := omega) only [g_u2_n1, g_u2_n2, g_u2_e, h3]
    · simp (disch := omega) only [g_u2_n1, g_u2_n2, g_u2_e, h4]
    · simp (disch := omega) only [g_u2_n1, g_u2_n2, g_u2_e, h5]
    · simp (disch := omega) only [g_u2_n1, g_u2_n2, g_u2_e, h6]
    · simp (disch := omega) only [g_u2_n1, g_u2_n2, g_u2_e, h7]
    · simp (disch := omega) only [g_u2_n1, g_u2_n2, g_u2_e, h8]
    · simp (disch := omega) only [g_u2_n1, g_u2_n2, g_u2_e]
    · simp (disch := omega) only [g_u2_n1, g_u2_n2, g_u2_e]
    · simp (disch := omega) only [g_u2_n1, g_u2_n2, g_u2_e]
      exact hT j hj
    · simp (disch := omega) only [g_u2_n1, g_u2_n2, g_u2_e, hL j hj]
    · simp (disch := omega) only [g_u2_n1, g_u2_n2, g_u2_e, hG]
  · rw [if_neg p, if_neg p]
    exact h
theorem CV_en {t dr : Int} {g : Nat} {lm : Nat → Int} {i dn en : Int} {s : VS} (h : CV τ σ t dr g lm i dn en s) (v : Int) : CV (g_u2 τ 8 8 (iI v)) σ t dr g lm i dn v s := by
  obtain ⟨hF, ⟨h1, h2, h3, h4, h5, h6, h7, h8, h10, h11⟩, hT, hL, hG⟩ := h
  refine ⟨fun k k1 k2 k3 k4 k5 k6 => ?_, ⟨?_, ?_, ?_, ?_, ?_, ?_, ?_, ?_, ?_, ?_⟩, fun j hj => ?_, fun j hj => ?_, ?_⟩
  · rw [g_u2_n1 k1, hF k k1 k2 k3 k4 k5 k6]
  · simp (disch := omega) only [g_u2_n1, g_u2_n2, g_u2_e, h1]
  · simp (disch := omega) only [g_u2_n1, g_u2_n2, g_u2_e, h2]
  · simp (disch := omega) only [g_u2_n1, g_u2_n2, g_u2_e, h3]
  · simp (disch := omega) only [g_u2_n1, g_u2_n2, g_u2_e, h4]
  · simp (disch := omega) only [g_u2_n1, g_u2_n2, g_u2_e, h5]
  · simp (disch := omega) only [g_u2_n1, g_u2_n2, g_u2_e, h6]
  · simp (disch := omega) only [g_u2_n1, g_u2_n2, g_u2_e, h7]
  · simp (disch := omega) only [g_u2_n1, g_u2_n2, g_u2_e]
  · simp (disch := omega) only [g_u2_n1, g_u2_n2, g_u2_e, h10]
  · simp (disch := omega) only [g_u2_n1, g_u2_n2, g_u2_e, h11]
  · simp (disch := omega) only [g_u2_n1, g_u2_n2, g_u2_e]
    exact hT j hj
  · simp (disch := omega) only [g_u2_n1, g_u2_n2, g_u2_e, hL j hj]
  · simp (disch := omega) only [g_u2_n1, g_u2_n2, g_u2_e, hG]
theorem CV_dn {t dr : Int} {g : Nat} {lm : Nat → Int} {i dn en : Int} {s : VS} (h : CV τ σ t dr g lm i dn en s) (v : Int) : CV (g_u2 τ 8 7 (iI v)) σ t dr g lm i v en s := by
  obtain ⟨hF, ⟨h1, h2, h3, h4, h5, h6, h7, h8, h10, h11⟩, hT, hL, hG⟩ := h
  refine ⟨fun k k1 k2 k3 k4 k5 k6 => ?_, ⟨?_, ?_, ?_, ?_, ?_, ?_, ?_, ?_, ?_, ?_⟩, fun j hj => ?_, fun j hj => ?_, ?_⟩
  · rw [g_u2_n1 k1, hF k k1 k2 k3 k4 k5 k6]
  · simp (disch := omega) only [g_u2_n1, g_u2_n2, g_u2_e, h1]
  · simp (disch := omega) only [g_u2_n1, g_u2_n2, g_u2_e, h2]
  · simp (disch := omega) only [g_u2_n1, g_u2_n2, g_u2_e, h3]
  · simp (disch := omega) only [g_u2_n1, g_u2_n2, g_u2_e, h4]
  · simp (disch := omega) only [g_u2_n1, g_u2_n2, g_u2_e, h5]
  · simp (disch := omega) only [g_u2_n1, g_u2_n2, g_u2_e, h6]
  · simp (disch := omega) only [g_u2_n1, g_u2_n2, g_u2_e]
  · simp (disch := omega) only [g_u2_n1, g_u2_n2, g_u2_e, h8]
  · simp (disch := omega) only [g_u2_n1, g_u2_n2, g_u2_e, h10]
  · simp (disch := omega) only [g_u2_n1, g_u2_n2, g_u2_e, h11]
  · simp (disch := omega) only [g_u2_n1, g_u2_n2, g_u2_e]
    exact hT j hj
  · simp (disch := omega) only [g_u2_n1, g_u2_n2, g_u2_e, hL j hj]
  · simp (disch := omega) only [g_u2_n1, g_u2_n2, g_u2_e, hG]
end QV
