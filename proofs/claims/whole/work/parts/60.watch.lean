theorem g_u2_n1 {σ : St} {k j c : Nat} {v : Int32} (h : c ≠ k) : g_u2 σ k j v c = σ c := g_up_ne h
theorem g_u2_e (σ : St) (k j : Nat) (v : Int32) : g_u2 σ k j v k j = v := by
  unfold g_u2
  rw [g_up_eq, pk_us]
theorem g_u2_n2 {σ : St} {k j i : Nat} {v : Int32} (h : i ≠ j) : g_u2 σ k j v k i = σ k i := by
  unfold g_u2
  rw [g_up_eq, pk_un h]
theorem u14 {σ : St} {k j : Nat} {v : Int32} {r : Nat → Int32} (h : σ 14 = r) (hk : 14 ≠ k := by decide) : g_u2 σ k j v 14 = r := by rw [g_u2_n1 hk, h]
theorem u27 {σ : St} {k j : Nat} {v : Int32} {r : Nat → Int32} (h : σ 27 = r) (hk : 27 ≠ k := by decide) : g_u2 σ k j v 27 = r := by rw [g_u2_n1 hk, h]
section QW
variable {σ : St} {sh : Nat → Int} {r : Nat → Int32}
theorem q_legCell (R : RC r sh) (hs : σ 14 = r) {t w : Int} (h1 : 0 ≤ t) (h2 : t < 6) (h3 : 0 ≤ w) (h4 : w < 4) : f_X6_legCell 14 σ (iI t) (iI w) = some (iI (tL sh t.toNat w.toNat), σ) := e_legCell (by rw [hs]; exact R) h1 h2 h3 h4
theorem q_thingCell (R : RC r sh) (hs : σ 14 = r) {t w : Int} (h1 : 0 ≤ t) (h2 : t < 8) (h3 : 0 ≤ w) (h4 : w < 5) : f_X6_thingCell 14 σ (iI t) (iI w) = some (iI (tT sh t.toNat w.toNat), σ) := e_thingCell (by rw [hs]; exact R) h1 h2 h3 h4
theorem q_shipCell (R : RC r sh) (hs : σ 14 = r) {w : Int} (h3 : 0 ≤ w) (h4 : w < 5) : f_X6_shipCell 14 σ (iI w) = some (iI (sh w.toNat), σ) := e_shipCell (by rw [hs]; exact R) h3 h4
theorem q_legCount (R : RC r sh) (hs : σ 14 = r) : f_X6_legCount 14 σ = some (iI (sh 77), σ) := e_legCount (by rw [hs]; exact R)
theorem q_isMark (R : RC r sh) (V : Val sh) (hs : σ 14 = r) {a : Int} (h3 : -2147483648 ≤ a) (h4 : a < 2147483648) : f_X6_isMark 14 σ (iI a) = some (bI (isMk sh a), σ) := e_isMark (by rw [hs]; exact R) V.2.2.1.1 V.2.2.1.2 V.2.2.2.2.2.2.1 h3 h4
theorem q_heightAt (R : RC r sh) (V : Val sh) (hs : σ 14 = r) {m : Int} (h0 : 0 ≤ m) (h1 : m < 100000) : f_X1_heightAt σ (iI m) = some (iI (tideZ sh m), σ) := e_heightAt (by rw [hs]; exact R) V h0 h1
theorem q_depthAt (R : RC r sh) (V : Val sh) (hs : σ 14 = r) {x y : Int} (h1 : -100 ≤ x) (h2 : x ≤ 100) (h3 : -100 ≤ y) (h4 : y ≤ 100) : f_X1_depthAt σ (iI x) (iI y) = some (iI (depZ sh x y), σ) := e_depthAt (by rw [hs]; exact R) V ⟨h1, h2⟩ ⟨h3, h4⟩
theorem q_markX (R : RC r sh) (V : Val sh) (hs : σ 14 = r) {k h : Int} (h1 : 0 ≤ k) (h2 : k < sh 76) (h3 : 0 ≤ h) (h4 : h ≤ 100) : f_X1_markX σ (iI k) (iI h) = some (iI (mX sh k.toNat h), σ) := by
  obtain ⟨n, rfl⟩ : ∃ n : Nat, k = n := ⟨k.toNat, by omega⟩
  exact e_markX (by rw [hs]; exact R) V h2 h3 h4
theorem isMk_t {a : Int} (h : isMk sh a = true) : 0 ≤ a ∧ a < sh 76 ∧ tT sh a.toNat 0 ≤ 3 := by
  unfold isMk at h
  simp only [Bool.and_eq_true, decide_eq_true_eq] at h
  exact ⟨h.1.1, h.1.2, h.2⟩
theorem q_isInSight (R : RC r sh) (V : Val sh) {o : Nat → Bool} {ob : Int32} (hO : OutB ob o) (hs : σ 14 = r) {k : Int} (hk : isMk sh k = true) {h : Int} (h0 : 0 ≤ h) (h1 : h ≤ 100) {x y : Int} (h3 : -100 ≤ x) (h4 : x ≤ 100) (h5 : -100 ≤ y) (h6 : y ≤ 100) : f_X1_isInSight σ (iI k) (iI x) (iI y) (iI h) ob = some (bI (seenZ sh o k.toNat x y h), σ) := by
  obtain ⟨a1, a2, a3⟩ := isMk_t hk
  obtain ⟨n, rfl⟩ : ∃ n : Nat, k = n := ⟨k.toNat, by omega⟩
  exact e_isInSight (by rw [hs]; exact R) V a2 a3 h0 h1 ⟨h3, h4⟩ ⟨h5, h6⟩ hO
/-- the thing by which a leg is mistaken, or none -/
def mistZ (sh : Nat → Int) (g : Nat) : Int :=
  if tL sh g 1 = 0 ∨ tL sh g 1 = 4 then -1000000 else if isMk sh (tL sh g 2) = false then tL sh g 2 else if tL sh g 1 = 3 ∧ tT sh (tL sh g 2).toNat 0 ≠ 2 then tL sh g 2 else if tL sh g 1 = 2 ∧ isMk sh (tL sh g 3) = false then tL sh g 3 else -1000000
def tkS (σ : St) (sh : Nat → Int) (g : Nat) (c : Int) (ob : Int32) : St := g_u2 (g_u2 (g_u2 (g_u2 (g_u2 σ 12 2 ob) 12 6 (iI c)) 12 3 (iI (tL sh g 1))) 12 4 (iI (tL sh g 2))) 12 5 (iI (tL sh g 3))
theorem e_takeUp (R : RC r sh) (V : Val sh) (hs : σ 14 = r) {g : Nat} (hg : (g : Int) < sh 77) (c : Int) (ob : Int32) : f_X9_takeUp σ (iI g) (iI c) ob = some (iI (mistZ sh g), tkS σ sh g c ob) := by
  have h6 := V.1
  have h8 := V.2.2.1
  have L := V.2.2.2.2.2.2.2 g hg
  obtain ⟨-, ⟨u1, u2⟩, u3, u4, u5, u6, u7⟩ := L
  have hs5 : tkS σ sh g c ob 14 = r := by unfold tkS; simp (disch := omega) only [g_u2_n1]; exact hs
  unfold f_X9_takeUp f_X9_takeUp_p115
  simp only [iI_lit, obs]
  rw [q_legCell R (u14 (u14 hs)) (by omega) (by omega) (by omega) (by omega), obs]
  rw [q_legCell R (u14 (u14 (u14 hs))) (by omega) (by omega) (by omega) (by omega), obs]
  rw [q_legCell R (u14 (u14 (u14 (u14 hs)))) (by omega) (by omega) (by omega) (by omega), obs]
  simp only [Int.toNat_natCast, Int.reduceToNat, Int.toNat_one]
  have fold : g_u2 (g_u2 (g_u2 (g_u2 (g_u2 σ 12 2 ob) 12 6 (iI c)) 12 3 (iI (tL sh g 1))) 12 4 (iI (tL sh g 2))) 12 5 (iI (tL sh g 3)) = tkS σ sh g c ob := rfl
  rw [fold]
  have r3 : tkS σ sh g c ob 12 3 = iI (tL sh g 1) := by unfold tkS; simp (disch := first | omega | (simp (disch := omega) only [g_u2_n1, g_u2_e, g_u2_n2]; done)) only [g_u2_n1, g_u2_e, g_u2_n2, obs, iI_lit, iI_add, iI_sub, iI_mul, iI_neg, iI_lt, iI_le, iI_eq, iI_divp, iI_toInt, iI_clamp, bI_0, bI_1, b_tf, Int.toNat_natCast, Int.reduceToNat, Int.toNat_zero, Int.toNat_one, modf, if_pos, if_neg, reduceIte, reduceCtorEq]
  have r4 : tkS σ sh g c ob 12 4 = iI (tL sh g 2) := by unfold tkS; simp (disch := first | omega | (simp (disch := omega) only [g_u2_n1, g_u2_e, g_u2_n2]; done)) only [g_u2_n1, g_u2_e, g_u2_n2, obs, iI_lit, iI_add, iI_sub, iI_mul, iI_neg, iI_lt, iI_le, iI_eq, iI_divp, iI_toInt, iI_clamp, bI_0, bI_1, b_tf, Int.toNat_natCast, Int.reduceToNat, Int.toNat_zero, Int.toNat_one, modf, if_pos, if_neg, reduceIte, reduceCtorEq]
  have r5 : tkS σ sh g c ob 12 5 = iI (tL sh g 3) := by unfold tkS; simp (disch := first | omega | (simp (disch := omega) only [g_u2_n1, g_u2_e, g_u2_n2]; done)) only [g_u2_n1, g_u2_e, g_u2_n2, obs, iI_lit, iI_add, iI_sub, iI_mul, iI_neg, iI_lt, iI_le, iI_eq, iI_divp, iI_toInt, iI_clamp, bI_0, bI_1, b_tf, Int.toNat_natCast, Int.reduceToNat, Int.toNat_zero, Int.toNat_one, modf, if_pos, if_neg, reduceIte, reduceCtorEq]
  generalize tkS σ sh g c ob = τ at *
  unfold mistZ
  by_cases p : tL sh g 1 = 0 ∨ tL sh g 1 = 4
  · rw [if_pos p]
    rcases p with p | p
    · simp (disch := omega) only [r3, p, obs, iI_lit, iI_add, iI_sub, iI_mul, iI_neg, iI_lt, iI_le, iI_eq, iI_divp, iI_toInt, iI_clamp, bI_0, bI_1, b_tf, Int.toNat_natCast, Int.reduceToNat, Int.toNat_zero, Int.toNat_one, modf, if_pos, if_neg, reduceIte, reduceCtorEq]
    · simp (disch := omega) only [r3, p, obs, iI_lit, iI_add, iI_sub, iI_mul, iI_neg, iI_lt, iI_le, iI_eq, iI_divp, iI_toInt, iI_clamp, bI_0, bI_1, b_tf, Int.toNat_natCast, Int.reduceToNat, Int.toNat_zero, Int.toNat_one, modf, if_pos, if_neg, reduceIte, reduceCtorEq]
  · have ua := u5 (by omega) (by omega)
    rw [if_neg p]
    cases hm : isMk sh (tL sh g 2)
    · simp (disch := omega) only [r3, r4, q_isMark R V hs5, hm, obs, iI_lit, iI_add, iI_sub, iI_mul, iI_neg, iI_lt, iI_le, iI_eq, iI_divp, iI_toInt, iI_clamp, bI_0, bI_1, b_tf, Int.toNat_natCast, Int.reduceToNat, Int.toNat_zero, Int.toNat_one, modf, if_pos, if_neg, reduceIte, reduceCtorEq]
    · obtain ⟨a1, a2, a3⟩ := isMk_t hm
      have hT := V.2.2.2.2.2.2.1 (tL sh g 2).toNat (by omega)
      unfold ValT at hT
      by_cases p3 : tL sh g 1 = 3
      · by_cases q : tT sh (tL sh g 2).toNat 0 = 2
        · simp (disch := omega) only [r3, r4, q_isMark R V hs5, hm, p3, q_thingCell R hs5, q, ne_eq, not_true, and_false, obs, iI_lit, iI_add, iI_sub, iI_mul, iI_neg, iI_lt, iI_le, iI_eq, iI_divp, iI_toInt, iI_clamp, bI_0, bI_1, b_tf, Int.toNat_natCast, Int.reduceToNat, Int.toNat_zero, Int.toNat_one, modf, if_pos, if_neg, reduceIte, reduceCtorEq]
        · simp (disch := omega) only [r3, r4, q_isMark R V hs5, hm, p3, q_thingCell R hs5, q, ne_eq, not_false_eq_true, and_true, obs, iI_lit, iI_add, iI_sub, iI_mul, iI_neg, iI_lt, iI_le, iI_eq, iI_divp, iI_toInt, iI_clamp, bI_0, bI_1, b_tf, Int.toNat_natCast, Int.reduceToNat, Int.toNat_zero, Int.toNat_one, modf, if_pos, if_neg, reduceIte, reduceCtorEq]
      · by_cases p2 : tL sh g 1 = 2
        · have ub := u6 p2
          cases hb : isMk sh (tL sh g 3)
          · simp (disch := omega) only [r3, r4, r5, q_isMark R V hs5, hm, p2, hb, false_and, true_and, obs, iI_lit, iI_add, iI_sub, iI_mul, iI_neg, iI_lt, iI_le, iI_eq, iI_divp, iI_toInt, iI_clamp, bI_0, bI_1, b_tf, Int.toNat_natCast, Int.reduceToNat, Int.toNat_zero, Int.toNat_one, modf, if_pos, if_neg, reduceIte, reduceCtorEq]
          · simp (disch := omega) only [r3, r4, r5, q_isMark R V hs5, hm, p2, hb, false_and, true_and, obs, iI_lit, iI_add, iI_sub, iI_mul, iI_neg, iI_lt, iI_le, iI_eq, iI_divp, iI_toInt, iI_clamp, bI_0, bI_1, b_tf, Int.toNat_natCast, Int.reduceToNat, Int.toNat_zero, Int.toNat_one, modf, if_pos, if_neg, reduceIte, reduceCtorEq]
        · simp (disch := omega) only [r3, r4, r5, q_isMark R V hs5, hm, p2, p3, false_and, obs, iI_lit, iI_add, iI_sub, iI_mul, iI_neg, iI_lt, iI_le, iI_eq, iI_divp, iI_toInt, iI_clamp, bI_0, bI_1, b_tf, Int.toNat_natCast, Int.reduceToNat, Int.toNat_zero, Int.toNat_one, modf, if_pos, if_neg, reduceIte, reduceCtorEq]
end QW
