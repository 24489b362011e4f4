section SI
variable {σ : St} {sh : Nat → Int}
theorem prb {a e : Int} (h1 : -2 ≤ a) (h2 : a ≤ 2) (h3 : -200 ≤ e) (h4 : e ≤ 200) : -400 ≤ a * e ∧ a * e ≤ 400 := by
  rcases (show a = -2 ∨ a = -1 ∨ a = 0 ∨ a = 1 ∨ a = 2 by omega) with rfl | rfl | rfl | rfl | rfl <;> omega
/-- the narrow sector's test out of three numbers -/
def narZ (F D K : Int) : Bool := (decide (F = 0) && decide (0 < D)) || (decide (0 < F) && decide (0 < K))
theorem s135 {F D K : Int} (hF : -1000 ≤ F ∧ F ≤ 1000) (hK : -1000 ≤ K ∧ K ≤ 1000) (w : Bool) : (if F = 0 then (if D ≤ 0 then f_X2_isInSector_p134 σ (bI w) (iI F) (iI K) else f_X2_isInSector_p135 σ (bI w) (iI F) (iI K) (iI 1)) else f_X2_isInSector_p134 σ (bI w) (iI F) (iI K)) = some (bI (if w then !narZ F D K else narZ F D K), σ) := by
  unfold f_X2_isInSector_p134 f_X2_isInSector_p135 f_X2_isInSector_p152 f_X2_isInSector_p156 f_X2_isInSector_p157 narZ
  obtain ⟨f1, f2⟩ := hF
  obtain ⟨k1, k2⟩ := hK
  rcases Int.lt_trichotomy F 0 with p | p | p
  · simp (disch := omega) only [obs, iI_lit, iI_add, iI_sub, iI_mul, iI_neg, iI_lt, iI_le, iI_eq, iI_divp, iI_toInt, iI_clamp, bI_0, bI_1, b_tf, Int.toNat_natCast, Int.reduceToNat, Int.toNat_zero, Int.toNat_one, modf, if_pos, if_neg, reduceIte, reduceCtorEq, decide_eq_true, decide_eq_false, Bool.true_and, Bool.false_and, Bool.and_true, Bool.and_false, Bool.true_or, Bool.false_or, Bool.or_true, Bool.or_false, Bool.not_true, Bool.not_false, bI_t, bI_f]
    cases w <;> rfl
  · by_cases d : D ≤ 0
    · simp (disch := omega) only [obs, iI_lit, iI_add, iI_sub, iI_mul, iI_neg, iI_lt, iI_le, iI_eq, iI_divp, iI_toInt, iI_clamp, bI_0, bI_1, b_tf, Int.toNat_natCast, Int.reduceToNat, Int.toNat_zero, Int.toNat_one, modf, if_pos, if_neg, reduceIte, reduceCtorEq, decide_eq_true, decide_eq_false, Bool.true_and, Bool.false_and, Bool.and_true, Bool.and_false, Bool.true_or, Bool.false_or, Bool.or_true, Bool.or_false, Bool.not_true, Bool.not_false, bI_t, bI_f]
      cases w <;> rfl
    · simp (disch := omega) only [obs, iI_lit, iI_add, iI_sub, iI_mul, iI_neg, iI_lt, iI_le, iI_eq, iI_divp, iI_toInt, iI_clamp, bI_0, bI_1, b_tf, Int.toNat_natCast, Int.reduceToNat, Int.toNat_zero, Int.toNat_one, modf, if_pos, if_neg, reduceIte, reduceCtorEq, decide_eq_true, decide_eq_false, Bool.true_and, Bool.false_and, Bool.and_true, Bool.and_false, Bool.true_or, Bool.false_or, Bool.or_true, Bool.or_false, Bool.not_true, Bool.not_false, bI_t, bI_f]
      cases w <;> rfl
  · by_cases q : K ≤ 0
    · simp (disch := omega) only [obs, iI_lit, iI_add, iI_sub, iI_mul, iI_neg, iI_lt, iI_le, iI_eq, iI_divp, iI_toInt, iI_clamp, bI_0, bI_1, b_tf, Int.toNat_natCast, Int.reduceToNat, Int.toNat_zero, Int.toNat_one, modf, if_pos, if_neg, reduceIte, reduceCtorEq, decide_eq_true, decide_eq_false, Bool.true_and, Bool.false_and, Bool.and_true, Bool.and_false, Bool.true_or, Bool.false_or, Bool.or_true, Bool.or_false, Bool.not_true, Bool.not_false, bI_t, bI_f]
      cases w <;> rfl
    · simp (disch := omega) only [obs, iI_lit, iI_add, iI_sub, iI_mul, iI_neg, iI_lt, iI_le, iI_eq, iI_divp, iI_toInt, iI_clamp, bI_0, bI_1, b_tf, Int.toNat_natCast, Int.reduceToNat, Int.toNat_zero, Int.toNat_one, modf, if_pos, if_neg, reduceIte, reduceCtorEq, decide_eq_true, decide_eq_false, Bool.true_and, Bool.false_and, Bool.and_true, Bool.and_false, Bool.true_or, Bool.false_or, Bool.or_true, Bool.or_false, Bool.not_true, Bool.not_false, bI_t, bI_f]
      cases w <;> rfl
theorem s62 {f g : Nat} (hf : f < 16) (hg : g < 16) {e n : Int} (he : -200 ≤ e ∧ e ≤ 200) (hn : -200 ≤ n ∧ n ≤ 200) {t : Int32} (ht : t &&& iI 15 = iI g) (w : Bool) : f_X2_isInSector_p62 σ (iI e) (iI n) (bI w) (iI f) t = some (bI (if w then !narZ (fm e n f) (dt e n f) (-fm e n g) else narZ (fm e n f) (dt e n f) (-fm e n g)), σ) := by
  have A := eZ_b f hf
  have B := eZ_b g hg
  have p1 := prb (a := nZ.getD f 0) (e := e) (by omega) (by omega) he.1 he.2
  have p2 := prb (a := eZ.getD f 0) (e := n) (by omega) (by omega) hn.1 hn.2
  have p3 := prb (a := eZ.getD f 0) (e := e) (by omega) (by omega) he.1 he.2
  have p4 := prb (a := nZ.getD f 0) (e := n) (by omega) (by omega) hn.1 hn.2
  have q1 := prb (a := nZ.getD g 0) (e := e) (by omega) (by omega) he.1 he.2
  have q2 := prb (a := eZ.getD g 0) (e := n) (by omega) (by omega) hn.1 hn.2
  have hb := s135 (σ := σ) (F := fm e n f) (D := dt e n f) (K := -fm e n g) (by unfold fm; omega) (by unfold fm; omega) w
  rw [← hb]
  unfold f_X2_isInSector_p62
  have e1 : (iI f).toNatClampNeg = f := by rw [iI_clamp (by omega) (by omega)]; omega
  have e2 : (iI g).toNatClampNeg = g := by rw [iI_clamp (by omega) (by omega)]; omega
  have t1 : (iI f).toInt = f := iI_toInt (by omega) (by omega)
  have t2 : (iI g).toInt = g := iI_toInt (by omega) (by omega)
  have gf : 0 ≤ (f : Int) ∧ (f : Int) < 16 := by omega
  have gg : 0 ≤ (g : Int) ∧ (g : Int) < 16 := by omega
  have m1 : iI n * iI (eZ.getD g 0) - iI e * iI (nZ.getD g 0) = iI (-fm e n g) := by
    rw [iI_mul, iI_mul, iI_sub, Int.mul_comm n, Int.mul_comm e]; unfold fm; congr 1; omega
  have m2 : iI (nZ.getD f 0) * iI e - iI (eZ.getD f 0) * iI n = iI (fm e n f) := by rw [iI_mul, iI_mul, iI_sub]; rfl
  have m3 : iI (eZ.getD f 0) * iI e + iI (nZ.getD f 0) * iI n = iI (dt e n f) := by rw [iI_mul, iI_mul, iI_add]; rfl
  have b1 : (iI (fm e n f) = (0 : Int32)) ↔ fm e n f = 0 := by rw [iI_lit]; exact iI_eq (by unfold fm; omega) (by unfold fm; omega) (by omega) (by omega)
  have b2 : (iI (dt e n f) ≤ (0 : Int32)) ↔ dt e n f ≤ 0 := by rw [iI_lit]; exact iI_le (by unfold dt; omega) (by unfold dt; omega) (by omega) (by omega)
  have l15 : (15 : Int32) = iI 15 := iI_lit 15
  have l1 : (1 : Int32) = iI 1 := iI_lit 1
  simp only [l15, ht, obs, t1, t2, e1, e2, if_pos gf, if_pos gg, g_east_i f hf, g_north_i f hf, g_east_i g hg, g_north_i g hg, m1, m2, m3, b1, b2, l1]
theorem s23 {a b e n : Int} (ha : 0 ≤ a) (ha2 : a < 16) (hb : 0 ≤ b) (hb2 : b < 21) (he : -200 ≤ e ∧ e ≤ 200) (hn : -200 ≤ n ∧ n ≤ 200) : f_X2_isInSector_p23 σ (iI a) (iI b) (iI e) (iI n) (iI ((b - a) % 16)) = some (bI (if (b - a) % 16 ≤ 8 then narZ (fm e n (a.toNat % 16)) (dt e n (a.toNat % 16)) (-fm e n (b.toNat % 16)) else !narZ (fm e n (b.toNat % 16)) (dt e n (b.toNat % 16)) (-fm e n (a.toNat % 16))), σ) := by
  have w1 : 0 ≤ (b - a) % 16 := by omega
  have w2 : (b - a) % 16 < 16 := by omega
  have xa : iI a &&& iI 15 = iI ((a.toNat % 16 : Nat) : Int) := by rw [iI_and15]; congr 1; omega
  have xb : iI b &&& iI 15 = iI ((b.toNat % 16 : Nat) : Int) := by rw [iI_and15]; congr 1; omega
  have s1 := s62 (σ := σ) (f := a.toNat % 16) (g := b.toNat % 16) (by omega) (by omega) he hn xb false
  have s2 := s62 (σ := σ) (f := b.toNat % 16) (g := a.toNat % 16) (by omega) (by omega) he hn xa true
  rw [bI_f, if_neg (by decide)] at s1
  rw [bI_t, if_pos rfl] at s2
  unfold f_X2_isInSector_p23 f_X2_isInSector_p35 f_X2_isInSector_p47
  generalize (b - a) % 16 = w at *
  generalize narZ (fm e n (a.toNat % 16)) (dt e n (a.toNat % 16)) (-fm e n (b.toNat % 16)) = r1 at *
  generalize narZ (fm e n (b.toNat % 16)) (dt e n (b.toNat % 16)) (-fm e n (a.toNat % 16)) = r2 at *
  generalize a.toNat % 16 = ka at *
  generalize b.toNat % 16 = kb at *
  by_cases w8 : w ≤ 8
  · rw [if_pos w8, ← s1]
    simp (disch := omega) only [xa, obs, iI_lit, iI_add, iI_sub, iI_mul, iI_neg, iI_lt, iI_le, iI_eq, iI_divp, iI_toInt, iI_clamp, bI_0, bI_1, b_tf, Int.toNat_natCast, Int.reduceToNat, Int.toNat_zero, Int.toNat_one, modf, if_pos, if_neg, reduceIte, reduceCtorEq]
  · rw [if_neg w8, ← s2]
    simp (disch := omega) only [xb, obs, iI_lit, iI_add, iI_sub, iI_mul, iI_neg, iI_lt, iI_le, iI_eq, iI_divp, iI_toInt, iI_clamp, bI_0, bI_1, b_tf, Int.toNat_natCast, Int.reduceToNat, Int.toNat_zero, Int.toNat_one, modf, if_pos, if_neg, reduceIte, reduceCtorEq]
theorem secC_n (a b : Nat) (e n : Int) : secC a b e n = (if ((b : Int) - a) % 16 = 0 then true else if e = 0 ∧ n = 0 then true else (if ((b : Int) - a) % 16 ≤ 8 then narZ (fm e n (a % 16)) (dt e n (a % 16)) (-fm e n (b % 16)) else !narZ (fm e n (b % 16)) (dt e n (b % 16)) (-fm e n (a % 16)))) := by
  unfold secC narZ
  by_cases w8 : ((b : Int) - a) % 16 ≤ 8
  · simp only [if_pos w8]
  · simp only [if_neg w8]
theorem e_isInSector {a b e n : Int} (ha : 0 ≤ a) (ha2 : a < 16) (hb : 0 ≤ b) (hb2 : b < 21) (he : -200 ≤ e ∧ e ≤ 200) (hn : -200 ≤ n ∧ n ≤ 200) : f_X2_isInSector σ (iI a) (iI b) (iI e) (iI n) = some (bI (secC a.toNat b.toNat e n), σ) := by
  have body := s23 (σ := σ) ha ha2 hb hb2 he hn
  have w1 : 0 ≤ (b - a) % 16 := by omega
  have w2 : (b - a) % 16 < 16 := by omega
  rw [secC_n, show ((b.toNat : Int) - (a.toNat : Int)) = b - a by omega]
  unfold f_X2_isInSector
  rw [iI_lit 15, iI_sub, iI_and15, obs]
  generalize narZ (fm e n (a.toNat % 16)) (dt e n (a.toNat % 16)) (-fm e n (b.toNat % 16)) = r1 at *
  generalize narZ (fm e n (b.toNat % 16)) (dt e n (b.toNat % 16)) (-fm e n (a.toNat % 16)) = r2 at *
  generalize (b - a) % 16 = w at *
  by_cases w0 : w = 0
  · simp (disch := omega) only [w0, obs, iI_lit, iI_add, iI_sub, iI_mul, iI_neg, iI_lt, iI_le, iI_eq, iI_divp, iI_toInt, iI_clamp, bI_0, bI_1, b_tf, Int.toNat_natCast, Int.reduceToNat, Int.toNat_zero, Int.toNat_one, modf, if_pos, if_neg, reduceIte, reduceCtorEq]
    rfl
  · by_cases en : e = 0 ∧ n = 0
    · obtain ⟨rfl, rfl⟩ := en
      simp (disch := omega) only [w0, obs, iI_lit, iI_add, iI_sub, iI_mul, iI_neg, iI_lt, iI_le, iI_eq, iI_divp, iI_toInt, iI_clamp, bI_0, bI_1, b_tf, Int.toNat_natCast, Int.reduceToNat, Int.toNat_zero, Int.toNat_one, modf, if_pos, if_neg, reduceIte, reduceCtorEq]
      rfl
    · rw [if_neg w0, if_neg en, ← body]
      by_cases e0 : e = 0
      · have n0 : ¬ n = 0 := fun h => en ⟨e0, h⟩
        simp (disch := omega) only [w0, e0, n0, obs, iI_lit, iI_add, iI_sub, iI_mul, iI_neg, iI_lt, iI_le, iI_eq, iI_divp, iI_toInt, iI_clamp, bI_0, bI_1, b_tf, Int.toNat_natCast, Int.reduceToNat, Int.toNat_zero, Int.toNat_one, modf, if_pos, if_neg, reduceIte, reduceCtorEq]
      · simp (disch := omega) only [w0, e0, obs, iI_lit, iI_add, iI_sub, iI_mul, iI_neg, iI_lt, iI_le, iI_eq, iI_divp, iI_toInt, iI_clamp, bI_0, bI_1, b_tf, Int.toNat_natCast, Int.reduceToNat, Int.toNat_zero, Int.toNat_one, modf, if_pos, if_neg, reduceIte, reduceCtorEq]
end SI
