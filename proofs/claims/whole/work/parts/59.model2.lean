section MS2
variable {σ : St} {sh : Nat → Int}
theorem m_tideAt (M : MR σ sh) (V : Val sh) {m : Int} (h0 : 0 ≤ m) (h1 : m < 100000) : f_X11_tideAt σ (iI m) = some (iI (tideZ sh m), σ) := by
  obtain ⟨⟨k1, k2⟩, -⟩ := tide_rng V h0 h1
  obtain ⟨-, ⟨v1, v2⟩, -, -, -, vh, -, -⟩ := V
  have nx : (m / 10 + 1) % sh 75 = (if m / 10 % sh 75 + 1 < sh 75 then m / 10 % sh 75 + 1 else 0) := by
    rw [Int.add_emod]
    generalize m / 10 % sh 75 = k at k1 k2 ⊢
    by_cases s1 : sh 75 = 1
    · rw [s1] at k2 ⊢
      rw [show k = 0 by omega]
      rfl
    · rw [show (1 : Int) % sh 75 = 1 from Int.emod_eq_of_lt (by omega) (by omega)]
      split
      · rw [Int.emod_eq_of_lt (by omega) (by omega)]
      · rw [show k + 1 = sh 75 by omega, Int.emod_self]
  have n1 : 0 ≤ (m / 10 + 1) % sh 75 ∧ (m / 10 + 1) % sh 75 < sh 75 := by rw [nx]; split <;> omega
  unfold f_X11_tideAt tideZ
  simp (disch := omega) only [M.c75, obs, iI_lit, iI_add, iI_sub, iI_mul, iI_neg, iI_lt, iI_le, iI_eq, iI_divp, iI_toInt, iI_clamp, bI_0, bI_1, b_tf, Int.toNat_natCast, Int.reduceToNat, Int.toNat_zero, Int.toNat_one, modf, if_pos, if_neg, reduceIte, reduceCtorEq]
  rw [nx] at n1 ⊢
  generalize m / 10 % sh 75 = k at k1 k2 n1 ⊢
  have hc := vh k.toNat (by omega)
  have hd := vh (if k + 1 < sh 75 then k + 1 else 0).toNat (by omega)
  rw [show (7 + k).toNat = 7 + k.toNat by omega, M.hgt _ (by omega), show (7 + (if k + 1 < sh 75 then k + 1 else 0)).toNat = 7 + (if k + 1 < sh 75 then k + 1 else 0).toNat by omega, M.hgt _ (by omega)]
  generalize sh (5 + (if k + 1 < sh 75 then k + 1 else 0).toNat) = d at hd ⊢
  generalize sh (5 + k.toNat) = c at hc ⊢
  have r1 : 0 ≤ m % 10 := by omega
  have r2 : m % 10 ≤ 9 := by omega
  generalize m % 10 = r at r1 r2 ⊢
  have b1 : -180 ≤ (d - c) * r ∧ (d - c) * r ≤ 180 := by
    rcases (show r = 0 ∨ r = 1 ∨ r = 2 ∨ r = 3 ∨ r = 4 ∨ r = 5 ∨ r = 6 ∨ r = 7 ∨ r = 8 ∨ r = 9 by omega) with rfl | rfl | rfl | rfl | rfl | rfl | rfl | rfl | rfl | rfl <;> omega
  rw [iI_sub, iI_mul, iI_div (by omega) (by omega) (by omega) (by omega), iI_add]
theorem m_eastOf (M : MR σ sh) (V : Val sh) {k : Nat} (hk : (k : Int) < sh 76) {m : Int} (h0 : 0 ≤ m) (h1 : m < 100000) : f_X11_eastOf σ (iI k) (iI m) = some (iI (mX sh k (tideZ sh m)), σ) := by
  have T := V.2.2.2.2.2.2.1 k hk
  have h8 := V.2.2.1
  have ht := (tide_rng V h0 h1).2
  unfold ValT at T
  unfold f_X11_eastOf f_X11_eastOf_p27 mX
  by_cases p : tT sh k 0 = 3
  · simp (disch := omega) only [m_of M h8.2, m_tideAt M V h0 h1, p, obs, iI_lit, iI_add, iI_sub, iI_mul, iI_neg, iI_lt, iI_le, iI_eq, iI_divp, iI_toInt, iI_clamp, bI_0, bI_1, b_tf, Int.toNat_natCast, Int.reduceToNat, Int.toNat_zero, Int.toNat_one, modf, if_pos, if_neg, reduceIte, reduceCtorEq]
  · simp (disch := omega) only [m_of M h8.2, p, obs, iI_lit, iI_add, iI_sub, iI_mul, iI_neg, iI_lt, iI_le, iI_eq, iI_divp, iI_toInt, iI_clamp, bI_0, bI_1, b_tf, Int.toNat_natCast, Int.reduceToNat, Int.toNat_zero, Int.toNat_one, modf, if_pos, if_neg, reduceIte, reduceCtorEq]
theorem m_turn_loop (M : MR σ sh) {e n : Int} (he : -200 ≤ e ∧ e ≤ 200) (hn : -200 ≤ n ∧ n ≤ 200) : ∀ (d k f : Nat), k + d = 16 → d < f → fx F_X11_turn_h5 z_X11_turn_h5 f σ (iI e) (iI n) (iI (turnF e n k)) (iI k) = some (iI (turnF e n 16), σ) := by
  intro d
  induction d with
  | zero =>
    intro k f hk hf
    obtain ⟨f, rfl⟩ : ∃ g, f = g + 1 := ⟨f - 1, by omega⟩
    rw [fx_s]
    unfold F_X11_turn_h5
    rw [show k = 16 by omega]
    simp (disch := omega) only [obs, iI_lit, iI_add, iI_sub, iI_mul, iI_neg, iI_lt, iI_le, iI_eq, iI_divp, iI_toInt, iI_clamp, bI_0, bI_1, b_tf, Int.toNat_natCast, Int.reduceToNat, Int.toNat_zero, Int.toNat_one, modf, if_pos, if_neg, reduceIte, reduceCtorEq]
  | succ d ih =>
    intro k f hk hf
    obtain ⟨f, rfl⟩ : ∃ g, f = g + 1 := ⟨f - 1, by omega⟩
    rw [fx_s]
    have i1 := ih (k + 1) f (by omega) (by omega)
    rw [Int.natCast_succ] at i1
    rw [show turnF e n (k + 1) = if 0 < dt e n k ∧ fm e n k = 0 then 2 * (k : Int) else if 0 < dt e n k ∧ 0 < fm e n k ∧ fm e n ((k + 1) % 16) < 0 then 2 * (k : Int) + 1 else turnF e n k from rfl] at i1
    have A := eZ_b k (by omega)
    have B := eZ_b ((k + 1) % 16) (by omega)
    have p1 := prb (a := nZ.getD k 0) (e := e) (by omega) (by omega) he.1 he.2
    have p2 := prb (a := eZ.getD k 0) (e := n) (by omega) (by omega) hn.1 hn.2
    have p3 := prb (a := eZ.getD k 0) (e := e) (by omega) (by omega) he.1 he.2
    have p4 := prb (a := nZ.getD k 0) (e := n) (by omega) (by omega) hn.1 hn.2
    have q1 := prb (a := nZ.getD ((k + 1) % 16) 0) (e := e) (by omega) (by omega) he.1 he.2
    have q2 := prb (a := eZ.getD ((k + 1) % 16) 0) (e := n) (by omega) (by omega) hn.1 hn.2
    have c1 : (iI (k : Int)).toNatClampNeg = k := by rw [iI_clamp (by omega) (by omega)]; omega
    have c2 : (iI (((k : Int) + 1) % 16)).toNatClampNeg = (k + 1) % 16 := by rw [iI_clamp (by omega) (by omega)]; omega
    have t1 : (iI (k : Int)).toInt = k := iI_toInt (by omega) (by omega)
    have t2 : (iI (((k : Int) + 1) % 16)).toInt = ((k : Int) + 1) % 16 := iI_toInt (by omega) (by omega)
    have g1 : 0 ≤ (k : Int) ∧ (k : Int) < 16 := by omega
    have g2 : 0 ≤ ((k : Int) + 1) % 16 ∧ ((k : Int) + 1) % 16 < 16 := by omega
    have r1 : iI (k : Int) + iI 1 - (iI (k : Int) + iI 1) / iI 16 * iI 16 = iI (((k : Int) + 1) % 16) := by rw [iI_add]; exact iI_rem (by omega) (by omega) (by omega) (by omega)
    have m1 : iI (eZ.getD k 0) * iI n - iI (nZ.getD k 0) * iI e = iI (-fm e n k) := by
      rw [iI_mul, iI_mul, iI_sub]; unfold fm; congr 1; omega
    have m2 : iI (eZ.getD ((k + 1) % 16) 0) * iI n - iI (nZ.getD ((k + 1) % 16) 0) * iI e = iI (-fm e n ((k + 1) % 16)) := by
      rw [iI_mul, iI_mul, iI_sub]; unfold fm; congr 1; omega
    have m3 : iI (eZ.getD k 0) * iI e + iI (nZ.getD k 0) * iI n = iI (dt e n k) := by rw [iI_mul, iI_mul, iI_add]; rfl
    have bF : -1000 ≤ fm e n k ∧ fm e n k ≤ 1000 := by unfold fm; omega
    have bG : -1000 ≤ fm e n ((k + 1) % 16) ∧ fm e n ((k + 1) % 16) ≤ 1000 := by unfold fm; omega
    have bD : -1000 ≤ dt e n k ∧ dt e n k ≤ 1000 := by unfold dt; omega
    have hk16 : ¬ iI 16 ≤ iI (k : Int) := fun h => by have := (iI_le (by omega) (by omega) (by omega) (by omega)).mp h; omega
    generalize fx F_X11_turn_h5 z_X11_turn_h5 f = K at i1 ⊢
    unfold F_X11_turn_h5
    simp only [iI_lit, if_neg hk16, obs, r1, t1, t2, c1, c2, if_pos g1, if_pos g2, M.2.1 k (by omega), M.2.2 k (by omega), M.2.1 ((k + 1) % 16) (by omega), M.2.2 ((k + 1) % 16) (by omega), m1, m2, m3]
    generalize fm e n k = F at *
    generalize fm e n ((k + 1) % 16) = G2 at *
    generalize dt e n k = D at *
    clear p1 p2 p3 p4 q1 q2 A B m1 m2 m3 r1 c1 c2 t1 t2 M ih
    unfold f_X11_turn_p90 f_X11_turn_p109 f_X11_turn_p133 f_X11_turn_p134
    by_cases d0 : D ≤ 0
    · rw [if_neg (by omega), if_neg (by omega)] at i1
      simp (disch := omega) only [obs, iI_lit, iI_add, iI_sub, iI_mul, iI_neg, iI_lt, iI_le, iI_eq, iI_divp, iI_toInt, iI_clamp, bI_0, bI_1, b_tf, Int.toNat_natCast, Int.reduceToNat, Int.toNat_zero, Int.toNat_one, modf, if_pos, if_neg, reduceIte, reduceCtorEq]
      exact i1
    · rcases Int.lt_trichotomy F 0 with u | u | u
      · rw [if_neg (by omega), if_neg (by omega)] at i1
        simp (disch := omega) only [obs, iI_lit, iI_add, iI_sub, iI_mul, iI_neg, iI_lt, iI_le, iI_eq, iI_divp, iI_toInt, iI_clamp, bI_0, bI_1, b_tf, Int.toNat_natCast, Int.reduceToNat, Int.toNat_zero, Int.toNat_one, modf, if_pos, if_neg, reduceIte, reduceCtorEq]
        exact i1
      · rw [if_pos (by omega)] at i1
        simp (disch := omega) only [obs, iI_lit, iI_add, iI_sub, iI_mul, iI_neg, iI_lt, iI_le, iI_eq, iI_divp, iI_toInt, iI_clamp, bI_0, bI_1, b_tf, Int.toNat_natCast, Int.reduceToNat, Int.toNat_zero, Int.toNat_one, modf, if_pos, if_neg, reduceIte, reduceCtorEq]
        exact i1
      · rw [if_neg (by omega)] at i1
        by_cases v : G2 < 0
        · rw [if_pos (by omega)] at i1
          simp (disch := omega) only [obs, iI_lit, iI_add, iI_sub, iI_mul, iI_neg, iI_lt, iI_le, iI_eq, iI_divp, iI_toInt, iI_clamp, bI_0, bI_1, b_tf, Int.toNat_natCast, Int.reduceToNat, Int.toNat_zero, Int.toNat_one, modf, if_pos, if_neg, reduceIte, reduceCtorEq]
          exact i1
        · rw [if_neg (by omega)] at i1
          simp (disch := omega) only [obs, iI_lit, iI_add, iI_sub, iI_mul, iI_neg, iI_lt, iI_le, iI_eq, iI_divp, iI_toInt, iI_clamp, bI_0, bI_1, b_tf, Int.toNat_natCast, Int.reduceToNat, Int.toNat_zero, Int.toNat_one, modf, if_pos, if_neg, reduceIte, reduceCtorEq]
          exact i1
theorem m_turn (M : MR σ sh) {e n : Int} (he : -200 ≤ e ∧ e ≤ 200) (hn : -200 ≤ n ∧ n ≤ 200) : f_X11_turn σ (iI e) (iI n) = some (iI (turnF e n 16), σ) := by
  have h := m_turn_loop M he hn 16 0 FU (by omega) (by rw [FU_val]; omega)
  rw [z0] at h
  unfold f_X11_turn
  rw [iI_lit 0]
  exact h
theorem turnF_b (e n : Int) : ∀ k, k ≤ 16 → 0 ≤ turnF e n k ∧ turnF e n k ≤ 31 := by
  intro k
  induction k with
  | zero => intro _; unfold turnF; omega
  | succ k ih =>
    intro hk
    have := ih (by omega)
    unfold turnF
    split
    · omega
    · split <;> omega
theorem m_isInSector (M : MR σ sh) (V : Val sh) {k : Nat} (hk : (k : Int) < sh 76) {x y : Int} (hx : -100 ≤ x ∧ x ≤ 100) (hy : -100 ≤ y ∧ y ≤ 100) : f_X11_isInSector σ (iI k) (iI x) (iI y) = some (bI (secM (tT sh k 3).toNat (tT sh k 4).toNat (x - tT sh k 1) (y - tT sh k 2)), σ) := by
  have T := V.2.2.2.2.2.2.1 k hk
  have h8 := V.2.2.1
  unfold ValT at T
  have tb := turnF_b (x - tT sh k 1) (y - tT sh k 2) 16 (by omega)
  have tu := m_turn M (e := x - tT sh k 1) (n := y - tT sh k 2) (by omega) (by omega)
  have body : f_X11_isInSector_p58 σ (iI (x - tT sh k 1)) (iI (y - tT sh k 2)) (iI (tT sh k 3)) (iI (tT sh k 4 % 16)) = some (bI (decide ((turnF (x - tT sh k 1) (y - tT sh k 2) 16 - 2 * tT sh k 3 + 32) % 32 < (2 * (tT sh k 4 % 16) - 2 * tT sh k 3 + 32) % 32)), σ) := by
    unfold f_X11_isInSector_p58
    simp (disch := omega) only [tu, obs, iI_lit, iI_add, iI_sub, iI_mul, iI_neg, iI_lt, iI_le, iI_eq, iI_divp, iI_toInt, iI_clamp, bI_0, bI_1, b_tf, Int.toNat_natCast, Int.reduceToNat, Int.toNat_zero, Int.toNat_one, modf, if_pos, if_neg, reduceIte, reduceCtorEq]
    exact bz (by rw [decide_eq_false_iff_not]; omega)
  unfold f_X11_isInSector secM
  simp (disch := omega) only [m_of M h8.2, obs, iI_lit, iI_add, iI_sub, iI_mul, iI_neg, iI_lt, iI_le, iI_eq, iI_divp, iI_toInt, iI_clamp, bI_0, bI_1, b_tf, Int.toNat_natCast, Int.reduceToNat, Int.toNat_zero, Int.toNat_one, modf, if_pos, if_neg, reduceIte, reduceCtorEq]
  by_cases p : tT sh k 3 = tT sh k 4 % 16
  · rw [if_pos p, if_pos (show (tT sh k 3).toNat = (tT sh k 4).toNat % 16 by omega)]; rfl
  · rw [if_neg p, if_neg (show ¬ (tT sh k 3).toNat = (tT sh k 4).toNat % 16 by omega)]
    by_cases e0 : x - tT sh k 1 = 0
    · by_cases n0 : y - tT sh k 2 = 0
      · rw [if_pos e0, if_pos n0, if_pos ⟨e0, n0⟩]; rfl
      · rw [if_pos e0, if_neg n0, if_neg (fun h => n0 h.2), body]
        congr 3
        rw [decide_eq_decide]
        omega
    · rw [if_neg e0, if_neg (fun h => e0 h.1), body]
      congr 3
      rw [decide_eq_decide]
      omega
theorem m_isSeen (M : MR σ sh) (V : Val sh) {k : Nat} (hk : (k : Int) < sh 76) (hm : tT sh k 0 ≤ 3) {m : Int} (h0 : 0 ≤ m) (h1 : m < 100000) {x y : Int} (hx : -100 ≤ x ∧ x ≤ 100) (hy : -100 ≤ y ∧ y ≤ 100) {o : Nat → Bool} (hO : OutB (σ 26 13) o) : f_X11_isSeen σ (iI k) (iI x) (iI y) (iI m) = some (bI (seenZ sh o k x y (tideZ sh m)), σ) := by
  have T := V.2.2.2.2.2.2.1 k hk
  have h8 := V.2.2.1
  have ht := (tide_rng V h0 h1).2
  have Mb := mX_b V hk (h := tideZ sh m) (by omega) (by omega)
  have hok := hO k (by omega)
  unfold ValT at T
  have sb := sqb2 (a := x - mX sh k (tideZ sh m)) (b := y - tT sh k 2) (by omega) (by omega)
  unfold f_X11_isSeen f_X11_isSeen_p75 f_X11_has f_X11_square seenZ
  have sqd : sq (x - mX sh k (tideZ sh m)) (y - tT sh k 2) = (x - mX sh k (tideZ sh m)) * (x - mX sh k (tideZ sh m)) + (y - tT sh k 2) * (y - tT sh k 2) := rfl
  cases hk2 : o k
  · rw [hk2, bI_f] at hok
    rw [sqd] at sb ⊢
    have es := m_isInSector M V hk hx hy
    simp (disch := omega) only [hok, m_eastOf M V hk h0 h1, m_of M h8.2, es, obs, iI_lit, iI_add, iI_sub, iI_mul, iI_neg, iI_lt, iI_le, iI_eq, iI_divp, iI_toInt, iI_clamp, bI_0, bI_1, b_tf, Int.toNat_natCast, Int.reduceToNat, Int.toNat_zero, Int.toNat_one, modf, if_pos, if_neg, reduceIte, reduceCtorEq]
    by_cases p2 : tT sh k 0 = 2
    · simp (disch := omega) only [p2, Bool.not_false, Bool.true_and, obs, iI_lit, iI_add, iI_sub, iI_mul, iI_neg, iI_lt, iI_le, iI_eq, iI_divp, iI_toInt, iI_clamp, bI_0, bI_1, b_tf, Int.toNat_natCast, Int.reduceToNat, Int.toNat_zero, Int.toNat_one, modf, if_pos, if_neg, reduceIte, reduceCtorEq]
    · by_cases p1 : tT sh k 0 = 1
      · simp (disch := omega) only [p1, Bool.not_false, Bool.true_and, obs, iI_lit, iI_add, iI_sub, iI_mul, iI_neg, iI_lt, iI_le, iI_eq, iI_divp, iI_toInt, iI_clamp, bI_0, bI_1, b_tf, Int.toNat_natCast, Int.reduceToNat, Int.toNat_zero, Int.toNat_one, modf, if_pos, if_neg, reduceIte, reduceCtorEq]
        exact bz (by rw [decide_eq_false_iff_not]; omega)
      · simp (disch := omega) only [p1, p2, Bool.not_false, Bool.true_and, obs, iI_lit, iI_add, iI_sub, iI_mul, iI_neg, iI_lt, iI_le, iI_eq, iI_divp, iI_toInt, iI_clamp, bI_0, bI_1, b_tf, Int.toNat_natCast, Int.reduceToNat, Int.toNat_zero, Int.toNat_one, modf, if_pos, if_neg, reduceIte, reduceCtorEq]
        exact bz (by rw [decide_eq_false_iff_not]; omega)
  · rw [hk2, bI_t] at hok
    simp (disch := omega) only [hok, Bool.not_true, Bool.false_and, obs, iI_lit, iI_add, iI_sub, iI_mul, iI_neg, iI_lt, iI_le, iI_eq, iI_divp, iI_toInt, iI_clamp, bI_0, bI_1, b_tf, Int.toNat_natCast, Int.reduceToNat, Int.toNat_zero, Int.toNat_one, modf, if_pos, if_neg, reduceIte, reduceCtorEq]
    rfl
end MS2
