section AF
variable {σ τ : St} {sh : Nat → Int}
theorem course_e {c : Int} (c1 : -2147483648 ≤ c) (c2 : c < 2147483648) : f_X10_isCourse τ (iI c) = some (bI (decide (0 ≤ c ∧ c ≤ 15)), τ) := by
  unfold f_X10_isCourse
  rw [J0, show (15 : Int32) = iI 15 by decide, e_isWithin c1 c2 (by omega) (by omega) (by omega) (by omega), obs]
  dsimp only
  exact if_pos (bI_01 _)
theorem p_add : P_add Inv := by
  intro σ a1 a2 a3 a4 a5 h
  obtain ⟨x, rfl, x1, x2⟩ := iI_ex a1
  obtain ⟨c, rfl, c1, c2⟩ := iI_ex a2
  obtain ⟨s, rfl, s1, s2⟩ := iI_ex a3
  obtain ⟨a, rfl, a1, a2⟩ := iI_ex a4
  obtain ⟨b, rfl, b1, b2⟩ := iI_ex a5
  rcases iv_sheet h with u | ⟨sh, V, R, M⟩
  · exact ⟨(-1000002, σ), (-1000002, σ), gd0 (told_u u), gd0 (sheet_u u), rfl, h⟩
  have h6 := V.1
  have J1 : (1 : Int32) = iI 1 := by decide
  obtain ⟨n, hn⟩ : ∃ n : Nat, (n : Int) = sh 77 := ⟨(sh 77).toNat, by omega⟩
  have wx : ∀ τ : St, f_X10_isWithin τ (iI x) 0 (iI (sh 77)) = some (bI (decide (0 ≤ x ∧ x ≤ sh 77)), τ) := fun τ => by rw [J0, e_isWithin x1 x2 (by omega) (by omega) (by omega) (by omega)]
  have ix : ∀ τ : St, f_X11_in τ (iI x).toInt64 0 (iI (sh 77)).toInt64 = some (bI (decide (0 ≤ x ∧ x ≤ sh 77)), τ) := fun τ => by rw [L0, e_in x1 x2 (by omega) (by omega) (by omega) (by omega)]
  have S1 : f_X10_add σ (iI x) (iI c) (iI s) (iI a) (iI b) = Option.bind (f_X10_isWithin σ (iI x) 0 (iI (sh 77))) fun q33 => if q33.1 = 0 then some (-1000001, q33.2) else (Option.bind (f_X10_isCourse q33.2 (iI c)) fun q36 => if q36.1 = 0 then some (-1000001, q36.2) else (Option.bind (f_X10_isUntil q36.2 (iI s) (iI a) (iI b)) fun q39 => if q39.1 = 0 then some (-1000001, q39.2) else (Option.bind (f_X6_legCount 14 q39.2) fun q42 => if q42.1 = 6 then some (-1000003, q42.2) else (Option.bind (f_X4_keep q42.2) fun q45 => Option.bind (f_X6_openLeg 14 q45 (iI x)) fun q47 => Option.bind (f_X6_putLegCell 14 q47 (iI x) 0 (iI c)) fun q49 => Option.bind (f_X6_putUntil 14 q49.2 (iI x) (iI s) (iI a) (iI b)) fun q51 => Option.bind (f_X6_legCount 14 q51.2) fun q53 => some (q53.1, q53.2))))) := by
    refine (gd1 (told_t V R)).trans ?_
    dsimp only
    rw [q_legCount R rfl, obs]
  have S2 : ∀ τ : St, MR τ sh → f_X11_add τ (iI x) (iI c) (iI s) (iI a) (iI b) = Option.bind (f_X11_in τ (iI x).toInt64 0 (iI (sh 77)).toInt64) fun q47 => if q47.1 = 0 then some (-1000001, q47.2) else (Option.bind (f_X11_in q47.2 (iI c).toInt64 0 15) fun q50 => if q50.1 = 0 then some (-1000001, q50.2) else (Option.bind (f_X11_isUntil q50.2 (iI s) (iI a) (iI b)) fun q53 => if q53.1 = 0 then some (-1000001, q53.2) else (if (q53.2 27 54) = 6 then some (-1000003, q53.2) else (Option.bind (f_X11_minds q53.2) fun q57 => Option.bind (some ((4 * (q57 27 54)) + 3)) fun y59 => fx (F_X11_add_h85) z_X11_add_h85 FU q57 (iI x) (iI c) (iI s) (iI a) (iI b) (y59))))) := by
    intro τ M1
    refine (gd1 (sheet_t M1)).trans ?_
    dsimp only
    rw [M1.c77]
  by_cases p : 0 ≤ x ∧ x ≤ sh 77
  case neg =>
    rw [decide_eq_false p] at wx ix
    exact ⟨(-1000001, σ), (-1000001, σ), S1.trans (gd0 (wx σ)), (S2 σ M).trans (gd0 (ix σ)), rfl, h⟩
  rw [decide_eq_true p] at wx ix
  have cc : ∀ τ : St, f_X10_isCourse τ (iI c) = some (bI (decide (0 ≤ c ∧ c ≤ 15)), τ) := fun τ => course_e c1 c2
  have ic : ∀ τ : St, f_X11_in τ (iI c).toInt64 0 15 = some (bI (decide (0 ≤ c ∧ c ≤ 15)), τ) := fun τ => by rw [L0, L15, e_in c1 c2 (by omega) (by omega) (by omega) (by omega)]
  by_cases q : 0 ≤ c ∧ c ≤ 15
  case neg =>
    rw [decide_eq_false q] at cc ic
    exact ⟨(-1000001, σ), (-1000001, σ), S1.trans ((gd1 (wx σ)).trans (gd0 (cc σ))), (S2 σ M).trans ((gd1 (ix σ)).trans (gd0 (ic σ))), rfl, h⟩
  rw [decide_eq_true q] at cc ic
  have e1 : ∀ τ : St, f_X10_isUntil τ (iI s) (iI a) (iI b) = some (bI (okU s a b), τ) := fun τ => e_isUntil s1 s2 a1 a2 b1 b2
  have e2 : ∀ τ : St, f_X11_isUntil τ (iI s) (iI a) (iI b) = some (bI (okU s a b), τ) := fun τ => m_isUntil s1 s2 a1 a2 b1 b2
  cases hu : okU s a b
  · rw [hu] at e1 e2
    exact ⟨(-1000001, σ), (-1000001, σ), S1.trans ((gd1 (wx σ)).trans ((gd1 (cc σ)).trans (gd0 (e1 σ)))), (S2 σ M).trans ((gd1 (ix σ)).trans ((gd1 (ic σ)).trans (gd0 (e2 σ)))), rfl, h⟩
  rw [hu] at e1 e2
  obtain ⟨hs, hv⟩ := okU_v hu
  by_cases f6 : sh 77 = 6
  · refine ⟨(-1000003, σ), (-1000003, σ), S1.trans ((gd1 (wx σ)).trans ((gd1 (cc σ)).trans ((gd1 (e1 σ)).trans ?_))), (S2 σ M).trans ((gd1 (ix σ)).trans ((gd1 (ic σ)).trans ((gd1 (e2 σ)).trans (if_pos (show σ 27 54 = 6 by rw [M.c77, f6]; decide))))), rfl, h⟩
    dsimp only
    rw [q_legCount R rfl, obs]
    exact if_pos (show iI (sh 77) = 6 by rw [f6]; decide)
  have n6 : ¬ iI (sh 77) = 6 := by rw [show (6 : Int32) = iI 6 by decide, iI_eq (by omega) (by omega) (by omega) (by omega)]; exact f6
  obtain ⟨g, rfl⟩ : ∃ g : Nat, x = g := ⟨x.toNat, by omega⟩
  obtain ⟨B, hB⟩ : ∃ B : Int, B = if s = 2 then b else -1000000 := ⟨_, rfl⟩
  rw [← hB] at hv
  obtain ⟨τ, k1, k2, k3⟩ := push h V R M
  obtain ⟨X1, r1, r2, r3, r4, r5⟩ := c_add_loop (σ := τ) (n := n) (g := g) (by omega) (by omega) (4 * n - 4 * g) (51 + 4 * n + 3) FU τ (by omega) (by omega) (by rw [FU_val]; omega) (fun _ _ => rfl) (fun i hi hi2 => absurd hi2 (by omega)) (fun _ _ => rfl)
  have RX1 : RC (X1 14) (adO sh g n) := by
    intro j hj
    by_cases z : j = 77
    · rw [z, r5]; unfold adO; rw [if_pos rfl]
    · by_cases w : 51 + 4 * g + 4 ≤ j ∧ j < 51 + 4 * (n + 1)
      · rw [r3 j (by omega) (by omega), adO_b (by omega) w.1 w.2, k2]; exact R _ (by omega)
      · rw [r4 j z (by omega), adO_a z (by omega), k2]; exact R j hj
  have RX2 := RC_up RX1 (51 + 4 * g) c
  obtain ⟨X, hX⟩ : ∃ X, X = g_u2 (g_u2 (g_u2 (g_u2 X1 14 (51 + 4 * g) (iI c)) 14 (51 + 4 * g + 2) (iI a)) 14 (51 + 4 * g + 3) (iI B)) 14 (51 + 4 * g + 1) (iI s) := ⟨_, rfl⟩
  have RX : RC (X 14) (adS sh g n c s a B) := by rw [hX]; exact RC_up (RC_up (RC_up RX2 _ _) _ _) _ _
  obtain ⟨M1, τ1, d1, M2, d3, d4⟩ := k3 X (fun k hk => by rw [hX, g_u2_n1 hk, g_u2_n1 hk, g_u2_n1 hk, g_u2_n1 hk, r2 k hk])
  obtain ⟨Z, z1, z2, z3, z4⟩ := m_add_loop (σ := τ1) (n := n) (g := g) (by omega) (by omega) (x2 := iI c) (x3 := iI s) (x4 := iI a) (x5 := iI b) (4 * n - 4 * g) (4 * n + 3) FU τ1 (by omega) (by omega) (by rw [FU_val]; omega) (fun _ _ => rfl) (fun i hi hi2 => absurd hi2 (by omega)) (fun _ _ => rfl)
  have ml := m_lays (τ := g_u2 Z 27 (55 + 4 * g) (iI c)) (g := g) (by omega) s a b hs
  rw [← hB] at ml
  obtain ⟨Y0, hY0⟩ : ∃ Y0, Y0 = g_u2 (g_u2 (g_u2 (g_u2 Z 27 (55 + 4 * g) (iI c)) 27 (55 + 4 * g + 1) (iI s)) 27 (55 + 4 * g + 2) (iI a)) 27 (55 + 4 * g + 3) (iI B) := ⟨_, rfl⟩
  rw [← hY0] at ml
  have y54 : Y0 27 54 = iI n := by rw [hY0, g_u2_n2 (by omega), g_u2_n2 (by omega), g_u2_n2 (by omega), g_u2_n2 (by omega), z4 54 (by omega), hn]; exact M2.c77
  have yr : ∀ k, k ≠ 27 → g_u2 Y0 27 54 (iI ((n : Int) + 1)) k = τ1 k := fun k hk => by rw [g_u2_n1 hk, hY0, g_u2_n1 hk, g_u2_n1 hk, g_u2_n1 hk, g_u2_n1 hk, z2 k hk]
  have ye : ∀ i, i ≠ 54 → (i < 55 + 4 * g ∨ 55 + 4 * g + 3 < i) → g_u2 Y0 27 54 (iI ((n : Int) + 1)) 27 i = Z 27 i := fun i h5 hi => by rw [g_u2_n2 h5, hY0, g_u2_n2 (by omega), g_u2_n2 (by omega), g_u2_n2 (by omega), g_u2_n2 (by omega)]
  have hSH : SH (g_u2 Y0 27 54 (iI ((n : Int) + 1)) 14) (g_u2 Y0 27 54 (iI ((n : Int) + 1)) 27) 0 := by
    refine ⟨adS sh g n c s a B, Val_add V hn (by omega) (by omega) q hv, by rw [yr 14 (by decide), d3]; exact RX, RM_add V M2.1 hn (by omega) (by omega) (g_u2_e _ _ _ _) (fun i hi hi2 => ?_) (fun i hi hi2 => ?_) ⟨?_, ?_, ?_, ?_⟩⟩
    · rw [ye i hi (by omega), z4 i (by omega)]
    · have := z3 (i - 55) (by omega) (by omega)
      rw [show 55 + (i - 55) = i by omega] at this
      rw [ye i (by omega) (by omega), this]
    · rw [g_u2_n2 (by omega), hY0, g_u2_n2 (by omega), g_u2_n2 (by omega), g_u2_n2 (by omega), g_u2_e]
    · rw [g_u2_n2 (by omega), hY0, g_u2_n2 (by omega), g_u2_n2 (by omega), g_u2_e]
    · rw [g_u2_n2 (by omega), hY0, g_u2_n2 (by omega), g_u2_e]
    · rw [g_u2_n2 (by omega), hY0, g_u2_e]
  refine ⟨(iI ((n : Int) + 1), X), (iI ((n : Int) + 1), g_u2 Y0 27 54 (iI ((n : Int) + 1))), S1.trans ((gd1 (wx σ)).trans ((gd1 (cc σ)).trans ((gd1 (e1 σ)).trans ?_))), (S2 X M1).trans ((gd1 (ix X)).trans ((gd1 (ic X)).trans ((gd1 (e2 X)).trans ?_))), rfl, d4 _ yr (fun j hj => (ye j (by omega) (by omega)).trans (z4 j (by omega))) hSH⟩
  · dsimp only
    rw [q_legCount R rfl, obs]
    refine (if_neg n6).trans ?_
    dsimp only
    have op : f_X6_openLeg 14 τ (iI g) = some X1 := by
      unfold f_X6_openLeg
      generalize fx (F_X6_openLeg_h35 14) z_X6_openLeg_h35 FU = K at *
      rw [obs, k2, R 77 (by decide), ← hn, if_neg (show ¬ iI (g : Int) < 0 by rw [J0, iI_lt (by omega) (by omega) (by omega) (by omega)]; omega), if_neg (show ¬ iI (n : Int) < iI (g : Int) by rw [iI_lt (by omega) (by omega) (by omega) (by omega)]; omega), if_pos (show iI (n : Int) < 6 by rw [show (6 : Int32) = iI 6 by decide, iI_lt (by omega) (by omega) (by omega) (by omega)]; omega), obs, J1, show (51 : Int32) = iI 51 by decide, show (4 : Int32) = iI 4 by decide, iI_add, iI_mul, iI_add, iI_sub, show (51 : Int) + ((n : Int) + 1) * 4 - 1 = ((51 + 4 * n + 3 : Nat) : Int) by omega]
      exact r1
    have pl := c_putLeg RX1 (k := (g : Int)) (w := 0) (by omega) (by omega) (by omega) (by omega) (iI c)
    simp only [Int.toNat_natCast, Int.toNat_zero, Nat.add_zero] at pl
    have pu := c_putUntil RX2 (g := g) (by omega) s a b hs
    rw [← hB, ← hX] at pu
    rw [k1, obs, op, obs, J0, pl, obs]
    dsimp only
    rw [pu, obs]
    unfold f_X6_legCount
    rw [obs]
    dsimp only
    rw [RX 77 (by decide), adS_c (by omega) (by omega)]
  · have n62 : ¬ X 27 54 = 6 := by rw [M1.c77]; exact n6
    refine (if_neg n62).trans ?_
    dsimp only
    rw [d1, obs, obs, M2.c77, ← hn, show (4 : Int32) = iI 4 by decide, show (3 : Int32) = iI 3 by decide, iI_mul, iI_add, show (4 : Int) * (n : Int) + 3 = ((4 * n + 3 : Nat) : Int) by omega, z1, ml, obs, obs, y54, J1, iI_add, g_u2_e]
end AF
