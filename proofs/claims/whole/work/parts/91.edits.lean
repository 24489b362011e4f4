section EE
variable {σ τ : St} {sh : Nat → Int}
theorem c_putThing (R : RC (τ 14) sh) {k w : Int} (h1 : 0 ≤ k) (h2 : k < 8) (h3 : 0 ≤ w) (h4 : w < 5) (v : Int32) : f_X6_putThingCell 14 τ (iI k) (iI w) v = some (iI (sh (11 + 5 * k.toNat + w.toNat)), g_u2 τ 14 (11 + 5 * k.toNat + w.toNat) v) := by
  unfold f_X6_putThingCell f_X6_putThingCell_p41
  rw [e_thingCell R h1 h2 h3 h4, obs]
  simp (disch := omega) only [obs, iI_lit, iI_add, iI_sub, iI_mul, iI_neg, iI_lt, iI_le, iI_eq, iI_divp, iI_toInt, iI_clamp, bI_0, bI_1, b_tf, Int.toNat_natCast, Int.reduceToNat, Int.toNat_zero, Int.toNat_one, modf, if_pos, if_neg, reduceIte, reduceCtorEq]
  rw [show (11 + k * 5 + w).toNat = 11 + 5 * k.toNat + w.toNat by omega]
  rfl
theorem c_putShip (R : RC (τ 14) sh) {w : Int} (h3 : 0 ≤ w) (h4 : w < 5) (v : Int32) : f_X6_putShipCell 14 τ (iI w) v = some (iI (sh w.toNat), g_u2 τ 14 w.toNat v) := by
  unfold f_X6_putShipCell f_X6_putShipCell_p22
  rw [e_shipCell R h3 h4, obs]
  simp (disch := omega) only [obs, iI_lit, iI_add, iI_sub, iI_mul, iI_neg, iI_lt, iI_le, iI_eq, iI_divp, iI_toInt, iI_clamp, bI_0, bI_1, b_tf, Int.toNat_natCast, Int.reduceToNat, Int.toNat_zero, Int.toNat_one, modf, if_pos, if_neg, reduceIte, reduceCtorEq]
theorem c_putHeight (R : RC (τ 14) sh) {w : Int} (h3 : 0 ≤ w) (h4 : w < 6) (v : Int32) : f_X6_putHeightCell 14 τ (iI w) v = some (iI (sh (5 + w.toNat)), g_u2 τ 14 (5 + w.toNat) v) := by
  unfold f_X6_putHeightCell f_X6_putHeightCell_p25
  rw [e_heightCell R h3 h4, obs]
  simp (disch := omega) only [obs, iI_lit, iI_add, iI_sub, iI_mul, iI_neg, iI_lt, iI_le, iI_eq, iI_divp, iI_toInt, iI_clamp, bI_0, bI_1, b_tf, Int.toNat_natCast, Int.reduceToNat, Int.toNat_zero, Int.toNat_one, modf, if_pos, if_neg, reduceIte, reduceCtorEq]
  rw [show (5 + w).toNat = 5 + w.toNat by omega]
theorem c_putLeg (R : RC (τ 14) sh) {k w : Int} (h1 : 0 ≤ k) (h2 : k < 6) (h3 : 0 ≤ w) (h4 : w < 4) (v : Int32) : f_X6_putLegCell 14 τ (iI k) (iI w) v = some (iI (sh (51 + 4 * k.toNat + w.toNat)), g_u2 τ 14 (51 + 4 * k.toNat + w.toNat) v) := by
  unfold f_X6_putLegCell f_X6_putLegCell_p41
  rw [e_legCell R h1 h2 h3 h4, obs]
  simp (disch := omega) only [obs, iI_lit, iI_add, iI_sub, iI_mul, iI_neg, iI_lt, iI_le, iI_eq, iI_divp, iI_toInt, iI_clamp, bI_0, bI_1, b_tf, Int.toNat_natCast, Int.reduceToNat, Int.toNat_zero, Int.toNat_one, modf, if_pos, if_neg, reduceIte, reduceCtorEq]
  rw [show (51 + k * 4 + w).toNat = 51 + 4 * k.toNat + w.toNat by omega]
  rfl
theorem hasThing_t (R : RC (σ 14) sh) (V : Val sh) {x : Int} (a : 0 ≤ x ∧ x < sh 76) : f_X6_hasThing 14 σ (iI x) = some (iI 1, σ) := by
  have h8 := V.2.2.1
  rw [e_hasThing (sh := sh) (R 76 (by decide)) h8.1 h8.2 (by omega) (by omega), decide_eq_true a]; rfl
theorem hasThing_f (R : RC (σ 14) sh) (V : Val sh) {x : Int} (x1 : -2147483648 ≤ x) (x2 : x < 2147483648) (a : ¬ (0 ≤ x ∧ x < sh 76)) : f_X6_hasThing 14 σ (iI x) = some (iI 0, σ) := by
  have h8 := V.2.2.1
  rw [e_hasThing (sh := sh) (R 76 (by decide)) h8.1 h8.2 x1 x2, decide_eq_false a]; rfl
theorem isThing_t (M : MR σ sh) (V : Val sh) {x : Int} (a : 0 ≤ x ∧ x < sh 76) : f_X11_isThing σ (iI x) = some (iI 1, σ) := by
  have h8 := V.2.2.1
  rw [m_isThing M h8.1 h8.2 (by omega) (by omega), decide_eq_true a]; rfl
theorem isThing_f (M : MR σ sh) (V : Val sh) {x : Int} (x1 : -2147483648 ≤ x) (x2 : x < 2147483648) (a : ¬ (0 ≤ x ∧ x < sh 76)) : f_X11_isThing σ (iI x) = some (iI 0, σ) := by
  have h8 := V.2.2.1
  rw [m_isThing M h8.1 h8.2 x1 x2, decide_eq_false a]; rfl
theorem hasLeg_t (R : RC (σ 14) sh) (V : Val sh) {x : Int} (a : 0 ≤ x ∧ x < sh 77) : f_X6_hasLeg 14 σ (iI x) = some (iI 1, σ) := by
  have h6 := V.1
  rw [e_hasLeg (sh := sh) (R 77 (by decide)) (by omega) h6.2 (by omega) (by omega), decide_eq_true a]; rfl
theorem hasLeg_f (R : RC (σ 14) sh) (V : Val sh) {x : Int} (x1 : -2147483648 ≤ x) (x2 : x < 2147483648) (a : ¬ (0 ≤ x ∧ x < sh 77)) : f_X6_hasLeg 14 σ (iI x) = some (iI 0, σ) := by
  have h6 := V.1
  rw [e_hasLeg (sh := sh) (R 77 (by decide)) (by omega) h6.2 x1 x2, decide_eq_false a]; rfl
theorem isLeg_t (M : MR σ sh) (V : Val sh) {x : Int} (a : 0 ≤ x ∧ x < sh 77) : f_X11_isLeg σ (iI x) = some (iI 1, σ) := by
  have h6 := V.1
  rw [m_isLeg M (by omega) h6.2 (by omega) (by omega), decide_eq_true a]; rfl
theorem isLeg_f (M : MR σ sh) (V : Val sh) {x : Int} (x1 : -2147483648 ≤ x) (x2 : x < 2147483648) (a : ¬ (0 ≤ x ∧ x < sh 77)) : f_X11_isLeg σ (iI x) = some (iI 0, σ) := by
  have h6 := V.1
  rw [m_isLeg M (by omega) h6.2 x1 x2, decide_eq_false a]; rfl
theorem p_ship : P_ship Inv := by
  intro σ a1 a2 h
  obtain ⟨x, rfl, x1, x2⟩ := iI_ex a1
  obtain ⟨v, rfl, v1, v2⟩ := iI_ex a2
  rcases iv_sheet h with u | ⟨sh, V, R, M⟩
  · exact ⟨(-1000002, σ), (-1000002, σ), gd0 (told_u u), gd0 (sheet_u u), rfl, h⟩
  have J4 : (4 : Int32) = iI 4 := by decide
  have J20 : (20 : Int32) = iI 20 := by decide
  have J60 : (60 : Int32) = iI 60 := by decide
  by_cases a : 0 ≤ x ∧ x ≤ 4
  case neg => exact ⟨(-1000001, σ), (-1000001, σ), (gd1 (told_t V R)).trans (gd0 (by rw [J0, J4]; exact within_f (by omega) x1 x2 a)), (gd1 (sheet_t M)).trans (gd0 (by rw [L0, L4]; exact in_f (by omega) x1 x2 a)), rfl, h⟩
  obtain ⟨c, hc⟩ : ∃ c : Int, c = if x = 0 then 20 else 60 := ⟨_, rfl⟩
  have s1 : ∀ τ : St, τ = σ → f_X10_ship τ (iI x) (iI v) = f_X10_ship_p38 τ (iI x) (iI v) (iI c) (iI 0) (iI v) := by
    rintro τ rfl
    refine (gd1 (told_t V R)).trans ((gd1 (by rw [J0, J4]; exact within_t (by omega) a)).trans ?_)
    dsimp only
    by_cases p : x = 0
    · rw [if_pos p] at hc
      rw [hc, p]; rfl
    · rw [if_neg p] at hc
      rw [hc]
      exact if_neg (show ¬ iI x = 0 by rw [J0, iI_eq (by omega) (by omega) (by omega) (by omega)]; exact p)
  have s2 : ∀ τ : St, MR τ sh → f_X11_ship τ (iI x) (iI v) = f_X11_ship_p38 τ (iI x) (iI v) (iI c).toInt64 (iI 0).toInt64 (iI v).toInt64 := by
    intro τ M1
    refine (gd1 (sheet_t M1)).trans ((gd1 (by rw [L0, L4]; exact in_t (by omega) a)).trans ?_)
    dsimp only
    by_cases p : x = 0
    · rw [if_pos p] at hc
      rw [hc, p, if_pos (by decide), L20, L0]
    · rw [if_neg p] at hc
      rw [hc, if_neg (show ¬ iI x = 0 by rw [J0, iI_eq (by omega) (by omega) (by omega) (by omega)]; exact p), L60, L0]
  have hcb : 0 ≤ c ∧ c < 2147483648 := by rw [hc]; split <;> omega
  by_cases b : 0 ≤ v ∧ v ≤ c
  case neg => exact ⟨(-1000001, σ), (-1000001, σ), (s1 σ rfl).trans (gd0 (within_f hcb v1 v2 b)), (s2 σ M).trans (gd0 (in_f hcb v1 v2 b)), rfl, h⟩
  have hb : okv x.toNat v := by
    unfold okv
    by_cases p : x = 0
    · rw [if_pos p] at hc; omega
    · rw [if_neg p] at hc; omega
  obtain ⟨τ, e1, e2, e3, τ2, e4, e5⟩ := edit (jc := x.toNat) (A := 1 + x.toNat) h V R M (by unfold rel; omega) hb (by omega)
  refine ⟨(iI (sh x.toNat), g_u2 τ 14 x.toNat (iI v)), (iI (sh x.toNat), τ2), (s1 σ rfl).trans ((gd1 (within_t hcb b)).trans ?_), (s2 _ e3).trans ((gd1 (in_t hcb b)).trans ?_), rfl, e5⟩
  · dsimp only
    rw [e1, obs, c_putShip (by rw [e2]; exact R) (by omega) (by omega), obs]
  · dsimp only
    rw [show (1 : Int32) = iI 1 by decide, iI_add, show (1 : Int) + x = ((1 + x.toNat : Nat) : Int) by omega, e4, obs]
theorem p_steer : P_steer Inv := by
  intro σ a1 a2 h
  obtain ⟨x, rfl, x1, x2⟩ := iI_ex a1
  obtain ⟨v, rfl, v1, v2⟩ := iI_ex a2
  rcases iv_sheet h with u | ⟨sh, V, R, M⟩
  · exact ⟨(-1000001, σ), (-1000001, σ), gd0 (hasLeg_u u _), gd0 (isLeg_u u _), rfl, h⟩
  have J15 : (15 : Int32) = iI 15 := by decide
  have h6 := V.1
  by_cases a : 0 ≤ x ∧ x < sh 77
  case neg => exact ⟨(-1000001, σ), (-1000001, σ), gd0 (hasLeg_f R V x1 x2 a), gd0 (isLeg_f M V x1 x2 a), rfl, h⟩
  by_cases b : 0 ≤ v ∧ v ≤ 15
  case neg => exact ⟨(-1000001, σ), (-1000001, σ), (gd1 (hasLeg_t R V a)).trans (gd0 (by unfold f_X10_isCourse; rw [J0, J15]; dsimp only; rw [within_f (by omega) v1 v2 b, obs]; exact if_pos (Or.inl rfl))), (gd1 (isLeg_t M V a)).trans (gd0 (by rw [L0, L15]; exact in_f (by omega) v1 v2 b)), rfl, h⟩
  obtain ⟨τ, e1, e2, e3, τ2, e4, e5⟩ := edit (jc := 51 + 4 * x.toNat) (A := 55 + 4 * x.toNat) (v := v) h V R M (by unfold rel; omega) (by unfold okv; omega) (by omega)
  refine ⟨(iI (sh (51 + 4 * x.toNat)), g_u2 τ 14 (51 + 4 * x.toNat) (iI v)), (iI (sh (51 + 4 * x.toNat)), τ2), (gd1 (hasLeg_t R V a)).trans ((gd1 (by unfold f_X10_isCourse; rw [J0, J15]; dsimp only; rw [within_t (by omega) b, obs]; exact if_pos (Or.inr (show iI 1 = 1 by decide)))).trans ?_), (gd1 (isLeg_t e3 V a)).trans ((gd1 (by rw [L0, L15]; exact in_t (by omega) b)).trans ?_), rfl, e5⟩
  · dsimp only
    rw [e1, obs, J0, c_putLeg (by rw [e2]; exact R) (by omega) (by omega) (by omega) (by omega), obs]
    rfl
  · dsimp only
    rw [show (55 : Int32) = iI 55 by decide, show (4 : Int32) = iI 4 by decide, iI_mul, iI_add, show (55 : Int) + 4 * x = ((55 + 4 * x.toNat : Nat) : Int) by omega, e4, obs]
theorem p_become : P_become Inv := by
  intro σ a1 a2 h
  obtain ⟨x, rfl, x1, x2⟩ := iI_ex a1
  obtain ⟨v, rfl, v1, v2⟩ := iI_ex a2
  rcases iv_sheet h with u | ⟨sh, V, R, M⟩
  · exact ⟨(-1000001, σ), (-1000001, σ), gd0 (hasThing_u u _), gd0 (isThing_u u _), rfl, h⟩
  have J6' : (6 : Int32) = iI 6 := by decide
  have J1 : (1 : Int32) = iI 1 := by decide
  have h8 := V.2.2.1
  by_cases a : 0 ≤ x ∧ x < sh 76
  case neg => exact ⟨(-1000001, σ), (-1000001, σ), gd0 (hasThing_f R V x1 x2 a), gd0 (isThing_f M V x1 x2 a), rfl, h⟩
  have wt : ∀ τ : St, f_X10_isWithin τ (iI v) 1 6 = some (bI (decide (1 ≤ v ∧ v ≤ 6)), τ) := fun τ => by rw [J1, J6', e_isWithin v1 v2 (by omega) (by omega) (by omega) (by omega)]
  have it : ∀ τ : St, f_X11_in τ (iI v).toInt64 1 6 = some (bI (decide (1 ≤ v ∧ v ≤ 6)), τ) := fun τ => by rw [L1, L6, e_in v1 v2 (by omega) (by omega) (by omega) (by omega)]
  by_cases b : 1 ≤ v ∧ v ≤ 6
  case neg =>
    rw [decide_eq_false b] at wt it
    exact ⟨(-1000001, σ), (-1000001, σ), (gd1 (hasThing_t R V a)).trans (gd0 (wt σ)), (gd1 (isThing_t M V a)).trans (gd0 (it σ)), rfl, h⟩
  rw [decide_eq_true b] at wt it
  have tv := (V.2.2.2.2.2.2.1 x.toNat (by omega)).1
  have tc := e_thingCell (σ := σ) (ka := 14) R (t := x) (w := 0) (by omega) (by omega) (by omega) (by omega)
  by_cases e : tT sh x.toNat 0 = v
  · refine ⟨(-1000002, σ), (-1000002, σ), (gd1 (hasThing_t R V a)).trans ((gd1 (wt σ)).trans ?_), (gd1 (isThing_t M V a)).trans ((gd1 (it σ)).trans ?_), rfl, h⟩
    · dsimp only
      rw [J0, tc, obs]
      exact if_pos (show iI (tT sh x.toNat (Int.toNat 0)) = iI v by rw [← e]; rfl)
    · dsimp only
      rw [J0, m_of M h8.2 (by omega) (by omega) (by omega) (by omega), obs]
      exact if_pos (show iI (tT sh x.toNat (Int.toNat 0)) = iI v by rw [← e]; rfl)
  · have ne : ¬ iI (tT sh x.toNat (Int.toNat 0)) = iI v := by
      rw [show Int.toNat 0 = 0 from rfl, iI_eq (by omega) (by omega) (by omega) (by omega)]; exact e
    obtain ⟨τ, e1, e2, e3, τ2, e4, e5⟩ := edit (jc := 11 + 5 * x.toNat) (A := 14 + 5 * x.toNat) (v := v) h V R M (by unfold rel; omega) (by unfold okv; omega) (by omega)
    refine ⟨(iI (sh (11 + 5 * x.toNat)), g_u2 τ 14 (11 + 5 * x.toNat) (iI v)), (iI (sh (11 + 5 * x.toNat)), τ2), (gd1 (hasThing_t R V a)).trans ((gd1 (wt σ)).trans ?_), (gd1 (isThing_t e3 V a)).trans ((gd1 (it _)).trans ?_), rfl, e5⟩
    · dsimp only
      rw [J0, tc, obs]
      refine (if_neg ne).trans ?_
      dsimp only
      rw [e1, obs, c_putThing (by rw [e2]; exact R) (by omega) (by omega) (by omega) (by omega), obs]
      rfl
    · dsimp only
      rw [J0, m_of e3 h8.2 (by omega) (by omega) (by omega) (by omega), obs]
      refine (if_neg ne).trans ?_
      dsimp only
      rw [show (14 : Int32) = iI 14 by decide, show (5 : Int32) = iI 5 by decide, iI_mul, iI_add, show (14 : Int) + 5 * x = ((14 + 5 * x.toNat : Nat) : Int) by omega, e4, obs]
end EE
