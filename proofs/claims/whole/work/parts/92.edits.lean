section EF
variable {σ τ : St} {sh : Nat → Int}
theorem p_tide : P_tide Inv := by
  intro σ a1 a2 h
  obtain ⟨x, rfl, x1, x2⟩ := iI_ex a1
  obtain ⟨v, rfl, v1, v2⟩ := iI_ex a2
  have J20 : (20 : Int32) = iI 20 := by decide
  have J1 : (1 : Int32) = iI 1 := by decide
  obtain ⟨n, hn1, hn2, hn3⟩ : ∃ n : Int, (0 ≤ n ∧ n ≤ 6) ∧ σ 14 75 = iI n ∧ σ 27 6 = iI n := by
    rcases iv_sheet h with u | ⟨sh, V, R, M⟩
    · exact ⟨0, by omega, u.1, u.2.2.2.2.1⟩
    · exact ⟨sh 75, by have := V.2.1; omega, R 75 (by decide), M.c75⟩
  have wt : f_X10_isWithin σ (iI x) 0 (iI n - 1) = some (bI (decide (0 ≤ x ∧ x ≤ n - 1)), σ) := by rw [J0, J1, iI_sub, e_isWithin x1 x2 (by omega) (by omega) (by omega) (by omega)]
  have it : ∀ τ : St, f_X11_in τ (iI x).toInt64 0 (iI n - 1).toInt64 = some (bI (decide (0 ≤ x ∧ x ≤ n - 1)), τ) := fun τ => by rw [L0, J1, iI_sub, e_in x1 x2 (by omega) (by omega) (by omega) (by omega)]
  have s1 : f_X10_tide σ (iI x) (iI v) = Option.bind (f_X10_isWithin σ (iI x) 0 (iI n - 1)) fun q15 => if q15.1 = 0 then some (-1000001, q15.2) else (Option.bind (f_X10_isWithin q15.2 (iI v) 0 20) fun q18 => if q18.1 = 0 then some (-1000001, q18.2) else (Option.bind (f_X4_keep q18.2) fun q21 => Option.bind (f_X6_putHeightCell 14 q21 (iI x) (iI v)) fun q23 => some (q23.1, q23.2))) := by
    unfold f_X10_tide f_X6_heightCount
    rw [obs, hn2]
  have s2 : ∀ τ : St, τ 27 6 = iI n → f_X11_tide τ (iI x) (iI v) = Option.bind (f_X11_in τ (iI x).toInt64 0 (iI n - 1).toInt64) fun q9 => if q9.1 = 0 then some (-1000001, q9.2) else (Option.bind (f_X11_in q9.2 (iI v).toInt64 0 20) fun q12 => if q12.1 = 0 then some (-1000001, q12.2) else (Option.bind (f_X11_acts q12.2 (7 + iI x) (iI v)) fun q15 => some (q15.1, q15.2))) := by
    intro τ ht
    unfold f_X11_tide
    rw [ht]
  by_cases a : 0 ≤ x ∧ x ≤ n - 1
  case neg =>
    rw [decide_eq_false a] at wt it
    exact ⟨(-1000001, σ), (-1000001, σ), s1.trans (gd0 wt), (s2 σ hn3).trans (gd0 (it σ)), rfl, h⟩
  rw [decide_eq_true a] at wt it
  by_cases b : 0 ≤ v ∧ v ≤ 20
  case neg => exact ⟨(-1000001, σ), (-1000001, σ), s1.trans ((gd1 wt).trans (gd0 (by rw [J0, J20]; exact within_f (by omega) v1 v2 b))), (s2 σ hn3).trans ((gd1 (it σ)).trans (gd0 (by rw [L0, L20]; exact in_f (by omega) v1 v2 b))), rfl, h⟩
  rcases iv_sheet h with u | ⟨sh, V, R, M⟩
  · have : n = 0 := by
      have := u.1
      rw [hn2, iI_eq (by omega) (by omega) (by omega) (by omega)] at this
      exact this
    omega
  have h5 := V.2.1
  have en : n = sh 75 := by
    have := R 75 (by decide)
    rw [hn2, iI_eq (by omega) (by omega) (by omega) (by omega)] at this
    exact this
  obtain ⟨τ, e1, e2, e3, τ2, e4, e5⟩ := edit (jc := 5 + x.toNat) (A := 7 + x.toNat) (v := v) h V R M (by unfold rel; omega) (by unfold okv; omega) (by omega)
  refine ⟨(iI (sh (5 + x.toNat)), g_u2 τ 14 (5 + x.toNat) (iI v)), (iI (sh (5 + x.toNat)), τ2), s1.trans ((gd1 wt).trans ((gd1 (by rw [J0, J20]; exact within_t (by omega) b)).trans ?_)), (s2 _ (show g_u2 τ 14 (5 + x.toNat) (iI v) 27 6 = iI n by rw [e3.c75, en])).trans ((gd1 (it _)).trans ((gd1 (by rw [L0, L20]; exact in_t (by omega) b)).trans ?_)), rfl, e5⟩
  · dsimp only
    rw [e1, obs, c_putHeight (by rw [e2]; exact R) (by omega) (by omega), obs]
  · dsimp only
    rw [show (7 : Int32) = iI 7 by decide, iI_add, show (7 : Int) + x = ((7 + x.toNat : Nat) : Int) by omega, e4, obs]
theorem p_measure : P_measure Inv := by
  intro σ a1 a2 a3 h
  obtain ⟨x, rfl, x1, x2⟩ := iI_ex a1
  obtain ⟨y, rfl, y1, y2⟩ := iI_ex a2
  obtain ⟨v, rfl, v1, v2⟩ := iI_ex a3
  rcases iv_sheet h with u | ⟨sh, V, R, M⟩
  · exact ⟨(-1000001, σ), (-1000001, σ), gd0 (hasThing_u u _), gd0 (isThing_u u _), rfl, h⟩
  have J3 : (3 : Int32) = iI 3 := by decide
  have J1 : (1 : Int32) = iI 1 := by decide
  have h8 := V.2.2.1
  by_cases a : 0 ≤ x ∧ x < sh 76
  case neg => exact ⟨(-1000001, σ), (-1000001, σ), gd0 (hasThing_f R V x1 x2 a), gd0 (isThing_f M V x1 x2 a), rfl, h⟩
  by_cases b : 0 ≤ y ∧ y ≤ 3
  case neg => exact ⟨(-1000001, σ), (-1000001, σ), (gd1 (hasThing_t R V a)).trans (gd0 (by rw [J0, J3]; exact within_f (by omega) y1 y2 b)), (gd1 (isThing_t M V a)).trans (gd0 (by rw [L0, L3]; exact in_f (by omega) y1 y2 b)), rfl, h⟩
  obtain ⟨c, hc⟩ : ∃ c : Int, (y = 2 ∧ c = 15) ∨ (y = 3 ∧ c = 20) ∨ (y < 2 ∧ c = 60) := by
    rcases (show y = 2 ∨ y = 3 ∨ y < 2 by omega) with e | e | e
    · exact ⟨15, Or.inl ⟨e, rfl⟩⟩
    · exact ⟨20, Or.inr (Or.inl ⟨e, rfl⟩)⟩
    · exact ⟨60, Or.inr (Or.inr ⟨e, rfl⟩)⟩
  have mm : f_X6_measureMost σ (iI y) = some (iI c, σ) := by
    unfold f_X6_measureMost
    rcases hc with ⟨e, q⟩ | ⟨e, q⟩ | ⟨e, q⟩
    · rw [e, q]; rfl
    · rw [e, q]; rfl
    · rw [q, if_neg (show ¬ iI y = 2 by rw [show (2 : Int32) = iI 2 by decide, iI_eq (by omega) (by omega) (by omega) (by omega)]; omega), if_neg (show ¬ iI y = 3 by rw [J3, iI_eq (by omega) (by omega) (by omega) (by omega)]; omega)]; rfl
  have s1 : f_X10_measure σ (iI x) (iI y) (iI v) = Option.bind (f_X10_isWithin σ (iI v) (iI 0) (iI c)) fun q24 => if q24.1 = 0 then some (-1000001, q24.2) else (Option.bind (f_X4_keep q24.2) fun q27 => Option.bind (f_X6_putThingCell 14 q27 (iI x) (1 + iI y) (iI v)) fun q29 => some (q29.1, q29.2)) := by
    refine (gd1 (hasThing_t R V a)).trans ((gd1 (by rw [J0, J3]; exact within_t (by omega) b)).trans ?_)
    dsimp only
    rw [mm, obs]
    rfl
  have s2 : ∀ τ : St, MR τ sh → f_X11_measure τ (iI x) (iI y) (iI v) = f_X11_measure_p48 τ (iI x) (iI y) (iI v) (iI c).toInt64 (iI 0).toInt64 (iI v).toInt64 := by
    intro τ M1
    refine (gd1 (isThing_t M1 V a)).trans ((gd1 (by rw [L0, L3]; exact in_t (by omega) b)).trans ?_)
    dsimp only
    rcases hc with ⟨e, q⟩ | ⟨e, q⟩ | ⟨e, q⟩
    · rw [e, q, if_pos (by decide), if_pos (by decide), L15, L0]
    · rw [e, q, if_pos (by decide), if_neg (by decide), L20, L0]
    · rw [q, if_neg (show ¬ (2 : Int32) ≤ iI y by rw [show (2 : Int32) = iI 2 by decide, iI_le (by omega) (by omega) (by omega) (by omega)]; omega), L60, L0]
  have hcb : 0 ≤ c ∧ c < 2147483648 := by omega
  by_cases d : 0 ≤ v ∧ v ≤ c
  case neg => exact ⟨(-1000001, σ), (-1000001, σ), s1.trans (gd0 (within_f hcb v1 v2 d)), (s2 σ M).trans (gd0 (in_f hcb v1 v2 d)), rfl, h⟩
  obtain ⟨τ, e1, e2, e3, τ2, e4, e5⟩ := edit (jc := 11 + 5 * x.toNat + (1 + y).toNat) (A := 14 + 5 * x.toNat + (1 + y).toNat) (v := v) h V R M (by unfold rel; omega) (by unfold okv; omega) (by omega)
  refine ⟨(iI (sh (11 + 5 * x.toNat + (1 + y).toNat)), g_u2 τ 14 (11 + 5 * x.toNat + (1 + y).toNat) (iI v)), (iI (sh (11 + 5 * x.toNat + (1 + y).toNat)), τ2), s1.trans ((gd1 (within_t hcb d)).trans ?_), (s2 _ e3).trans ((gd1 (in_t hcb d)).trans ?_), rfl, e5⟩
  · dsimp only
    rw [e1, obs, J1, iI_add, c_putThing (by rw [e2]; exact R) (by omega) (by omega) (by omega) (by omega), obs]
  · dsimp only
    rw [show (14 : Int32) = iI 14 by decide, show (5 : Int32) = iI 5 by decide, J1, iI_mul, iI_add, iI_add, iI_add, show (14 : Int) + 5 * x + 1 + y = ((14 + 5 * x.toNat + (1 + y).toNat : Nat) : Int) by omega, e4, obs]
end EF
