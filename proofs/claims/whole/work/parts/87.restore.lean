section RS
variable {σ τ : St} {sh : Nat → Int}
theorem p_restore : P_restore Inv := by
  intro σ a1 h
  obtain ⟨z, rfl, z1, z2⟩ := iI_ex a1
  have J1 : (1 : Int32) = iI 1 := by decide
  by_cases b : 0 ≤ z ∧ z ≤ 1
  case neg => exact ⟨(-1000001, σ), (-1000001, σ), gd0 (by rw [J0, J1]; exact within_f (by omega) z1 z2 b), gd0 (by rw [L0, L1]; exact in_f (by omega) z1 z2 b), rfl, h⟩
  obtain ⟨hT, hf, hs, hi, hh, hc⟩ := id h
  obtain ⟨i1, i2⟩ := id hi
  rcases (show z = 0 ∨ z = 1 by omega) with e | e <;> subst e
  · obtain ⟨τ, c1, c2, c3⟩ := c_copyFrom (σ := σ) 14 15
    rcases i1 with ⟨u1, u2⟩ | ⟨u1, u2⟩
    · have t0 : f_X6_isTold 15 σ = some (iI 0, σ) := by unfold f_X6_isTold; simp (disch := omega) only [u1, obs, iI_lit, iI_add, iI_sub, iI_mul, iI_neg, iI_lt, iI_le, iI_eq, iI_divp, iI_toInt, iI_clamp, bI_0, bI_1, b_tf, Int.toNat_natCast, Int.reduceToNat, Int.toNat_zero, Int.toNat_one, modf, if_pos, if_neg, reduceIte, reduceCtorEq]
      refine ⟨(-1000002, σ), (-1000002, σ), (gd1 (by rw [J0, J1]; exact within_t (by omega) b)).trans ?_, (gd1 (by rw [L0, L1]; exact in_t (by omega) b)).trans ?_, rfl, h⟩
      · unfold f_X10_imageOf
        rw [if_pos (by decide), obs]
        dsimp only
        rw [if_pos rfl]
        exact gd0 t0
      · dsimp only
        rw [if_pos (by decide)]
        exact if_pos u2
    · obtain ⟨sh, V, R, W⟩ := id u2
      have v6 := V.1
      have t1 : f_X6_isTold 15 σ = some (iI 1, σ) := by
        rw [e_isTold (R 77 (by decide)) (by omega) (by omega), decide_eq_true (by omega)]; rfl
      obtain ⟨τ1, d1, d2, d3, d4⟩ := m_copy (σ := g_u2 τ 4 2 (iI 0)) (a := 79) (b := 0) (by omega) (by omega) (by omega)
      have k : ∀ c, c ≠ 4 → c ≠ 14 → c ≠ 26 → c ≠ 27 → g_u2 τ1 26 2 (iI 0) c = σ c := fun c k1 k2 k3 k4 => by rw [g_u2_n1 k3, d2 c k4, g_u2_n1 k1, c2 c k2]
      have k26 : ∀ j, j ≠ 2 → g_u2 τ1 26 2 (iI 0) 26 j = σ 26 j := fun j hj => by rw [g_u2_n2 hj, d2 26 (by decide), g_u2_n1 (by decide), c2 26 (by decide)]
      have k27 : ∀ j, 79 ≤ j → g_u2 τ1 26 2 (iI 0) 27 j = σ 27 j := fun j hj => by rw [g_u2_n1 (by decide), d3 j (by omega), g_u2_n1 (by decide), c2 27 (by decide)]
      refine ⟨(1, g_u2 τ 4 2 (iI 0)), (1, g_u2 τ1 26 2 (iI 0)), (gd1 (by rw [J0, J1]; exact within_t (by omega) b)).trans ?_, (gd1 (by rw [L0, L1]; exact in_t (by omega) b)).trans ?_, rfl, ?_⟩
      · unfold f_X10_imageOf f_X4_forget
        rw [if_pos (by decide), obs]
        dsimp only
        rw [if_pos rfl]
        refine (gd1 t1).trans ?_
        dsimp only
        rw [if_pos (by decide), obs]
        dsimp only
        rw [if_pos rfl, c1, obs, obs, obs, J0]
      · dsimp only
        rw [if_pos (by decide)]
        have n28 : ¬ g_u2 τ 4 2 (iI 0) 28 0 = 0 := by rw [g_u2_n1 (by decide), c2 28 (by decide), u1]; decide
        refine (if_neg n28).trans ?_
        rw [J0, show (79 : Int32) + 79 * iI 0 = iI ((79 : Nat) : Int) by decide, show f_X11_copy (g_u2 τ 4 2 (iI 0)) (iI ((79 : Nat) : Int)) (iI 0) = some τ1 from d1, obs, obs]
      · show Inv (g_u2 τ1 26 2 (iI 0))
        have hSH : SH (g_u2 τ1 26 2 (iI 0) 14) (g_u2 τ1 26 2 (iI 0) 27) 0 := by
          refine SH_move u2 (fun j hj => ?_) (fun j hj => ?_)
          · rw [g_u2_n1 (by decide), d2 14 (by decide), g_u2_n1 (by decide)]; exact c3 j hj
          · rw [g_u2_n1 (by decide), d4 j hj, g_u2_n1 (by decide), c2 27 (by decide)]
        refine ⟨?_, ?_, Or.inr hSH, ⟨?_, ?_⟩, ?_, ?_⟩
        · unfold IvT
          rw [k 1 (by decide) (by decide) (by decide) (by decide), k26 4 (by decide), k 13 (by decide) (by decide) (by decide) (by decide), k 29 (by decide) (by decide) (by decide) (by decide)]; exact hT
        · rw [k26 5 (by decide), k 0 (by decide) (by decide) (by decide) (by decide)]; exact hf
        · rw [k 15 (by decide) (by decide) (by decide) (by decide), k 28 (by decide) (by decide) (by decide) (by decide)]
          rcases hi.1 with i | i
          · exact Or.inl i
          · exact Or.inr ⟨i.1, SH_w i.2 (fun j hj => k27 _ (by omega))⟩
        · rw [k 16 (by decide) (by decide) (by decide) (by decide), k 28 (by decide) (by decide) (by decide) (by decide)]
          rcases hi.2 with i | i
          · exact Or.inl i
          · exact Or.inr ⟨i.1, SH_w i.2 (fun j hj => k27 _ (by omega))⟩
        · obtain ⟨nx, sz, n1, n2, n3, n4, n5, n6⟩ := hh
          refine ⟨nx, 0, n1, by omega, ?_, ?_, ?_, fun i hi => absurd hi (by omega)⟩
          · rw [g_u2_n1 (by decide), d2 4 (by decide), g_u2_n2 (by decide), c2 4 (by decide), n3]
          · rw [g_u2_n1 (by decide), d2 4 (by decide), g_u2_e]; rfl
          · rw [g_u2_e]; rfl
        · unfold IvC
          rw [k 30 (by decide) (by decide) (by decide) (by decide), k 31 (by decide) (by decide) (by decide) (by decide), k26 13 (by decide)]; exact hc
  · obtain ⟨τ, c1, c2, c3⟩ := c_copyFrom (σ := σ) 14 16
    rcases i2 with ⟨u1, u2⟩ | ⟨u1, u2⟩
    · have t0 : f_X6_isTold 16 σ = some (iI 0, σ) := by unfold f_X6_isTold; simp (disch := omega) only [u1, obs, iI_lit, iI_add, iI_sub, iI_mul, iI_neg, iI_lt, iI_le, iI_eq, iI_divp, iI_toInt, iI_clamp, bI_0, bI_1, b_tf, Int.toNat_natCast, Int.reduceToNat, Int.toNat_zero, Int.toNat_one, modf, if_pos, if_neg, reduceIte, reduceCtorEq]
      refine ⟨(-1000002, σ), (-1000002, σ), (gd1 (by rw [J0, J1]; exact within_t (by omega) b)).trans ?_, (gd1 (by rw [L0, L1]; exact in_t (by omega) b)).trans ?_, rfl, h⟩
      · unfold f_X10_imageOf
        rw [if_neg (by decide), obs]
        dsimp only
        rw [if_neg (by decide), if_pos rfl]
        exact gd0 t0
      · dsimp only
        rw [if_pos (by decide)]
        exact if_pos u2
    · obtain ⟨sh, V, R, W⟩ := id u2
      have v6 := V.1
      have t1 : f_X6_isTold 16 σ = some (iI 1, σ) := by
        rw [e_isTold (R 77 (by decide)) (by omega) (by omega), decide_eq_true (by omega)]; rfl
      obtain ⟨τ1, d1, d2, d3, d4⟩ := m_copy (σ := g_u2 τ 4 2 (iI 0)) (a := 158) (b := 0) (by omega) (by omega) (by omega)
      have k : ∀ c, c ≠ 4 → c ≠ 14 → c ≠ 26 → c ≠ 27 → g_u2 τ1 26 2 (iI 0) c = σ c := fun c k1 k2 k3 k4 => by rw [g_u2_n1 k3, d2 c k4, g_u2_n1 k1, c2 c k2]
      have k26 : ∀ j, j ≠ 2 → g_u2 τ1 26 2 (iI 0) 26 j = σ 26 j := fun j hj => by rw [g_u2_n2 hj, d2 26 (by decide), g_u2_n1 (by decide), c2 26 (by decide)]
      have k27 : ∀ j, 79 ≤ j → g_u2 τ1 26 2 (iI 0) 27 j = σ 27 j := fun j hj => by rw [g_u2_n1 (by decide), d3 j (by omega), g_u2_n1 (by decide), c2 27 (by decide)]
      refine ⟨(1, g_u2 τ 4 2 (iI 0)), (1, g_u2 τ1 26 2 (iI 0)), (gd1 (by rw [J0, J1]; exact within_t (by omega) b)).trans ?_, (gd1 (by rw [L0, L1]; exact in_t (by omega) b)).trans ?_, rfl, ?_⟩
      · unfold f_X10_imageOf f_X4_forget
        rw [if_neg (by decide), obs]
        dsimp only
        rw [if_neg (by decide), if_pos rfl]
        refine (gd1 t1).trans ?_
        dsimp only
        rw [if_neg (by decide), obs]
        dsimp only
        rw [if_neg (by decide), if_pos rfl, c1, obs, obs, obs, J0]
      · dsimp only
        rw [if_pos (by decide)]
        have n28 : ¬ g_u2 τ 4 2 (iI 0) 28 1 = 0 := by rw [g_u2_n1 (by decide), c2 28 (by decide), u1]; decide
        refine (if_neg n28).trans ?_
        rw [J0, show (79 : Int32) + 79 * iI 1 = iI ((158 : Nat) : Int) by decide, show f_X11_copy (g_u2 τ 4 2 (iI 0)) (iI ((158 : Nat) : Int)) (iI 0) = some τ1 from d1, obs, obs]
      · show Inv (g_u2 τ1 26 2 (iI 0))
        have hSH : SH (g_u2 τ1 26 2 (iI 0) 14) (g_u2 τ1 26 2 (iI 0) 27) 0 := by
          refine SH_move u2 (fun j hj => ?_) (fun j hj => ?_)
          · rw [g_u2_n1 (by decide), d2 14 (by decide), g_u2_n1 (by decide)]; exact c3 j hj
          · rw [g_u2_n1 (by decide), d4 j hj, g_u2_n1 (by decide), c2 27 (by decide)]
        refine ⟨?_, ?_, Or.inr hSH, ⟨?_, ?_⟩, ?_, ?_⟩
        · unfold IvT
          rw [k 1 (by decide) (by decide) (by decide) (by decide), k26 4 (by decide), k 13 (by decide) (by decide) (by decide) (by decide), k 29 (by decide) (by decide) (by decide) (by decide)]; exact hT
        · rw [k26 5 (by decide), k 0 (by decide) (by decide) (by decide) (by decide)]; exact hf
        · rw [k 15 (by decide) (by decide) (by decide) (by decide), k 28 (by decide) (by decide) (by decide) (by decide)]
          rcases hi.1 with i | i
          · exact Or.inl i
          · exact Or.inr ⟨i.1, SH_w i.2 (fun j hj => k27 _ (by omega))⟩
        · rw [k 16 (by decide) (by decide) (by decide) (by decide), k 28 (by decide) (by decide) (by decide) (by decide)]
          rcases hi.2 with i | i
          · exact Or.inl i
          · exact Or.inr ⟨i.1, SH_w i.2 (fun j hj => k27 _ (by omega))⟩
        · obtain ⟨nx, sz, n1, n2, n3, n4, n5, n6⟩ := hh
          refine ⟨nx, 0, n1, by omega, ?_, ?_, ?_, fun i hi => absurd hi (by omega)⟩
          · rw [g_u2_n1 (by decide), d2 4 (by decide), g_u2_n2 (by decide), c2 4 (by decide), n3]
          · rw [g_u2_n1 (by decide), d2 4 (by decide), g_u2_e]; rfl
          · rw [g_u2_e]; rfl
        · unfold IvC
          rw [k 30 (by decide) (by decide) (by decide) (by decide), k 31 (by decide) (by decide) (by decide) (by decide), k26 13 (by decide)]; exact hc
theorem c_copyFromRow {r : Nat} (hr : r < 20) : ∃ τ, f_X6_copyFromRow 14 σ (iI r) = some τ ∧ (∀ c, c ≠ 14 → τ c = σ c) ∧ (∀ j, j < 78 → τ 14 j = σ 18 (78 * r + j)) := by
  have e : (iI (r : Int) * 78).toInt = (r : Int) * 78 := by rw [show (78 : Int32) = iI 78 by decide, iI_mul, iI_toInt (by omega) (by omega)]
  have e2 : (iI (r : Int) * 78).toNatClampNeg = r * 78 := by rw [show (78 : Int32) = iI 78 by decide, iI_mul, iI_clamp (by omega) (by omega)]; omega
  refine ⟨g_up σ 14 (va_cpy (σ 18) (σ 14) (r * 78) 0 78), ?_, fun c hc => g_up_ne hc, fun j hj => ?_⟩
  · unfold f_X6_copyFromRow
    rw [if_neg (show ¬ iI (r : Int) < 0 by rw [J0, iI_lt (by omega) (by omega) (by omega) (by omega)]; omega), if_neg (show ¬ (1560 / 78 : Int32) ≤ iI r by rw [show (1560 / 78 : Int32) = iI 20 by decide, iI_le (by omega) (by omega) (by omega) (by omega)]; omega)]
    rw [e, e2]
    rw [if_pos (by rw [show (0 : Int32).toInt = 0 by decide, show (78 : Int32).toInt = 78 by decide]; omega), obs]
    rfl
  · rw [g_up_eq]
    unfold va_cpy
    rw [if_pos (by omega), Nat.sub_zero, Nat.mul_comm]
theorem p_undo : P_undo Inv := by
  intro σ h
  obtain ⟨hT, hf, hs, hi, ⟨nx, sz, n1, n2, n3, n4, n5, n6⟩, hc⟩ := id h
  have J1 : (1 : Int32) = iI 1 := by decide
  by_cases e : sz = 0
  · subst e
    refine ⟨(-1000002, σ), (-1000002, σ), ?_, ?_, rfl, h⟩
    · unfold f_X10_undo f_X4_size
      rw [obs, n4]
      rfl
    · exact if_pos (show σ 26 2 = 0 by rw [n5]; decide)
  · obtain ⟨r, hr, hr2⟩ : ∃ r : Nat, r < 20 ∧ r = (nx + 19) % 20 := ⟨(nx + 19) % 20, by omega, rfl⟩
    obtain ⟨τ, c1, c2, c3⟩ := c_copyFromRow (σ := g_u2 (g_u2 σ 4 1 (iI r)) 4 2 (iI ((sz - 1 : Nat) : Int))) hr
    have x26 : τ 26 2 = iI sz := by rw [c2 26 (by decide), g_u2_n1 (by decide), g_u2_n1 (by decide), n5]
    obtain ⟨τ1, d1, d2, d3, d4⟩ := m_copy (σ := g_u2 τ 26 2 (iI ((sz - 1 : Nat) : Int))) (a := 237 + 79 * (sz - 1)) (b := 0) (by omega) (by omega) (by omega)
    have x4 : τ 4 2 = iI ((sz - 1 : Nat) : Int) := by rw [c2 4 (by decide), g_u2_e]
    have k : ∀ c, c ≠ 4 → c ≠ 14 → c ≠ 26 → c ≠ 27 → τ1 c = σ c := fun c k1 k2 k3 k4 => by rw [d2 c k4, g_u2_n1 k3, c2 c k2, g_u2_n1 k1, g_u2_n1 k1]
    have k26 : ∀ j, j ≠ 2 → τ1 26 j = σ 26 j := fun j hj => by rw [d2 26 (by decide), g_u2_n2 hj, c2 26 (by decide), g_u2_n1 (by decide), g_u2_n1 (by decide)]
    have k27 : ∀ j, 79 ≤ j → τ1 27 j = σ 27 j := fun j hj => by rw [d3 j (by omega), g_u2_n1 (by decide), c2 27 (by decide), g_u2_n1 (by decide), g_u2_n1 (by decide)]
    refine ⟨(iI ((sz - 1 : Nat) : Int), τ), (iI ((sz - 1 : Nat) : Int), τ1), ?_, ?_, rfl, ?_⟩
    · unfold f_X10_undo f_X4_size f_X4_takeBack f_X4_takeBack_p26
      rw [obs]
      have z0 : ¬ σ 4 2 = 0 := by rw [n4, J0, iI_eq (by omega) (by omega) (by omega) (by omega)]; omega
      refine (if_neg z0).trans ?_
      dsimp only
      rw [if_neg (show ¬ σ 4 2 ≤ 0 by rw [n4, J0, iI_le (by omega) (by omega) (by omega) (by omega)]; omega)]
      have step : ∀ v : Int32, v = iI r → (Option.bind (Option.bind (some (g_u2 σ 4 1 v)) fun σ9 => Option.bind (some (g_u2 σ9 4 2 (σ9 4 2 - 1))) fun σ11 => Option.bind (f_X6_copyFromRow 14 σ11 (σ11 4 1)) fun q13 => some q13) fun q11 => Option.bind (some (q11 4 2, q11)) fun q13 => some (q13.1, q13.2)) = some (iI ((sz - 1 : Nat) : Int), τ) := by
        intro v hv
        rw [hv, obs, obs, g_u2_n2 (by decide), n4, J1, iI_sub, show (sz : Int) - 1 = ((sz - 1 : Nat) : Int) by omega, g_u2_n2 (by decide), g_u2_e, c1, obs, obs, obs, x4]
      by_cases p : nx = 0
      · rw [if_pos (show σ 4 1 ≤ 0 by rw [n3, p]; decide)]
        exact step 19 (by rw [hr2, p]; decide)
      · rw [if_neg (show ¬ σ 4 1 ≤ 0 by rw [n3, J0, iI_le (by omega) (by omega) (by omega) (by omega)]; omega)]
        exact step _ (by rw [n3, J1, iI_sub, show (nx : Int) - 1 = (r : Int) by omega])
    · show f_X11_undo τ = _
      unfold f_X11_undo
      rw [if_neg (show ¬ τ 26 2 = 0 by rw [x26, J0, iI_eq (by omega) (by omega) (by omega) (by omega)]; omega), x26, J1, iI_sub, show (sz : Int) - 1 = ((sz - 1 : Nat) : Int) by omega, obs, g_u2_e, show (237 : Int32) = iI 237 by decide, show (79 : Int32) = iI 79 by decide, iI_mul, iI_add, show (237 : Int) + 79 * ((sz - 1 : Nat) : Int) = ((237 + 79 * (sz - 1) : Nat) : Int) by omega, show (0 : Int32) = iI ((0 : Nat) : Int) by decide, d1, obs, d2 26 (by decide), g_u2_e]
    · show Inv τ1
      have hSH : SH (τ1 14) (τ1 27) 0 := by
        refine SH_move (n6 (sz - 1) (by omega)) (fun j hj => ?_) (fun j hj => ?_)
        · rw [d2 14 (by decide), g_u2_n1 (by decide), c3 j hj, g_u2_n1 (by decide), g_u2_n1 (by decide), show (nx + 20 - sz + (sz - 1)) % 20 = r by omega]
        · rw [d4 j hj, g_u2_n1 (by decide), c2 27 (by decide), g_u2_n1 (by decide), g_u2_n1 (by decide)]
      refine ⟨?_, ?_, Or.inr hSH, ⟨?_, ?_⟩, ?_, ?_⟩
      · unfold IvT
        rw [k 1 (by decide) (by decide) (by decide) (by decide), k26 4 (by decide), k 13 (by decide) (by decide) (by decide) (by decide), k 29 (by decide) (by decide) (by decide) (by decide)]; exact hT
      · rw [k26 5 (by decide), k 0 (by decide) (by decide) (by decide) (by decide)]; exact hf
      · rw [k 15 (by decide) (by decide) (by decide) (by decide), k 28 (by decide) (by decide) (by decide) (by decide)]
        rcases hi.1 with i | i
        · exact Or.inl i
        · exact Or.inr ⟨i.1, SH_w i.2 (fun j hj => k27 _ (by omega))⟩
      · rw [k 16 (by decide) (by decide) (by decide) (by decide), k 28 (by decide) (by decide) (by decide) (by decide)]
        rcases hi.2 with i | i
        · exact Or.inl i
        · exact Or.inr ⟨i.1, SH_w i.2 (fun j hj => k27 _ (by omega))⟩
      · refine ⟨r, sz - 1, hr, by omega, ?_, ?_, ?_, fun i hi => ?_⟩
        · rw [d2 4 (by decide), g_u2_n1 (by decide), c2 4 (by decide), g_u2_n2 (by decide), g_u2_e]
        · rw [d2 4 (by decide), g_u2_n1 (by decide), x4]
        · rw [d2 26 (by decide), g_u2_e]
        · rw [k 18 (by decide) (by decide) (by decide) (by decide), show (r + 20 - (sz - 1) + i) % 20 = (nx + 20 - sz + i) % 20 by omega]
          exact SH_w (n6 i (by omega)) (fun j hj => k27 _ (by omega))
      · unfold IvC
        rw [k 30 (by decide) (by decide) (by decide) (by decide), k 31 (by decide) (by decide) (by decide) (by decide), k26 13 (by decide)]; exact hc
end RS
