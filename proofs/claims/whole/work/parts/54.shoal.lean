section SHO
variable {σ : St} {sh : Nat → Int}
/-- the shoal that counts at a place, of the first n things: the first of the least depth -/
def shoF (sh : Nat → Int) (x y : Int) : Nat → Int
  | 0 => -1000000
  | n + 1 => if lies sh n x y = true ∧ (shoF sh x y n = -1000000 ∨ dOf sh n < dOf sh (shoF sh x y n).toNat) then n else shoF sh x y n
def shoZ (sh : Nat → Int) (x y : Int) : Int := shoF sh x y (sh 76).toNat
theorem shoF_s (x y : Int) (n : Nat) : shoF sh x y (n + 1) = if lies sh n x y = true ∧ (shoF sh x y n = -1000000 ∨ dOf sh n < dOf sh (shoF sh x y n).toNat) then (n : Int) else shoF sh x y n := rfl
theorem shoF_p (V : Val sh) (x y : Int) : ∀ n : Nat, (n : Int) ≤ sh 76 → (shoF sh x y n = -1000000 ∧ depF sh x y n = 40 ∧ ∀ j, j < n → lies sh j x y = false) ∨ (∃ b : Nat, b < n ∧ shoF sh x y n = b ∧ lies sh b x y = true ∧ depF sh x y n = dOf sh b ∧ (∀ j, j < b → lies sh j x y = true → dOf sh b < dOf sh j) ∧ ∀ j, j < n → lies sh j x y = true → dOf sh b ≤ dOf sh j) := by
  intro n
  induction n with
  | zero => intro _; exact Or.inl ⟨rfl, rfl, fun j hj => absurd hj (by omega)⟩
  | succ n ih =>
    intro h
    have hb := dOf_b V (k := n) (by omega)
    rw [shoF_s, depF_s]
    cases hl : lies sh n x y
    · rw [if_neg (fun h => by cases h.1), if_neg (fun h => by cases h.1)]
      rcases ih (by omega) with ⟨a1, a2, a3⟩ | ⟨b, b1, b2, b3, b4, b5, b6⟩
      · refine Or.inl ⟨a1, a2, fun j hj => ?_⟩
        by_cases e : j = n
        · rw [e]; exact hl
        · exact a3 j (by omega)
      · refine Or.inr ⟨b, by omega, b2, b3, b4, b5, fun j hj e => ?_⟩
        by_cases q : j = n
        · rw [q, hl] at e; cases e
        · exact b6 j (by omega) e
    · simp only [true_and]
      rcases ih (by omega) with ⟨a1, a2, a3⟩ | ⟨b, b1, b2, b3, b4, b5, b6⟩
      · rw [if_pos (Or.inl a1), a2, if_pos (by omega)]
        refine Or.inr ⟨n, by omega, rfl, hl, rfl, fun j hj e => (by rw [a3 j hj] at e; cases e), fun j hj e => ?_⟩
        by_cases q : j = n
        · rw [q]; exact Int.le_refl _
        · rw [a3 j (by omega)] at e; cases e
      · rw [b2, b4, Int.toNat_natCast]
        by_cases p : dOf sh n < dOf sh b
        · rw [if_pos (Or.inr p), if_pos p]
          refine Or.inr ⟨n, by omega, rfl, hl, rfl, fun j hj e => ?_, fun j hj e => ?_⟩
          · have := b6 j hj e; omega
          · by_cases q : j = n
            · rw [q]; exact Int.le_refl _
            · have := b6 j (by omega) e; omega
        · rw [if_neg (by omega), if_neg p]
          refine Or.inr ⟨b, by omega, rfl, b3, rfl, b5, fun j hj e => ?_⟩
          by_cases q : j = n
          · rw [q]; omega
          · exact b6 j (by omega) e
theorem e_firstShoal_loop (R : RC (σ 14) sh) (V : Val sh) {x y : Int} (hx : -100 ≤ x ∧ x ≤ 100) (hy : -100 ≤ y ∧ y ≤ 100) : ∀ (d k f : Nat), (k : Int) + d = sh 76 → d < f → (∀ j, j < k → ¬ (lies sh j x y = true ∧ dOf sh j = depZ sh x y)) → fx F_X1_firstShoalAt_h10 z_X1_firstShoalAt_h10 f σ (iI x) (iI y) (iI (depZ sh x y)) (iI k) = some (iI (shoZ sh x y), σ) := by
  have h8 := V.2.2.1
  have hP := shoF_p V x y (sh 76).toNat (by omega)
  have hb := depF_b V (x := x) (y := y) (sh 76).toNat (by omega)
  intro d
  induction d with
  | zero =>
    intro k f hk hf hno
    obtain ⟨f, rfl⟩ : ∃ g, f = g + 1 := ⟨f - 1, by omega⟩
    rw [fx_s]
    unfold F_X1_firstShoalAt_h10 shoZ
    simp (disch := omega) only [e_thingCount R, obs, iI_lit, iI_add, iI_sub, iI_mul, iI_neg, iI_lt, iI_le, iI_eq, iI_divp, iI_toInt, iI_clamp, bI_0, bI_1, b_tf, Int.toNat_natCast, Int.reduceToNat, Int.toNat_zero, Int.toNat_one, modf, if_pos, if_neg, reduceIte, reduceCtorEq]
    rcases hP with ⟨a1, a2, a3⟩ | ⟨b, b1, b2, b3, b4, b5, b6⟩
    · rw [a1]
    · exact absurd ⟨b3, b4.symm⟩ (hno b (by omega))
  | succ d ih =>
    intro k f hk hf hno
    obtain ⟨f, rfl⟩ : ∃ g, f = g + 1 := ⟨f - 1, by omega⟩
    rw [fx_s]
    have b2 := dOf_b V (k := k) (by omega)
    have i1 := ih (k + 1) f (by omega) (by omega)
    rw [Int.natCast_succ] at i1
    generalize fx F_X1_firstShoalAt_h10 z_X1_firstShoalAt_h10 f = K at i1 ⊢
    unfold F_X1_firstShoalAt_h10 f_X1_firstShoalAt_p46
    simp (disch := omega) only [e_thingCount R, e_liesIn R V (k := k) (by omega) hx hy, obs, iI_lit, iI_add, iI_sub, iI_mul, iI_neg, iI_lt, iI_le, iI_eq, iI_divp, iI_toInt, iI_clamp, bI_0, bI_1, b_tf, Int.toNat_natCast, Int.reduceToNat, Int.toNat_zero, Int.toNat_one, modf, if_pos, if_neg, reduceIte, reduceCtorEq]
    cases hl : lies sh k x y
    · simp (disch := omega) only [obs, iI_lit, iI_add, iI_sub, iI_mul, iI_neg, iI_lt, iI_le, iI_eq, iI_divp, iI_toInt, iI_clamp, bI_0, bI_1, b_tf, Int.toNat_natCast, Int.reduceToNat, Int.toNat_zero, Int.toNat_one, modf, if_pos, if_neg, reduceIte, reduceCtorEq]
      refine i1 (fun j hj => ?_)
      by_cases q : j = k
      · rw [q, hl]; intro h; cases h.1
      · exact hno j (by omega)
    · unfold depZ at i1 hno ⊢
      simp (disch := omega) only [e_depthOf R V (k := k) (by omega), obs, iI_lit, iI_add, iI_sub, iI_mul, iI_neg, iI_lt, iI_le, iI_eq, iI_divp, iI_toInt, iI_clamp, bI_0, bI_1, b_tf, Int.toNat_natCast, Int.reduceToNat, Int.toNat_zero, Int.toNat_one, modf, if_pos, if_neg, reduceIte, reduceCtorEq]
      by_cases p : dOf sh k = depF sh x y (sh 76).toNat
      · rw [if_pos p]
        unfold shoZ
        rcases hP with ⟨a1, a2, a3⟩ | ⟨b, b1, c2, b3, b4, b5, b6⟩
        · rw [a3 k (by omega)] at hl; cases hl
        · rw [c2]
          by_cases q : k < b
          · have := b5 k q hl; omega
          · by_cases r : b < k
            · exact absurd ⟨b3, b4.symm⟩ (hno b r)
            · rw [show k = b by omega]
      · rw [if_neg p]
        refine i1 (fun j hj => ?_)
        by_cases q : j = k
        · rw [q]; intro h; exact p h.2
        · exact hno j (by omega)
theorem e_firstShoalAt (R : RC (σ 14) sh) (V : Val sh) {x y : Int} (hx : -100 ≤ x ∧ x ≤ 100) (hy : -100 ≤ y ∧ y ≤ 100) : f_X1_firstShoalAt σ (iI x) (iI y) = some (iI (shoZ sh x y), σ) := by
  have h8 := V.2.2.1
  have h := e_firstShoal_loop R V hx hy (sh 76).toNat 0 FU (by omega) (by rw [FU_val]; omega) (fun j hj => absurd hj (by omega))
  rw [z0] at h
  unfold f_X1_firstShoalAt
  rw [e_depthAt R V hx hy, obs]
  exact h
end SHO
