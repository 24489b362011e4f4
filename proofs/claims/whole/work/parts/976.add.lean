section AE
variable {σ τ : St} {sh : Nat → Int}
theorem c_add_loop {n g : Nat} (hg : g ≤ n) (hn : n ≤ 5) : ∀ (d p f : Nat) (τ : St), p = 51 + 4 * g + 3 + d → p ≤ 51 + 4 * n + 3 → d < f → (∀ c, c ≠ 14 → τ c = σ c) → (∀ i, p < i → i ≤ 51 + 4 * n + 3 → τ 14 i = σ 14 (i - 4)) → (∀ j, (j ≤ p ∨ 51 + 4 * n + 3 < j) → τ 14 j = σ 14 j) →
    ∃ τ', fx (F_X6_openLeg_h35 14) z_X6_openLeg_h35 f τ (iI g) (iI n) (iI p) = some τ' ∧ (∀ c, c ≠ 14 → τ' c = σ c) ∧ (∀ i, 51 + 4 * g + 3 < i → i ≤ 51 + 4 * n + 3 → τ' 14 i = σ 14 (i - 4)) ∧ (∀ j, j ≠ 77 → (j ≤ 51 + 4 * g + 3 ∨ 51 + 4 * n + 3 < j) → τ' 14 j = σ 14 j) ∧ τ' 14 77 = iI ((n : Int) + 1) := by
  intro d
  induction d with
  | zero =>
    intro p f τ h1 hp h2 f1 f2 f3
    obtain ⟨f, rfl⟩ : ∃ j, f = j + 1 := ⟨f - 1, by omega⟩
    obtain rfl : p = 51 + 4 * g + 3 := by omega
    refine ⟨g_u2 τ 14 77 (iI ((n : Int) + 1)), ?_, fun c hc => by rw [g_u2_n1 hc]; exact f1 c hc, fun i hi hi2 => by rw [g_u2_n2 (by omega)]; exact f2 i hi hi2, fun j h7 hj => by rw [g_u2_n2 h7]; exact f3 j hj, g_u2_e _ _ _ _⟩
    rw [fx_s]
    generalize fx (F_X6_openLeg_h35 14) z_X6_openLeg_h35 f = K
    unfold F_X6_openLeg_h35
    rw [show (1 : Int32) = iI 1 by decide, show (4 : Int32) = iI 4 by decide, show (51 : Int32) = iI 51 by decide, iI_add, iI_mul, iI_add, if_pos (by rw [iI_lt (by omega) (by omega) (by omega) (by omega)]; omega), iI_add, c_countLegs (by omega) (by omega), obs]
  | succ d ih =>
    intro p f τ h1 hp h2 f1 f2 f3
    obtain ⟨f, rfl⟩ : ∃ j, f = j + 1 := ⟨f - 1, by omega⟩
    obtain ⟨τ', i1, i2⟩ := ih (p - 1) f (g_u2 τ 14 p (τ 14 (p - 4))) (by omega) (by omega) (by omega) (fun c hc => by rw [g_u2_n1 hc]; exact f1 c hc) (fun i hi hi2 => by
      by_cases e : i = p
      · rw [e, g_u2_e]; exact f3 _ (by omega)
      · rw [g_u2_n2 e]; exact f2 i (by omega) hi2) (fun j hj => by rw [g_u2_n2 (by omega)]; exact f3 j (by omega))
    refine ⟨τ', ?_, i2⟩
    rw [fx_s]
    generalize fx (F_X6_openLeg_h35 14) z_X6_openLeg_h35 f = K at *
    unfold F_X6_openLeg_h35
    rw [show (-1 : Int32) = iI (-1) by decide, show (1 : Int32) = iI 1 by decide, show (4 : Int32) = iI 4 by decide, show (51 : Int32) = iI 51 by decide, iI_add, iI_mul, iI_add, if_neg (by rw [iI_lt (by omega) (by omega) (by omega) (by omega)]; omega), iI_sub]
    rw [if_pos (by rw [iI_toInt (by omega) (by omega)]; omega), if_pos (by rw [iI_toInt (by omega) (by omega)]; omega), obs, obs, iI_clamp (by omega) (by omega), iI_clamp (by omega) (by omega), Int.toNat_natCast, show ((p : Int) - 4).toNat = p - 4 by omega, iI_add, show (p : Int) + -1 = ((p - 1 : Nat) : Int) by omega]
    exact i1
theorem m_add_loop {n g : Nat} (hg : g ≤ n) (hn : n ≤ 5) {x2 x3 x4 x5 : Int32} : ∀ (d p f : Nat) (τ : St), p = 4 * g + 3 + d → p ≤ 4 * n + 3 → d < f → (∀ c, c ≠ 27 → τ c = σ c) → (∀ i, p < i → i ≤ 4 * n + 3 → τ 27 (55 + i) = σ 27 (55 + i - 4)) → (∀ j, (j ≤ 55 + p ∨ 55 + 4 * n + 3 < j) → τ 27 j = σ 27 j) →
    ∃ τ', fx F_X11_add_h85 z_X11_add_h85 f τ (iI g) x2 x3 x4 x5 (iI p) = (Option.bind (f_X11_lays (g_u2 τ' 27 (55 + 4 * g) x2) (iI g) x3 x4 x5) fun q34 => Option.bind (some (g_u2 q34 27 54 ((q34 27 54) + 1))) fun σ36 => some (σ36 27 54, σ36)) ∧ (∀ c, c ≠ 27 → τ' c = σ c) ∧ (∀ i, 4 * g + 3 < i → i ≤ 4 * n + 3 → τ' 27 (55 + i) = σ 27 (55 + i - 4)) ∧ (∀ j, (j ≤ 55 + 4 * g + 3 ∨ 55 + 4 * n + 3 < j) → τ' 27 j = σ 27 j) := by
  intro d
  induction d with
  | zero =>
    intro p f τ h1 hp h2 f1 f2 f3
    obtain ⟨f, rfl⟩ : ∃ j, f = j + 1 := ⟨f - 1, by omega⟩
    obtain rfl : p = 4 * g + 3 := by omega
    refine ⟨τ, ?_, f1, f2, fun j hj => f3 j (by omega)⟩
    rw [fx_s]
    generalize fx F_X11_add_h85 z_X11_add_h85 f = K
    unfold F_X11_add_h85
    rw [show (4 : Int32) = iI 4 by decide, show (55 : Int32) = iI 55 by decide, iI_mul, iI_add, if_pos (by rw [iI_lt (by omega) (by omega) (by omega) (by omega)]; omega), iI_add, if_pos (by rw [iI_toInt (by omega) (by omega)]; omega), obs, iI_clamp (by omega) (by omega), show ((55 : Int) + 4 * g).toNat = 55 + 4 * g by omega]
  | succ d ih =>
    intro p f τ h1 hp h2 f1 f2 f3
    obtain ⟨f, rfl⟩ : ∃ j, f = j + 1 := ⟨f - 1, by omega⟩
    obtain ⟨τ', i1, i2⟩ := ih (p - 1) f (g_u2 τ 27 (55 + p) (τ 27 (55 + p - 4))) (by omega) (by omega) (by omega) (fun c hc => by rw [g_u2_n1 hc]; exact f1 c hc) (fun i hi hi2 => by
      by_cases e : i = p
      · rw [e, g_u2_e]; exact f3 _ (by omega)
      · rw [g_u2_n2 (by omega)]; exact f2 i (by omega) hi2) (fun j hj => by rw [g_u2_n2 (by omega)]; exact f3 j (by omega))
    refine ⟨τ', ?_, i2⟩
    rw [fx_s]
    generalize fx F_X11_add_h85 z_X11_add_h85 f = K at *
    unfold F_X11_add_h85
    rw [show (-1 : Int32) = iI (-1) by decide, show (4 : Int32) = iI 4 by decide, show (55 : Int32) = iI 55 by decide, iI_mul, iI_add, if_neg (by rw [iI_lt (by omega) (by omega) (by omega) (by omega)]; omega), iI_add, iI_sub]
    rw [if_pos (by rw [iI_toInt (by omega) (by omega)]; omega), if_pos (by rw [iI_toInt (by omega) (by omega)]; omega), obs, obs, iI_clamp (by omega) (by omega), iI_clamp (by omega) (by omega), show ((55 : Int) + p).toNat = 55 + p by omega, show ((55 : Int) + p - 4).toNat = 55 + p - 4 by omega, iI_add, show (p : Int) + -1 = ((p - 1 : Nat) : Int) by omega]
    exact i1
end AE
