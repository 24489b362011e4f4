section KP
variable {σ τ : St} {sh : Nat → Int}
theorem c_keep {nx sz : Nat} (n1 : nx < 20) (n2 : sz ≤ 20) (n3 : σ 4 1 = iI nx) (n4 : σ 4 2 = iI sz) : ∃ τ, f_X4_keep σ = some τ ∧ (∀ c, c ≠ 4 → c ≠ 18 → τ c = σ c) ∧ τ 4 1 = iI ((nx + 1) % 20 : Nat) ∧ τ 4 2 = iI ((if sz = 20 then 20 else sz + 1 : Nat) : Int) ∧ (∀ j, j < 78 → τ 18 (78 * nx + j) = σ 14 j) ∧ (∀ r j, r ≠ nx → j < 78 → τ 18 (78 * r + j) = σ 18 (78 * r + j)) := by
  have e : (iI (nx : Int) * 78).toInt = (nx : Int) * 78 := by rw [show (78 : Int32) = iI 78 by decide, iI_mul, iI_toInt (by omega) (by omega)]
  have e2 : (iI (nx : Int) * 78).toNatClampNeg = nx * 78 := by rw [show (78 : Int32) = iI 78 by decide, iI_mul, iI_clamp (by omega) (by omega)]; omega
  obtain ⟨T, hT⟩ : ∃ T, T = g_up σ 18 (va_cpy (σ 14) (σ 18) 0 (nx * 78) 78) := ⟨_, rfl⟩
  have row : f_X6_copyToRow 14 σ (iI nx) = some T := by
    unfold f_X6_copyToRow
    rw [if_neg (show ¬ iI (nx : Int) < 0 by rw [J0, iI_lt (by omega) (by omega) (by omega) (by omega)]; omega), if_neg (show ¬ (1560 / 78 : Int32) ≤ iI nx by rw [show (1560 / 78 : Int32) = iI 20 by decide, iI_le (by omega) (by omega) (by omega) (by omega)]; omega), e, e2]
    rw [if_pos (by rw [show (0 : Int32).toInt = 0 by decide, show (78 : Int32).toInt = 78 by decide]; omega), obs, hT]
    rfl
  have T4 : T 4 = σ 4 := by rw [hT]; exact g_up_ne (by decide)
  refine ⟨g_u2 (g_u2 T 4 1 (iI ((nx + 1) % 20 : Nat))) 4 2 (iI ((if sz = 20 then 20 else sz + 1 : Nat) : Int)), ?_, fun c h1 h2 => ?_, ?_, g_u2_e _ _ _ _, fun j hj => ?_, fun r j hr hj => ?_⟩
  · unfold f_X4_keep f_X4_keep_p34
    rw [n3, row, obs]
    have J1 : (1 : Int32) = iI 1 := by decide
    have J20 : (20 : Int32) = iI 20 := by decide
    have step : ∀ v : Int32, v = iI ((nx + 1) % 20 : Nat) → (Option.bind (some (g_u2 T 4 1 v)) fun σ8 => Option.bind (some (g_u2 σ8 4 2 (if 20 < ((σ8 4 2) + 1) then 20 else ((σ8 4 2) + 1)))) fun σ10 => some σ10) = some (g_u2 (g_u2 T 4 1 (iI ((nx + 1) % 20 : Nat))) 4 2 (iI ((if sz = 20 then 20 else sz + 1 : Nat) : Int))) := by
      intro v hv
      rw [hv, obs, obs, g_u2_n2 (by decide), T4, n4, J1, J20, iI_add]
      by_cases p : sz = 20
      · rw [if_pos p, if_pos (show iI 20 < iI ((sz : Int) + 1) by rw [iI_lt (by omega) (by omega) (by omega) (by omega)]; omega)]; rfl
      · rw [if_neg p, if_neg (show ¬ iI 20 < iI ((sz : Int) + 1) by rw [iI_lt (by omega) (by omega) (by omega) (by omega)]; omega)]; rfl
    rw [T4, n3, J1, iI_add]
    by_cases p : nx = 19
    · rw [if_pos (show (20 : Int32) ≤ iI ((nx : Int) + 1) by rw [J20, iI_le (by omega) (by omega) (by omega) (by omega)]; omega)]
      exact step 0 (by rw [p]; decide)
    · rw [if_neg (show ¬ (20 : Int32) ≤ iI ((nx : Int) + 1) by rw [J20, iI_le (by omega) (by omega) (by omega) (by omega)]; omega)]
      exact step _ (by rw [show ((nx : Int) + 1) = (((nx + 1) % 20 : Nat) : Int) by omega])
  · rw [g_u2_n1 h1, g_u2_n1 h1, hT, g_up_ne h2]
  · rw [g_u2_n2 (by decide), g_u2_e]
  · rw [g_u2_n1 (by decide), g_u2_n1 (by decide), hT, g_up_eq]
    unfold va_cpy
    rw [if_pos (by omega), show 0 + (78 * nx + j - nx * 78) = j by omega]
  · rw [g_u2_n1 (by decide), g_u2_n1 (by decide), hT, g_up_eq]
    unfold va_cpy
    rw [if_neg (by omega)]
theorem m_shift : ∀ (d k f : Nat) (τ : St), k + d = 1501 → d < f → (∀ c, c ≠ 27 → τ c = σ c) → (∀ j, j < k → τ 27 (237 + j) = σ 27 (316 + j)) → (∀ j, (j < 237 ∨ 237 + k ≤ j) → τ 27 j = σ 27 j) →
    ∃ τ', fx F_X11_minds_h11 z_X11_minds_h11 f τ (iI k) = f_X11_minds_p54 (g_u2 τ' 26 2 (τ' 26 2 - 1)) ∧ (∀ c, c ≠ 27 → τ' c = σ c) ∧ (∀ j, j < 1501 → τ' 27 (237 + j) = σ 27 (316 + j)) ∧ (∀ j, j < 237 → τ' 27 j = σ 27 j) := by
  intro d
  induction d with
  | zero =>
    intro k f τ h1 h2 f1 f2 f3
    obtain ⟨f, rfl⟩ : ∃ j, f = j + 1 := ⟨f - 1, by omega⟩
    obtain rfl : k = 1501 := by omega
    refine ⟨τ, ?_, f1, f2, fun j hj => f3 j (by omega)⟩
    rw [fx_s]
    generalize fx F_X11_minds_h11 z_X11_minds_h11 f = K
    unfold F_X11_minds_h11
    rw [if_pos (by decide), obs]
  | succ d ih =>
    intro k f τ h1 h2 f1 f2 f3
    obtain ⟨f, rfl⟩ : ∃ j, f = j + 1 := ⟨f - 1, by omega⟩
    obtain ⟨τ', i1, i2⟩ := ih (k + 1) f (g_u2 τ 27 (237 + k) (τ 27 (316 + k))) (by omega) (by omega) (fun c hc => by rw [g_u2_n1 hc]; exact f1 c hc) (fun j hj => by
      by_cases e : j = k
      · rw [e, g_u2_e]; exact f3 _ (by omega)
      · rw [g_u2_n2 (by omega)]; exact f2 j (by omega)) (fun j hj => by rw [g_u2_n2 (by omega)]; exact f3 j (by omega))
    refine ⟨τ', ?_, i2⟩
    rw [fx_s]
    generalize fx F_X11_minds_h11 z_X11_minds_h11 f = K at *
    unfold F_X11_minds_h11
    rw [if_neg (show ¬ (1501 : Int32) ≤ iI (k : Int) by rw [show (1501 : Int32) = iI 1501 by decide, iI_le (by omega) (by omega) (by omega) (by omega)]; omega), show (316 : Int32) = iI 316 by decide, show (237 : Int32) = iI 237 by decide, iI_add, iI_add]
    rw [if_pos (by rw [iI_toInt (by omega) (by omega)]; omega), if_pos (by rw [iI_toInt (by omega) (by omega)]; omega), obs, obs, iI_clamp (by omega) (by omega), iI_clamp (by omega) (by omega), show ((316 : Int) + k).toNat = 316 + k by omega, show ((237 : Int) + k).toNat = 237 + k by omega, show (1 : Int32) = iI 1 by decide, iI_add]
    exact i1
theorem m_p54 {sz : Nat} (n2 : sz < 20) (n5 : σ 26 2 = iI sz) : ∃ τ, f_X11_minds_p54 σ = some τ ∧ (∀ c, c ≠ 26 → c ≠ 27 → τ c = σ c) ∧ (∀ j, j ≠ 2 → τ 26 j = σ 26 j) ∧ τ 26 2 = iI ((sz + 1 : Nat) : Int) ∧ (∀ j, j < 237 + 79 * sz → τ 27 j = σ 27 j) ∧ (∀ j, j < 79 → τ 27 (237 + 79 * sz + j) = σ 27 j) := by
  obtain ⟨τ1, d1, d2, d3, d4⟩ := m_copy (σ := σ) (a := 0) (b := 237 + 79 * sz) (by omega) (by omega) (by omega)
  refine ⟨g_u2 τ1 26 2 (iI ((sz + 1 : Nat) : Int)), ?_, fun c h1 h2 => ?_, fun j hj => ?_, g_u2_e _ _ _ _, fun j hj => ?_, fun j hj => ?_⟩
  · unfold f_X11_minds_p54
    rw [n5, show (237 : Int32) = iI 237 by decide, show (79 : Int32) = iI 79 by decide, iI_mul, iI_add, show (237 : Int) + 79 * (sz : Int) = ((237 + 79 * sz : Nat) : Int) by omega, show (0 : Int32) = iI ((0 : Nat) : Int) by decide, d1, obs, obs, d2 26 (by decide), n5, show (1 : Int32) = iI 1 by decide, iI_add]
    rfl
  · rw [g_u2_n1 h1, d2 c h2]
  · rw [g_u2_n2 hj, d2 26 (by decide)]
  · rw [g_u2_n1 (by decide), d3 j (by omega)]
  · rw [g_u2_n1 (by decide), d4 j hj, Nat.zero_add]
theorem m_minds {sz : Nat} (n2 : sz ≤ 20) (n5 : σ 26 2 = iI sz) : ∃ τ, f_X11_minds σ = some τ ∧ (∀ c, c ≠ 26 → c ≠ 27 → τ c = σ c) ∧ (∀ j, j ≠ 2 → τ 26 j = σ 26 j) ∧ τ 26 2 = iI ((if sz = 20 then 20 else sz + 1 : Nat) : Int) ∧ (∀ j, j < 237 → τ 27 j = σ 27 j) ∧
    (∀ i j, i < (if sz = 20 then 20 else sz + 1) - 1 → j < 79 → τ 27 (237 + 79 * i + j) = σ 27 (237 + 79 * (if sz = 20 then i + 1 else i) + j)) ∧ (∀ j, j < 79 → τ 27 (237 + 79 * ((if sz = 20 then 20 else sz + 1) - 1) + j) = σ 27 j) := by
  by_cases p : sz = 20
  · rw [if_pos p]
    obtain ⟨τ1, s1, s2, s3, s4⟩ := m_shift (σ := σ) 1501 0 FU σ (by omega) (by rw [FU_val]; omega) (fun _ _ => rfl) (fun j hj => absurd hj (by omega)) (fun _ _ => rfl)
    obtain ⟨τ2, d1, d2, d3, d4, d5, d6⟩ := m_p54 (σ := g_u2 τ1 26 2 (iI ((19 : Nat) : Int))) (sz := 19) (by omega) (g_u2_e _ _ _ _)
    refine ⟨τ2, ?_, fun c h1 h2 => ?_, fun j hj => ?_, d4, fun j hj => ?_, fun i j hi hj => ?_, fun j hj => ?_⟩
    · unfold f_X11_minds
      rw [n5, p, if_pos (by decide), show (0 : Int32) = iI ((0 : Nat) : Int) by decide, s1, s2 26 (by decide), n5, p, show iI ((20 : Nat) : Int) - 1 = iI ((19 : Nat) : Int) by decide]
      exact d1
    · rw [d2 c h1 h2, g_u2_n1 h1, s2 c h2]
    · rw [d3 j hj, g_u2_n2 hj, s2 26 (by decide)]
    · rw [d5 j (by omega), g_u2_n1 (by decide), s4 j hj]
    · rw [if_pos p, d5 _ (by omega), g_u2_n1 (by decide), show 237 + 79 * i + j = 237 + (79 * i + j) by omega, s3 _ (by omega), show 316 + (79 * i + j) = 237 + 79 * (i + 1) + j by omega]
    · rw [d6 j hj, g_u2_n1 (by decide), s4 j (by omega)]
  · rw [if_neg p]
    obtain ⟨τ2, d1, d2, d3, d4, d5, d6⟩ := m_p54 (σ := σ) (sz := sz) (by omega) n5
    refine ⟨τ2, ?_, d2, d3, d4, fun j hj => d5 j (by omega), fun i j hi hj => ?_, fun j hj => ?_⟩
    · unfold f_X11_minds
      rw [if_neg (show ¬ σ 26 2 = 20 by rw [n5, show (20 : Int32) = iI 20 by decide, iI_eq (by omega) (by omega) (by omega) (by omega)]; omega)]
      exact d1
    · rw [if_neg p, d5 _ (by omega)]
    · rw [show sz + 1 - 1 = sz by omega]; exact d6 j hj
theorem IvH_push {nx sz : Nat} (n1 : nx < 20) (n2 : sz ≤ 20) (n6 : ∀ i, i < sz → SH (fun j => σ 18 (78 * ((nx + 20 - sz + i) % 20) + j)) (σ 27) (237 + 79 * i)) (hS : SH (σ 14) (σ 27) 0)
    (c1 : τ 4 1 = iI ((nx + 1) % 20 : Nat)) (c2 : τ 4 2 = iI ((if sz = 20 then 20 else sz + 1 : Nat) : Int)) (c3 : ∀ j, j < 78 → τ 18 (78 * nx + j) = σ 14 j) (c4 : ∀ r j, r ≠ nx → j < 78 → τ 18 (78 * r + j) = σ 18 (78 * r + j))
    (d1 : τ 26 2 = iI ((if sz = 20 then 20 else sz + 1 : Nat) : Int)) (d2 : ∀ i j, i < (if sz = 20 then 20 else sz + 1) - 1 → j < 79 → τ 27 (237 + 79 * i + j) = σ 27 (237 + 79 * (if sz = 20 then i + 1 else i) + j)) (d3 : ∀ j, j < 79 → τ 27 (237 + 79 * ((if sz = 20 then 20 else sz + 1) - 1) + j) = σ 27 j) : IvH τ := by
  obtain ⟨s2, hs2⟩ : ∃ s2 : Nat, s2 = if sz = 20 then 20 else sz + 1 := ⟨_, rfl⟩
  rw [← hs2] at c2 d1 d2 d3
  have q2 : (sz = 20 ∧ s2 = 20) ∨ (sz ≠ 20 ∧ s2 = sz + 1) := by
    by_cases p : sz = 20
    · exact Or.inl ⟨p, by rw [hs2, if_pos p]⟩
    · exact Or.inr ⟨p, by rw [hs2, if_neg p]⟩
  clear hs2
  refine ⟨(nx + 1) % 20, s2, by omega, by omega, c1, c2, d1, fun i hi => ?_⟩
  by_cases e : i = s2 - 1
  · refine SH_move hS (fun j hj => ?_) (fun j hj => ?_)
    · rw [show ((nx + 1) % 20 + 20 - s2 + i) % 20 = nx by omega]; exact c3 j hj
    · rw [e, d3 j hj, Nat.zero_add]
  · obtain ⟨i', hi'⟩ : ∃ i' : Nat, i' = if sz = 20 then i + 1 else i := ⟨_, rfl⟩
    have q3 : (sz = 20 ∧ i' = i + 1) ∨ (sz ≠ 20 ∧ i' = i) := by
      by_cases p : sz = 20
      · exact Or.inl ⟨p, by rw [hi', if_pos p]⟩
      · exact Or.inr ⟨p, by rw [hi', if_neg p]⟩
    refine SH_move (n6 i' (by clear hi'; omega)) (fun j hj => ?_) (fun j hj => ?_)
    · clear hi'
      rw [c4 _ _ (by omega) hj, show ((nx + 1) % 20 + 20 - s2 + i) % 20 = (nx + 20 - sz + i') % 20 by omega]
    · rw [d2 i j (by omega) hj, ← hi']
end KP
