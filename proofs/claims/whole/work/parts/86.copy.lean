section CP
variable {σ τ : St} {sh : Nat → Int}
theorem SH_move {r w r' w' : Nat → Int32} {o o' : Nat} (h : SH r w o) (hr : ∀ j, j < 78 → r' j = r j) (hw : ∀ i, i < 79 → w' (o' + i) = w (o + i)) : SH r' w' o' := by
  obtain ⟨sh, V, R, ⟨W1, W2, W3, W4, W5, W6, W7, W8⟩⟩ := h
  have h6 := V.1
  have h5 := V.2.1
  have h8 := V.2.2.1
  refine ⟨sh, V, fun j hj => by rw [hr j hj]; exact R j hj, ⟨fun j hj => ?_, ?_, ?_, ?_, ?_, fun k hk => ?_, fun k hk j hj => ?_, fun g hg j hj => ?_⟩⟩
  · rw [Nat.add_assoc, hw _ (by omega), ← Nat.add_assoc]; exact W1 j hj
  · rw [hw _ (by omega)]; exact W2
  · rw [hw _ (by omega)]; exact W3
  · rw [hw _ (by omega)]; exact W4
  · rw [hw _ (by omega)]; exact W5
  · rw [Nat.add_assoc, hw _ (by omega), ← Nat.add_assoc]; exact W6 k hk
  · rw [Nat.add_assoc, Nat.add_assoc, hw _ (by omega), ← Nat.add_assoc, ← Nat.add_assoc]; exact W7 k hk j hj
  · rw [Nat.add_assoc, Nat.add_assoc, hw _ (by omega), ← Nat.add_assoc, ← Nat.add_assoc]; exact W8 g hg j hj
theorem SH_w {r w w' : Nat → Int32} {o : Nat} (h : SH r w o) (hw : ∀ i, i < 79 → w' (o + i) = w (o + i)) : SH r w' o := SH_move h (fun _ _ => rfl) hw
theorem m_copy_loop {a b : Nat} (ha : a + 79 ≤ 1817) (hb : b + 79 ≤ 1817) (hd : a + 79 ≤ b ∨ b + 79 ≤ a) : ∀ (d k f : Nat) (τ : St), k + d = 79 → d < f → (∀ c, c ≠ 27 → τ c = σ c) → (∀ j, (j < b ∨ b + k ≤ j) → τ 27 j = σ 27 j) → (∀ j, j < k → τ 27 (b + j) = σ 27 (a + j)) →
    ∃ τ', fx F_X11_copy_h2 z_X11_copy_h2 f τ (iI a) (iI b) (iI k) = some τ' ∧ (∀ c, c ≠ 27 → τ' c = σ c) ∧ (∀ j, (j < b ∨ b + 79 ≤ j) → τ' 27 j = σ 27 j) ∧ (∀ j, j < 79 → τ' 27 (b + j) = σ 27 (a + j)) := by
  intro d
  induction d with
  | zero =>
    intro k f τ h1 h2 f1 f2 f3
    obtain ⟨f, rfl⟩ : ∃ j, f = j + 1 := ⟨f - 1, by omega⟩
    obtain rfl : k = 79 := by omega
    refine ⟨τ, ?_, f1, f2, f3⟩
    rw [fx_s]
    generalize fx F_X11_copy_h2 z_X11_copy_h2 f = K
    unfold F_X11_copy_h2
    exact if_pos (by decide)
  | succ d ih =>
    intro k f τ h1 h2 f1 f2 f3
    obtain ⟨f, rfl⟩ : ∃ j, f = j + 1 := ⟨f - 1, by omega⟩
    obtain ⟨τ', i1, i2⟩ := ih (k + 1) f (g_u2 τ 27 (b + k) (τ 27 (a + k))) (by omega) (by omega) (fun c hc => by rw [g_u2_n1 hc]; exact f1 c hc) (fun j hj => by rw [g_u2_n2 (by omega)]; exact f2 j (by omega)) (fun j hj => by
      by_cases e : j = k
      · rw [e, g_u2_e]; exact f2 _ (by omega)
      · rw [g_u2_n2 (by omega)]; exact f3 j (by omega))
    refine ⟨τ', ?_, i2⟩
    rw [fx_s]
    generalize fx F_X11_copy_h2 z_X11_copy_h2 f = K at *
    unfold F_X11_copy_h2
    rw [if_neg (show ¬ (79 : Int32) ≤ iI (k : Int) by rw [show (79 : Int32) = iI 79 by decide, iI_le (by omega) (by omega) (by omega) (by omega)]; omega), iI_add, iI_add]
    rw [if_pos (by rw [iI_toInt (by omega) (by omega)]; omega), if_pos (by rw [iI_toInt (by omega) (by omega)]; omega), obs, obs, iI_clamp (by omega) (by omega), iI_clamp (by omega) (by omega), show ((a : Int) + k).toNat = a + k by omega, show ((b : Int) + k).toNat = b + k by omega, show (1 : Int32) = iI 1 by decide, iI_add]
    exact i1
theorem m_copy {a b : Nat} (ha : a + 79 ≤ 1817) (hb : b + 79 ≤ 1817) (hd : a + 79 ≤ b ∨ b + 79 ≤ a) : ∃ τ, f_X11_copy σ (iI a) (iI b) = some τ ∧ (∀ c, c ≠ 27 → τ c = σ c) ∧ (∀ j, (j < b ∨ b + 79 ≤ j) → τ 27 j = σ 27 j) ∧ (∀ j, j < 79 → τ 27 (b + j) = σ 27 (a + j)) :=
  m_copy_loop ha hb hd 79 0 FU σ (by omega) (by rw [FU_val]; omega) (fun _ _ => rfl) (fun _ _ => rfl) (fun j hj => absurd hj (by omega))
theorem c_copyFrom (ka kb : Nat) : ∃ τ, f_X6_copyFrom ka kb σ = some τ ∧ (∀ c, c ≠ ka → τ c = σ c) ∧ (∀ j, j < 78 → τ ka j = σ kb j) := by
  refine ⟨g_up σ ka (va_cpy (σ kb) (σ ka) 0 0 78), ?_, fun c hc => g_up_ne hc, fun j hj => ?_⟩
  · unfold f_X6_copyFrom
    rw [if_pos (by decide), obs]
    rfl
  · rw [g_up_eq]
    unfold va_cpy
    rw [if_pos (by omega), Nat.zero_add, Nat.sub_zero]
theorem un_cells (σ τ : St) (h14 : τ 14 = σ 14) (h27 : ∀ j, j < 79 → τ 27 j = σ 27 j) (h : IvS σ) : IvS τ := by
  rcases h with h | h
  · refine Or.inl ?_
    unfold Un
    rw [h14, h27 0 (by omega), h27 6 (by omega), h27 13 (by omega), h27 54 (by omega)]
    exact h
  · refine Or.inr ?_
    rw [h14]
    exact SH_w h (fun i hi => by rw [Nat.zero_add]; exact h27 i hi)
theorem p_image : P_image Inv := by
  intro σ a1 h
  obtain ⟨z, rfl, z1, z2⟩ := iI_ex a1
  have J1 : (1 : Int32) = iI 1 := by decide
  by_cases b : 0 ≤ z ∧ z ≤ 1
  case neg => exact ⟨(-1000001, σ), (-1000001, σ), gd0 (by rw [J0, J1]; exact within_f (by omega) z1 z2 b), gd0 (by rw [L0, L1]; exact in_f (by omega) z1 z2 b), rfl, h⟩
  rcases iv_sheet h with u | ⟨sh, V, R, M⟩
  · exact ⟨(-1000002, σ), (-1000002, σ), (gd1 (by rw [J0, J1]; exact within_t (by omega) b)).trans (gd0 (told_u u)), (gd1 (by rw [L0, L1]; exact in_t (by omega) b)).trans (gd0 (sheet_u u)), rfl, h⟩
  obtain ⟨hT, hf, hs, hi, hh, hc⟩ := id h
  obtain ⟨i1, i2⟩ := hi
  have hSH : SH (σ 14) (σ 27) 0 := ⟨sh, V, R, M.1⟩
  rcases (show z = 0 ∨ z = 1 by omega) with e | e <;> subst e
  · obtain ⟨τ, c1, c2, c3⟩ := c_copyFrom (σ := σ) 15 14
    have M1 : MR τ sh := by unfold MR; rw [c2 27 (by decide), c2 30 (by decide), c2 31 (by decide)]; exact M
    obtain ⟨τ1, d1, d2, d3, d4⟩ := m_copy (σ := τ) (a := 0) (b := 79) (by omega) (by omega) (by omega)
    have k : ∀ c, c ≠ 15 → c ≠ 27 → c ≠ 28 → g_u2 τ1 28 0 (iI 1) c = σ c := fun c k1 k2 k3 => by rw [g_u2_n1 k3, d2 c k2, c2 c k1]
    have k27 : ∀ j, (j < 79 ∨ 158 ≤ j) → g_u2 τ1 28 0 (iI 1) 27 j = σ 27 j := fun j hj => by rw [g_u2_n1 (by decide), d3 j (by omega), c2 27 (by decide)]
    refine ⟨(1, τ), (1, g_u2 τ1 28 0 (iI 1)), (gd1 (by rw [J0, J1]; exact within_t (by omega) b)).trans ((gd1 (told_t V R)).trans ?_), (gd1 (by rw [L0, L1]; exact in_t (by omega) b)).trans ((gd1 (sheet_t M1)).trans ?_), rfl, ?_⟩
    · unfold f_X10_imageOf
      rw [if_pos (by decide), obs]
      dsimp only
      rw [if_pos rfl, c1, obs]
    · dsimp only
      rw [J0, show (79 : Int32) + 79 * iI 0 = iI ((79 : Nat) : Int) by decide, show iI (0 : Int) = iI ((0 : Nat) : Int) from rfl, d1, obs, if_pos (by decide), obs, J1]
      rfl
    · show Inv (g_u2 τ1 28 0 (iI 1))
      refine ⟨?_, ?_, un_cells σ _ (k 14 (by decide) (by decide) (by decide)) (fun j hj => k27 j (Or.inl hj)) hs, ⟨Or.inr ⟨g_u2_e _ _ _ _, ?_⟩, ?_⟩, ?_, ?_⟩
      · unfold IvT
        rw [k 1 (by decide) (by decide) (by decide), k 26 (by decide) (by decide) (by decide), k 13 (by decide) (by decide) (by decide), k 29 (by decide) (by decide) (by decide)]; exact hT
      · rw [k 26 (by decide) (by decide) (by decide), k 0 (by decide) (by decide) (by decide)]; exact hf
      · refine SH_move hSH (fun j hj => ?_) (fun j hj => ?_)
        · rw [g_u2_n1 (by decide), d2 15 (by decide)]; exact c3 j hj
        · rw [g_u2_n1 (by decide), d4 j hj, c2 27 (by decide)]
      · rw [k 16 (by decide) (by decide) (by decide), g_u2_n2 (by decide), d2 28 (by decide), c2 28 (by decide)]
        rcases i2 with i | i
        · exact Or.inl i
        · exact Or.inr ⟨i.1, SH_w i.2 (fun j hj => k27 _ (by omega))⟩
      · unfold IvH
        rw [k 4 (by decide) (by decide) (by decide), k 18 (by decide) (by decide) (by decide), k 26 (by decide) (by decide) (by decide)]
        obtain ⟨nx, sz, n1, n2, n3, n4, n5, n6⟩ := hh
        exact ⟨nx, sz, n1, n2, n3, n4, n5, fun i hi => SH_w (n6 i hi) (fun j hj => k27 _ (by omega))⟩
      · unfold IvC
        rw [k 30 (by decide) (by decide) (by decide), k 31 (by decide) (by decide) (by decide), k 26 (by decide) (by decide) (by decide)]; exact hc
  · obtain ⟨τ, c1, c2, c3⟩ := c_copyFrom (σ := σ) 16 14
    have M1 : MR τ sh := by unfold MR; rw [c2 27 (by decide), c2 30 (by decide), c2 31 (by decide)]; exact M
    obtain ⟨τ1, d1, d2, d3, d4⟩ := m_copy (σ := τ) (a := 0) (b := 158) (by omega) (by omega) (by omega)
    have k : ∀ c, c ≠ 16 → c ≠ 27 → c ≠ 28 → g_u2 τ1 28 1 (iI 1) c = σ c := fun c k1 k2 k3 => by rw [g_u2_n1 k3, d2 c k2, c2 c k1]
    have k27 : ∀ j, (j < 158 ∨ 237 ≤ j) → g_u2 τ1 28 1 (iI 1) 27 j = σ 27 j := fun j hj => by rw [g_u2_n1 (by decide), d3 j (by omega), c2 27 (by decide)]
    refine ⟨(1, τ), (1, g_u2 τ1 28 1 (iI 1)), (gd1 (by rw [J0, J1]; exact within_t (by omega) b)).trans ((gd1 (told_t V R)).trans ?_), (gd1 (by rw [L0, L1]; exact in_t (by omega) b)).trans ((gd1 (sheet_t M1)).trans ?_), rfl, ?_⟩
    · unfold f_X10_imageOf
      rw [if_neg (by decide), obs]
      dsimp only
      rw [if_neg (by decide), if_pos rfl, c1, obs]
    · dsimp only
      rw [J0, show (79 : Int32) + 79 * iI 1 = iI ((158 : Nat) : Int) by decide, show iI (0 : Int) = iI ((0 : Nat) : Int) from rfl, d1, obs, if_pos (by decide), obs, J1]
      rfl
    · show Inv (g_u2 τ1 28 1 (iI 1))
      refine ⟨?_, ?_, un_cells σ _ (k 14 (by decide) (by decide) (by decide)) (fun j hj => k27 j (by omega)) hs, ⟨?_, Or.inr ⟨g_u2_e _ _ _ _, ?_⟩⟩, ?_, ?_⟩
      · unfold IvT
        rw [k 1 (by decide) (by decide) (by decide), k 26 (by decide) (by decide) (by decide), k 13 (by decide) (by decide) (by decide), k 29 (by decide) (by decide) (by decide)]; exact hT
      · rw [k 26 (by decide) (by decide) (by decide), k 0 (by decide) (by decide) (by decide)]; exact hf
      · rw [k 15 (by decide) (by decide) (by decide), g_u2_n2 (by decide), d2 28 (by decide), c2 28 (by decide)]
        rcases i1 with i | i
        · exact Or.inl i
        · exact Or.inr ⟨i.1, SH_w i.2 (fun j hj => k27 _ (by omega))⟩
      · refine SH_move hSH (fun j hj => ?_) (fun j hj => ?_)
        · rw [g_u2_n1 (by decide), d2 16 (by decide)]; exact c3 j hj
        · rw [g_u2_n1 (by decide), d4 j hj, c2 27 (by decide)]
      · unfold IvH
        rw [k 4 (by decide) (by decide) (by decide), k 18 (by decide) (by decide) (by decide), k 26 (by decide) (by decide) (by decide)]
        obtain ⟨nx, sz, n1, n2, n3, n4, n5, n6⟩ := hh
        exact ⟨nx, sz, n1, n2, n3, n4, n5, fun i hi => SH_w (n6 i hi) (fun j hj => k27 _ (by omega))⟩
      · unfold IvC
        rw [k 30 (by decide) (by decide) (by decide), k 31 (by decide) (by decide) (by decide), k 26 (by decide) (by decide) (by decide)]; exact hc
end CP
