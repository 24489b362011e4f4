section CV2
variable {σ τ : St} {sh : Nat → Int}
theorem c_countLegs {m : Int} (h1 : 1 ≤ m) (h2 : m ≤ 6) : f_X6_countLegs 14 τ (iI m) = some (g_u2 τ 14 77 (iI m)) := by
  unfold f_X6_countLegs
  have a : ¬ (6 : Int32) < iI m := by rw [show (6 : Int32) = iI 6 by decide, iI_lt (by omega) (by omega) (by omega) (by omega)]; omega
  have b : (0 : Int32) < iI m := by rw [J0, iI_lt (by omega) (by omega) (by omega) (by omega)]; omega
  rw [if_neg a, if_pos b, obs]
theorem c_cut_loop {n : Nat} (hn : 2 ≤ n ∧ n ≤ 6) {p0 : Nat} (hp0 : 51 ≤ p0) : ∀ (d p f : Nat) (τ : St), p + d = 51 + 4 * (n - 1) → d < f → p0 ≤ p → (∀ c, c ≠ 14 → τ c = σ c) → (∀ i, p0 ≤ i → i < p → τ 14 i = σ 14 (i + 4)) → (∀ j, (j < p0 ∨ p ≤ j) → τ 14 j = σ 14 j) →
    ∃ τ', fx (F_X6_closeLeg_h31 14) z_X6_closeLeg_h31 f τ (iI n) (iI p) = some τ' ∧ (∀ c, c ≠ 14 → τ' c = σ c) ∧ (∀ i, p0 ≤ i → i < 51 + 4 * (n - 1) → τ' 14 i = σ 14 (i + 4)) ∧ (∀ j, j ≠ 77 → (j < p0 ∨ 51 + 4 * (n - 1) ≤ j) → τ' 14 j = σ 14 j) ∧ τ' 14 77 = iI ((n : Int) - 1) := by
  intro d
  induction d with
  | zero =>
    intro p f τ h1 h2 hp f1 f2 f3
    obtain ⟨f, rfl⟩ : ∃ j, f = j + 1 := ⟨f - 1, by omega⟩
    obtain rfl : p = 51 + 4 * (n - 1) := by omega
    refine ⟨g_u2 τ 14 77 (iI ((n : Int) - 1)), ?_, fun c hc => by rw [g_u2_n1 hc]; exact f1 c hc, fun i hi hi2 => by rw [g_u2_n2 (by omega)]; exact f2 i hi hi2, fun j h7 hj => by rw [g_u2_n2 h7]; exact f3 j hj, g_u2_e _ _ _ _⟩
    rw [fx_s]
    generalize fx (F_X6_closeLeg_h31 14) z_X6_closeLeg_h31 f = K
    unfold F_X6_closeLeg_h31
    rw [show (1 : Int32) = iI 1 by decide, show (4 : Int32) = iI 4 by decide, show (51 : Int32) = iI 51 by decide, iI_sub, iI_mul, iI_add, if_pos (by rw [iI_le (by omega) (by omega) (by omega) (by omega)]; omega), c_countLegs (by omega) (by omega), obs]
  | succ d ih =>
    intro p f τ h1 h2 hp f1 f2 f3
    obtain ⟨f, rfl⟩ : ∃ j, f = j + 1 := ⟨f - 1, by omega⟩
    obtain ⟨τ', i1, i2⟩ := ih (p + 1) f (g_u2 τ 14 p (τ 14 (p + 4))) (by omega) (by omega) (by omega) (fun c hc => by rw [g_u2_n1 hc]; exact f1 c hc) (fun i hi hi2 => by
      by_cases e : i = p
      · rw [e, g_u2_e]; exact f3 _ (by omega)
      · rw [g_u2_n2 e]; exact f2 i hi (by omega)) (fun j hj => by rw [g_u2_n2 (by omega)]; exact f3 j (by omega))
    refine ⟨τ', ?_, i2⟩
    rw [fx_s]
    generalize fx (F_X6_closeLeg_h31 14) z_X6_closeLeg_h31 f = K at *
    unfold F_X6_closeLeg_h31
    rw [show (1 : Int32) = iI 1 by decide, show (4 : Int32) = iI 4 by decide, show (51 : Int32) = iI 51 by decide, iI_sub, iI_mul, iI_add, if_neg (by rw [iI_le (by omega) (by omega) (by omega) (by omega)]; omega), iI_add]
    rw [if_pos (by rw [iI_toInt (by omega) (by omega)]; omega), if_pos (by rw [iI_toInt (by omega) (by omega)]; omega), obs, obs, iI_clamp (by omega) (by omega), iI_clamp (by omega) (by omega), Int.toNat_natCast, show ((p : Int) + 4).toNat = p + 4 by omega, iI_add]
    exact i1
theorem p_cut : P_cut Inv := by
  intro σ a1 h
  obtain ⟨x, rfl, x1, x2⟩ := iI_ex a1
  rcases iv_sheet h with u | ⟨sh, V, R, M⟩
  · exact ⟨(-1000001, σ), (-1000001, σ), gd0 (hasLeg_u u _), gd0 (isLeg_u u _), rfl, h⟩
  have h6 := V.1
  have J1 : (1 : Int32) = iI 1 := by decide
  by_cases c : 0 ≤ x ∧ x < sh 77
  case neg => exact ⟨(-1000001, σ), (-1000001, σ), gd0 (hasLeg_f R V x1 x2 c), gd0 (isLeg_f M V x1 x2 c), rfl, h⟩
  by_cases e : sh 77 = 1
  · refine ⟨(-1000002, σ), (-1000002, σ), (gd1 (hasLeg_t R V c)).trans ?_, (gd1 (isLeg_t M V c)).trans (if_pos (show σ 27 54 = 1 by rw [M.c77, e]; decide)), rfl, h⟩
    dsimp only
    rw [q_legCount R rfl, obs]
    exact if_pos (show iI (sh 77) = 1 by rw [e]; decide)
  obtain ⟨g, rfl⟩ : ∃ g : Nat, x = g := ⟨x.toNat, by omega⟩
  obtain ⟨n, hn⟩ : ∃ n : Nat, (n : Int) = sh 77 := ⟨(sh 77).toNat, by omega⟩
  have ne : ¬ iI (sh 77) = 1 := by rw [J1, iI_eq (by omega) (by omega) (by omega) (by omega)]; exact e
  obtain ⟨τ, k1, k2, k3⟩ := push h V R M
  obtain ⟨X, r1, r2, r3, r4, r5⟩ := c_cut_loop (σ := τ) (n := n) (by omega) (p0 := 51 + 4 * g) (by omega) (4 * (n - 1) - 4 * g) (51 + 4 * g) FU τ (by omega) (by rw [FU_val]; omega) (by omega) (fun _ _ => rfl) (fun i hi hi2 => absurd hi2 (by omega)) (fun _ _ => rfl)
  obtain ⟨M1, τ1, d1, M2, d3, d4⟩ := k3 X r2
  have w54 : τ1 27 54 = iI (sh 77) := M2.c77
  obtain ⟨Y, y1, y2, y3, y4⟩ := m_cut_loop (σ := g_u2 τ1 27 54 (iI ((n : Int) - 1))) (n := n) (by omega) (p0 := 4 * g) (4 * (n - 1) - 4 * g) (4 * g) FU (g_u2 τ1 27 54 (iI ((n : Int) - 1))) (by omega) (by rw [FU_val]; omega) (by omega) (g_u2_e _ _ _ _) (fun _ _ => rfl) (fun i hi hi2 => absurd hi2 (by omega)) (fun _ _ => rfl)
  have yr : ∀ c, c ≠ 27 → Y c = τ1 c := fun c hc => by rw [y2 c hc, g_u2_n1 hc]
  have hSH : SH (Y 14) (Y 27) 0 := by
    refine ⟨cuS sh g n, Val_cut V hn (by omega) (by omega), fun j hj => ?_, RM_cut V M2.1 hn (by omega) (by omega) ?_ (fun i hi hi2 => ?_) (fun i hi hi2 => ?_)⟩
    · rw [yr 14 (by decide), d3]
      by_cases z : j = 77
      · rw [z, r5, cuS_c]
      · by_cases q : 51 + 4 * g ≤ j ∧ j < 51 + 4 * (n - 1)
        · rw [r3 j q.1 q.2, cuS_b (by omega) q.1 q.2, k2]; exact R _ (by omega)
        · rw [r4 j z (by omega), cuS_a z (by omega), k2]; exact R j hj
    · rw [y4 54 (by omega), g_u2_e]
    · rw [y4 i (by omega), g_u2_n2 hi]
    · have := y3 (i - 55) (by omega) (by omega)
      rw [show 55 + (i - 55) = i by omega, g_u2_n2 (by omega)] at this
      exact this
  refine ⟨(iI ((n : Int) - 1), X), (iI ((n : Int) - 1), Y), (gd1 (hasLeg_t R V c)).trans ?_, (gd1 (isLeg_t M1 V c)).trans ?_, rfl, d4 Y yr (fun j hj => by rw [y4 j (by omega), g_u2_n2 (by omega)]) hSH⟩
  · dsimp only
    rw [q_legCount R rfl, obs]
    refine (if_neg ne).trans ?_
    dsimp only
    have cl : f_X6_closeLeg 14 τ (iI g) = some X := by
      unfold f_X6_closeLeg
      generalize fx (F_X6_closeLeg_h31 14) z_X6_closeLeg_h31 FU = K at *
      rw [obs, k2, R 77 (by decide), ← hn, if_neg (show ¬ iI (g : Int) < 0 by rw [J0, iI_lt (by omega) (by omega) (by omega) (by omega)]; omega), if_neg (show ¬ iI (n : Int) ≤ iI (g : Int) by rw [iI_le (by omega) (by omega) (by omega) (by omega)]; omega), if_pos (show iI (n : Int) ≤ 6 by rw [show (6 : Int32) = iI 6 by decide, iI_le (by omega) (by omega) (by omega) (by omega)]; omega), obs, show (51 : Int32) = iI 51 by decide, show (4 : Int32) = iI 4 by decide, iI_mul, iI_add, show (51 : Int) + (g : Int) * 4 = ((51 + 4 * g : Nat) : Int) by omega]
      exact r1
    rw [k1, obs, cl, obs]
    unfold f_X6_legCount
    rw [obs, r5]
  · have ne2 : ¬ X 27 54 = 1 := by rw [M1.c77]; exact ne
    refine (if_neg ne2).trans ?_
    dsimp only
    generalize fx F_X11_cut_h44 z_X11_cut_h44 FU = K at *
    rw [d1, obs, obs, w54, ← hn, J1, iI_sub, obs, show (4 : Int32) = iI 4 by decide, iI_mul, show (4 : Int) * (g : Int) = ((4 * g : Nat) : Int) by omega]
    exact y1
end CV2
