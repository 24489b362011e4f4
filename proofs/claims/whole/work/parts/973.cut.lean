section CU
variable {σ τ : St} {sh : Nat → Int}
/-- leg g is cut out of n -/
def cuS (sh : Nat → Int) (g n : Nat) : Nat → Int := fun j => if j = 77 then (n : Int) - 1 else if 51 + 4 * g ≤ j ∧ j < 51 + 4 * (n - 1) then sh (j + 4) else sh j
theorem cuS_a {g n j : Nat} (h : j ≠ 77) (h2 : j < 51 + 4 * g ∨ 51 + 4 * (n - 1) ≤ j) : cuS sh g n j = sh j := by
  unfold cuS
  rw [if_neg h, if_neg (by omega)]
theorem cuS_b {g n j : Nat} (hn : n ≤ 6) (h : 51 + 4 * g ≤ j) (h2 : j < 51 + 4 * (n - 1)) : cuS sh g n j = sh (j + 4) := by
  unfold cuS
  rw [if_neg (by omega), if_pos ⟨h, h2⟩]
theorem cuS_c {g n : Nat} : cuS sh g n 77 = (n : Int) - 1 := if_pos rfl
theorem Val_cut (V : Val sh) {g n : Nat} (hn : (n : Int) = sh 77) (hg : g < n) (h2 : 2 ≤ n) : Val (cuS sh g n) := by
  obtain ⟨v77, v75, v76, v0, ⟨a1, a2, a3, a4⟩, vh, vt, vl⟩ := V
  unfold Val
  rw [cuS_c, cuS_a (j := 75) (by omega) (by omega), cuS_a (j := 76) (by omega) (by omega), cuS_a (j := 0) (by omega) (by omega), cuS_a (j := 1) (by omega) (by omega), cuS_a (j := 2) (by omega) (by omega), cuS_a (j := 3) (by omega) (by omega), cuS_a (j := 4) (by omega) (by omega)]
  refine ⟨by omega, v75, v76, v0, ⟨a1, a2, a3, a4⟩, fun k hk => ?_, fun k hk => ?_, fun k hk => ?_⟩
  · rw [cuS_a (by omega) (by omega)]; exact vh k hk
  · have := vt k hk
    unfold ValT tT at *
    rw [cuS_a (by omega) (by omega), cuS_a (by omega) (by omega), cuS_a (by omega) (by omega), cuS_a (by omega) (by omega), cuS_a (by omega) (by omega)]
    exact this
  · by_cases e : k < g
    · have := vl k (by omega)
      unfold ValL tL at *
      rw [cuS_a (by omega) (by omega), cuS_a (by omega) (by omega), cuS_a (by omega) (by omega), cuS_a (by omega) (by omega)]
      exact this
    · have := vl (k + 1) (by omega)
      unfold ValL tL at *
      rw [cuS_b (by omega) (by omega) (by omega), cuS_b (by omega) (by omega) (by omega), cuS_b (by omega) (by omega) (by omega), cuS_b (by omega) (by omega) (by omega)]
      rw [show 51 + 4 * k + 0 + 4 = 51 + 4 * (k + 1) + 0 by omega, show 51 + 4 * k + 1 + 4 = 51 + 4 * (k + 1) + 1 by omega, show 51 + 4 * k + 2 + 4 = 51 + 4 * (k + 1) + 2 by omega, show 51 + 4 * k + 3 + 4 = 51 + 4 * (k + 1) + 3 by omega]
      exact this
theorem RM_cut {w w' : Nat → Int32} (V : Val sh) (W : RM w 0 sh) {g n : Nat} (hn : (n : Int) = sh 77) (hg : g < n) (h2 : 2 ≤ n) (h54 : w' 54 = iI ((n : Int) - 1)) (ha : ∀ i, i ≠ 54 → i < 55 + 4 * g → w' i = w i) (hb : ∀ i, 55 + 4 * g ≤ i → i < 55 + 4 * (n - 1) → w' i = w (i + 4)) : RM w' 0 (cuS sh g n) := by
  obtain ⟨W1, W2, W3, W4, W5, W6, W7, W8⟩ := W
  have h6 := V.1
  have h5 := V.2.1
  have h8 := V.2.2.1
  unfold RM
  rw [cuS_c, cuS_a (j := 75) (by omega) (by omega), cuS_a (j := 76) (by omega) (by omega)]
  refine ⟨fun j hj => ?_, ?_, ?_, ?_, ?_, fun k hk => ?_, fun k hk j hj => ?_, fun k hk j hj => ?_⟩
  · rw [ha _ (by omega) (by omega), cuS_a (by omega) (by omega)]; exact W1 j hj
  · rw [ha _ (by omega) (by omega)]; exact W2
  · rw [ha _ (by omega) (by omega)]; exact W3
  · exact h54
  · rw [ha _ (by omega) (by omega)]; exact W5
  · rw [ha _ (by omega) (by omega), cuS_a (by omega) (by omega)]; exact W6 k hk
  · unfold tT
    rw [ha _ (by omega) (by omega), cuS_a (by omega) (by omega)]; exact W7 k hk j hj
  · unfold tL
    by_cases e : k < g
    · rw [ha _ (by omega) (by omega), cuS_a (by omega) (by omega)]; exact W8 k (by omega) j hj
    · rw [hb _ (by omega) (by omega), cuS_b (by omega) (by omega) (by omega), show 0 + 55 + 4 * k + j + 4 = 0 + 55 + 4 * (k + 1) + j by omega, show 51 + 4 * k + j + 4 = 51 + 4 * (k + 1) + j by omega]
      exact W8 (k + 1) (by omega) j hj
theorem m_cut_loop {n : Nat} (hn : 2 ≤ n ∧ n ≤ 6) {p0 : Nat} : ∀ (d p f : Nat) (τ : St), p + d = 4 * (n - 1) → d < f → p0 ≤ p → τ 27 54 = iI ((n : Int) - 1) → (∀ c, c ≠ 27 → τ c = σ c) → (∀ i, p0 ≤ i → i < p → τ 27 (55 + i) = σ 27 (55 + i + 4)) → (∀ j, (j < 55 + p0 ∨ 55 + p ≤ j) → τ 27 j = σ 27 j) →
    ∃ τ', fx F_X11_cut_h44 z_X11_cut_h44 f τ (iI p) = some (iI ((n : Int) - 1), τ') ∧ (∀ c, c ≠ 27 → τ' c = σ c) ∧ (∀ i, p0 ≤ i → i < 4 * (n - 1) → τ' 27 (55 + i) = σ 27 (55 + i + 4)) ∧ (∀ j, (j < 55 + p0 ∨ 55 + 4 * (n - 1) ≤ j) → τ' 27 j = σ 27 j) := by
  intro d
  induction d with
  | zero =>
    intro p f τ h1 h2 hp h54 f1 f2 f3
    obtain ⟨f, rfl⟩ : ∃ j, f = j + 1 := ⟨f - 1, by omega⟩
    obtain rfl : p = 4 * (n - 1) := by omega
    refine ⟨τ, ?_, f1, f2, f3⟩
    rw [fx_s]
    generalize fx F_X11_cut_h44 z_X11_cut_h44 f = K
    unfold F_X11_cut_h44
    rw [h54, show (4 : Int32) = iI 4 by decide, iI_mul, if_pos (by rw [iI_le (by omega) (by omega) (by omega) (by omega)]; omega)]
  | succ d ih =>
    intro p f τ h1 h2 hp h54 f1 f2 f3
    obtain ⟨f, rfl⟩ : ∃ j, f = j + 1 := ⟨f - 1, by omega⟩
    obtain ⟨τ', i1, i2⟩ := ih (p + 1) f (g_u2 τ 27 (55 + p) (τ 27 (55 + p + 4))) (by omega) (by omega) (by omega) (by rw [g_u2_n2 (by omega)]; exact h54) (fun c hc => by rw [g_u2_n1 hc]; exact f1 c hc) (fun i hi hi2 => by
      by_cases e : i = p
      · rw [e, g_u2_e]; exact f3 _ (by omega)
      · rw [g_u2_n2 (by omega)]; exact f2 i hi (by omega)) (fun j hj => by rw [g_u2_n2 (by omega)]; exact f3 j (by omega))
    refine ⟨τ', ?_, i2⟩
    rw [fx_s]
    generalize fx F_X11_cut_h44 z_X11_cut_h44 f = K at *
    unfold F_X11_cut_h44
    rw [h54, show (4 : Int32) = iI 4 by decide, iI_mul, if_neg (by rw [iI_le (by omega) (by omega) (by omega) (by omega)]; omega), show (55 : Int32) = iI 55 by decide, iI_add, iI_add]
    rw [if_pos (by rw [iI_toInt (by omega) (by omega)]; omega), if_pos (by rw [iI_toInt (by omega) (by omega)]; omega), obs, obs, iI_clamp (by omega) (by omega), iI_clamp (by omega) (by omega), show ((55 : Int) + p).toNat = 55 + p by omega, show ((55 : Int) + p + 4).toNat = 55 + p + 4 by omega, show (1 : Int32) = iI 1 by decide, iI_add]
    exact i1
end CU
