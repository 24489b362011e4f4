section PZ
variable {σ π τ ρ ρ1 : St} {sh : Nat → Int} {n : Nat} {b : Nat → Int}
theorem FR_v {w : Nat → Int32} {D : Nat → Prop} (h : FR w sh D) {jc A : Nat} (hr : rel jc A) (hd : D jc) : w A = iI (sh jc) ∧ okc jc (sh jc) := h jc A hr hd
theorem ok_s0 {v : Int} (h : okc 0 v) : 0 ≤ v ∧ v ≤ 20 := by
  unfold okc okv at h
  rcases h with (h | h | h | h | h) | h <;> omega
theorem ok_s {j : Nat} (hj : 1 ≤ j ∧ j < 5) {v : Int} (h : okc j v) : 0 ≤ v ∧ v ≤ 60 := by
  unfold okc okv at h
  rcases h with (h | h | h | h | h) | h <;> omega
theorem ok_h {k : Nat} (hk : k < 6) {v : Int} (h : okc (5 + k) v) : 0 ≤ v ∧ v ≤ 20 := by
  unfold okc okv at h
  rcases h with (h | h | h | h | h) | h <;> omega
theorem ok_t {k j : Nat} (hk : k < 8) (hj : j < 5) {v : Int} (h : okc (11 + 5 * k + j) v) : (j = 0 → 1 ≤ v ∧ v ≤ 6) ∧ (j = 1 ∨ j = 2 → 0 ≤ v ∧ v ≤ 60) ∧ (j = 3 → 0 ≤ v ∧ v ≤ 15) ∧ (j = 4 → 0 ≤ v ∧ v ≤ 20) := by
  have e : (11 + 5 * k + j - 11) % 5 = j := by omega
  unfold okc okv at h
  rw [e] at h
  rcases h with (h | h | h | h | h) | h
  · omega
  · omega
  · omega
  · exact h.2.2
  · omega
  · omega
theorem ok_l {g : Nat} (hg : g < 6) {v : Int} (h : okc (51 + 4 * g + 0) v) : 0 ≤ v ∧ v ≤ 15 := by
  unfold okc okv at h
  rcases h with (h | h | h | h | h) | h <;> omega
theorem q_val {H T L : Nat} (hH : 1 ≤ H ∧ H ≤ 6) (hT : T ≤ 8) (hL : 1 ≤ L ∧ L ≤ 6) {r : Nat → Int32} (F : FR r sh (dD 5 H (5 * T) (4 * L))) (C : CN r sh (4 * L) H T L) {w : Nat → Int32} (w0 : w 0 = iI 1) (hw : ∀ i, 0 < i → i < 79 → w i = r i) : Val sh ∧ RM w 0 sh := by
  obtain ⟨⟨c1, c2⟩, ⟨c3, c4⟩, ⟨c5, c6⟩, c7⟩ := C
  have ship : ∀ j, j < 5 → w (j + 1) = iI (sh j) ∧ okc j (sh j) := fun j hj => by
    rw [hw _ (by omega) (by omega)]
    exact F j (j + 1) (by unfold rel; omega) (by unfold dD; omega)
  have hgt : ∀ k, k < H → w (7 + k) = iI (sh (5 + k)) ∧ okc (5 + k) (sh (5 + k)) := fun k hk => by
    rw [hw _ (by omega) (by omega)]
    exact F (5 + k) (7 + k) (by unfold rel; omega) (by unfold dD; omega)
  have thg : ∀ k j, k < T → j < 5 → w (14 + 5 * k + j) = iI (tT sh k j) ∧ okc (11 + 5 * k + j) (tT sh k j) := fun k j hk hj => by
    rw [hw _ (by omega) (by omega)]
    exact F (11 + 5 * k + j) (14 + 5 * k + j) (by unfold rel; omega) (by unfold dD; omega)
  have leg : ∀ g j, g < L → j < 4 → w (55 + 4 * g + j) = iI (tL sh g j) ∧ okc (51 + 4 * g + j) (tL sh g j) := fun g j hg hj => by
    rw [hw _ (by omega) (by omega)]
    exact F (51 + 4 * g + j) (55 + 4 * g + j) (by unfold rel; omega) (by unfold dD; omega)
  have o0 := ok_s0 (ship 0 (by omega)).2
  have o1 := ok_s (by omega) (ship 1 (by omega)).2
  have o2 := ok_s (by omega) (ship 2 (by omega)).2
  have o3 := ok_s (by omega) (ship 3 (by omega)).2
  have o4 := ok_s (by omega) (ship 4 (by omega)).2
  refine ⟨⟨by omega, by omega, by omega, o0, ⟨o1, o2, o3, o4⟩, fun k hk => ?_, fun k hk => ?_, fun g hg => ?_⟩, fun j hj => ?_, ?_, ?_, ?_, ?_, fun k hk => ?_, fun k hk j hj => ?_, fun g hg j hj => ?_⟩
  · exact ok_h (by omega) (hgt k (by omega)).2
  · have a0 := (ok_t (by omega) (by omega) (thg k 0 (by omega) (by omega)).2).1 rfl
    have a1 := (ok_t (by omega) (by omega) (thg k 1 (by omega) (by omega)).2).2.1 (Or.inl rfl)
    have a2 := (ok_t (by omega) (by omega) (thg k 2 (by omega) (by omega)).2).2.1 (Or.inr rfl)
    have a3 := (ok_t (by omega) (by omega) (thg k 3 (by omega) (by omega)).2).2.2.1 rfl
    have a4 := (ok_t (by omega) (by omega) (thg k 4 (by omega) (by omega)).2).2.2.2 rfl
    exact ⟨a0, a1, a2, a3, a4⟩
  · exact ⟨ok_l (by omega) (leg g 0 (by omega) (by omega)).2, c7 g (by omega)⟩
  · rw [show 0 + 1 + j = j + 1 by omega]; exact (ship j hj).1
  · rw [hw _ (by omega) (by omega), c1]; exact c2
  · rw [hw _ (by omega) (by omega), c3]; exact c4
  · rw [hw _ (by omega) (by omega), c5]; exact c6
  · exact w0
  · rw [show 0 + 7 + k = 7 + k by omega]; exact (hgt k (by omega)).1
  · rw [show 0 + 14 + 5 * k + j = 14 + 5 * k + j by omega]; exact (thg k j (by omega) hj).1
  · rw [show 0 + 55 + 4 * g + j = 55 + 4 * g + j by omega]; exact (leg g j (by omega) hj).1
/-- the fresh row becomes the sheet -/
theorem m_fresh : ∀ (d k f : Nat) (ρ : St), k + d = 79 → d < f → (∀ j, j < k → ρ 27 j = ρ 32 j) → ∃ ρ', fx F_X11_sheet_h41 z_X11_sheet_h41 f ρ (iI k) = some (ρ' 27 54, ρ') ∧ (∀ c, c ≠ 27 → c ≠ 26 → ρ' c = ρ c) ∧ (∀ j, j ≠ 2 → ρ' 26 j = ρ 26 j) ∧ ρ' 26 2 = iI 0 ∧ (∀ j, j < 79 → ρ' 27 j = ρ 32 j) ∧ (∀ j, 79 ≤ j → ρ' 27 j = ρ 27 j) := by
  intro d
  induction d with
  | zero =>
    intro k f ρ h1 h2 h3
    obtain ⟨f, rfl⟩ : ∃ j, f = j + 1 := ⟨f - 1, by omega⟩
    obtain rfl : k = 79 := by omega
    refine ⟨g_u2 ρ 26 2 0, ?_, fun c _ c2 => g_u2_n1 c2, fun j hj => g_u2_n2 hj, by rw [g_u2_e]; rfl, fun j hj => by rw [g_u2_n1 (by decide)]; exact h3 j hj, fun j _ => by rw [g_u2_n1 (by decide)]⟩
    rw [fx_s]
    rfl
  | succ d ih =>
    intro k f ρ h1 h2 h3
    obtain ⟨f, rfl⟩ : ∃ j, f = j + 1 := ⟨f - 1, by omega⟩
    obtain ⟨ρ', i1, i2, i3, i4, i5, i6⟩ := ih (k + 1) f (g_u2 ρ 27 k (ρ 32 k)) (by omega) (by omega) (fun j hj => by
      rw [g_u2_n1 (show (32 : Nat) ≠ 27 by decide)]
      by_cases e : j = k
      · rw [e, g_u2_e]
      · rw [g_u2_n2 e]; exact h3 j (by omega))
    refine ⟨ρ', ?_, fun c c1 c2 => by rw [i2 c c1 c2, g_u2_n1 c1], fun j hj => by rw [i3 j hj, g_u2_n1 (by decide)], i4, fun j hj => by rw [i5 j hj, g_u2_n1 (by decide)], fun j hj => by rw [i6 j hj, g_u2_n2 (by omega)]⟩
    rw [fx_s, ← i1]
    generalize fx F_X11_sheet_h41 z_X11_sheet_h41 f = K
    unfold F_X11_sheet_h41
    rw [if_neg (show ¬ (79 : Int32) ≤ iI k by rw [show (79 : Int32) = iI 79 by decide, iI_le (by omega) (by omega) (by omega) (by omega)]; omega), iI_toInt (by omega) (by omega), if_pos (by omega), if_pos (by omega), obs, obs, iI_clamp (by omega) (by omega), Int.toNat_natCast, show iI (k : Int) + 1 = iI ((k + 1 : Nat) : Int) by rw [show (1 : Int32) = iI 1 by decide, iI_add]; rfl]
theorem p_sheet : P_sheet Inv := by
  intro σ h
  obtain ⟨n, b, T1, T2, h4⟩ := iv_tape h
  obtain ⟨hT, hf, hs, hi, hh, hc⟩ := id h
  obtain ⟨τ, ρ0, -, x | x⟩ := l_tape (σ := σ) (π := σ) ⟨T1, T2, h4⟩
  · -- well
    obtain ⟨x1, H, T, L, hb, x2⟩ := x
    obtain ⟨p0, sh0, -, hC0, -⟩ := x2
    obtain ⟨X1, d1, d2, d3⟩ := c_copyFrom (σ := g_u2 τ 1 1 0) 14 17
    obtain ⟨X, hX⟩ : ∃ X, X = g_u2 X1 4 2 0 := ⟨_, rfl⟩
    have kX : ∀ c, c ≠ 1 → c ≠ 3 → c ≠ 4 → c ≠ 14 → c ≠ 17 → X c = σ c := fun c c1 c3 c4 c14 c17 => by rw [hX, g_u2_n1 c4, d2 c c14, g_u2_n1 c1]; exact hC0.1 c c3 c17
    have X14 : ∀ j, j < 78 → X 14 j = τ 17 j := fun j hj => by rw [hX, g_u2_n1 (by decide), d3 j hj, g_u2_n1 (by decide)]
    have cE : f_X10_sheet σ = some (X 14 77, X) := by
      unfold f_X10_sheet f_X7_clear f_X4_forget
      rw [x1, obs, obs, obs]
      refine (if_neg (show ¬ iI 1 = 0 by decide)).trans ?_
      dsimp only
      rw [d1, obs, obs, obs, ← hX]
      rfl
    obtain ⟨τ', ρ, y, z | z⟩ := l_tape (σ := σ) (π := X) (n := n) (b := b) ⟨T1, ⟨T2.1, fun j hj => by rw [kX 29 (by decide) (by decide) (by decide) (by decide) (by decide)]; exact T2.2 j hj⟩, by rw [kX 26 (by decide) (by decide) (by decide) (by decide) (by decide)]; exact h4⟩
    · obtain ⟨z1, H, T, L, ⟨hb1, hb2, hb3⟩, p, sh, -, hC, hR, hF, hN⟩ := z
      have e : τ' = τ := by
        have zz := Option.some.inj (x1.symm.trans z1)
        exact (congrArg Prod.snd zz).symm
      subst e
      obtain ⟨Y, hY⟩ : ∃ Y, Y = g_u2 (g_u2 ρ 26 4 0) 32 0 1 := ⟨_, rfl⟩
      obtain ⟨Z, m1, m2, m3, m4, m5, m6⟩ := m_fresh 79 0 FU Y (by omega) (by rw [FU_val]; omega) (fun j hj => absurd hj (by omega))
      have kZ : ∀ c, c ≠ 26 → c ≠ 27 → c ≠ 32 → Z c = X c := fun c c1 c2 c3 => by rw [m2 c c2 c1, hY, g_u2_n1 c3, g_u2_n1 c1]; exact hR.1 c c1 c3
      have jZ : ∀ j, (j < 9 ∨ 12 < j) → j ≠ 2 → j ≠ 4 → Z 26 j = X 26 j := fun j hj j2 j4 => by rw [m3 j j2, hY, g_u2_n1 (by decide), g_u2_n2 j4]; exact hR.2.1 j hj
      have w27 : ∀ j, 79 ≤ j → Z 27 j = σ 27 j := fun j hj => by rw [m6 j hj, hY, g_u2_n1 (by decide), g_u2_n1 (by decide), hR.1 27 (by decide) (by decide), kX 27 (by decide) (by decide) (by decide) (by decide) (by decide)]
      have mE : f_X11_sheet X = some (Z 27 54, Z) := by
        unfold f_X11_sheet
        rw [y, obs, obs]
        have wl : f_X11_isWell (g_u2 ρ 26 4 0) = some (iI 1, g_u2 ρ 26 4 0) := by
          unfold f_X11_isWell
          rw [g_u2_n2 (by decide), hR.2.2.1]
          exact if_pos (by decide)
        rw [wl, obs]
        refine (if_neg (show ¬ iI 1 = 0 by decide)).trans ?_
        dsimp only
        rw [obs, ← hY]
        exact m1
      obtain ⟨V, W⟩ := q_val hb1 hb2 hb3 hF hN (w := Z 27) (by rw [m5 0 (by omega), hY, g_u2_e]; rfl) (fun i i1 i2 => by rw [m5 i i2, hY, g_u2_n2 (by omega), g_u2_n1 (by decide)])
      have R : RC (Z 14) sh := fun j hj => by rw [kZ 14 (by decide) (by decide) (by decide), X14 j hj]; exact hC.2.2 j hj
      refine ⟨(X 14 77, X), (Z 27 54, Z), cE, mE, ?_, ?_⟩
      · have a := R 77 (by omega)
        rw [kZ 14 (by decide) (by decide) (by decide)] at a
        have w54 : Z 27 (0 + 54) = iI (sh 77) := W.2.2.2.1
        show X 14 77 = Z 27 54
        rw [a]
        exact w54.symm
      · show Inv Z
        have z1 : Z 1 1 = iI ((0 : Nat) : Int) := by
          rw [kZ 1 (by decide) (by decide) (by decide), hX, g_u2_n1 (by decide), d2 1 (by decide), g_u2_e]; rfl
        have z264 : Z 26 4 = iI ((0 : Nat) : Int) := by
          rw [m3 4 (by decide), hY, g_u2_n1 (by decide), g_u2_e]; rfl
        refine ⟨⟨0, by omega, z1, z264, fun j hj => absurd hj (by omega)⟩, ?_, Or.inr ⟨sh, V, R, W⟩, ?_, ?_, ?_⟩
        · rw [jZ 5 (by omega) (by decide) (by decide), kX 26 (by decide) (by decide) (by decide) (by decide) (by decide), kZ 0 (by decide) (by decide) (by decide), kX 0 (by decide) (by decide) (by decide) (by decide) (by decide)]
          exact hf
        · unfold IvI
          rw [kZ 15 (by decide) (by decide) (by decide), kZ 16 (by decide) (by decide) (by decide), kZ 28 (by decide) (by decide) (by decide), kX 15 (by decide) (by decide) (by decide) (by decide) (by decide), kX 16 (by decide) (by decide) (by decide) (by decide) (by decide), kX 28 (by decide) (by decide) (by decide) (by decide) (by decide)]
          obtain ⟨i1, i2⟩ := hi
          refine ⟨?_, ?_⟩
          · rcases i1 with i | i
            · exact Or.inl i
            · exact Or.inr ⟨i.1, SH_w i.2 (fun j hj => w27 _ (by omega))⟩
          · rcases i2 with i | i
            · exact Or.inl i
            · exact Or.inr ⟨i.1, SH_w i.2 (fun j hj => w27 _ (by omega))⟩
        · obtain ⟨nx, sz, n1, n2, n3, n4, n5, n6⟩ := hh
          refine ⟨nx, 0, n1, by omega, ?_, ?_, m4, fun i hi => absurd hi (by omega)⟩
          · rw [kZ 4 (by decide) (by decide) (by decide), hX, g_u2_n2 (by decide), d2 4 (by decide), g_u2_n1 (by decide), hC.1 4 (by decide) (by decide)]
            exact n3
          · rw [kZ 4 (by decide) (by decide) (by decide), hX, g_u2_e]; rfl
        · unfold IvC
          rw [kZ 30 (by decide) (by decide) (by decide), kZ 31 (by decide) (by decide) (by decide), jZ 13 (by omega) (by decide) (by decide), kX 26 (by decide) (by decide) (by decide) (by decide) (by decide), kX 30 (by decide) (by decide) (by decide) (by decide) (by decide), kX 31 (by decide) (by decide) (by decide) (by decide) (by decide)]
          exact hc
    · obtain ⟨z1, -⟩ := z
      have zz := congrArg Prod.fst (Option.some.inj (x1.symm.trans z1))
      exact absurd (show iI 1 = iI 0 from zz) (by decide)
  · -- a fault
    obtain ⟨x1, k0, q0, hk0, hq0, hC0, -⟩ := x
    obtain ⟨X, hX⟩ : ∃ X, X = g_u2 (g_u2 τ 1 1 0) 0 10 (τ 3 1) := ⟨_, rfl⟩
    have kX : ∀ c, c ≠ 0 → c ≠ 1 → c ≠ 3 → c ≠ 17 → X c = σ c := fun c c0 c1 c3 c17 => by rw [hX, g_u2_n1 c0, g_u2_n1 c1]; exact hC0.1 c c3 c17
    have cE : f_X10_sheet σ = some (-1000100 - τ 3 2, X) := by
      unfold f_X10_sheet f_X7_clear
      rw [x1, obs, obs, obs]
      refine (if_pos (show iI 0 = 0 by decide)).trans ?_
      dsimp only
      rw [obs, g_u2_n1 (show (3 : Nat) ≠ 0 by decide), g_u2_n1 (show (3 : Nat) ≠ 1 by decide), ← hX]
    obtain ⟨τ', ρ, y, z | z⟩ := l_tape (σ := σ) (π := X) (n := n) (b := b) ⟨T1, ⟨T2.1, fun j hj => by rw [kX 29 (by decide) (by decide) (by decide) (by decide)]; exact T2.2 j hj⟩, by rw [kX 26 (by decide) (by decide) (by decide) (by decide)]; exact h4⟩
    · obtain ⟨z1, -⟩ := z
      have zz := congrArg Prod.fst (Option.some.inj (x1.symm.trans z1))
      exact absurd (show iI 0 = iI 1 from zz) (by decide)
    · obtain ⟨z1, hbad⟩ := z
      have e : τ' = τ := by
        have zz := Option.some.inj (x1.symm.trans z1)
        exact (congrArg Prod.snd zz).symm
      subst e
      have bn := bad_n hbad
      obtain ⟨k, q, hk, hq, hC, hR⟩ := hbad
      obtain ⟨Z, hZ⟩ : ∃ Z, Z = g_u2 (g_u2 ρ 26 4 0) 26 5 (iI k) := ⟨_, rfl⟩
      have kZ : ∀ c, c ≠ 26 → c ≠ 32 → Z c = X c := fun c c1 c2 => by rw [hZ, g_u2_n1 c1, g_u2_n1 c1]; exact hR.1 c c1 c2
      have jZ : ∀ j, (j < 9 ∨ 12 < j) → j ≠ 4 → j ≠ 5 → Z 26 j = X 26 j := fun j hj j4 j5 => by rw [hZ, g_u2_n2 j5, g_u2_n2 j4]; exact hR.2.1 j hj
      have mE : f_X11_sheet X = some (-1000100 - iI q, Z) := by
        unfold f_X11_sheet
        rw [y, obs, obs]
        have wl : f_X11_isWell (g_u2 ρ 26 4 0) = some (iI 0, g_u2 ρ 26 4 0) := by
          unfold f_X11_isWell
          rw [g_u2_n2 (by decide)]
          exact if_neg bn
        rw [wl, obs]
        refine (if_pos (show iI 0 = 0 by decide)).trans ?_
        dsimp only
        rw [obs, g_u2_n2 (show (12 : Nat) ≠ 4 by decide), hR.2.2.1, ← hZ]
        rw [show Z 26 10 = iI q by rw [hZ, g_u2_n2 (by decide), g_u2_n2 (by decide)]; exact hR.2.2.2]
      refine ⟨(-1000100 - τ' 3 2, X), (-1000100 - iI q, Z), cE, mE, by show -1000100 - τ' 3 2 = -1000100 - iI q; rw [hC.2.2], ?_⟩
      show Inv Z
      refine ⟨⟨0, by omega, ?_, ?_, fun j hj => absurd hj (by omega)⟩, ?_, ?_, ?_, ?_, ?_⟩
      · rw [kZ 1 (by decide) (by decide), hX, g_u2_n1 (by decide), g_u2_e]; rfl
      · rw [hZ, g_u2_n2 (by decide), g_u2_e]; rfl
      · rw [kZ 0 (by decide) (by decide), hX, g_u2_e, hC.2.1, hZ, g_u2_e]
      · unfold IvS Un at *
        rw [kZ 14 (by decide) (by decide), kZ 27 (by decide) (by decide), kX 14 (by decide) (by decide) (by decide) (by decide), kX 27 (by decide) (by decide) (by decide) (by decide)]
        exact hs
      · unfold IvI at *
        rw [kZ 15 (by decide) (by decide), kZ 16 (by decide) (by decide), kZ 27 (by decide) (by decide), kZ 28 (by decide) (by decide), kX 15 (by decide) (by decide) (by decide) (by decide), kX 16 (by decide) (by decide) (by decide) (by decide), kX 27 (by decide) (by decide) (by decide) (by decide), kX 28 (by decide) (by decide) (by decide) (by decide)]
        exact hi
      · unfold IvH at *
        rw [kZ 4 (by decide) (by decide), kZ 18 (by decide) (by decide), kZ 27 (by decide) (by decide), jZ 2 (by omega) (by decide) (by decide), kX 4 (by decide) (by decide) (by decide) (by decide), kX 18 (by decide) (by decide) (by decide) (by decide), kX 27 (by decide) (by decide) (by decide) (by decide), kX 26 (by decide) (by decide) (by decide) (by decide)]
        exact hh
      · unfold IvC at *
        rw [kZ 30 (by decide) (by decide), kZ 31 (by decide) (by decide), jZ 13 (by omega) (by decide) (by decide), kX 30 (by decide) (by decide) (by decide) (by decide), kX 31 (by decide) (by decide) (by decide) (by decide), kX 26 (by decide) (by decide) (by decide) (by decide)]
        exact hc
theorem pur : Pur Inv := ⟨p_feed, p_sheet, p_fault, p_course, p_undo, p_measure, p_become, p_ship, p_tide, p_steer, p_until, p_add, p_cut, p_thing, p_leg, p_height, p_water, p_mark, p_seen, p_line, p_lines, p_sail, p_track, p_why, p_sign, p_times, p_deepest, p_courses, p_needed, p_near, p_out, p_drawn, p_image, p_restore, p_count⟩
end PZ
