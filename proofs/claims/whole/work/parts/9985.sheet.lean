section PY
variable {σ π τ ρ ρ1 : St} {sh : Nat → Int} {n : Nat} {b : Nat → Int}
def QF (σ π : St) (n : Nat) (b : Nat → Int) (τ ρ : St) : Prop := ∃ H T L, ((1 ≤ H ∧ H ≤ 6) ∧ T ≤ 8 ∧ (1 ≤ L ∧ L ≤ 6)) ∧ QS σ π n b 5 H (5 * T) (4 * L) H T L τ ρ
theorem Lk_wrap {x : Option (Int32 × St)} {y : Option St} {Q : St → St → Prop} (h : Lk σ π x y Q) : Lk σ π (Option.bind x fun q => if q.1 = 0 then some (0, q.2) else some (1, q.2)) y Q := by
  obtain ⟨τ, ρ, hy, h | h⟩ := h
  · rw [h.1, obs]
    exact ⟨τ, ρ, hy, Or.inl ⟨if_neg (show ¬ iI 1 = 0 by decide), h.2⟩⟩
  · rw [h.1, obs]
    exact ⟨τ, ρ, hy, Or.inr ⟨if_pos (show iI 0 = 0 by decide), h.2⟩⟩
theorem Lk_mono {x : Option (Int32 × St)} {y : Option St} {Q Q2 : St → St → Prop} (h : Lk σ π x y Q) (h2 : ∀ τ ρ, Q τ ρ → Q2 τ ρ) : Lk σ π x y Q2 := by
  obtain ⟨τ, ρ, hy, h | h⟩ := h
  · exact ⟨τ, ρ, hy, Or.inl ⟨h.1, h2 _ _ h.2⟩⟩
  · exact ⟨τ, ρ, hy, Or.inr h⟩
/-- the fresh row is emptied -/
theorem m_zero : ∀ (d k f : Nat) (ρ : St), k + d = 79 → d < f → (∀ j, j < k → ρ 32 j = 0) → ∃ ρ', fx F_X11_readsAll_h2 z_X11_readsAll_h2 f ρ (iI k) = (Option.bind (some (g_u2 ρ' 26 9 (0))) fun σ60 => Option.bind (some (g_u2 σ60 26 12 (0))) fun σ62 => Option.bind (f_X11_take σ62) fun q64 => Option.bind (f_X11_readsShip q64) fun q66 => Option.bind (f_X11_readsTide q66) fun q68 => Option.bind (f_X11_reads q68 (122)) fun q70 => Option.bind (f_X11_number q70 (4) (0) (60)) fun q72 => Option.bind (f_X11_reads q72 (44)) fun q74 => Option.bind (f_X11_number q74 (5) (0) (60)) fun q76 => Option.bind (f_X11_reads q76 (59)) fun q78 => fx (F_X11_readsAll_h77) z_X11_readsAll_h77 FU q78) ∧ (∀ c, c ≠ 32 → ρ' c = ρ c) ∧ (∀ j, j < 79 → ρ' 32 j = 0) := by
  intro d
  induction d with
  | zero =>
    intro k f ρ h1 h2 h3
    obtain ⟨f, rfl⟩ : ∃ j, f = j + 1 := ⟨f - 1, by omega⟩
    obtain rfl : k = 79 := by omega
    refine ⟨ρ, ?_, fun _ _ => rfl, h3⟩
    rw [fx_s]
    generalize fx F_X11_readsAll_h2 z_X11_readsAll_h2 f = K
    unfold F_X11_readsAll_h2
    exact if_pos (by decide)
  | succ d ih =>
    intro k f ρ h1 h2 h3
    obtain ⟨f, rfl⟩ : ∃ j, f = j + 1 := ⟨f - 1, by omega⟩
    obtain ⟨ρ', i1, i2, i3⟩ := ih (k + 1) f (g_u2 ρ 32 k 0) (by omega) (by omega) (fun j hj => by
      by_cases e : j = k
      · rw [e, g_u2_e]
      · rw [g_u2_n2 e]; exact h3 j (by omega))
    refine ⟨ρ', ?_, fun c hc => by rw [i2 c hc, g_u2_n1 hc], i3⟩
    rw [fx_s, ← i1]
    generalize fx F_X11_readsAll_h2 z_X11_readsAll_h2 f = K
    unfold F_X11_readsAll_h2
    rw [if_neg (show ¬ (79 : Int32) ≤ iI k by rw [show (79 : Int32) = iI 79 by decide, iI_le (by omega) (by omega) (by omega) (by omega)]; omega), iI_toInt (by omega) (by omega), if_pos (by omega), obs, obs, iI_clamp (by omega) (by omega), Int.toNat_natCast, show iI (k : Int) + 1 = iI ((k + 1 : Nat) : Int) by rw [show (1 : Int32) = iI 1 by decide, iI_add]; rfl]
/-- the things and legs -/
theorem l_rest (hX : Ctx σ π n b) {H : Nat} (hH : 1 ≤ H ∧ H ≤ 6) (h : QS σ π n b 5 H 0 0 H 0 0 τ ρ) : Lk σ π (Option.bind (f_X5_readThings τ) fun q49 => if q49.1 = 0 then some (0, q49.2) else (Option.bind (f_X5_readLegs q49.2) fun q52 => if q52.1 = 0 then some (0, q52.2) else some (1, q52.2))) (fx F_X11_readsAll_h77 z_X11_readsAll_h77 FU ρ) (QF σ π n b) := by
  obtain ⟨τ1, ρ1, y, x | x⟩ := thing_loop hX (H := H) 8 0 FU FU τ ρ (by omega) (by rw [FU_val]; omega) (by rw [FU_val]; omega) h
  · obtain ⟨x1, T, x2, x3⟩ := x
    rw [y]
    unfold f_X5_readThings
    rw [show fx F_X5_readThings_h2 z_X5_readThings_h2 FU τ 0 = some (iI 1, τ1) from x1, obs]
    have e : (if (iI 1, τ1).1 = 0 then some ((0 : Int32), (iI 1, τ1).2) else (Option.bind (f_X5_readLegs (iI 1, τ1).2) fun q52 => if q52.1 = 0 then some (0, q52.2) else some (1, q52.2))) = (Option.bind (f_X5_readLegs τ1) fun q52 => if q52.1 = 0 then some (0, q52.2) else some (1, q52.2)) := if_neg (show ¬ iI 1 = 0 by decide)
    rw [e]
    refine Lk_wrap (Lk_mono (l_legs hX hH.2 x2 x3) (fun τ ρ hq => ?_))
    obtain ⟨L, l1, l2⟩ := hq
    exact ⟨H, T, L, ⟨hH, x2, l1⟩, l2⟩
  · obtain ⟨x1, x2⟩ := x
    rw [y]
    unfold f_X5_readThings
    rw [show fx F_X5_readThings_h2 z_X5_readThings_h2 FU τ 0 = some (iI 0, τ1) from x1, obs]
    obtain ⟨ρ', r1, r2⟩ := BOk_101 τ1 ρ1 x2
    exact ⟨τ1, ρ', r1, Or.inr ⟨if_pos (show iI 0 = 0 by decide), r2⟩⟩
/-- the whole tape -/
theorem l_tape (hX : Ctx σ π n b) : Lk σ π (f_X5_readTape σ) (f_X11_readsAll π) (QF σ π n b) := by
  -- the class's beginning
  obtain ⟨τ0, hτ0⟩ : ∃ τ0, τ0 = g_u2 (g_u2 (g_u2 (g_u2 (g_u2 (g_u2 σ 3 4 0) 3 1 0) 3 2 0) 17 75 0) 17 76 0) 17 77 0 := ⟨_, rfl⟩
  have cE : f_X5_readTape σ = Option.bind (f_X5_readShip τ0) fun q40 => if q40.1 = 0 then some (0, q40.2) else (Option.bind (f_X5_readTide q40.2) fun q43 => if q43.1 = 0 then some (0, q43.2) else (Option.bind (f_X5_readHarbour q43.2) fun q46 => if q46.1 = 0 then some (0, q46.2) else (Option.bind (f_X5_readThings q46.2) fun q49 => if q49.1 = 0 then some (0, q49.2) else (Option.bind (f_X5_readLegs q49.2) fun q52 => if q52.1 = 0 then some (0, q52.2) else some (1, q52.2))))) := by
    rw [hτ0]
    rfl
  have cs0 : CS τ0 σ 0 (fun j => (τ0 17 j).toInt) := by
    refine ⟨fun k k1 k2 => ?_, ?_, fun j _ => iI_of _⟩
    · rw [hτ0, g_u2_n1 k2, g_u2_n1 k2, g_u2_n1 k2, g_u2_n1 k1, g_u2_n1 k1, g_u2_n1 k1]
    · rw [hτ0, g_u2_n1 (by decide), g_u2_n1 (by decide), g_u2_n1 (by decide), g_u2_n2 (by decide), g_u2_n2 (by decide), g_u2_e]; rfl
  -- the reference's
  obtain ⟨ρ1, z1, z2, z3⟩ := m_zero 79 0 FU π (by omega) (by rw [FU_val]; omega) (fun j hj => absurd hj (by omega))
  obtain ⟨ρ2, hρ2⟩ : ∃ ρ2, ρ2 = g_u2 (g_u2 ρ1 26 9 0) 26 12 0 := ⟨_, rfl⟩
  have k2 : ∀ c, c ≠ 26 → c ≠ 32 → ρ2 c = π c := fun c c1 c2 => by rw [hρ2, g_u2_n1 c1, g_u2_n1 c1, z2 c c2]
  have j2 : ∀ j, j ≠ 9 → j ≠ 12 → ρ2 26 j = π 26 j := fun j j1 j2 => by rw [hρ2, g_u2_n2 j2, g_u2_n2 j1, z2 26 (by decide)]
  obtain ⟨ρ3, t1, t2, t3, t4, t5⟩ := m_take (ρ := ρ2) (n := n) (b := b) ⟨hX.2.1.1, fun j hj => by rw [k2 29 (by decide) (by decide)]; exact hX.2.1.2 j hj⟩ (by rw [j2 4 (by decide) (by decide)]; exact hX.2.2) (p := 0) (by omega) (by rw [hρ2, g_u2_n2 (by decide), g_u2_e]; rfl)
  have rs0 : RS ρ3 π n b 0 := by
    refine ⟨fun c c1 c2 => by rw [t2.1 c c1]; exact k2 c c1 c2, fun j hj => by rw [t2.2 j (by omega)]; exact j2 j (by omega) (by omega), by rw [t2.2 12 (by omega), hρ2, g_u2_e]; rfl, t3, t4, t5⟩
  have w3 : ∀ j, j < 79 → ρ3 32 j = iI 0 := fun j hj => by rw [t2.1 32 (by decide), hρ2, g_u2_n1 (by decide), g_u2_n1 (by decide)]; exact z3 j hj
  have q0 : QS σ π n b 0 0 0 0 0 0 0 τ0 ρ3 := by
    refine ⟨0, _, by omega, cs0, rs0, fun j A _ hj => absurd hj (by unfold dD; omega), ⟨?_, w3 6 (by omega)⟩, ⟨?_, w3 13 (by omega)⟩, ⟨?_, w3 54 (by omega)⟩, fun g hg => absurd hg (by omega)⟩
    · show (τ0 17 75).toInt = 0
      rw [hτ0, g_u2_n2 (by decide), g_u2_n2 (by decide), g_u2_e]; rfl
    · show (τ0 17 76).toInt = 0
      rw [hτ0, g_u2_n2 (by decide), g_u2_e]; rfl
    · show (τ0 17 77).toInt = 0
      rw [hτ0, g_u2_e]; rfl
  have mE : f_X11_readsAll π = Option.bind (f_X11_readsShip ρ3) fun q66 => Option.bind (f_X11_readsTide q66) fun q68 => Option.bind (Option.bind (f_X11_reads q68 (122)) fun q70 => Option.bind (f_X11_number q70 (4) (0) (60)) fun q72 => Option.bind (f_X11_reads q72 (44)) fun q74 => Option.bind (f_X11_number q74 (5) (0) (60)) fun q76 => Option.bind (f_X11_reads q76 (59)) some) (fx (F_X11_readsAll_h77) z_X11_readsAll_h77 FU) := by
    unfold f_X11_readsAll
    refine Eq.trans z1 ?_
    rw [obs, obs, ← hρ2, t1, obs]
    simp only [bas, obs]
  rw [cE, mE]
  have bH : BOk σ π (fun q68 => Option.bind (f_X11_reads q68 (122)) fun q70 => Option.bind (f_X11_number q70 (4) (0) (60)) fun q72 => Option.bind (f_X11_reads q72 (44)) fun q74 => Option.bind (f_X11_number q74 (5) (0) (60)) fun q76 => Option.bind (f_X11_reads q76 (59)) some) := BOk_bind (BOk_reads 122) (BOk_bind (BOk_num (fun _ => 4) 0 60) (BOk_bind (BOk_reads 44) (BOk_bind (BOk_num (fun _ => 5) 0 60) (BOk_bind (BOk_reads 59) BOk_some))))
  have bT : BOk σ π f_X11_readsTide := by
    unfold f_X11_readsTide
    exact BOk_bind (BOk_reads 116) (BOk_bind (BOk_num (fun _ => 7) 0 20) (BOk_32 6 (fun _ => 1) (BOk_tide FU (by rw [FU_val]; omega))))
  refine Lk_seq (l_ship hX q0) (fun τ1 ρ4 h1 => ?_) (BOk_bind bT (BOk_bind bH BOk_77))
  refine Lk_seq (l_tide hX h1) (fun τ2 ρ5 h2 => ?_) (BOk_bind bH BOk_77)
  obtain ⟨H, hH, h2⟩ := h2
  refine Lk_seq (l_harbour hX h2 (B := some) BOk_some (Q := QS σ π n b 5 H 0 0 H 0 0) (fun τ ρ h => ⟨ρ, rfl, h⟩)) (fun τ3 ρ6 h3 => ?_) BOk_77
  exact l_rest hX hH h3
end PY
