section PV
variable {σ π τ ρ ρ1 : St} {sh : Nat → Int} {n : Nat} {b : Nat → Int}
def LkE (σ π : St) (x : Option (Int32 × St)) (y : Option St) (G : St → Option St) (Q : St → St → Prop) : Prop := ∃ τ ρ, y = G ρ ∧ ((x = some (iI 1, τ) ∧ Q τ ρ) ∨ (x = some (iI 0, τ) ∧ Bad σ π τ ρ))
theorem bad_77 {τ ρ : St} (h : Bad σ π τ ρ) (f : Nat) (hf : 0 < f) : fx F_X11_readsAll_h77 z_X11_readsAll_h77 f ρ = f_X11_readsAll_p101 ρ := by
  obtain ⟨f, rfl⟩ : ∃ j, f = j + 1 := ⟨f - 1, by omega⟩
  rw [fx_s]
  unfold F_X11_readsAll_h77
  rw [bad_well h, obs]
  exact if_pos (show iI 0 = 0 by decide)
/-- a thing, its letter ahead -/
theorem l_thing (hX : Ctx σ π n b) {H hc k : Nat} (hk : k < 8) (h : QS σ π n b 5 H (5 * k) 0 hc k 0 τ ρ) {c : Int} (hc1 : ρ 26 11 = iI c) (hc2 : isL c = true) (hs : 1 ≤ srt c) : Lk σ π (f_X5_readMeasures (g_u2 (g_u2 τ 3 4 (τ 3 4 + 1)) 17 (11 + 5 * k) (iI (srt c))) (iI k)) (f_X11_readsThing ρ) (fun τ' ρ' => QS σ π n b 5 H (5 * (k + 1)) 0 hc (k + 1) 0 (g_u2 τ' 17 76 (iI ((k + 1 : Nat) : Int))) ρ') := by
  have sb := srt_b c
  have cb : (97 ≤ c ∧ c ≤ 122) ∨ c = 44 ∨ c = 59 := of_decide_eq_true hc2
  have w13 := (QS_6 h).2.1
  rcases q_look hX h hc2 with ⟨x, x1, x2, x3⟩ | ⟨x1, x2, x3⟩
  · exact absurd hc1 x3
  obtain ⟨ρ', y1, y2, -, p, sh, g1, g2, g3, g4, g5, g6⟩ := x3 (g_u2 ρ 32 (14 + 5 * k) (iI (srt c))) (fun j hj => g_u2_n1 hj)
  have hr : rel (11 + 5 * k) (14 + 5 * k) := by unfold rel; omega
  have hq : QS σ π n b 5 H (5 * k + 1) 0 hc k 0 (g_u2 (g_u2 τ 3 4 (τ 3 4 + 1)) 17 (11 + 5 * k) (iI (srt c))) ρ' := by
    refine ⟨p + 1, fu sh (11 + 5 * k) (srt c), g1, CS_put g3 _ _, g4, fun j2 A2 r1 r2 => ?_, ?_⟩
    · rw [y2]
      by_cases e : j2 = 11 + 5 * k
      · rw [e] at r1
        have : A2 = 14 + 5 * k := by unfold rel at r1; omega
        rw [this, e, g_u2_e, fu_e]
        exact ⟨rfl, Or.inl (by unfold okv; omega)⟩
      · have nA : A2 ≠ 14 + 5 * k := fun h => e (rel_u (h ▸ r1) hr)
        rw [g_u2_n2 nA, fu_n e]
        exact g5 j2 A2 r1 (by unfold dD at *; omega)
    · rw [y2]
      unfold CN at *
      rw [g_u2_n2 (by omega), g_u2_n2 (by omega), g_u2_n2 (by omega), fu_n (by omega), fu_n (by omega), fu_n (by omega)]
      exact ⟨g6.1, g6.2.1, g6.2.2.1, fun g hg => absurd hg (by omega)⟩
  have st : f_X11_readsThing ρ = Option.bind (f_X11_number ρ' (iI ((14 + 5 * k : Nat) : Int) + 1) 0 60) fun q46 => Option.bind (f_X11_reads q46 44) fun q48 => Option.bind (f_X11_number q48 (iI ((14 + 5 * k : Nat) : Int) + 2) 0 60) fun q50 => Option.bind (f_X11_reads q50 44) fun q52 => Option.bind (f_X11_number q52 (iI ((14 + 5 * k : Nat) : Int) + 3) 0 15) fun q54 => Option.bind (f_X11_reads q54 44) fun q56 => Option.bind (f_X11_number q56 (iI ((14 + 5 * k : Nat) : Int) + 4) 0 20) fun q58 => Option.bind (f_X11_reads q58 59) fun q60 => Option.bind (some (g_u2 q60 32 13 ((q60 32 13) + 1))) fun σ62 => some σ62 := by
    obtain ⟨p0, sh0, -, -, hR, -⟩ := h
    unfold f_X11_readsThing f_X11_readsThing_p18
    rw [w13, show (8 : Int32) = iI 8 by decide, if_neg (fun h => absurd ((iI_le (by omega) (by omega) (by omega) (by omega)).mp h) (by omega)), wants_t hR (by decide), obs, RS_well hR, obs]
    refine (if_neg (show ¬ iI 1 = 0 by decide)).trans ?_
    dsimp only
    rw [w13, show (14 : Int32) + 5 * iI (k : Int) = iI ((14 + 5 * k : Nat) : Int) by rw [show (14 : Int32) = iI 14 by decide, show (5 : Int32) = iI 5 by decide, iI_mul, iI_add]; rfl, obs, hc1, m_sortOf (by omega) (by omega), obs, iI_toInt (by omega) (by omega), if_pos (by omega), iI_clamp (by omega) (by omega), Int.toNat_natCast]
    dsimp only
    rw [obs, y1, obs]
  rw [st]
  exact l_measures hX hk hq
theorem thing_loop (hX : Ctx σ π n b) {H : Nat} : ∀ (d k f1 f2 : Nat) (τ ρ : St), k + d = 8 → d < f1 → d + 1 < f2 → QS σ π n b 5 H (5 * k) 0 H k 0 τ ρ → LkE σ π (fx F_X5_readThings_h2 z_X5_readThings_h2 f1 τ (iI k)) (fx F_X11_readsAll_h77 z_X11_readsAll_h77 f2 ρ) f_X11_readsAll_p101 (fun τ' ρ' => ∃ T, T ≤ 8 ∧ QS σ π n b 5 H (5 * T) 0 H T 0 τ' ρ') := by
  intro d
  induction d with
  | zero =>
    intro k f1 f2 τ ρ h1 h2 h3 h
    obtain ⟨f1, rfl⟩ : ∃ j, f1 = j + 1 := ⟨f1 - 1, by omega⟩
    obtain ⟨f2, rfl⟩ : ∃ j, f2 = j + 1 := ⟨f2 - 1, by omega⟩
    obtain rfl : k = 8 := by omega
    have w13 := (QS_6 h).2.1
    obtain ⟨p, sh, g1, g2, g3, g4, g5⟩ := id h
    have Tτ : Tp τ n b := ⟨hX.1.1, by rw [g2.1 1 (by decide) (by decide)]; exact hX.1.2.1, fun j hj => by rw [g2.1 13 (by decide) (by decide)]; exact hX.1.2.2 j hj⟩
    have kb := tk_b hX.1.bytes p
    have sb := srt_b (tk n b p)
    have t1 := hX.1.1
    obtain ⟨r, r1, r2⟩ := c_rank16 Tτ g1 g2.2.1
    rw [fx_s, fx_s]
    have cE : ∀ K : St → Int32 → Option (Int32 × St), F_X5_readThings_h2 K τ (iI ((8 : Nat) : Int)) = if srt (tk n b p) = 0 then some (iI 1, τ) else some (iI 0, g_u2 (g_u2 τ 3 1 (iI 3)) 3 2 (iI p)) := by
      intro K
      unfold F_X5_readThings_h2
      refine (if_neg (by decide)).trans ?_
      rw [r1, obs, obs]
      dsimp only
      rw [r2, J0]
      by_cases e : srt (tk n b p) = 0
      · rw [if_pos e, if_pos (by rw [e])]; rfl
      · rw [if_neg e, if_neg (fun h => e ((iI_eq (by omega) (by omega) (by omega) (by omega)).mp h)), if_pos (by decide)]
        unfold f_X5_faultHere
        rw [obs, obs, obs, g_u2_n2 (by decide), g2.2.1]
        exact if_pos (Or.inl rfl)
    rw [cE]
    have mE : F_X11_readsAll_h77 (fx F_X11_readsAll_h77 z_X11_readsAll_h77 f2) ρ = if srt (tk n b p) = 0 then f_X11_readsAll_p101 ρ else fx F_X11_readsAll_h77 z_X11_readsAll_h77 f2 (g_u2 ρ 26 12 (iI 3)) := by
      unfold F_X11_readsAll_h77
      rw [RS_well g3, obs]
      refine (if_neg (show ¬ iI 1 = 0 by decide)).trans ?_
      dsimp only
      rw [g3.2.2.2.2.1, m_sortOf (by omega) (by omega), obs]
      dsimp only
      by_cases e : srt (tk n b p) = 0
      · rw [if_pos e]
        exact if_pos (by rw [e]; decide)
      · rw [if_neg e, J0]
        refine (if_neg (fun h => absurd ((iI_le (by omega) (by omega) (by omega) (by omega)).mp h) (by omega))).trans ?_
        unfold f_X11_readsThing f_X11_readsThing_p18
        rw [w13, if_pos (show (8 : Int32) ≤ iI ((8 : Nat) : Int) by decide), ← J0, wants_f g3, obs]
        have wl : f_X11_isWell (g_u2 ρ 26 12 3) = some (iI 0, g_u2 ρ 26 12 3) := by
          unfold f_X11_isWell
          rw [g_u2_e]
          exact if_neg (by decide)
        rw [wl, obs]
        rfl
    rw [mE]
    by_cases e : srt (tk n b p) = 0
    · rw [if_pos e, if_pos e]
      exact ⟨τ, ρ, rfl, Or.inl ⟨rfl, 8, by omega, h⟩⟩
    · rw [if_neg e, if_neg e]
      have bd : Bad σ π (g_u2 (g_u2 τ 3 1 (iI 3)) 3 2 (iI p)) (g_u2 ρ 26 12 (iI 3)) := ⟨3, p, by omega, by omega, ⟨fun c d1 d2 => by rw [g_u2_n1 d1, g_u2_n1 d1]; exact g2.1 c d1 d2, by rw [g_u2_n2 (by decide), g_u2_e], g_u2_e _ _ _ _⟩, RS_bad g3 3⟩
      rw [bad_77 bd f2 (by omega)]
      exact ⟨_, _, rfl, Or.inr ⟨rfl, bd⟩⟩
  | succ d ih =>
    intro k f1 f2 τ ρ h1 h2 h3 h
    obtain ⟨f1, rfl⟩ : ∃ j, f1 = j + 1 := ⟨f1 - 1, by omega⟩
    obtain ⟨f2, rfl⟩ : ∃ j, f2 = j + 1 := ⟨f2 - 1, by omega⟩
    obtain ⟨p, sh, g1, g2, g3, g4, g5⟩ := id h
    have Tτ : Tp τ n b := ⟨hX.1.1, by rw [g2.1 1 (by decide) (by decide)]; exact hX.1.2.1, fun j hj => by rw [g2.1 13 (by decide) (by decide)]; exact hX.1.2.2 j hj⟩
    have kb := tk_b hX.1.bytes p
    have sb := srt_b (tk n b p)
    obtain ⟨r, r1, r2⟩ := c_rank16 Tτ g1 g2.2.1
    have e1 : iI (k : Int) + 1 = iI ((k + 1 : Nat) : Int) := by rw [show (1 : Int32) = iI 1 by decide, iI_add]; rfl
    rw [fx_s, fx_s]
    have cE : F_X5_readThings_h2 (fx F_X5_readThings_h2 z_X5_readThings_h2 f1) τ (iI k) = if srt (tk n b p) = 0 then some (iI 1, τ) else (Option.bind (f_X5_readMeasures (g_u2 (g_u2 τ 3 4 (τ 3 4 + 1)) 17 (11 + 5 * k) (iI (srt (tk n b p)))) (iI k)) fun q31 => if q31.1 = 0 then some (0, q31.2) else (Option.bind (f_X6_countThings 17 q31.2 (iI ((k + 1 : Nat) : Int))) fun q34 => fx F_X5_readThings_h2 z_X5_readThings_h2 f1 q34 (iI ((k + 1 : Nat) : Int)))) := by
      generalize fx F_X5_readThings_h2 z_X5_readThings_h2 f1 = K
      unfold F_X5_readThings_h2
      rw [show (8 : Int32) = iI 8 by decide, if_neg (fun h => absurd ((iI_lt (by omega) (by omega) (by omega) (by omega)).mp h) (by omega)), r1, obs, obs]
      dsimp only
      rw [r2, J0]
      by_cases e : srt (tk n b p) = 0
      · rw [if_pos e, if_pos (by rw [e])]; rfl
      · rw [if_neg e, if_neg (fun h => e ((iI_eq (by omega) (by omega) (by omega) (by omega)).mp h)), if_neg (fun h => absurd ((iI_eq (by omega) (by omega) (by omega) (by omega)).mp h) (by omega)), obs, e1]
        have R : RC (g_u2 τ 3 4 (τ 3 4 + 1) 17) sh := by rw [g_u2_n1 (by decide)]; exact g2.2.2
        have pt := d_putThing R (k := k) (w := 0) (by omega) (by omega) (iI (srt (tk n b p)))
        rw [show iI ((0 : Nat) : Int) = iI 0 from rfl] at pt
        rw [pt, obs]
        rfl
    rw [cE]
    have mE : F_X11_readsAll_h77 (fx F_X11_readsAll_h77 z_X11_readsAll_h77 f2) ρ = if srt (tk n b p) = 0 then f_X11_readsAll_p101 ρ else Option.bind (f_X11_readsThing ρ) fun q57 => fx F_X11_readsAll_h77 z_X11_readsAll_h77 f2 q57 := by
      generalize fx F_X11_readsAll_h77 z_X11_readsAll_h77 f2 = K
      unfold F_X11_readsAll_h77
      rw [RS_well g3, obs]
      refine (if_neg (show ¬ iI 1 = 0 by decide)).trans ?_
      dsimp only
      rw [g3.2.2.2.2.1, m_sortOf (by omega) (by omega), obs]
      dsimp only
      by_cases e : srt (tk n b p) = 0
      · rw [if_pos e]
        exact if_pos (by rw [e]; decide)
      · rw [if_neg e, J0]
        exact if_neg (fun h => absurd ((iI_le (by omega) (by omega) (by omega) (by omega)).mp h) (by omega))
    rw [mE]
    by_cases e : srt (tk n b p) = 0
    · rw [if_pos e, if_pos e]
      exact ⟨τ, ρ, rfl, Or.inl ⟨rfl, k, by omega, h⟩⟩
    · rw [if_neg e, if_neg e]
      obtain ⟨τ', ρ', y, x | x⟩ := l_thing hX (by omega) h g3.2.2.2.2.1 (srt_l e) (by omega)
      · rw [y, obs, x.1, obs]
        have e3 : (if (iI 1, τ').1 = 0 then some ((0 : Int32), (iI 1, τ').2) else (Option.bind (f_X6_countThings 17 (iI 1, τ').2 (iI ((k + 1 : Nat) : Int))) fun q34 => fx F_X5_readThings_h2 z_X5_readThings_h2 f1 q34 (iI ((k + 1 : Nat) : Int)))) = fx F_X5_readThings_h2 z_X5_readThings_h2 f1 (g_u2 τ' 17 76 (iI ((k + 1 : Nat) : Int))) (iI ((k + 1 : Nat) : Int)) := by
          refine (if_neg (show ¬ iI 1 = 0 by decide)).trans ?_
          rw [d_countT (by omega), obs]
        rw [e3]
        exact ih (k + 1) f1 f2 _ ρ' (by omega) (by omega) (by omega) x.2
      · rw [y, obs, x.1, obs, bad_77 x.2 f2 (by omega)]
        exact ⟨τ', ρ', rfl, Or.inr ⟨if_pos (show iI 0 = 0 by decide), x.2⟩⟩
end PV
