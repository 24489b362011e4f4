section QL
variable {σ τ : St} {sh : Nat → Int}
theorem vstep_p (V : Val sh) {t dr : Int} (ht : 0 ≤ t ∧ t ≤ 99) (hdr : 0 ≤ dr ∧ dr ≤ 20) {o : Nat → Bool} {g : Nat} {c : Int} {f : Nat} {was : Bool} {l0 : Int} {s : VS} (hI : VI s) (hm : s.1 < 360) :
    VI (vstep sh t dr o g c f was l0 s).1 ∧ (vstep sh t dr o g c f was l0 s).1.1 = s.1 + 1 ∧ ((vstep sh t dr o g c f was l0 s).2 = 0 ∨ (vstep sh t dr o g c f was l0 s).2 = 1 → VP (vstep sh t dr o g c f was l0 s).1) ∧ ((vstep sh t dr o g c f was l0 s).2 = 0 ∨ (vstep sh t dr o g c f was l0 s).2 = 1 ∨ (vstep sh t dr o g c f was l0 s).2 = 3 ∨ (vstep sh t dr o g c f was l0 s).2 = 4) := by
  have tb := (tide_rng V (m := t + ((s.1 + 1 : Nat) : Int)) (by omega) (by omega)).2
  have db := dep_b V (nX c s) (nY c s)
  have hu : -1000 ≤ wtZ sh t c s - dr ∧ wtZ sh t c s - dr ≤ 1000 := by unfold wtZ; omega
  have kI : VI (klS (wtZ sh t c s - dr) (goS g c s)) := VI_kl (s := goS g c s) hI hu.1 hu.2 (by show s.1 + 1 ≤ 400; omega)
  have kl := kl_1 (wtZ sh t c s - dr) (goS g c s)
  have kP : chZ (nX c s) (nY c s) = true → VP (klS (wtZ sh t c s - dr) (goS g c s)) := by
    intro h
    unfold chZ at h
    rw [decide_eq_true_eq] at h
    unfold VP
    rw [kl.1, kl.2.1, kl.2.2.1]
    unfold goS
    simp only [fu_e]
    omega
  unfold vstep
  cases hc : chZ (nX c s) (nY c s)
  · simp only [if_pos]
    exact ⟨hI, rfl, fun h => by rcases h with h | h <;> exact absurd h (by decide), by simp⟩
  · simp only [Bool.true_eq_false, if_false]
    have kp := kP hc
    split
    · exact ⟨kI, kl.1, fun _ => kp, by omega⟩
    · split
      · exact ⟨kI, kl.1, fun _ => kp, by omega⟩
      · exact ⟨kI, kl.1, fun _ => kp, by omega⟩
theorem vleg_p (V : Val sh) {t dr : Int} (ht : 0 ≤ t ∧ t ≤ 99) (hdr : 0 ≤ dr ∧ dr ≤ 20) {o : Nat → Bool} {g : Nat} {c : Int} {f : Nat} {was : Bool} {l0 : Int} : ∀ (n : Nat) (s : VS), VI s → VP s → s.1 + n ≤ 360 → VI (vleg sh t dr o g c f was l0 n s).1 ∧ (s.1 ≤ (vleg sh t dr o g c f was l0 n s).1.1 ∧ (vleg sh t dr o g c f was l0 n s).1.1 ≤ s.1 + n) ∧ ((vleg sh t dr o g c f was l0 n s).2 = 1 → VP (vleg sh t dr o g c f was l0 n s).1) ∧ ((vleg sh t dr o g c f was l0 n s).2 = 1 ∨ (vleg sh t dr o g c f was l0 n s).2 = 3 ∨ (vleg sh t dr o g c f was l0 n s).2 = 4 ∨ (vleg sh t dr o g c f was l0 n s).2 = 5) := by
  intro n
  induction n with
  | zero => intro s hI hP hm; unfold vleg; exact ⟨hI, by simp only; omega, fun h => absurd h (by show ¬ (5 : Int) = 1; decide), Or.inr (Or.inr (Or.inr rfl))⟩
  | succ n ih =>
    intro s hI hP hm
    have st := vstep_p V ht hdr (o := o) (g := g) (c := c) (f := f) (was := was) (l0 := l0) hI (by omega)
    unfold vleg
    by_cases p : (vstep sh t dr o g c f was l0 s).2 = 0
    · rw [if_pos p]
      have i1 := ih _ st.1 (st.2.2.1 (Or.inl p)) (by omega)
      exact ⟨i1.1, by omega, i1.2.2.1, i1.2.2.2⟩
    · rw [if_neg p]
      exact ⟨st.1, by omega, fun h => st.2.2.1 (Or.inr h), by omega⟩
theorem c_leg (R : RC (σ 14) sh) (V : Val sh) {o : Nat → Bool} {ob : Int32} (hO : OutB ob o) {t dr : Int} (ht : 0 ≤ t ∧ t ≤ 99) (hdr : 0 ≤ dr ∧ dr ≤ 20) {g : Nat} (hg : (g : Int) < sh 77) (hm : mistZ sh g = -1000000) {c : Int} (hc1 : 0 ≤ c) (hc2 : c < 16) {f : Nat} {was : Bool} {l0 : Int} (hl1 : -100000 ≤ l0) (hl2 : l0 ≤ 100000) {lm : Nat → Int} (hf6 : f ≤ 300) :
    ∀ (n fu : Nat) (s : VS) (τ : St), n < fu → VI s → VP s → f ≤ s.1 → s.1 - f + n = 60 → CV τ σ t dr g lm ((s.1 - f : Nat) : Int) g (-1) s → CW τ sh ob g c was l0 →
    ∃ τ', CW τ' sh ob g c was l0 ∧ fx F_X8_goLeg_h33 z_X8_goLeg_h33 fu τ (iI g) (iI c) (iI ((s.1 - f + 1 : Nat) : Int)) = some τ' ∧ CV τ' σ t dr g lm (((vleg sh t dr o g c f was l0 n s).1.1 - f : Nat) : Int) (if (vleg sh t dr o g c f was l0 n s).2 = 1 then (g : Int) + 1 else g) (if (vleg sh t dr o g c f was l0 n s).2 = 1 then -1 else (vleg sh t dr o g c f was l0 n s).2) (vleg sh t dr o g c f was l0 n s).1 := by
  intro n
  induction n with
  | zero =>
    intro fu s τ hn hI hp hf hi h hW
    obtain ⟨fu, rfl⟩ : ∃ k, fu = k + 1 := ⟨fu - 1, by omega⟩
    refine ⟨g_u2 τ 8 8 (iI 5), ?_, ?_, ?_⟩
    · unfold CW; rw [g_u2_n1 (by decide)]; exact hW
    · rw [fx_s]
      generalize fx F_X8_goLeg_h33 z_X8_goLeg_h33 fu = K
      unfold F_X8_goLeg_h33
      rw [if_pos (by rw [iI_lit, iI_lt (by omega) (by omega) (by omega) (by omega)]; omega), obs, iI_lit]
    · unfold vleg
      exact CV_en h 5
  | succ n ih =>
    intro fu s τ hn hI hp hf hi h hW
    obtain ⟨fu, rfl⟩ : ∃ k, fu = k + 1 := ⟨fu - 1, by omega⟩
    rw [fx_s]
    have st := vstep_p V ht hdr (o := o) (g := g) (c := c) (f := f) (was := was) (l0 := l0) hI (by omega)
    obtain ⟨τ', w1, w2, w3⟩ := c_step R V hO ht hdr hg hm hc1 hc2 hl1 hl2 hI hp hf (by omega) (by omega) h hW (fx F_X8_goLeg_h33 z_X8_goLeg_h33 fu)
    rw [w3]
    unfold vleg
    by_cases p : (vstep sh t dr o g c f was l0 s).2 = 0
    · rw [if_pos p, if_pos p]
      rw [if_neg (by omega), if_pos (Or.inl p)] at w2
      have ea : s.1 - f + 1 = (vstep sh t dr o g c f was l0 s).1.1 - f := by omega
      have eb : s.1 - f + 2 = (vstep sh t dr o g c f was l0 s).1.1 - f + 1 := by omega
      rw [ea] at w2
      rw [eb]
      exact ih fu _ τ' (by omega) st.1 (st.2.2.1 (Or.inl p)) (by omega) (by omega) w2 w1
    · rw [if_neg p, if_neg p]
      refine ⟨τ', w1, rfl, ?_⟩
      have ea : s.1 - f + 1 = (vstep sh t dr o g c f was l0 s).1.1 - f := by omega
      rw [ea] at w2
      by_cases q : (vstep sh t dr o g c f was l0 s).2 = 1
      · rw [if_pos q, if_pos (Or.inr q)] at w2
        rw [if_pos q, if_pos q]
        exact w2
      · rw [if_neg q, if_neg (by omega)] at w2
        rw [if_neg q, if_neg q]
        exact w2
end QL
