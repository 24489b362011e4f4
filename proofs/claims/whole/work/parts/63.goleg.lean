section QG
variable {σ τ : St} {sh : Nat → Int}
theorem VI_kl {s : VS} (h : VI s) {u : Int} (h1 : -1000 ≤ u) (h2 : u ≤ 1000) (hm : s.1 ≤ 400) : VI (klS u s) := by
  unfold VI klS at *
  split
  · simp only; omega
  · exact h
theorem kl_1 (u : Int) (s : VS) : (klS u s).1 = s.1 ∧ (klS u s).2.1 = s.2.1 ∧ (klS u s).2.2.1 = s.2.2.1 ∧ (klS u s).2.2.2.1 = s.2.2.2.1 := by
  unfold klS
  split <;> exact ⟨rfl, rfl, rfl, rfl⟩
theorem dep_b (V : Val sh) (x y : Int) : -20 ≤ depZ sh x y ∧ depZ sh x y ≤ 40 := by
  have h8 := V.2.2.1
  exact depF_b V (sh 76).toNat (by omega)
/-- what a minute of a leg makes of the class's voyage -/
theorem c_step (R : RC (σ 14) sh) (V : Val sh) {o : Nat → Bool} {ob : Int32} (hO : OutB ob o) {t dr : Int} (ht : 0 ≤ t ∧ t ≤ 99) (hdr : 0 ≤ dr ∧ dr ≤ 20) {g : Nat} (hg : (g : Int) < sh 77) (hm : mistZ sh g = -1000000) {c : Int} (hc1 : 0 ≤ c) (hc2 : c < 16) {f : Nat} {was : Bool} {l0 : Int} (hl1 : -100000 ≤ l0) (hl2 : l0 ≤ 100000) {lm : Nat → Int} {s : VS} (hI : VI s) (hp : VP s) (hf : f ≤ s.1) (hi : s.1 - f < 60) (hm2 : s.1 < 360)
    (h : CV τ σ t dr g lm ((s.1 - f : Nat) : Int) g (-1) s) (hW : CW τ sh ob g c was l0) (K : St → Int32 → Int32 → Int32 → Option St) :
    ∃ τ', CW τ' sh ob g c was l0 ∧ CV τ' σ t dr g lm ((s.1 - f + 1 : Nat) : Int) (if (vstep sh t dr o g c f was l0 s).2 = 1 then (g : Int) + 1 else g) (if (vstep sh t dr o g c f was l0 s).2 = 0 ∨ (vstep sh t dr o g c f was l0 s).2 = 1 then -1 else (vstep sh t dr o g c f was l0 s).2) (vstep sh t dr o g c f was l0 s).1 ∧
      F_X8_goLeg_h33 K τ (iI g) (iI c) (iI ((s.1 - f + 1 : Nat) : Int)) = if (vstep sh t dr o g c f was l0 s).2 = 0 then K τ' (iI g) (iI c) (iI ((s.1 - f + 2 : Nat) : Int)) else some τ' := by
  have h6 := V.1
  have E := eZ_b c.toNat (by omega)
  unfold VP at hp
  have bx : -2 ≤ nX c s ∧ nX c s ≤ 62 := by unfold nX; omega
  have by_ : -2 ≤ nY c s ∧ nY c s ≤ 62 := by unfold nY; omega
  have hgo := CV_go h c ((s.1 - f + 1 : Nat) : Int)
  obtain ⟨hF, ⟨h1, h2, h3, h4, h5, h6', h7, h8, h10, h11⟩, hT, hL, hG⟩ := id h
  obtain ⟨w2, w3, w4, w5, w6, w7, w8⟩ := id hW
  have h14 : τ 14 = σ 14 := hF 14 (by decide) (by decide) (by decide) (by decide) (by decide) (by decide)
  -- the state behind the minute
  obtain ⟨T, hTe⟩ : ∃ T, T = g_u2 (g_u2 (g_u2 (g_u2 (g_u2 (g_u2 (g_u2 τ 8 4 (iI (nX c s))) 8 5 (iI (nY c s))) 8 3 (iI ((s.1 + 1 : Nat) : Int))) 19 (s.1 + 1) (iI (nX c s))) 20 (s.1 + 1) (iI (nY c s))) 21 (s.1 + 1) (iI g)) 22 g (iI ((s.1 - f + 1 : Nat) : Int)) := ⟨_, rfl⟩
  rw [← hTe] at hgo
  have T12 : T 12 = τ 12 := by rw [hTe]; simp (disch := omega) only [g_u2_n1]
  have T14 : T 14 = σ 14 := by rw [hTe]; simp (disch := omega) only [g_u2_n1]; exact h14
  have start : F_X8_goLeg_h33 K τ (iI g) (iI c) (iI ((s.1 - f + 1 : Nat) : Int)) = (Option.bind (f_X1_isCharted T (T 8 4) (T 8 5)) fun q60 => if q60.1 = 0 then (Option.bind (some (g_u2 q60.2 8 8 (3))) fun σ81 => some σ81) else (Option.bind (f_X1_heightAt q60.2 ((q60.2 8 1) + (q60.2 8 3))) fun q63 => Option.bind (f_X1_depthAt q63.2 (q63.2 8 4) (q63.2 8 5)) fun q65 => Option.bind (some (q65.1 + q63.1)) fun y67 => Option.bind (f_X8_noteKeel q65.2 (y67 - (q65.2 8 2))) fun q69 => if (q69 8 2) ≤ y67 then (Option.bind (f_X9_hasCome q69 (iI ((s.1 - f + 1 : Nat) : Int)) (q69 8 4) (q69 8 5) (q63.1) (y67)) fun q72 => if q72.1 = 0 then (Option.bind (some (iI ((s.1 - f + 1 : Nat) : Int) + 1)) fun y75 => K q72.2 (iI g) (iI c) (y75)) else (Option.bind (some (g_u2 q72.2 8 7 (iI g + 1))) fun σ77 => some σ77)) else (Option.bind (some (g_u2 q69 8 8 (4))) fun σ79 => some σ79))) := by
    unfold F_X8_goLeg_h33
    rw [if_neg (by rw [iI_lit, iI_lt (by omega) (by omega) (by omega) (by omega)]; omega)]
    rw [e_eastOf hc1 hc2, obs, obs]
    rw [e_northOf (τ := g_u2 τ 8 4 (τ 8 4 + iI (eZ.getD c.toNat 0))) hc1 hc2, obs, obs, obs]
    have n1 : τ 8 4 + iI (eZ.getD c.toNat 0) = iI (nX c s) := by rw [h4, iI_add]; rfl
    have n2 : g_u2 τ 8 4 (iI (nX c s)) 8 5 + iI (nZ.getD c.toNat 0) = iI (nY c s) := by rw [g_u2_n2 (by decide), h5, iI_add]; rfl
    have n3 : g_u2 (g_u2 τ 8 4 (iI (nX c s))) 8 5 (iI (nY c s)) 8 3 + (1 : Int32) = iI ((s.1 + 1 : Nat) : Int) := by rw [g_u2_n2 (by decide), g_u2_n2 (by decide), h3, iI_lit, iI_add]; rfl
    simp only [n1, n2, n3]
    rw [e_noteTrack (m := s.1 + 1) (g_u2_e _ _ _ _) (by omega), obs, e_noteMinutes (by omega), obs]
    have a4 : g_u2 (g_u2 (g_u2 τ 8 4 (iI (nX c s))) 8 5 (iI (nY c s))) 8 3 (iI ((s.1 + 1 : Nat) : Int)) 8 4 = iI (nX c s) := by simp (disch := omega) only [g_u2_n2, g_u2_e]
    have a5 : g_u2 (g_u2 (g_u2 τ 8 4 (iI (nX c s))) 8 5 (iI (nY c s))) 8 3 (iI ((s.1 + 1 : Nat) : Int)) 8 5 = iI (nY c s) := by simp (disch := omega) only [g_u2_n2, g_u2_e]
    rw [a4, a5, ← hTe]
  obtain ⟨gF, ⟨g1, g2, g3, g4, g5, g6, g7, g8, g10, g11⟩, gT, gL, gG⟩ := id hgo
  have k4 : T 8 4 = iI (nX c s) := by rw [g4]; unfold goS; simp only [fu_e]
  have k5 : T 8 5 = iI (nY c s) := by rw [g5]; unfold goS; simp only [fu_e]
  have k3 : T 8 3 = iI ((s.1 + 1 : Nat) : Int) := g3
  have hIg : VI (goS g c s) := hI
  have tb := (tide_rng V (m := t + ((s.1 + 1 : Nat) : Int)) (by omega) (by omega)).2
  have db := dep_b V (nX c s) (nY c s)
  have hu : -1000 ≤ wtZ sh t c s - dr ∧ wtZ sh t c s - dr ≤ 1000 := by unfold wtZ; omega
  have hkl := CV_kl hgo (wtZ sh t c s - dr)
  have nk : f_X8_noteKeel T (iI (wtZ sh t c s - dr)) = some (nkS T (wtZ sh t c s - dr) (goS g c s)) := e_noteKeel g3 g10 g11 hIg hu.1 hu.2
  have N12 : nkS T (wtZ sh t c s - dr) (goS g c s) 12 = τ 12 := by
    unfold nkS
    split
    · simp (disch := omega) only [g_u2_n1]; exact T12
    · exact T12
  have N14 : nkS T (wtZ sh t c s - dr) (goS g c s) 14 = σ 14 := by
    unfold nkS
    split
    · simp (disch := omega) only [g_u2_n1]; exact T14
    · exact T14
  generalize nkS T (wtZ sh t c s - dr) (goS g c s) = N at *
  rw [start, k4, k5, e_isCharted (by omega) (by omega) (by omega) (by omega), obs]
  unfold vstep
  cases hch : chZ (nX c s) (nY c s)
  · refine ⟨g_u2 T 8 8 (iI 3), ?_, ?_, ?_⟩
    · unfold CW; rw [g_u2_n1 (by decide), T12]; exact hW
    · have := CV_en hgo 3
      simp only [if_pos]
      exact this
    · simp only [if_pos, bI_f, iI_lit, obs]
      rfl
  · have n10 : ¬ bI true = (0 : Int32) := by decide
    have n0 : ¬ (true = false) := by decide
    rw [if_neg n10, if_neg n0]
    have wd : wtZ sh t c s = depZ sh (nX c s) (nY c s) + tideZ sh (t + ((s.1 + 1 : Nat) : Int)) := rfl
    obtain ⟨jF, ⟨j1, j2, j3, j4, j5, j6, j7, j8, j10, j11⟩, jT, jL, jG⟩ := id hkl
    have kl := kl_1 (wtZ sh t c s - dr) (goS g c s)
    have q4 : N 8 4 = iI (nX c s) := by rw [j4, kl.1, kl.2.1]; unfold goS; simp only [fu_e]
    have q5 : N 8 5 = iI (nY c s) := by rw [j5, kl.1, kl.2.2.1]; unfold goS; simp only [fu_e]
    have hc := e_hasCome (τ := N) (r := σ 14) R V N14 hO hg hm hc1 hc2 (by rw [N12]; exact w2) (by rw [N12]; exact w3) (by rw [N12]; exact w4) (by rw [N12]; exact w5) (by rw [N12]; exact w6) (by rw [N12]; exact w7) (by rw [N12]; exact w8) hl1 hl2 (i := ((s.1 - f + 1 : Nat) : Int)) (w := wtZ sh t c s) (by omega) (by omega) (by omega) (by omega) (x := nX c s) (y := nY c s) (h := tideZ sh (t + ((s.1 + 1 : Nat) : Int))) (by omega) (by omega) (by omega) (by omega) (by omega) (by omega)
    rw [show (((s.1 - f + 1 : Nat) : Int)) = ((s.1 + 1 : Nat) : Int) - f by omega] at hc
    have e1 : T 8 1 + T 8 3 = iI (t + ((s.1 + 1 : Nat) : Int)) := by rw [g1, k3, iI_add]
    have ex : (Option.bind (f_X1_heightAt T (T 8 1 + T 8 3)) fun q63 => Option.bind (f_X1_depthAt q63.2 (q63.2 8 4) (q63.2 8 5)) fun q65 => Option.bind (some (q65.1 + q63.1)) fun y67 => Option.bind (f_X8_noteKeel q65.2 (y67 - (q65.2 8 2))) fun q69 => if (q69 8 2) ≤ y67 then (Option.bind (f_X9_hasCome q69 (iI ((s.1 - f + 1 : Nat) : Int)) (q69 8 4) (q69 8 5) (q63.1) (y67)) fun q72 => if q72.1 = 0 then (Option.bind (some (iI ((s.1 - f + 1 : Nat) : Int) + 1)) fun y75 => K q72.2 (iI g) (iI c) (y75)) else (Option.bind (some (g_u2 q72.2 8 7 (iI g + 1))) fun σ77 => some σ77)) else (Option.bind (some (g_u2 q69 8 8 (4))) fun σ79 => some σ79)) = if dr ≤ wtZ sh t c s then (if comesZ sh o g c (((s.1 + 1 : Nat) : Int) - f) (nX c s) (nY c s) (tideZ sh (t + ((s.1 + 1 : Nat) : Int))) (wtZ sh t c s) was l0 = false then K N (iI g) (iI c) (iI ((s.1 - f + 2 : Nat) : Int)) else some (g_u2 N 8 7 (iI ((g : Int) + 1)))) else some (g_u2 N 8 8 (iI 4)) := by
      rw [e1, q_heightAt R V T14 (by omega) (by omega), obs]
      simp only [k4, k5]
      rw [q_depthAt R V T14 (by omega) (by omega) (by omega) (by omega), obs]
      simp only [obs, iI_add, g2]
      rw [← wd, iI_sub, nk, obs]
      simp only [j2, q4, q5]
      rw [show (((s.1 - f + 1 : Nat) : Int)) = ((s.1 + 1 : Nat) : Int) - f by omega, hc, obs]
      simp only [obs, iI_lit, iI_add, bI_0]
      rw [show ((s.1 - f + 2 : Nat) : Int) = ((s.1 + 1 : Nat) : Int) - f + 1 by omega]
      by_cases p : dr ≤ wtZ sh t c s
      · rw [if_pos p, if_pos ((iI_le (by omega) (by omega) (by omega) (by omega)).mpr p)]
      · rw [if_neg p, if_neg (fun h => p ((iI_le (by omega) (by omega) (by omega) (by omega)).mp h))]
    rw [ex]
    by_cases p : dr ≤ wtZ sh t c s
    · rw [if_pos p, if_neg (show ¬ wtZ sh t c s < dr by omega)]
      cases hcm : comesZ sh o g c (((s.1 + 1 : Nat) : Int) - f) (nX c s) (nY c s) (tideZ sh (t + ((s.1 + 1 : Nat) : Int))) (wtZ sh t c s) was l0
      · refine ⟨N, ?_, ?_, ?_⟩
        · unfold CW; rw [N12]; exact hW
        · exact hkl
        · rfl
      · refine ⟨g_u2 N 8 7 (iI ((g : Int) + 1)), ?_, ?_, ?_⟩
        · unfold CW; rw [g_u2_n1 (by decide), N12]; exact hW
        · exact CV_dn hkl ((g : Int) + 1)
        · rfl
    · rw [if_neg p, if_pos (show wtZ sh t c s < dr by omega)]
      refine ⟨g_u2 N 8 8 (iI 4), ?_, ?_, ?_⟩
      · unfold CW; rw [g_u2_n1 (by decide), N12]; exact hW
      · exact CV_en hkl 4
      · rfl
end QG
