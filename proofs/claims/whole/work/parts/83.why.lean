section WY
variable {σ τ : St} {sh : Nat → Int}
/-- the ship is near the chart -/
def VW (s : VS) : Prop := -100 ≤ s.2.1 s.1 ∧ s.2.1 s.1 ≤ 100 ∧ -100 ≤ s.2.2.1 s.1 ∧ s.2.2.1 s.1 ≤ 100
theorem VP_W {s : VS} (h : VP s) : VW s := by unfold VP at h; unfold VW; omega
theorem vstep_w {t dr : Int} {o : Nat → Bool} {g : Nat} {c : Int} (hc : 0 ≤ c ∧ c < 16) {f : Nat} {was : Bool} {l0 : Int} {s : VS} (hp : VP s) : VW (vstep sh t dr o g c f was l0 s).1 := by
  have E := eZ_b c.toNat (by omega)
  have kl := kl_1 (wtZ sh t c s - dr) (goS g c s)
  have a : VW (goS g c s) := by
    have gx : (goS g c s).2.1 (s.1 + 1) = nX c s := fu_e _ _ _
    have gy : (goS g c s).2.2.1 (s.1 + 1) = nY c s := fu_e _ _ _
    unfold VP at hp
    unfold VW
    rw [show (goS g c s).1 = s.1 + 1 from rfl, gx, gy]
    unfold nX nY
    omega
  have b : VW (klS (wtZ sh t c s - dr) (goS g c s)) := by
    unfold VW
    rw [kl.1, kl.2.1, kl.2.2.1]
    exact a
  unfold vstep
  split
  · exact a
  · split
    · exact b
    · split
      · exact b
      · exact b
theorem vleg_w (V : Val sh) {t dr : Int} (ht : 0 ≤ t ∧ t ≤ 99) (hdr : 0 ≤ dr ∧ dr ≤ 20) {o : Nat → Bool} {g : Nat} {c : Int} (hc : 0 ≤ c ∧ c < 16) {f : Nat} {was : Bool} {l0 : Int} : ∀ (n : Nat) (s : VS), VI s → VP s → s.1 + n ≤ 360 → VW (vleg sh t dr o g c f was l0 n s).1 := by
  intro n
  induction n with
  | zero => intro s hI hP hm; exact VP_W hP
  | succ n ih =>
    intro s hI hP hm
    have st := vstep_p V ht hdr (o := o) (g := g) (c := c) (f := f) (was := was) (l0 := l0) hI (by omega)
    unfold vleg
    by_cases p : (vstep sh t dr o g c f was l0 s).2 = 0
    · rw [if_pos p]
      exact ih _ st.1 (st.2.2.1 (Or.inl p)) (by omega)
    · rw [if_neg p]
      exact vstep_w hc hP
theorem vlegs_w (V : Val sh) {cf : Nat → Int} (hcf : ∀ g : Nat, (g : Int) < sh 77 → 0 ≤ cf g ∧ cf g < 16) {t dr : Int} (ht : 0 ≤ t ∧ t ≤ 99) (hdr : 0 ≤ dr ∧ dr ≤ 20) {o : Nat → Bool} : ∀ (n g : Nat) (s : VS) (lm : Nat → Int), (g : Int) + n ≤ sh 77 → VI s → VP s → s.1 ≤ 60 * g → VW (vlegs sh cf t dr o n g s lm).1 := by
  have h6 := V.1
  intro n
  induction n with
  | zero => intro g s lm hg hI hP hm; exact VP_W hP
  | succ n ih =>
    intro g s lm hg hI hP hm
    unfold vlegs
    by_cases p : mistZ sh g = -1000000
    · rw [if_pos p]
      have vp := vleg_p V ht hdr (o := o) (g := g) (c := cf g) (f := s.1) (was := wasZ sh o g (s.2.1 s.1) (s.2.2.1 s.1) (tideZ sh (t + s.1))) (l0 := lwZ sh g (s.2.1 s.1) (s.2.2.1 s.1) (tideZ sh (t + s.1))) 60 s hI hP (by omega)
      have vw := vleg_w V ht hdr (o := o) (g := g) (c := cf g) (hcf g (by omega)) (f := s.1) (was := wasZ sh o g (s.2.1 s.1) (s.2.2.1 s.1) (tideZ sh (t + s.1))) (l0 := lwZ sh g (s.2.1 s.1) (s.2.2.1 s.1) (tideZ sh (t + s.1))) 60 s hI hP (by omega)
      simp only
      generalize vleg sh t dr o g (cf g) s.1 (wasZ sh o g (s.2.1 s.1) (s.2.2.1 s.1) (tideZ sh (t + s.1))) (lwZ sh g (s.2.1 s.1) (s.2.2.1 s.1) (tideZ sh (t + s.1))) 60 s = q at *
      by_cases e : q.2 = 1
      · rw [if_pos e]
        exact ih (g + 1) q.1 _ (by omega) vp.1 (vp.2.2.1 e) (by omega)
      · rw [if_neg e]
        exact vw
    · rw [if_neg p]
      exact VP_W hP
/-- a leg that ended by its time or by the ground was not mistaken -/
theorem vlegs_m (V : Val sh) {cf : Nat → Int} {t dr : Int} {o : Nat → Bool} : ∀ (n g : Nat) (s : VS) (lm : Nat → Int), ((vlegs sh cf t dr o n g s lm).2.2.1 = 3 ∨ (vlegs sh cf t dr o n g s lm).2.2.1 = 4 ∨ (vlegs sh cf t dr o n g s lm).2.2.1 = 5) → mistZ sh (vlegs sh cf t dr o n g s lm).2.1 = -1000000 := by
  intro n
  induction n with
  | zero => intro g s lm h; unfold vlegs at h; simp only at h; omega
  | succ n ih =>
    intro g s lm
    unfold vlegs
    by_cases p : mistZ sh g = -1000000
    · rw [if_pos p]
      simp only
      split
      · exact ih _ _ _
      · intro _; exact p
    · rw [if_neg p]
      intro h
      simp only at h
      omega
theorem e_gh_loop (R : RC (τ 14) sh) (V : Val sh) : ∀ (d k f : Nat), (k : Int) + d = sh 75 → d < f → fx F_X1_greatestHeight_h4 z_X1_greatestHeight_h4 f τ (iI (ghF sh k)) (iI k) = some (iI (ghZ sh), τ) := by
  have h5 := V.2.1
  intro d
  induction d with
  | zero =>
    intro k f h1 h2
    obtain ⟨f, rfl⟩ : ∃ j, f = j + 1 := ⟨f - 1, by omega⟩
    have e : k = (sh 75).toNat := by omega
    rw [fx_s]
    generalize fx F_X1_greatestHeight_h4 z_X1_greatestHeight_h4 f = K
    unfold F_X1_greatestHeight_h4 ghZ
    rw [e_heightCount R, obs]
    dsimp only
    rw [if_pos ((iI_le (by omega) (by omega) (by omega) (by omega)).mpr (by omega)), e]
  | succ d ih =>
    intro k f h1 h2
    obtain ⟨f, rfl⟩ : ∃ j, f = j + 1 := ⟨f - 1, by omega⟩
    have b := gh_b V k (by omega)
    have hb := V.2.2.2.2.2.1 k (by omega)
    have i1 := ih (k + 1) f (by omega) (by omega)
    rw [fx_s]
    generalize fx F_X1_greatestHeight_h4 z_X1_greatestHeight_h4 f = K at *
    unfold F_X1_greatestHeight_h4
    rw [e_heightCount R, obs]
    dsimp only
    rw [if_neg (show ¬ iI (sh 75) ≤ iI k by rw [iI_le (by omega) (by omega) (by omega) (by omega)]; omega), e_heightCell R (by omega) (by omega), obs, obs, obs, Int.toNat_natCast, show (1 : Int32) = iI 1 by decide, iI_add, ← i1, show ((k + 1 : Nat) : Int) = (k : Int) + 1 by omega]
    rw [show ghF sh (k + 1) = if sh (5 + k) ≤ ghF sh k then ghF sh k else sh (5 + k) from rfl]
    dsimp only
    by_cases p : sh (5 + k) ≤ ghF sh k
    · rw [if_pos p, if_neg (show ¬ iI (ghF sh k) < iI (sh (5 + k)) by rw [iI_lt (by omega) (by omega) (by omega) (by omega)]; omega)]
    · rw [if_neg p, if_pos (show iI (ghF sh k) < iI (sh (5 + k)) by rw [iI_lt (by omega) (by omega) (by omega) (by omega)]; omega)]
theorem e_greatestHeight (R : RC (τ 14) sh) (V : Val sh) : f_X1_greatestHeight τ = some (iI (ghZ sh), τ) := by
  have h5 := V.2.1
  exact e_gh_loop R V (sh 75).toNat 0 FU (by omega) (by rw [FU_val]; omega)
/-- the class's causes -/
def CA (τ σ : St) (ca : List (Int × Int)) : Prop := (∀ k, k ≠ 9 → k ≠ 23 → k ≠ 24 → τ k = σ k) ∧ τ 9 6 = iI ca.length ∧ ∀ j, j < ca.length → τ 23 j = iI (ca.getD j (0, 0)).1 ∧ τ 24 j = iI (ca.getD j (0, 0)).2
theorem k_add {ca : List (Int × Int)} (h : CA τ σ ca) (hl : ca.length < 4) (a b : Int) : ∃ τ', f_X0_addCause τ (iI a) (iI b) = some τ' ∧ CA τ' σ (ca ++ [(a, b)]) := by
  obtain ⟨hF, hc, hd⟩ := h
  refine ⟨g_u2 (g_u2 (g_u2 τ 23 ca.length (iI a)) 24 ca.length (iI b)) 9 6 (iI ((ca.length : Int) + 1)), ?_, ?_, ?_, ?_⟩
  · unfold f_X0_addCause
    have e1 : g_u2 τ 23 ca.length (iI a) 9 6 = iI ca.length := by rw [g_u2_n1 (by decide), hc]
    have e2 : g_u2 (g_u2 τ 23 ca.length (iI a)) 24 ca.length (iI b) 9 6 = iI ca.length := by rw [g_u2_n1 (by decide), e1]
    simp (disch := omega) only [hc, e1, e2, obs, iI_lit, iI_add, iI_sub, iI_mul, iI_neg, iI_lt, iI_le, iI_eq, iI_divp, iI_toInt, iI_clamp, bI_0, bI_1, b_tf, Int.toNat_natCast, Int.reduceToNat, Int.toNat_zero, Int.toNat_one, modf, if_pos, if_neg, reduceIte, reduceCtorEq]
  · intro k k1 k2 k3
    rw [g_u2_n1 k1, g_u2_n1 k3, g_u2_n1 k2, hF k k1 k2 k3]
  · rw [g_u2_e, List.length_append]; rfl
  · intro j hj
    rw [List.length_append, List.length_singleton] at hj
    by_cases e : j = ca.length
    · rw [e, getD_last, g_u2_n1 (by decide), g_u2_n1 (by decide), g_u2_e, g_u2_n1 (by decide), g_u2_e]
      exact ⟨rfl, rfl⟩
    · rw [getD_front _ _ (by omega), g_u2_n1 (by decide), g_u2_n1 (by decide), g_u2_n2 e, g_u2_n1 (by decide), g_u2_n2 e, g_u2_n1 (by decide)]
      exact hd j (by omega)
end WY
