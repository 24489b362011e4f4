def hbZ (sh : Nat → Int) (s : VS) : Int := (s.2.1 s.1 - sh 3) * (s.2.1 s.1 - sh 3) + (s.2.2.1 s.1 - sh 4) * (s.2.2.1 s.1 - sh 4)
abbrev VQ : Type := VS × Nat × Int × (Nat → Int)
/-- the ending, as the class numbers it -/
def enZ (sh : Nat → Int) (q : VQ) : Int := if q.2.2.1 = 1 then (if hbZ sh q.1 ≤ 9 then 0 else 10) else q.2.2.1
def vs0 (sh : Nat → Int) : VS := (0, fun _ => sh 1, fun _ => sh 2, fun _ => -1000000, -1000000, -1000000)
/-- a whole voyage -/
def voy (sh : Nat → Int) (cf : Nat → Int) (t dr : Int) (o : Nat → Bool) : VQ := vlegs sh cf t dr o (sh 77).toNat 0 (vs0 sh) (fun _ => 0)
section QZ
variable {σ τ : St} {sh : Nat → Int}
/-- the class's voyage, made -/
def CF (τ σ : St) (sh : Nat → Int) (t dr : Int) (ob : Int32) (q : VQ) : Prop :=
  (∀ k, k ≠ 8 → k ≠ 12 → k ≠ 19 → k ≠ 20 → k ≠ 21 → k ≠ 22 → τ k = σ k) ∧
  (τ 8 1 = iI t ∧ τ 8 2 = iI dr ∧ τ 8 3 = iI q.1.1 ∧ τ 8 4 = iI (q.1.2.1 q.1.1) ∧ τ 8 5 = iI (q.1.2.2.1 q.1.1) ∧ τ 8 6 = iI (if q.2.2.1 = 1 then (q.2.1 : Int) else q.2.1 + 1) ∧ τ 8 7 = iI q.2.1 ∧ τ 8 8 = iI (enZ sh q) ∧ τ 8 10 = iI q.1.2.2.2.2.1 ∧ τ 8 11 = iI q.1.2.2.2.2.2 ∧ (q.2.2.1 = 9 → τ 8 9 = iI (mistZ sh q.2.1))) ∧
  (∀ j, j ≤ q.1.1 → τ 19 j = iI (q.1.2.1 j) ∧ τ 20 j = iI (q.1.2.2.1 j) ∧ τ 21 j = iI (q.1.2.2.2.1 j)) ∧ (∀ j : Nat, (j : Int) < (if q.2.2.1 = 1 then (q.2.1 : Int) else q.2.1 + 1) → τ 22 j = iI (q.2.2.2 j)) ∧
  (q.2.2.1 ≠ 1 → τ 12 2 = ob ∧ τ 12 3 = iI (tL sh q.2.1 1) ∧ τ 12 4 = iI (tL sh q.2.1 2) ∧ τ 12 5 = iI (tL sh q.2.1 3))
theorem CV_CH {t dr : Int} {g : Nat} {lm : Nat → Int} {i : Int} {s : VS} (h : CV τ σ t dr g lm i ((g : Int) + 1) (-1) s) : CH τ σ t dr (g + 1) (fu lm g i) s := by
  obtain ⟨hF, ⟨h1, h2, h3, h4, h5, h6, h7, h8, h10, h11⟩, hT, hL, hG⟩ := h
  refine ⟨hF, ⟨h1, h2, h3, h4, h5, h6, h7, h8, h10, h11⟩, hT, fun j hj => ?_⟩
  by_cases e : j = g
  · rw [e, fu_e]; exact hG
  · rw [fu_n e]; exact hL j (by omega)
theorem CV_CE {ob : Int32} {t dr : Int} {g : Nat} {lm : Nat → Int} {i e : Int} {s : VS} (he : e ≠ 1) (h : CV τ σ t dr g lm i g e s) (h9 : e = 9 → τ 8 9 = iI (mistZ sh g)) (hw : τ 12 2 = ob ∧ τ 12 3 = iI (tL sh g 1) ∧ τ 12 4 = iI (tL sh g 2) ∧ τ 12 5 = iI (tL sh g 3)) : CE τ σ sh t dr ob g e (fu lm g i) s := by
  obtain ⟨hF, ⟨h1, h2, h3, h4, h5, h6, h7, h8, h10, h11⟩, hT, hL, hG⟩ := h
  unfold CE
  rw [if_neg he, if_neg he]
  refine ⟨hF, ⟨h1, h2, h3, h4, h5, h6, h7, h8, h10, h11, h9⟩, hT, fun j hj => ?_, fun _ => hw⟩
  by_cases e : j = g
  · rw [e, fu_e]; exact hG
  · rw [fu_n e]; exact hL j (by omega)
/-- the loop sees that it is at an end -/
theorem h81_end (R : RC (σ 14) sh) (V : Val sh) {ob : Int32} {t dr : Int} {g : Nat} {lm : Nat → Int} {i e : Int} {s : VS} (he : 3 ≤ e ∧ e ≤ 9) (h : CV τ σ t dr g lm i g e s) (K : St → Int32 → Int32 → Int32 → Int32 → Option St) (x4 x5 x6 : Int32) : F_X8_make_h81 K τ ob x4 x5 x6 = f_X8_make_p188 τ := by
  obtain ⟨hF, ⟨h1, h2, h3, h4, h5, h6, h7, h8, h10, h11⟩, hT, hL, hG⟩ := h
  have h14 : τ 14 = σ 14 := hF 14 (by decide) (by decide) (by decide) (by decide) (by decide) (by decide)
  unfold F_X8_make_h81
  rw [q_legCount R h14, obs]
  simp only [h8]
  rw [if_neg (show ¬ iI e = -1 by rw [show (-1 : Int32) = iI (-1) by decide, iI_eq (by omega) (by omega) (by omega) (by omega)]; omega)]
  split <;> rfl
theorem c_legs (R : RC (σ 14) sh) (V : Val sh) {o : Nat → Bool} {ob : Int32} (hO : OutB ob o) {t dr : Int} (ht : 0 ≤ t ∧ t ≤ 99) (hdr : 0 ≤ dr ∧ dr ≤ 20) {og oc : Int} (hog : -1 ≤ og ∧ og < 6) (hoc : 0 ≤ oc ∧ oc < 16) :
    ∀ (n fu g : Nat) (s : VS) (lm : Nat → Int) (τ : St), n < fu → (g : Int) + n = sh 77 → VI s → VP s → s.1 ≤ 60 * g → CH τ σ t dr g lm s →
    ∃ τ', fx F_X8_make_h81 z_X8_make_h81 fu τ ob (iI og) (iI oc) (iI g) = f_X8_make_p188 τ' ∧ CE τ' σ sh t dr ob (vlegs sh (fun g => if (g : Int) = og then oc else tL sh g 0) t dr o n g s lm).2.1 (vlegs sh (fun g => if (g : Int) = og then oc else tL sh g 0) t dr o n g s lm).2.2.1 (vlegs sh (fun g => if (g : Int) = og then oc else tL sh g 0) t dr o n g s lm).2.2.2 (vlegs sh (fun g => if (g : Int) = og then oc else tL sh g 0) t dr o n g s lm).1 := by
  intro n
  induction n with
  | zero =>
    intro fu g s lm τ hn hg hI hP hm h
    obtain ⟨fu, rfl⟩ : ∃ k, fu = k + 1 := ⟨fu - 1, by omega⟩
    have h6 := V.1
    obtain ⟨hF, ⟨h1, h2, h3, h4, h5, h6', h7, h8, h10, h11⟩, hT, hL⟩ := h
    have h14 : τ 14 = σ 14 := hF 14 (by decide) (by decide) (by decide) (by decide) (by decide) (by decide)
    refine ⟨τ, ?_, ?_⟩
    · rw [fx_s]
      generalize fx F_X8_make_h81 z_X8_make_h81 fu = K
      unfold F_X8_make_h81
      rw [q_legCount R h14, obs]
      exact if_pos ((iI_le (by omega) (by omega) (by omega) (by omega)).mpr (by omega))
    · unfold vlegs CE
      simp only [if_pos]
      exact ⟨hF, ⟨h1, h2, h3, h4, h5, h6', h7, h8, h10, h11, fun h => absurd h (by decide)⟩, hT, fun j hj => hL j (by omega), fun h => absurd rfl h⟩
  | succ n ih =>
    intro fu g s lm τ hn hg hI hP hm h
    obtain ⟨fu, rfl⟩ : ∃ k, fu = k + 1 := ⟨fu - 1, by omega⟩
    have h6 := V.1
    have hg1 : (g : Int) < sh 77 := by omega
    have hc := (V.2.2.2.2.2.2.2 g hg1).1
    obtain ⟨hF, ⟨h1, h2, h3, h4, h5, h6', h7, h8, h10, h11⟩, hT, hL⟩ := h
    have h14 : τ 14 = σ 14 := hF 14 (by decide) (by decide) (by decide) (by decide) (by decide) (by decide)
    -- the course of the leg
    obtain ⟨c, hce⟩ : ∃ c, c = (if (g : Int) = og then oc else tL sh g 0) := ⟨_, rfl⟩
    have hcb : 0 ≤ c ∧ c < 16 := by rw [hce]; split <;> omega
    -- the state behind the taking up
    obtain ⟨T, hTe⟩ : ∃ T, T = g_u2 (tkS (g_u2 (g_u2 τ 8 6 (iI ((g : Int) + 1))) 22 g (iI 0)) sh g c ob) 8 9 (iI (mistZ sh g)) := ⟨_, rfl⟩
    have first : ∀ K, F_X8_make_h81 K τ ob (iI og) (iI oc) (iI g) = if mistZ sh g = -1000000 then (Option.bind (f_X8_goLeg T (iI g) (iI c)) fun q74 => K q74 ob (iI og) (iI oc) (iI ((g + 1 : Nat) : Int))) else K (g_u2 T 8 8 (iI 9)) ob (iI og) (iI oc) (iI ((g + 1 : Nat) : Int)) := by
      intro K
      have p123 : f_X8_make_p123 K τ ob (iI og) (iI oc) (iI g) (iI c) = if mistZ sh g = -1000000 then (Option.bind (f_X8_goLeg T (iI g) (iI c)) fun q74 => K q74 ob (iI og) (iI oc) (iI ((g + 1 : Nat) : Int))) else K (g_u2 T 8 8 (iI 9)) ob (iI og) (iI oc) (iI ((g + 1 : Nat) : Int)) := by
        unfold f_X8_make_p123 f_X8_make_p182
        simp only [obs, iI_lit, iI_neg, iI_add]
        rw [e_noteMinutes (by omega), obs, e_takeUp R V (by simp (disch := omega) only [g_u2_n1]; exact h14) hg1, obs]
        simp only [g_u2_e]
        rw [← hTe]
        have mb : -1000000 ≤ mistZ sh g ∧ mistZ sh g ≤ 100 := by
          obtain ⟨-, ⟨u1, u2⟩, u3, u4, u5, u6, u7⟩ := V.2.2.2.2.2.2.2 g hg1
          unfold mistZ
          split
          · omega
          · have ua := u5 (by omega) (by omega)
            split
            · omega
            · split
              · omega
              · split
                · have := u6 (by omega); omega
                · omega
        by_cases p : mistZ sh g = -1000000
        · rw [if_pos p, if_pos (by rw [p])]; rfl
        · rw [if_neg p, if_neg (fun h => p ((iI_eq (by omega) (by omega) (by omega) (by omega)).mp h))]; rfl
      unfold F_X8_make_h81
      rw [q_legCount R h14, obs]
      simp only [h8]
      rw [if_neg (show ¬ iI (sh 77) ≤ iI g by rw [iI_le (by omega) (by omega) (by omega) (by omega)]; omega), if_pos (show iI (-1) = -1 by decide)]
      by_cases p : (g : Int) = og
      · rw [if_pos p] at hce
        rw [if_pos (by rw [p])]
        rw [← hce]
        rw [← hce] at p123
        exact p123
      · rw [if_neg p] at hce
        rw [if_neg (fun h => p ((iI_eq (by omega) (by omega) (by omega) (by omega)).mp h)), show (0 : Int32) = iI 0 by decide, q_legCell R h14 (by omega) (by omega) (by omega) (by omega), obs]
        simp only [Int.toNat_natCast, Int.toNat_zero]
        rw [← hce]
        exact p123
    have T12 : T 12 2 = ob ∧ T 12 3 = iI (tL sh g 1) ∧ T 12 4 = iI (tL sh g 2) ∧ T 12 5 = iI (tL sh g 3) ∧ T 12 6 = iI c := by
      rw [hTe]
      unfold tkS
      simp (disch := omega) only [g_u2_n1, g_u2_n2, g_u2_e]
      exact ⟨trivial, trivial, trivial, trivial, trivial⟩
    have T9 : T 8 9 = iI (mistZ sh g) := by rw [hTe]; exact g_u2_e _ _ _ _
    have TV : CV T σ t dr g lm 0 g (-1) s := by
      rw [hTe]
      unfold tkS
      refine ⟨fun k k1 k2 k3 k4 k5 k6 => ?_, ⟨?_, ?_, ?_, ?_, ?_, ?_, ?_, ?_, ?_, ?_⟩, fun j hj => ?_, fun j hj => ?_, ?_⟩
      · rw [g_u2_n1 k1, g_u2_n1 k2, g_u2_n1 k2, g_u2_n1 k2, g_u2_n1 k2, g_u2_n1 k2, g_u2_n1 k6, g_u2_n1 k1, hF k k1 k2 k3 k4 k5 k6]
      · simp (disch := omega) only [g_u2_n1, g_u2_n2, g_u2_e, h1]
      · simp (disch := omega) only [g_u2_n1, g_u2_n2, g_u2_e, h2]
      · simp (disch := omega) only [g_u2_n1, g_u2_n2, g_u2_e, h3]
      · simp (disch := omega) only [g_u2_n1, g_u2_n2, g_u2_e, h4]
      · simp (disch := omega) only [g_u2_n1, g_u2_n2, g_u2_e, h5]
      · simp (disch := omega) only [g_u2_n1, g_u2_n2, g_u2_e]
      · simp (disch := omega) only [g_u2_n1, g_u2_n2, g_u2_e, h7]
      · simp (disch := omega) only [g_u2_n1, g_u2_n2, g_u2_e, h8]
      · simp (disch := omega) only [g_u2_n1, g_u2_n2, g_u2_e, h10]
      · simp (disch := omega) only [g_u2_n1, g_u2_n2, g_u2_e, h11]
      · simp (disch := omega) only [g_u2_n1, g_u2_n2, g_u2_e]
        exact hT j hj
      · simp (disch := omega) only [g_u2_n1, g_u2_n2, g_u2_e, hL j hj]
      · simp (disch := omega) only [g_u2_n1, g_u2_n2, g_u2_e]
    rw [fx_s, first]
    unfold vlegs
    simp only [← hce]
    clear hTe first
    by_cases p : mistZ sh g = -1000000
    · rw [if_pos p, if_pos p]
      obtain ⟨q, hq⟩ : ∃ q, q = vleg sh t dr o g c s.1 (wasZ sh o g (s.2.1 s.1) (s.2.2.1 s.1) (tideZ sh (t + s.1))) (lwZ sh g (s.2.1 s.1) (s.2.2.1 s.1) (tideZ sh (t + s.1))) 60 s := ⟨_, rfl⟩
      obtain ⟨τ', w1, w2, w3⟩ := c_goLeg R V hO ht hdr hg1 p hcb.1 hcb.2 hI hP (by omega) TV T12.1 T12.2.1 T12.2.2.1 T12.2.2.2.1 T12.2.2.2.2 hq
      have vp := vleg_p V ht hdr (o := o) (g := g) (c := c) (f := s.1) (was := wasZ sh o g (s.2.1 s.1) (s.2.2.1 s.1) (tideZ sh (t + s.1))) (l0 := lwZ sh g (s.2.1 s.1) (s.2.2.1 s.1) (tideZ sh (t + s.1))) 60 s hI hP (by omega)
      rw [← hq] at vp
      rw [w2, obs]
      simp only [← hq]
      by_cases e : q.2 = 1
      · rw [if_pos e]
        rw [if_pos e, if_pos e] at w3
        exact ih fu (g + 1) q.1 _ τ' (by omega) (by omega) vp.1 (vp.2.2.1 e) (by omega) (CV_CH w3)
      · rw [if_neg e]
        rw [if_neg e, if_neg e] at w3
        obtain ⟨fu, rfl⟩ : ∃ k, fu = k + 1 := ⟨fu - 1, by omega⟩
        refine ⟨τ', ?_, CV_CE e w3 (fun h => by simp only at h; omega) w1⟩
        rw [fx_s]
        exact h81_end R V (by omega) w3 _ _ _ _
    · rw [if_neg p, if_neg p]
      obtain ⟨fu, rfl⟩ : ∃ k, fu = k + 1 := ⟨fu - 1, by omega⟩
      have TE := CV_en TV 9
      refine ⟨g_u2 T 8 8 (iI 9), ?_, CV_CE (show (9 : Int) ≠ 1 by decide) TE (fun _ => ?_) ?_⟩
      · rw [fx_s]
        exact h81_end R V (by omega) TE _ _ _ _
      · rw [g_u2_n2 (by decide)]; exact T9
      · rw [g_u2_n1 (by decide)]; exact ⟨T12.1, T12.2.1, T12.2.2.1, T12.2.2.2.1⟩
/-- what holds of the end of all legs -/
theorem vlegs_p (V : Val sh) {cf : Nat → Int} {t dr : Int} (ht : 0 ≤ t ∧ t ≤ 99) (hdr : 0 ≤ dr ∧ dr ≤ 20) {o : Nat → Bool} : ∀ (n g : Nat) (s : VS) (lm : Nat → Int), g + n ≤ 6 → VI s → VP s → s.1 ≤ 60 * g →
    VI (vlegs sh cf t dr o n g s lm).1 ∧ (g ≤ (vlegs sh cf t dr o n g s lm).2.1 ∧ (vlegs sh cf t dr o n g s lm).2.1 ≤ g + n) ∧ ((vlegs sh cf t dr o n g s lm).2.2.1 = 1 → VP (vlegs sh cf t dr o n g s lm).1 ∧ (vlegs sh cf t dr o n g s lm).2.1 = g + n ∧ (vlegs sh cf t dr o n g s lm).1.1 ≤ 60 * (vlegs sh cf t dr o n g s lm).2.1) ∧ ((vlegs sh cf t dr o n g s lm).2.2.1 = 1 ∨ ((vlegs sh cf t dr o n g s lm).2.1 < g + n ∧ (vlegs sh cf t dr o n g s lm).1.1 ≤ 60 * (vlegs sh cf t dr o n g s lm).2.1 + 60 ∧ ((vlegs sh cf t dr o n g s lm).2.2.1 = 3 ∨ (vlegs sh cf t dr o n g s lm).2.2.1 = 4 ∨ (vlegs sh cf t dr o n g s lm).2.2.1 = 5 ∨ ((vlegs sh cf t dr o n g s lm).2.2.1 = 9 ∧ mistZ sh (vlegs sh cf t dr o n g s lm).2.1 ≠ -1000000)))) := by
  intro n
  induction n with
  | zero => intro g s lm hg hI hP hm; unfold vlegs; exact ⟨hI, by simp only; omega, fun _ => ⟨hP, rfl, hm⟩, Or.inl rfl⟩
  | succ n ih =>
    intro g s lm hg hI hP hm
    unfold vlegs
    by_cases p : mistZ sh g = -1000000
    · rw [if_pos p]
      have vp := vleg_p V ht hdr (o := o) (g := g) (c := cf g) (f := s.1) (was := wasZ sh o g (s.2.1 s.1) (s.2.2.1 s.1) (tideZ sh (t + s.1))) (l0 := lwZ sh g (s.2.1 s.1) (s.2.2.1 s.1) (tideZ sh (t + s.1))) 60 s hI hP (by omega)
      simp only
      generalize vleg sh t dr o g (cf g) s.1 (wasZ sh o g (s.2.1 s.1) (s.2.2.1 s.1) (tideZ sh (t + s.1))) (lwZ sh g (s.2.1 s.1) (s.2.2.1 s.1) (tideZ sh (t + s.1))) 60 s = q at *
      by_cases e : q.2 = 1
      · rw [if_pos e]
        obtain ⟨i1, i2, i3, i4⟩ := ih (g + 1) q.1 (fu lm g ((q.1.1 - s.1 : Nat) : Int)) (by omega) vp.1 (vp.2.2.1 e) (by omega)
        generalize vlegs sh cf t dr o n (g + 1) q.1 (fu lm g ((q.1.1 - s.1 : Nat) : Int)) = z at *
        refine ⟨i1, by omega, fun h => ?_, ?_⟩
        · have := i3 h
          exact ⟨this.1, by omega, this.2.2⟩
        · rcases i4 with i4 | i4
          · exact Or.inl i4
          · exact Or.inr ⟨by omega, i4.2⟩
      · rw [if_neg e]
        refine ⟨vp.1, by simp only; omega, fun h => absurd h e, Or.inr ⟨by simp only; omega, by simp only; omega, ?_⟩⟩
        have := vp.2.2.2
        simp only
        omega
    · rw [if_neg p]
      exact ⟨hI, by simp only; omega, fun h => absurd h (by show ¬ (9 : Int) = 1; decide), Or.inr ⟨by simp only; omega, by simp only; omega, Or.inr (Or.inr (Or.inr ⟨rfl, p⟩))⟩⟩
theorem vs0_p (V : Val sh) : VI (vs0 sh) ∧ VP (vs0 sh) ∧ (vs0 sh).1 = 0 := by
  have s := V.2.2.2.2.1
  exact ⟨⟨⟨show (-1000000 : Int) ≤ -1000000 by decide, show (-1000000 : Int) ≤ 1000 by decide⟩, show (-1000000 : Int) ≤ -1000000 by decide, show (-1000000 : Int) ≤ 1000 by decide⟩, ⟨s.1.1, s.1.2, s.2.1.1, s.2.1.2⟩, rfl⟩
theorem hb_b (V : Val sh) {s : VS} (h : VP s) : 0 ≤ hbZ sh s ∧ hbZ sh s ≤ 180000 := by
  have v := V.2.2.2.2.1
  unfold VP at h
  have a := sqb (d := s.2.1 s.1 - sh 3) (by omega) (by omega)
  have b := sqb (d := s.2.2.1 s.1 - sh 4) (by omega) (by omega)
  unfold hbZ
  omega
theorem e_harbourSquare (R : RC (σ 14) sh) (h14 : τ 14 = σ 14) {s : VS} (h4 : τ 8 4 = iI (s.2.1 s.1)) (h5 : τ 8 5 = iI (s.2.2.1 s.1)) : f_X8_harbourSquare τ = some (iI (hbZ sh s), τ) := by
  unfold f_X8_harbourSquare hbZ
  simp only [iI_lit]
  rw [q_shipCell R h14 (by omega) (by omega), obs, obs]
  simp only
  rw [q_shipCell R h14 (by omega) (by omega), obs]
  simp only [obs, h4, h5, iI_sub, iI_mul, iI_add, Int.reduceToNat]
theorem c_end (R : RC (σ 14) sh) (V : Val sh) {ob : Int32} {t dr : Int} {q : VQ} (h : CE τ σ sh t dr ob q.2.1 q.2.2.1 q.2.2.2 q.1) (hP : q.2.2.1 = 1 → VP q.1) (he : q.2.2.1 = 1 ∨ (3 ≤ q.2.2.1 ∧ q.2.2.1 ≤ 9)) : ∃ τ', f_X8_make_p188 τ = some τ' ∧ CF τ' σ sh t dr ob q := by
  obtain ⟨hF, ⟨h1, h2, h3, h4, h5, h6, h7, h8, h10, h11, h9⟩, hT, hL, hW⟩ := h
  have h14 : τ 14 = σ 14 := hF 14 (by decide) (by decide) (by decide) (by decide) (by decide) (by decide)
  by_cases e : q.2.2.1 = 1
  · have hb := hb_b V (hP e)
    refine ⟨g_u2 τ 8 8 (iI (enZ sh q)), ?_, ?_⟩
    · unfold f_X8_make_p188 f_X8_make_p212 enZ
      rw [if_pos e] at h8
      rw [h8, if_pos (show iI (-1) = -1 by decide), e_harbourSquare R h14 h4 h5, obs, if_pos e]
      simp only [obs, iI_lit]
      by_cases p : hbZ sh q.1 ≤ 9
      · rw [if_pos p, if_neg (fun h => absurd ((iI_lt (by omega) (by omega) (by omega) (by omega)).mp h) (by omega))]
      · rw [if_neg p, if_pos ((iI_lt (by omega) (by omega) (by omega) (by omega)).mpr (by omega))]
    · refine ⟨fun k k1 k2 k3 k4 k5 k6 => ?_, ⟨?_, ?_, ?_, ?_, ?_, ?_, ?_, ?_, ?_, ?_, ?_⟩, fun j hj => ?_, fun j hj => ?_, fun h => absurd e h⟩
      · rw [g_u2_n1 k1, hF k k1 k2 k3 k4 k5 k6]
      · rw [g_u2_n2 (by decide), h1]
      · rw [g_u2_n2 (by decide), h2]
      · rw [g_u2_n2 (by decide), h3]
      · rw [g_u2_n2 (by decide), h4]
      · rw [g_u2_n2 (by decide), h5]
      · rw [g_u2_n2 (by decide), h6]
      · rw [g_u2_n2 (by decide), h7]
      · rw [g_u2_e]
      · rw [g_u2_n2 (by decide), h10]
      · rw [g_u2_n2 (by decide), h11]
      · rw [g_u2_n2 (by decide)]; exact h9
      · simp (disch := omega) only [g_u2_n1]; exact hT j hj
      · simp (disch := omega) only [g_u2_n1]; exact hL j hj
  · rw [if_neg e] at h8
    refine ⟨τ, ?_, hF, ⟨h1, h2, h3, h4, h5, h6, h7, ?_, h10, h11, h9⟩, hT, hL, hW⟩
    · unfold f_X8_make_p188
      rw [h8, if_neg (show ¬ iI q.2.2.1 = -1 by rw [show (-1 : Int32) = iI (-1) by decide, iI_eq (by omega) (by omega) (by omega) (by omega)]; omega)]
    · unfold enZ
      rw [if_neg e, h8]
/-- the class's voyage -/
theorem e_make (R : RC (σ 14) sh) (V : Val sh) {o : Nat → Bool} {ob : Int32} (hO : OutB ob o) {t dr : Int} (ht : 0 ≤ t ∧ t ≤ 99) (hdr : 0 ≤ dr ∧ dr ≤ 20) {og oc : Int} (hog : -1 ≤ og ∧ og < 6) (hoc : 0 ≤ oc ∧ oc < 16) :
    ∃ τ', f_X8_make σ (iI t) (iI dr) ob (iI og) (iI oc) = some τ' ∧ CF τ' σ sh t dr ob (voy sh (fun g => if (g : Int) = og then oc else tL sh g 0) t dr o) := by
  have h6 := V.1
  have z := vs0_p V
  obtain ⟨T, hTe⟩ : ∃ T, T = g_u2 (g_u2 (g_u2 (g_u2 (g_u2 (g_u2 (g_u2 (g_u2 (g_u2 (g_u2 (g_u2 σ 8 1 (iI t)) 8 2 (iI dr)) 8 3 (iI 0)) 8 4 (iI (sh 1))) 8 5 (iI (sh 2))) 8 6 (iI 0)) 8 7 (iI 0)) 8 8 (iI (-1))) 8 9 (iI (-1000000))) 8 10 (iI (-1000000))) 8 11 (iI (-1000000)) := ⟨_, rfl⟩
  have start : f_X8_make σ (iI t) (iI dr) ob (iI og) (iI oc) = fx F_X8_make_h81 z_X8_make_h81 FU (g_u2 (g_u2 (g_u2 T 19 0 (T 8 4)) 20 0 (T 8 5)) 21 0 (iI (-1000000))) ob (iI og) (iI oc) (iI ((0 : Nat) : Int)) := by
    unfold f_X8_make
    generalize fx F_X8_make_h81 z_X8_make_h81 FU = K
    simp only [obs, iI_lit, iI_neg]
    rw [q_shipCell R (by simp (disch := omega) only [g_u2_n1]) (by omega) (by omega), obs]
    simp only [obs]
    rw [q_shipCell R (by simp (disch := omega) only [g_u2_n1]) (by omega) (by omega), obs]
    simp only [Int.reduceToNat, Int.toNat_one]
    rw [← hTe, e_noteTrack (m := 0) (by rw [hTe]; simp (disch := omega) only [g_u2_n2, g_u2_e]; rfl) (by omega), obs]
    rfl
  have hC : CH (g_u2 (g_u2 (g_u2 T 19 0 (T 8 4)) 20 0 (T 8 5)) 21 0 (iI (-1000000))) σ t dr 0 (fun _ => 0) (vs0 sh) := by
    have t4 : T 8 4 = iI (sh 1) := by rw [hTe]; simp (disch := omega) only [g_u2_n1, g_u2_n2, g_u2_e]
    have t5 : T 8 5 = iI (sh 2) := by rw [hTe]; simp (disch := omega) only [g_u2_n1, g_u2_n2, g_u2_e]
    refine ⟨fun k k1 k2 k3 k4 k5 k6 => ?_, ?_, fun j hj => ?_, fun j hj => absurd hj (by omega)⟩
    · rw [g_u2_n1 k5, g_u2_n1 k4, g_u2_n1 k3, hTe]
      simp only [g_u2_n1 k1]
    · rw [g_u2_n1 (by decide), g_u2_n1 (by decide), g_u2_n1 (by decide), hTe]
      unfold vs0
      simp (disch := omega) only [g_u2_n1, g_u2_n2, g_u2_e]
      refine ⟨trivial, trivial, ?_, trivial, trivial, ?_, ?_, trivial, trivial, trivial⟩ <;> rfl
    · have : j = 0 := by unfold vs0 at hj; simp only at hj; omega
      subst this
      unfold vs0
      simp (disch := omega) only [g_u2_n1, g_u2_n2, g_u2_e, t4, t5]
      exact ⟨trivial, trivial, trivial⟩
  obtain ⟨τ', w1, w2⟩ := c_legs R V hO ht hdr hog hoc (sh 77).toNat FU 0 (vs0 sh) (fun _ => 0) _ (by rw [FU_val]; omega) (by omega) z.1 z.2.1 (by omega) hC
  have vp := vlegs_p V (cf := fun g => if (g : Int) = og then oc else tL sh g 0) ht hdr (o := o) (sh 77).toNat 0 (vs0 sh) (fun _ => 0) (by omega) z.1 z.2.1 (by omega)
  rw [start, w1]
  unfold voy
  exact c_end R V w2 (fun h => (vp.2.2.1 h).1) (by omega)
end QZ
