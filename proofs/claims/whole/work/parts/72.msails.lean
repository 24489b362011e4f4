section MS
variable {σ τ : St} {sh : Nat → Int}
theorem RV_go {g : Nat} {lm : Nat → Int} {i dn : Int} {ca : List (Int × Int)} {s : VS} (h : RV τ σ g lm i dn ca s) (c : Int) (i2 : Int) : RV (g_u2 (g_u2 (g_u2 (g_u2 (g_u2 τ 26 18 (iI ((s.1 + 1 : Nat) : Int))) 33 (s.1 + 1) (iI (nX c s))) 34 (s.1 + 1) (iI (nY c s))) 35 (s.1 + 1) (iI g)) 36 g (iI i2)) σ g lm i2 dn ca (goS g c s) := by
  obtain ⟨hF, hJ, ⟨h1, h2, h3, h4, h5⟩, ⟨hc, hd⟩, hT, hL, hG⟩ := h
  unfold goS
  refine ⟨fun k k1 k2 k3 k4 k5 k6 k7 => ?_, fun j hj => ?_, ⟨?_, ?_, ?_, ?_, ?_⟩, ⟨?_, fun j hj => ?_⟩, fun j hj => ?_, fun j hj => ?_, ?_⟩
  · rw [g_u2_n1 k5, g_u2_n1 k4, g_u2_n1 k3, g_u2_n1 k2, g_u2_n1 k1, hF k k1 k2 k3 k4 k5 k6 k7]
  · simp (disch := omega) only [g_u2_n1, g_u2_n2, hJ j hj]
  · simp (disch := omega) only [g_u2_n1, g_u2_n2, g_u2_e]
  · simp (disch := omega) only [g_u2_n1, g_u2_n2, g_u2_e, h2]
  · simp (disch := omega) only [g_u2_n1, g_u2_n2, g_u2_e, h3]
  · simp (disch := omega) only [g_u2_n1, g_u2_n2, g_u2_e, h4]
  · simp (disch := omega) only [g_u2_n1, g_u2_n2, g_u2_e, h5]
  · simp (disch := omega) only [g_u2_n1, g_u2_n2, g_u2_e, hc]
  · simp (disch := omega) only [g_u2_n1]; exact hd j hj
  · by_cases e : j = s.1 + 1
    · subst e
      simp (disch := omega) only [g_u2_n1, g_u2_n2, g_u2_e, fu_e]
      exact ⟨trivial, trivial, trivial⟩
    · have hj2 : j ≤ s.1 := by simp only at hj; omega
      have := hT j hj2
      simp (disch := omega) only [g_u2_n1, g_u2_n2, g_u2_e, fu_n e, this]
      exact ⟨trivial, trivial, trivial⟩
  · simp (disch := omega) only [g_u2_n1, g_u2_n2, g_u2_e, hL j hj]
  · rw [g_u2_e]
/-- the reference's leg, a minute -/
theorem m_h139 (M : MR σ sh) (V : Val sh) {t dr : Int} {g : Nat} (hg : (g : Int) < sh 77) {lm : Nat → Int} {i : Int} {f : Nat} {s : VS} (hm2 : s.1 < 360) (h : RV τ σ g lm i g [] s) (K66 : St → Int32 → Int32 → Int32 → Option St) (K : St → Int32 → Int32 → Int32 → Int32 → Int32 → Option St) :
    ∃ T, RV T σ g lm (i + 1) g [] (goS g (tL sh g 0) s) ∧ F_X11_sails_h139 K66 K τ (iI t) (iI dr) (iI g) (iI f) (iI 1) = Option.bind (f_X11_goesOn T (iI g) (iI f) (iI t) (iI dr)) fun q114 => K q114.2 (iI t) (iI dr) (iI g) (iI f) q114.1 := by
  have h6 := V.1
  have hc := (V.2.2.2.2.2.2.2 g hg).1
  refine ⟨_, RV_go h (tL sh g 0) (i + 1), ?_⟩
  have l0 : ∀ τ1 : St, τ1 27 = τ 27 → τ1 30 = τ 30 → τ1 31 = τ 31 → f_X11_legOf τ1 (iI g) (iI 0) = some (iI (tL sh g 0), τ1) := by
    intro τ1 e1 e2 e3
    have M1 : MR τ1 sh := by unfold MR; rw [e1, e2, e3]; exact h.mr M
    have l := m_legOf M1 h6.2 (t := (g : Int)) (w := 0) (by omega) hg (by omega) (by omega)
    simp only [Int.toNat_natCast, Int.toNat_zero] at l
    exact l
  have M1 := h.mr M
  obtain ⟨-, -, ⟨k18, -⟩, -, rT, -, rG⟩ := id h
  have rT1 := rT s.1 (Nat.le_refl _)
  have gd : 0 ≤ (iI ((s.1 + 1 : Nat) : Int)).toInt ∧ (iI ((s.1 + 1 : Nat) : Int)).toInt < 361 := by rw [iI_toInt (by omega) (by omega)]; omega
  have gd1 : 0 ≤ (iI (s.1 : Int)).toInt ∧ (iI (s.1 : Int)).toInt < 361 := by rw [iI_toInt (by omega) (by omega)]; omega
  have gdc : 0 ≤ (iI (tL sh g 0)).toInt ∧ (iI (tL sh g 0)).toInt < 16 := by rw [iI_toInt (by omega) (by omega)]; omega
  have gdg : 0 ≤ (iI (g : Int)).toInt ∧ (iI (g : Int)).toInt < 6 := by rw [iI_toInt (by omega) (by omega)]; omega
  have cl1 : (iI ((s.1 + 1 : Nat) : Int)).toNatClampNeg = s.1 + 1 := by rw [iI_clamp (by omega) (by omega), Int.toNat_natCast]
  have cl0 : (iI (s.1 : Int)).toNatClampNeg = s.1 := by rw [iI_clamp (by omega) (by omega), Int.toNat_natCast]
  have clc : (iI (tL sh g 0)).toNatClampNeg = (tL sh g 0).toNat := iI_clamp (by omega) (by omega)
  have clg : (iI (g : Int)).toNatClampNeg = g := by rw [iI_clamp (by omega) (by omega), Int.toNat_natCast]
  have sub1 : iI ((s.1 + 1 : Nat) : Int) - iI 1 = iI (s.1 : Int) := by rw [iI_sub, show (((s.1 + 1 : Nat) : Int)) - 1 = s.1 by omega]
  have E30 := M1.2.1 (tL sh g 0).toNat (by omega)
  have E31 := M1.2.2 (tL sh g 0).toNat (by omega)
  unfold F_X11_sails_h139
  simp only [iI_lit]
  rw [if_neg (show ¬ iI 1 = iI 0 by decide), k18, iI_add, show ((s.1 : Int) + 1) = ((s.1 + 1 : Nat) : Int) by omega, obs]
  simp only [g_u2_e, sub1]
  rw [if_pos gd1, l0 _ (by rw [g_u2_n1 (by decide)]) (by rw [g_u2_n1 (by decide)]) (by rw [g_u2_n1 (by decide)]), obs]
  simp only [clc, cl1, cl0]
  rw [if_pos gdc, if_pos gd, obs]
  have x1 : g_u2 τ 26 18 (iI ((s.1 + 1 : Nat) : Int)) 33 s.1 + g_u2 τ 26 18 (iI ((s.1 + 1 : Nat) : Int)) 30 (tL sh g 0).toNat = iI (nX (tL sh g 0) s) := by
    rw [g_u2_n1 (by decide), g_u2_n1 (by decide), rT1.1, E30, iI_add]; rfl
  rw [x1]
  have a18 : g_u2 (g_u2 τ 26 18 (iI ((s.1 + 1 : Nat) : Int))) 33 (s.1 + 1) (iI (nX (tL sh g 0) s)) 26 18 = iI ((s.1 + 1 : Nat) : Int) := by rw [g_u2_n1 (by decide), g_u2_e]
  simp only [a18, sub1]
  rw [if_pos gd1, l0 _ (by rw [g_u2_n1 (by decide), g_u2_n1 (by decide)]) (by rw [g_u2_n1 (by decide), g_u2_n1 (by decide)]) (by rw [g_u2_n1 (by decide), g_u2_n1 (by decide)]), obs]
  simp only [clc, cl1, cl0]
  rw [if_pos gdc, if_pos gd, obs]
  have y1 : g_u2 (g_u2 τ 26 18 (iI ((s.1 + 1 : Nat) : Int))) 33 (s.1 + 1) (iI (nX (tL sh g 0) s)) 34 s.1 + g_u2 (g_u2 τ 26 18 (iI ((s.1 + 1 : Nat) : Int))) 33 (s.1 + 1) (iI (nX (tL sh g 0) s)) 31 (tL sh g 0).toNat = iI (nY (tL sh g 0) s) := by
    simp (disch := omega) only [g_u2_n1]
    rw [rT1.2.1, E31, iI_add]; rfl
  rw [y1]
  have b18 : g_u2 (g_u2 (g_u2 τ 26 18 (iI ((s.1 + 1 : Nat) : Int))) 33 (s.1 + 1) (iI (nX (tL sh g 0) s))) 34 (s.1 + 1) (iI (nY (tL sh g 0) s)) 26 18 = iI ((s.1 + 1 : Nat) : Int) := by rw [g_u2_n1 (by decide), a18]
  simp only [b18, cl1]
  rw [if_pos gd, obs, if_pos gdg, if_pos gdg, clg, obs]
  have m1 : g_u2 (g_u2 (g_u2 (g_u2 τ 26 18 (iI ((s.1 + 1 : Nat) : Int))) 33 (s.1 + 1) (iI (nX (tL sh g 0) s))) 34 (s.1 + 1) (iI (nY (tL sh g 0) s))) 35 (s.1 + 1) (iI g) 36 g + iI 1 = iI (i + 1) := by
    simp (disch := omega) only [g_u2_n1]
    rw [rG, iI_add]
  rw [m1]
theorem vstep_t {t dr : Int} {o : Nat → Bool} {g : Nat} {c : Int} {f : Nat} {was : Bool} {l0 : Int} {s : VS} {j : Nat} (hj : j ≤ s.1) : (vstep sh t dr o g c f was l0 s).1.2.1 j = s.2.1 j ∧ (vstep sh t dr o g c f was l0 s).1.2.2.1 j = s.2.2.1 j := by
  have kl := kl_1 (wtZ sh t c s - dr) (goS g c s)
  have a : (goS g c s).2.1 j = s.2.1 j := fu_n (by omega)
  have b : (goS g c s).2.2.1 j = s.2.2.1 j := fu_n (by omega)
  unfold vstep
  split
  · exact ⟨a, b⟩
  · split
    · rw [kl.2.1, kl.2.2.1]; exact ⟨a, b⟩
    · split
      · rw [kl.2.1, kl.2.2.1]; exact ⟨a, b⟩
      · rw [kl.2.1, kl.2.2.1]; exact ⟨a, b⟩
theorem m_leg (M : MR σ sh) (V : Val sh) {o : Nat → Bool} (hO : OutB (σ 26 13) o) {t dr : Int} (ht : 0 ≤ t ∧ t ≤ 99) (hdr : 0 ≤ dr ∧ dr ≤ 20) {g : Nat} (hg : (g : Int) < sh 77) (hm : mistZ sh g = -1000000) {lm : Nat → Int} {f : Nat} (hf6 : f ≤ 300) {x0 y0 : Int} (b0 : 0 ≤ x0 ∧ x0 ≤ 60 ∧ 0 ≤ y0 ∧ y0 ≤ 60) (K66 : St → Int32 → Int32 → Int32 → Option St) :
    ∀ (n fu : Nat) (s : VS) (τ : St), n + 2 < fu → VI s → VP s → f ≤ s.1 → s.1 - f + (n + 1) = 60 → s.2.1 f = x0 → s.2.2.1 f = y0 → RV τ σ g lm ((s.1 - f : Nat) : Int) g [] s →
    ∃ τ', fx (F_X11_sails_h139 K66) z_X11_sails_h139 fu τ (iI t) (iI dr) (iI g) (iI f) (iI 1) = K66 τ' (iI t) (iI dr) (iI ((g + 1 : Nat) : Int)) ∧
      RV τ' σ g lm (((vleg sh t dr o g (tL sh g 0) f (wasZ sh o g x0 y0 (tideZ sh (t + f))) (lwZ sh g x0 y0 (tideZ sh (t + f))) (n + 1) s).1.1 - f : Nat) : Int) (if (vleg sh t dr o g (tL sh g 0) f (wasZ sh o g x0 y0 (tideZ sh (t + f))) (lwZ sh g x0 y0 (tideZ sh (t + f))) (n + 1) s).2 = 1 then (g : Int) + 1 else g) (if (vleg sh t dr o g (tL sh g 0) f (wasZ sh o g x0 y0 (tideZ sh (t + f))) (lwZ sh g x0 y0 (tideZ sh (t + f))) (n + 1) s).2 = 1 then [] else caL sh t dr o (vleg sh t dr o g (tL sh g 0) f (wasZ sh o g x0 y0 (tideZ sh (t + f))) (lwZ sh g x0 y0 (tideZ sh (t + f))) (n + 1) s).2 g (vleg sh t dr o g (tL sh g 0) f (wasZ sh o g x0 y0 (tideZ sh (t + f))) (lwZ sh g x0 y0 (tideZ sh (t + f))) (n + 1) s).1) (vleg sh t dr o g (tL sh g 0) f (wasZ sh o g x0 y0 (tideZ sh (t + f))) (lwZ sh g x0 y0 (tideZ sh (t + f))) (n + 1) s).1 := by
  have stop : ∀ (fu : Nat) (τ1 : St), 0 < fu → fx (F_X11_sails_h139 K66) z_X11_sails_h139 fu τ1 (iI t) (iI dr) (iI g) (iI f) (iI 0) = K66 τ1 (iI t) (iI dr) (iI ((g + 1 : Nat) : Int)) := by
    intro fu τ1 h
    obtain ⟨fu, rfl⟩ : ∃ k, fu = k + 1 := ⟨fu - 1, by omega⟩
    rw [fx_s]
    generalize fx (F_X11_sails_h139 K66) z_X11_sails_h139 fu = K
    unfold F_X11_sails_h139
    rw [if_pos (show iI 0 = 0 by decide), obs, iI_lit 1, iI_add]
    rfl
  intro n
  induction n with
  | zero =>
    intro fu s τ hn hI hp hf hi hx0 hy0 h
    obtain ⟨fu, rfl⟩ : ∃ k, fu = k + 1 := ⟨fu - 1, by omega⟩
    have st := vstep_p V ht hdr (o := o) (g := g) (c := tL sh g 0) (f := f) (was := wasZ sh o g x0 y0 (tideZ sh (t + f))) (l0 := lwZ sh g x0 y0 (tideZ sh (t + f))) hI (by omega)
    obtain ⟨T, r1, r2⟩ := m_h139 (t := t) (dr := dr) (f := f) M V hg (by omega) h K66 (fx (F_X11_sails_h139 K66) z_X11_sails_h139 fu)
    rw [fx_s, r2]
    unfold vleg
    obtain ⟨w, hw⟩ : ∃ w, w = vstep sh t dr o g (tL sh g 0) f (wasZ sh o g x0 y0 (tideZ sh (t + f))) (lwZ sh g x0 y0 (tideZ sh (t + f))) s := ⟨_, rfl⟩
    obtain ⟨τ', q1, q2⟩ := m_goesOn M V hO ht hdr hg hm hI hp hf (by omega) (by omega) hx0 hy0 b0 r1 hw
    rw [← hw] at st ⊢
    rw [if_neg (fun h => h.2 (by omega))] at q1
    rw [q1, obs]
    refine ⟨τ', stop fu τ' (by omega), ?_⟩
    rw [show ((s.1 - f : Nat) : Int) + 1 = ((w.1.1 - f : Nat) : Int) by omega] at q2
    by_cases e : w.2 = 0
    · rw [if_pos e]
      unfold vleg
      rw [if_neg (by omega), if_neg (by omega), if_pos e, if_pos (by omega)] at q2
      exact q2
    · rw [if_neg e]
      rw [if_neg (c := w.2 = 0) e] at q2
      exact q2
  | succ n ih =>
    intro fu s τ hn hI hp hf hi hx0 hy0 h
    obtain ⟨fu, rfl⟩ : ∃ k, fu = k + 1 := ⟨fu - 1, by omega⟩
    have st := vstep_p V ht hdr (o := o) (g := g) (c := tL sh g 0) (f := f) (was := wasZ sh o g x0 y0 (tideZ sh (t + f))) (l0 := lwZ sh g x0 y0 (tideZ sh (t + f))) hI (by omega)
    obtain ⟨T, r1, r2⟩ := m_h139 (t := t) (dr := dr) (f := f) M V hg (by omega) h K66 (fx (F_X11_sails_h139 K66) z_X11_sails_h139 fu)
    rw [fx_s, r2]
    unfold vleg
    obtain ⟨w, hw⟩ : ∃ w, w = vstep sh t dr o g (tL sh g 0) f (wasZ sh o g x0 y0 (tideZ sh (t + f))) (lwZ sh g x0 y0 (tideZ sh (t + f))) s := ⟨_, rfl⟩
    obtain ⟨τ', q1, q2⟩ := m_goesOn M V hO ht hdr hg hm hI hp hf (by omega) (by omega) hx0 hy0 b0 r1 hw
    have tr := vstep_t (sh := sh) (t := t) (dr := dr) (o := o) (g := g) (c := tL sh g 0) (f := f) (was := wasZ sh o g x0 y0 (tideZ sh (t + f))) (l0 := lwZ sh g x0 y0 (tideZ sh (t + f))) (s := s) (j := f) hf
    rw [← hw] at st tr ⊢
    rw [show ((s.1 - f : Nat) : Int) + 1 = ((w.1.1 - f : Nat) : Int) by omega] at q2
    by_cases e : w.2 = 0
    · rw [if_pos (show w.2 = 0 ∧ s.1 + 1 - f ≠ 60 from ⟨e, by omega⟩)] at q1
      rw [q1, obs, if_pos e]
      rw [if_neg (by omega), if_neg (by omega), if_pos e, if_neg (by omega)] at q2
      exact ih fu w.1 τ' (by omega) st.1 (st.2.2.1 (Or.inl e)) (by omega) (by omega) (by rw [tr.1, hx0]) (by rw [tr.2, hy0]) q2
    · rw [if_neg (fun h => e h.1)] at q1
      rw [q1, obs, if_neg e]
      rw [if_neg (c := w.2 = 0) e] at q2
      exact ⟨τ', stop fu τ' (by omega), q2⟩
end MS
