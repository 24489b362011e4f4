section MI
variable {σ τ : St} {sh : Nat → Int}
theorem m_goesOn (M : MR σ sh) (V : Val sh) {o : Nat → Bool} (hO : OutB (σ 26 13) o) {t dr : Int} (ht : 0 ≤ t ∧ t ≤ 99) (hdr : 0 ≤ dr ∧ dr ≤ 20) {g : Nat} (hg : (g : Int) < sh 77) (hm : mistZ sh g = -1000000) {lm : Nat → Int} {i : Int} {f : Nat} {s : VS} {x0 y0 : Int} (hI : VI s) (hp : VP s) (hf : f ≤ s.1) (hi : s.1 - f < 60) (hm2 : s.1 < 360) (hx0 : s.2.1 f = x0) (hy0 : s.2.2.1 f = y0) (b0 : 0 ≤ x0 ∧ x0 ≤ 60 ∧ 0 ≤ y0 ∧ y0 ≤ 60) (h : RV τ σ g lm i g [] (goS g (tL sh g 0) s))
    {w : VS × Int} (hw : w = vstep sh t dr o g (tL sh g 0) f (wasZ sh o g x0 y0 (tideZ sh (t + f))) (lwZ sh g x0 y0 (tideZ sh (t + f))) s) :
    ∃ τ', f_X11_goesOn τ (iI g) (iI f) (iI t) (iI dr) = some (iI (if w.2 = 0 ∧ s.1 + 1 - f ≠ 60 then 1 else 0), τ') ∧
      RV τ' σ g lm i (if w.2 = 1 then (g : Int) + 1 else g) (if w.2 = 1 then [] else if w.2 = 0 then (if s.1 + 1 - f = 60 then caL sh t dr o 5 g w.1 else []) else caL sh t dr o w.2 g w.1) w.1 := by
  have hc := (V.2.2.2.2.2.2.2 g hg).1
  have h6 := V.1
  have E := eZ_b (tL sh g 0).toNat (by omega)
  have hp' := hp
  unfold VP at hp'
  have bx : -2 ≤ nX (tL sh g 0) s ∧ nX (tL sh g 0) s ≤ 62 := by unfold nX; omega
  have by_ : -2 ≤ nY (tL sh g 0) s ∧ nY (tL sh g 0) s ≤ 62 := by unfold nY; omega
  obtain ⟨c, hce⟩ : ∃ c, c = tL sh g 0 := ⟨_, rfl⟩
  rw [← hce] at h hw E bx by_
  have tb := (tide_rng V (m := t + ((s.1 + 1 : Nat) : Int)) (by omega) (by omega)).2
  have db := dep_b V (nX c s) (nY c s)
  have wd : wtZ sh t c s = depZ sh (nX c s) (nY c s) + tideZ sh (t + ((s.1 + 1 : Nat) : Int)) := rfl
  have hub : -1000 ≤ wtZ sh t c s - dr ∧ wtZ sh t c s - dr ≤ 1000 := by omega
  obtain ⟨-, -, ⟨k18, k19, k20, k21, k22⟩, -, rT, -⟩ := id h
  have k18' : τ 26 18 = iI ((s.1 + 1 : Nat) : Int) := k18
  have k21' : τ 26 21 = iI s.2.2.2.2.1 := k21
  have k22' : τ 26 22 = iI s.2.2.2.2.2 := k22
  have gx : (goS g c s).2.1 (s.1 + 1) = nX c s := fu_e _ _ _
  have gy : (goS g c s).2.2.1 (s.1 + 1) = nY c s := fu_e _ _ _
  have rT1 := rT (s.1 + 1) (Nat.le_refl _)
  rw [gx, gy] at rT1
  have gd : 0 ≤ (iI ((s.1 + 1 : Nat) : Int)).toInt ∧ (iI ((s.1 + 1 : Nat) : Int)).toInt < 361 := by rw [iI_toInt (by omega) (by omega)]; omega
  have start : f_X11_goesOn τ (iI g) (iI f) (iI t) (iI dr) = if chZ (nX c s) (nY c s) = false then (Option.bind (f_X11_by τ (iI 1) (iI g)) fun q104 => Option.bind (f_X11_by q104 (iI 2) (q104 26 18)) fun q106 => f_X11_goesOn_p79 q106 (iI (sdZ (nX c s) (nY c s))) (iI 3)) else (if s.2.2.2.2.2 = -1000000 ∨ wtZ sh t c s - dr < s.2.2.2.2.1 then f_X11_goesOn_p144 (g_u2 (g_u2 τ 26 21 (iI (wtZ sh t c s - dr))) 26 22 (iI ((s.1 + 1 : Nat) : Int))) (iI g) (iI f) (iI t) (iI dr) (iI (nX c s)) (iI (nY c s)) (iI (depZ sh (nX c s) (nY c s))) (iI (wtZ sh t c s - dr)) else f_X11_goesOn_p144 τ (iI g) (iI f) (iI t) (iI dr) (iI (nX c s)) (iI (nY c s)) (iI (depZ sh (nX c s) (nY c s))) (iI (wtZ sh t c s - dr))) := by
    unfold f_X11_goesOn
    simp only [iI_lit, iI_neg, k18']
    rw [if_pos gd, obs, if_pos gd, obs, iI_clamp (by omega) (by omega), Int.toNat_natCast, rT1.1, rT1.2.1, m_isPlace (by omega) (by omega) (by omega) (by omega), obs]
    simp only [bI_0]
    cases hch : chZ (nX c s) (nY c s)
    · rw [if_pos rfl, if_pos rfl]
      have e0 : (iI 0 ≤ iI (nX c s)) = (0 ≤ nX c s) := propext (iI_le (by omega) (by omega) (by omega) (by omega))
      have e1 : (iI (nX c s) ≤ iI 60) = (nX c s ≤ 60) := propext (iI_le (by omega) (by omega) (by omega) (by omega))
      have e2 : (iI 0 ≤ iI (nY c s)) = (0 ≤ nY c s) := propext (iI_le (by omega) (by omega) (by omega) (by omega))
      simp only [e0, e1, e2]
      congr 1
      funext q1
      congr 1
      funext q2
      unfold sdZ
      by_cases z0 : 0 ≤ nX c s
      · by_cases z1 : nX c s ≤ 60
        · by_cases z2 : 0 ≤ nY c s
          · rw [if_pos z0, if_pos z1, if_pos z2, if_pos z0, if_pos z1, if_pos z2]
          · rw [if_pos z0, if_pos z1, if_neg z2, if_pos z0, if_pos z1, if_neg z2]
        · rw [if_pos z0, if_neg z1, if_pos z0, if_neg z1]
      · rw [if_neg z0, if_neg z0]
    · rw [if_neg (show ¬ true = false by decide), if_neg (show ¬ true = false by decide)]
      rw [m_charted (h.mr M) V ⟨by omega, by omega⟩ ⟨by omega, by omega⟩, obs]
      simp only [k18', iI_add]
      rw [m_tideAt (h.mr M) V (by omega) (by omega), obs]
      simp only [iI_add, iI_sub, obs, k21', k22']
      rw [← wd]
      unfold f_X11_goesOn_p130
      simp only [obs]
      rw [show g_u2 τ 26 21 (iI (wtZ sh t c s - dr)) 26 18 = iI ((s.1 + 1 : Nat) : Int) by rw [g_u2_n2 (by decide), k18']]
      unfold VI at hI
      by_cases q : s.2.2.2.2.2 = -1000000
      · rw [if_pos (by rw [q]), if_pos (Or.inl q)]
      · rw [if_neg (show ¬ iI s.2.2.2.2.2 = iI (-1000000) by rw [iI_eq (by omega) (by omega) (by omega) (by omega)]; exact q)]
        by_cases q2 : wtZ sh t c s - dr < s.2.2.2.2.1
        · rw [if_pos (Or.inr q2), if_neg (show ¬ iI s.2.2.2.2.1 ≤ iI (wtZ sh t c s - dr) by rw [iI_le (by omega) (by omega) (by omega) (by omega)]; omega)]
        · rw [if_neg (show ¬ (s.2.2.2.2.2 = -1000000 ∨ wtZ sh t c s - dr < s.2.2.2.2.1) by omega), if_pos (show iI s.2.2.2.2.1 ≤ iI (wtZ sh t c s - dr) by rw [iI_le (by omega) (by omega) (by omega) (by omega)]; omega)]
  rw [start]
  unfold vstep at hw
  cases hch : chZ (nX c s) (nY c s)
  · rw [hch, if_pos rfl] at hw
    subst hw
    obtain ⟨τ1, a1, a2⟩ := m_by h (by decide) 1 g
    obtain ⟨τ2, b1, b2⟩ := m_by a2 (show 1 < 4 by decide) 2 ((s.1 + 1 : Nat) : Int)
    obtain ⟨τ3, c1, c2⟩ := m_by b2 (show 2 < 4 by decide) 3 (sdZ (nX c s) (nY c s))
    refine ⟨τ3, ?_, ?_⟩
    · rw [if_pos rfl, a1, obs]
      have a18 : τ1 26 18 = iI ((s.1 + 1 : Nat) : Int) := a2.2.2.1.1
      rw [a18, b1, obs]
      unfold f_X11_goesOn_p79
      rw [c1, obs]
      rfl
    · have ec : caL sh t dr o 3 g (goS g c s) = [] ++ [((1 : Int), (g : Int))] ++ [(2, ((s.1 + 1 : Nat) : Int))] ++ [(3, sdZ (nX c s) (nY c s))] := by
        unfold caL
        rw [if_pos rfl, show (goS g c s).1 = s.1 + 1 from rfl, gx, gy]
        rfl
      simp only [show ¬ (3 : Int) = 1 by decide, show ¬ (3 : Int) = 0 by decide, if_false]
      rw [ec]
      exact c2
  · rw [hch, if_neg (show ¬ true = false by decide)] at hw
    rw [if_neg (show ¬ true = false by decide)]
    unfold chZ at hch
    rw [decide_eq_true_eq] at hch
    have kl := kl_1 (wtZ sh t c s - dr) (goS g c s)
    obtain ⟨S, hS⟩ : ∃ S, S = klS (wtZ sh t c s - dr) (goS g c s) := ⟨_, rfl⟩
    rw [← hS] at kl hw
    have S1 : S.1 = s.1 + 1 := kl.1
    have Sx : S.2.1 S.1 = nX c s := by rw [kl.2.1, S1]; exact gx
    have Sy : S.2.2.1 S.1 = nY c s := by rw [kl.2.2.1, S1]; exact gy
    have hpS : VP S := by unfold VP; rw [Sx, Sy]; exact hch
    have Sf : S.2.1 f = x0 := by rw [kl.2.1, ← hx0]; exact fu_n (by omega)
    have Sg : S.2.2.1 f = y0 := by rw [kl.2.2.1, ← hy0]; exact fu_n (by omega)
    have w1 : w.1 = S := by
      rw [hw]
      split
      · rfl
      · split <;> rfl
    have w2 : w.2 = if wtZ sh t c s - dr < 0 then 4 else if comesZ sh o g (tL sh g 0) ((S.1 : Int) - f) (S.2.1 S.1) (S.2.2.1 S.1) (tideZ sh (t + S.1)) (depZ sh (S.2.1 S.1) (S.2.2.1 S.1) + tideZ sh (t + S.1)) (wasZ sh o g x0 y0 (tideZ sh (t + f))) (lwZ sh g x0 y0 (tideZ sh (t + f))) = true then 1 else 0 := by
      rw [hw, Sx, Sy, S1, ← hce, ← wd]
      by_cases q : wtZ sh t c s < dr
      · rw [if_pos q, if_pos (by omega)]
      · rw [if_neg q, if_neg (show ¬ wtZ sh t c s - dr < 0 by omega)]
        split <;> rfl
    have fin : ∀ τ1, RV τ1 σ g lm i g [] S → ∃ τ', f_X11_goesOn_p144 τ1 (iI g) (iI f) (iI t) (iI dr) (iI (nX c s)) (iI (nY c s)) (iI (depZ sh (nX c s) (nY c s))) (iI (wtZ sh t c s - dr)) = some (iI (if w.2 = 0 ∧ s.1 + 1 - f ≠ 60 then 1 else 0), τ') ∧
      RV τ' σ g lm i (if w.2 = 1 then (g : Int) + 1 else g) (if w.2 = 1 then [] else if w.2 = 0 then (if s.1 + 1 - f = 60 then caL sh t dr o 5 g w.1 else []) else caL sh t dr o w.2 g w.1) w.1 := by
      intro τ1 r
      have q := m_p144 M V hO ht hdr hg hm hpS (f := f) (by omega) (by omega) (by omega) Sf Sg b0 r (u := wtZ sh t c s - dr) (by rw [Sx, Sy, S1, wd]) w2
      rw [Sx, Sy, S1] at q
      rw [w1]
      exact q
    by_cases q : s.2.2.2.2.2 = -1000000 ∨ wtZ sh t c s - dr < s.2.2.2.2.1
    · rw [if_pos q]
      refine fin _ ?_
      rw [hS]
      exact RV_kl h (wtZ sh t c s - dr) q
    · rw [if_neg q]
      refine fin _ ?_
      rw [hS]
      unfold klS
      rw [if_neg (show ¬ ((goS g c s).2.2.2.2.2 = -1000000 ∨ wtZ sh t c s - dr < (goS g c s).2.2.2.2.1) from q)]
      exact h
end MI
