section MH
variable {σ τ : St} {sh : Nat → Int}
theorem m_isPlace {x y : Int} (h1 : -1000 ≤ x) (h2 : x ≤ 1000) (h3 : -1000 ≤ y) (h4 : y ≤ 1000) : f_X11_isPlace τ (iI x) (iI y) = some (bI (chZ x y), τ) := by
  unfold f_X11_isPlace chZ
  simp (disch := omega) only [L0, L60, e_in, obs, iI_lit, iI_add, iI_sub, iI_mul, iI_neg, iI_lt, iI_le, iI_eq, iI_divp, iI_toInt, iI_clamp, bI_0, bI_1, b_tf, Int.toNat_natCast, Int.reduceToNat, Int.toNat_zero, Int.toNat_one, modf, if_pos, if_neg, reduceIte, reduceCtorEq]
  by_cases p1 : 0 ≤ x ∧ x ≤ 60
  · by_cases p2 : 0 ≤ y ∧ y ≤ 60
    · rw [decide_eq_true p1, decide_eq_true p2, decide_eq_true ⟨p1.1, p1.2, p2⟩]; rfl
    · rw [decide_eq_true p1, decide_eq_false p2, decide_eq_false (fun h => p2 h.2.2)]; rfl
  · rw [decide_eq_false p1, decide_eq_false (show ¬ (0 ≤ x ∧ x ≤ 60 ∧ 0 ≤ y ∧ y ≤ 60) from fun h => p1 ⟨h.1, h.2.1⟩)]; rfl
theorem RV_kl {g : Nat} {lm : Nat → Int} {i dn : Int} {ca : List (Int × Int)} {s : VS} (h : RV τ σ g lm i dn ca s) (u : Int) (hc : s.2.2.2.2.2 = -1000000 ∨ u < s.2.2.2.2.1) : RV (g_u2 (g_u2 τ 26 21 (iI u)) 26 22 (iI s.1)) σ g lm i dn ca (klS u s) := by
  unfold klS
  rw [if_pos hc]
  obtain ⟨hF, hJ, ⟨h1, h2, h3, h4, h5⟩, ⟨hc, hd⟩, hT, hL, hG⟩ := h
  refine ⟨fun k k1 k2 k3 k4 k5 k6 k7 => ?_, fun j hj => ?_, ⟨?_, ?_, ?_, ?_, ?_⟩, ⟨?_, fun j hj => ?_⟩, fun j hj => ?_, fun j hj => ?_, ?_⟩
  · rw [g_u2_n1 k1, g_u2_n1 k1, hF k k1 k2 k3 k4 k5 k6 k7]
  · rw [g_u2_n2 (by omega), g_u2_n2 (by omega), hJ j hj]
  · rw [g_u2_n2 (by decide), g_u2_n2 (by decide), h1]
  · rw [g_u2_n2 (by decide), g_u2_n2 (by decide), h2]
  · rw [g_u2_n2 (by decide), g_u2_n2 (by decide), h3]
  · rw [g_u2_n2 (by decide), g_u2_e]
  · rw [g_u2_e]
  · rw [g_u2_n2 (by decide), g_u2_n2 (by decide), hc]
  · simp (disch := omega) only [g_u2_n1]; exact hd j hj
  · simp (disch := omega) only [g_u2_n1]; exact hT j hj
  · simp (disch := omega) only [g_u2_n1]; exact hL j hj
  · simp (disch := omega) only [g_u2_n1]; exact hG
theorem RV_dn {g : Nat} {lm : Nat → Int} {i dn : Int} {ca : List (Int × Int)} {s : VS} (h : RV τ σ g lm i dn ca s) (v : Int) : RV (g_u2 τ 26 19 (iI v)) σ g lm i v ca s := by
  obtain ⟨hF, hJ, ⟨h1, h2, h3, h4, h5⟩, ⟨hc, hd⟩, hT, hL, hG⟩ := h
  refine ⟨fun k k1 k2 k3 k4 k5 k6 k7 => ?_, fun j hj => ?_, ⟨?_, ?_, ?_, ?_, ?_⟩, ⟨?_, fun j hj => ?_⟩, fun j hj => ?_, fun j hj => ?_, ?_⟩
  · rw [g_u2_n1 k1, hF k k1 k2 k3 k4 k5 k6 k7]
  · rw [g_u2_n2 (by omega), hJ j hj]
  · rw [g_u2_n2 (by decide), h1]
  · rw [g_u2_e]
  · rw [g_u2_n2 (by decide), h3]
  · rw [g_u2_n2 (by decide), h4]
  · rw [g_u2_n2 (by decide), h5]
  · rw [g_u2_n2 (by decide), hc]
  · simp (disch := omega) only [g_u2_n1]; exact hd j hj
  · simp (disch := omega) only [g_u2_n1]; exact hT j hj
  · simp (disch := omega) only [g_u2_n1]; exact hL j hj
  · simp (disch := omega) only [g_u2_n1]; exact hG
/-- what comes behind the keel -/
theorem m_p144 (M : MR σ sh) (V : Val sh) {o : Nat → Bool} (hO : OutB (σ 26 13) o) {t dr : Int} (ht : 0 ≤ t ∧ t ≤ 99) (hdr : 0 ≤ dr ∧ dr ≤ 20) {g : Nat} (hg : (g : Int) < sh 77) (hm : mistZ sh g = -1000000) {lm : Nat → Int} {i : Int} {f : Nat} {s : VS} {x0 y0 : Int} (hp : VP s) (hf : f < s.1) (hi : s.1 - f ≤ 60) (hm2 : s.1 ≤ 360) (hx0 : s.2.1 f = x0) (hy0 : s.2.2.1 f = y0) (b0 : 0 ≤ x0 ∧ x0 ≤ 60 ∧ 0 ≤ y0 ∧ y0 ≤ 60) (h : RV τ σ g lm i g [] s)
    {u : Int} (hu : u = depZ sh (s.2.1 s.1) (s.2.2.1 s.1) + tideZ sh (t + s.1) - dr) {e : Int} (he : e = if u < 0 then 4 else if comesZ sh o g (tL sh g 0) ((s.1 : Int) - f) (s.2.1 s.1) (s.2.2.1 s.1) (tideZ sh (t + s.1)) (depZ sh (s.2.1 s.1) (s.2.2.1 s.1) + tideZ sh (t + s.1)) (wasZ sh o g x0 y0 (tideZ sh (t + f))) (lwZ sh g x0 y0 (tideZ sh (t + f))) = true then 1 else 0) :
    ∃ τ', f_X11_goesOn_p144 τ (iI g) (iI f) (iI t) (iI dr) (iI (s.2.1 s.1)) (iI (s.2.2.1 s.1)) (iI (depZ sh (s.2.1 s.1) (s.2.2.1 s.1))) (iI u) = some (iI (if e = 0 ∧ s.1 - f ≠ 60 then 1 else 0), τ') ∧
      RV τ' σ g lm i (if e = 1 then (g : Int) + 1 else g) (if e = 1 then [] else if e = 0 then (if s.1 - f = 60 then caL sh t dr o 5 g s else []) else caL sh t dr o e g s) s := by
  have tb := (tide_rng V (m := t + (s.1 : Int)) (by omega) (by omega)).2
  have db := dep_b V (s.2.1 s.1) (s.2.2.1 s.1)
  have gb := gh_b V (sh 75).toNat (by omega)
  have gh : ghZ sh = ghF sh (sh 75).toNat := rfl
  have h6 := V.1
  have hp' := hp
  unfold VP at hp'
  obtain ⟨-, -, ⟨k18, k19, -⟩, -, rT, -⟩ := id h
  have rT1 := rT s.1 (Nat.le_refl _)
  have rTf := rT f (by omega)
  rw [hx0, hy0] at rTf
  by_cases p : u < 0
  · rw [if_pos p] at he
    subst he
    obtain ⟨τ1, a1, a2⟩ := m_by h (by decide) 1 g
    obtain ⟨τ2, b1, b2⟩ := m_by a2 (show 1 < 4 by decide) 2 s.1
    obtain ⟨τ3, c1, c2⟩ := m_by b2 (show 2 < 4 by decide) 4 (shoZ sh (s.2.1 s.1) (s.2.2.1 s.1))
    obtain ⟨τ4, d1, d2⟩ := m_by c2 (show 3 < 4 by decide) (lkZ sh t dr s).1 (lkZ sh t dr s).2
    refine ⟨τ4, ?_, d2⟩
    unfold f_X11_goesOn_p144
    simp only [iI_lit]
    rw [if_neg (show ¬ iI 0 ≤ iI u by rw [iI_le (by omega) (by omega) (by omega) (by omega)]; omega), a1, obs]
    rw [a2.2.2.1.1, b1, obs, m_shoalAt (b2.mr M) V ⟨by omega, by omega⟩ ⟨by omega, by omega⟩, obs]
    simp only
    rw [c1, obs, m_greatestHeight (c2.mr M) V, obs]
    simp only [iI_add, iI_sub, obs]
    unfold f_X11_goesOn_p202 f_X11_goesOn_p216
    unfold lkZ at d1
    simp only [iI_lit, iI_neg]
    by_cases q : depZ sh (s.2.1 s.1) (s.2.2.1 s.1) + ghZ sh - dr < 0
    · rw [if_pos q] at d1
      have q1 : iI (depZ sh (s.2.1 s.1) (s.2.2.1 s.1) + ghZ sh - dr) < iI 0 := by rw [iI_lt (by omega) (by omega) (by omega) (by omega)]; exact q
      rw [if_pos q1, if_pos q1, d1, obs]
      rfl
    · rw [if_neg q] at d1
      have q1 : ¬ iI (depZ sh (s.2.1 s.1) (s.2.2.1 s.1) + ghZ sh - dr) < iI 0 := by rw [iI_lt (by omega) (by omega) (by omega) (by omega)]; exact q
      rw [if_neg q1, if_neg q1, hu, d1, obs]
      rfl
  · rw [if_neg p] at he
    have cm := m_comes (h.mr M) V (h.out hO) hg hm ht (f := f) (m := s.1) (by omega) hm2 rT1.1 rT1.2.1 rTf.1 rTf.2.1 (by omega) (by omega) (by omega) (by omega) (by omega) (by omega) (by omega) (by omega)
    have first : f_X11_goesOn_p144 τ (iI g) (iI f) (iI t) (iI dr) (iI (s.2.1 s.1)) (iI (s.2.2.1 s.1)) (iI (depZ sh (s.2.1 s.1) (s.2.2.1 s.1))) (iI u) = if comesZ sh o g (tL sh g 0) ((s.1 : Int) - f) (s.2.1 s.1) (s.2.2.1 s.1) (tideZ sh (t + s.1)) (depZ sh (s.2.1 s.1) (s.2.2.1 s.1) + tideZ sh (t + s.1)) (wasZ sh o g x0 y0 (tideZ sh (t + f))) (lwZ sh g x0 y0 (tideZ sh (t + f))) = false then (if s.1 - f = 60 then (Option.bind (f_X11_by τ (iI 1) (iI g)) fun q60 => Option.bind (f_X11_by q60 (iI 2) (q60 26 18)) fun q62 => Option.bind (f_X11_overdue q62 (iI g) (iI t)) fun q64 => some (iI 0, q64)) else some (iI 1, τ)) else some (iI 0, g_u2 τ 26 19 (iI ((g : Int) + 1))) := by
      unfold f_X11_goesOn_p144
      simp only [iI_lit]
      rw [if_pos (show iI 0 ≤ iI u by rw [iI_le (by omega) (by omega) (by omega) (by omega)]; omega), k18, cm, obs]
      simp only [bI_0, obs, k18, k19, iI_sub, iI_add]
      by_cases q : s.1 - f = 60
      · rw [if_pos q, if_pos (show iI ((s.1 : Int) - f) = iI 60 by rw [show (s.1 : Int) - f = 60 by omega])]
      · rw [if_neg q, if_neg (show ¬ iI ((s.1 : Int) - f) = iI 60 by rw [iI_eq (by omega) (by omega) (by omega) (by omega)]; omega)]
    rw [first]
    cases hc : comesZ sh o g (tL sh g 0) ((s.1 : Int) - f) (s.2.1 s.1) (s.2.2.1 s.1) (tideZ sh (t + s.1)) (depZ sh (s.2.1 s.1) (s.2.2.1 s.1) + tideZ sh (t + s.1)) (wasZ sh o g x0 y0 (tideZ sh (t + f))) (lwZ sh g x0 y0 (tideZ sh (t + f)))
    · rw [hc, if_neg (by decide)] at he
      subst he
      by_cases q : s.1 - f = 60
      · obtain ⟨τ1, a1, a2⟩ := m_by h (by decide) 1 g
        obtain ⟨τ2, b1, b2⟩ := m_by a2 (show 1 < 4 by decide) 2 s.1
        obtain ⟨τ3, c1, c2⟩ := m_overdue M V hO ht hg hm b2 (by rfl) hm2 hp
        refine ⟨τ3, ?_, ?_⟩
        · rw [if_pos rfl, if_pos q, a1, obs, a2.2.2.1.1, b1, obs, c1, obs, if_neg (fun h => h.2 q)]
        · rw [if_pos q]
          exact c2
      · refine ⟨τ, ?_, ?_⟩
        · rw [if_pos rfl, if_neg q, if_pos ⟨rfl, q⟩]
        · rw [if_neg q]
          exact h
    · rw [hc, if_pos rfl] at he
      subst he
      refine ⟨g_u2 τ 26 19 (iI ((g : Int) + 1)), ?_, RV_dn h _⟩
      rfl
end MH
