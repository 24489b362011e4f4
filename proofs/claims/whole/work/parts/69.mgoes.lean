section MG
variable {σ τ : St} {sh : Nat → Int}
theorem m_overdue (M : MR σ sh) (V : Val sh) {o : Nat → Bool} (hO : OutB (σ 26 13) o) {t : Int} (ht : 0 ≤ t ∧ t ≤ 99) {g : Nat} (hg : (g : Int) < sh 77) (hm : mistZ sh g = -1000000) {lm : Nat → Int} {i dn : Int} {ca : List (Int × Int)} {s : VS} (h : RV τ σ g lm i dn ca s) (hl : ca.length = 2) (hs : s.1 ≤ 360) (hp : VP s) :
    ∃ τ', f_X11_overdue τ (iI g) (iI t) = some τ' ∧ RV τ' σ g lm i dn (ca ++ [(5, tL sh g 1)] ++ odL sh o g (s.2.1 s.1) (s.2.2.1 s.1) (tideZ sh (t + s.1))) s := by
  obtain ⟨m1, m2⟩ := mist_ok hm V hg
  obtain ⟨cc, ⟨u1, u2⟩, u3, u4, u5, u6, u7⟩ := V.2.2.2.2.2.2.2 g hg
  have e6 := V.1
  unfold VP at hp
  have p46 : ∀ (K : St → Int32 → Int32 → Int32 → Int32 → Option St) (w : Int) (x3 : Int32) (τ1 : St) (ca1 : List (Int × Int)), RV τ1 σ g lm i dn ca1 s → (w = 2 ∨ w = 3) → isMk sh (tL sh g w.toNat) = true → ca1.length < 4 →
      ∃ τ2, RV τ2 σ g lm i dn (if seenZ sh o (tL sh g w.toNat).toNat (s.2.1 s.1) (s.2.2.1 s.1) (tideZ sh (t + s.1)) = false then ca1 ++ [(8, tL sh g w.toNat)] else ca1) s ∧ f_X11_overdue_p46 K τ1 (iI g) (iI t) x3 (iI w) = K τ2 (iI g) (iI t) x3 (iI (w + 1)) := by
    intro K w x3 τ1 ca1 r hw ma hca
    obtain ⟨a1, a2, a3⟩ := isMk_t ma
    have l := m_legOf (r.mr M) e6.2 (t := (g : Int)) (w := w) (by omega) hg (by omega) (by omega)
    rw [Int.toNat_natCast] at l
    have sn := m_isSeen (r.mr M) V (k := (tL sh g w.toNat).toNat) (by omega) a3 (m := t + s.1) (by omega) (by omega) (x := s.2.1 s.1) (y := s.2.2.1 s.1) ⟨by omega, by omega⟩ ⟨by omega, by omega⟩ (r.out hO)
    rw [show (((tL sh g w.toNat).toNat : Nat) : Int) = tL sh g w.toNat by omega] at sn
    obtain ⟨-, -, ⟨k18, -⟩, -, rT, -⟩ := id r
    have rT1 := rT s.1 (Nat.le_refl _)
    obtain ⟨τ2, b1, b2⟩ := m_by r hca 8 (tL sh g w.toNat)
    have e : f_X11_overdue_p46 K τ1 (iI g) (iI t) x3 (iI w) = if seenZ sh o (tL sh g w.toNat).toNat (s.2.1 s.1) (s.2.2.1 s.1) (tideZ sh (t + s.1)) = false then K τ2 (iI g) (iI t) x3 (iI (w + 1)) else K τ1 (iI g) (iI t) x3 (iI (w + 1)) := by
      unfold f_X11_overdue_p46 f_X11_overdue_p97
      simp only [iI_lit]
      rw [l, obs]
      simp only [k18]
      have gd : 0 ≤ (iI (s.1 : Int)).toInt ∧ (iI (s.1 : Int)).toInt < 361 := by rw [iI_toInt (by omega) (by omega)]; omega
      rw [if_pos gd, if_pos gd, iI_clamp (by omega) (by omega), Int.toNat_natCast, rT1.1, rT1.2.1, iI_add, sn, obs]
      simp only [bI_0, obs, iI_add]
      rw [l, obs]
      simp only
      rw [b1, obs]
    rw [e]
    cases seenZ sh o (tL sh g w.toNat).toNat (s.2.1 s.1) (s.2.2.1 s.1) (tideZ sh (t + s.1))
    · exact ⟨τ2, b2, rfl⟩
    · exact ⟨τ1, r, rfl⟩
  have l1 := m_legOf (h.mr M) e6.2 (t := (g : Int)) (w := 1) (by omega) hg (by omega) (by omega)
  simp only [Int.toNat_natCast, Int.toNat_one] at l1
  obtain ⟨τ1, b1, b2⟩ := m_by h (by omega) 5 (tL sh g 1)
  have hl2 : (ca ++ [((5 : Int), tL sh g 1)]).length = 3 := by rw [List.length_append, hl]; rfl
  have k23 := b2.2.2.2.1.1
  rw [hl2] at k23
  obtain ⟨f, hf⟩ : ∃ f, FU = f + 3 := ⟨FU - 3, by rw [FU_val]⟩
  unfold f_X11_overdue
  rw [hf, fx_s, iI_lit 1, l1, obs]
  simp only [iI_lit]
  rw [b1, obs]
  -- the loop
  generalize hca : ca ++ [((5 : Int), tL sh g 1)] = ca1 at *
  have stop : ∀ (K : St → Int32 → Int32 → Int32 → Int32 → Option St) (τ2 : St) (w : Int) (x3 : Int), (0 ≤ x3 ∧ x3 ≤ 4) → (w = 2 ∨ w = 3) → ((x3 ≠ 1 ∨ w = 3) ∧ x3 ≠ 2) → τ2 26 23 = iI 3 → F_X11_overdue_h16 K τ2 (iI g) (iI t) (iI x3) (iI w) = some τ2 := by
    intro K τ2 w x3 hx hw h2 h3
    unfold F_X11_overdue_h16 f_X11_overdue_p41
    simp only [iI_lit, h3]
    rw [if_neg (show ¬ iI 4 ≤ iI w by rw [iI_le (by omega) (by omega) (by omega) (by omega)]; omega), if_neg (show ¬ iI 4 ≤ iI 3 by decide)]
    rw [if_neg (show ¬ iI x3 = iI 2 by rw [iI_eq (by omega) (by omega) (by omega) (by omega)]; omega)]
    by_cases e : x3 = 1
    · rw [if_pos (by rw [e]), if_neg (show ¬ iI w = iI 2 by rw [iI_eq (by omega) (by omega) (by omega) (by omega)]; omega)]
    · rw [if_neg (show ¬ iI x3 = iI 1 by rw [iI_eq (by omega) (by omega) (by omega) (by omega)]; omega)]
  have full : ∀ (K : St → Int32 → Int32 → Int32 → Int32 → Option St) (τ2 : St) (w : Int) (x3 : Int32), (2 ≤ w ∧ w ≤ 4) → (w = 4 ∨ τ2 26 23 = iI 4) → F_X11_overdue_h16 K τ2 (iI g) (iI t) x3 (iI w) = some τ2 := by
    intro K τ2 w x3 hw h3
    unfold F_X11_overdue_h16
    simp only [iI_lit]
    by_cases e : w = 4
    · rw [if_pos (by rw [iI_le (by omega) (by omega) (by omega) (by omega)]; omega)]
    · rw [if_neg (show ¬ iI 4 ≤ iI w by rw [iI_le (by omega) (by omega) (by omega) (by omega)]; omega), if_pos (by rw [h3.resolve_left e]; decide)]
  unfold odL
  by_cases p1 : tL sh g 1 = 1
  · rw [if_pos p1]
    obtain ⟨τ2, c1, c2⟩ := p46 (fx F_X11_overdue_h16 z_X11_overdue_h16 (f + 2)) 2 (iI 1) τ1 ca1 b2 (Or.inl rfl) (m1 (by omega) (by omega)) (by omega)
    have go : F_X11_overdue_h16 (fx F_X11_overdue_h16 z_X11_overdue_h16 (f + 2)) τ1 (iI g) (iI t) (iI 1) (iI 2) = f_X11_overdue_p46 (fx F_X11_overdue_h16 z_X11_overdue_h16 (f + 2)) τ1 (iI g) (iI t) (iI 1) (iI 2) := by
      unfold F_X11_overdue_h16
      rw [if_neg (by decide), k23, if_neg (by decide), if_pos (by decide), if_pos (by decide)]
    rw [p1, go, c2, fx_s]
    have c23 := c1.2.2.2.1.1
    simp only [show (2 : Int).toNat = 2 from rfl] at c1 c23
    cases hs1 : seenZ sh o (tL sh g 2).toNat (s.2.1 s.1) (s.2.2.1 s.1) (tideZ sh (t + s.1))
    · rw [hs1, if_pos rfl] at c1 c23
      rw [List.length_append, hl2] at c23
      exact ⟨τ2, full _ _ _ _ (by omega) (Or.inr c23), c1⟩
    · rw [hs1, if_neg (by decide)] at c1 c23
      rw [hl2] at c23
      rw [if_neg (by decide), List.append_nil]
      exact ⟨τ2, stop _ _ _ 1 (by omega) (Or.inr rfl) (by omega) c23, c1⟩
  · rw [if_neg p1]
    by_cases p2 : tL sh g 1 = 2
    · rw [if_pos p2]
      obtain ⟨τ2, c1, c2⟩ := p46 (fx F_X11_overdue_h16 z_X11_overdue_h16 (f + 2)) 2 (iI 2) τ1 ca1 b2 (Or.inl rfl) (m1 (by omega) (by omega)) (by omega)
      have go : ∀ (K : St → Int32 → Int32 → Int32 → Int32 → Option St) (τ3 : St) (w : Int), (w = 2 ∨ w = 3) → τ3 26 23 = iI 3 → F_X11_overdue_h16 K τ3 (iI g) (iI t) (iI 2) (iI w) = f_X11_overdue_p46 K τ3 (iI g) (iI t) (iI 2) (iI w) := by
        intro K τ3 w hw h3
        unfold F_X11_overdue_h16 f_X11_overdue_p41
        rw [h3, if_neg (show ¬ (4 : Int32) ≤ iI w by rw [iI_lit, iI_le (by omega) (by omega) (by omega) (by omega)]; omega), if_neg (by decide), if_neg (by decide), if_pos (by decide)]
      rw [p2, go _ _ 2 (Or.inl rfl) k23, c2, fx_s]
      have c23 := c1.2.2.2.1.1
      simp only [show (2 : Int).toNat = 2 from rfl] at c1 c23
      cases hs1 : seenZ sh o (tL sh g 2).toNat (s.2.1 s.1) (s.2.2.1 s.1) (tideZ sh (t + s.1))
      · rw [hs1, if_pos rfl] at c1 c23
        rw [List.length_append, hl2] at c23
        exact ⟨τ2, full _ _ _ _ (by omega) (Or.inr c23), c1⟩
      · rw [hs1, if_neg (by decide)] at c1 c23
        rw [hl2] at c23
        rw [if_neg (by decide)]
        obtain ⟨τ4, d1, d2⟩ := p46 (fx F_X11_overdue_h16 z_X11_overdue_h16 (f + 1)) 3 (iI 2) τ2 ca1 c1 (Or.inr rfl) (m2 p2) (by omega)
        rw [show (2 : Int) + 1 = 3 from rfl, go _ _ 3 (Or.inr rfl) c23, d2, fx_s]
        simp only [show (3 : Int).toNat = 3 from rfl] at d1
        cases hs2 : seenZ sh o (tL sh g 3).toNat (s.2.1 s.1) (s.2.2.1 s.1) (tideZ sh (t + s.1))
        · rw [hs2, if_pos rfl] at d1
          exact ⟨τ4, full _ _ _ _ (by omega) (Or.inl rfl), d1⟩
        · rw [hs2, if_neg (by decide)] at d1
          rw [if_neg (by decide), List.append_nil]
          exact ⟨τ4, full _ _ _ _ (by omega) (Or.inl rfl), d1⟩
    · rw [if_neg p2, List.append_nil]
      exact ⟨τ1, stop _ _ 2 _ (by omega) (Or.inl rfl) (by omega) k23, b2⟩
end MG
