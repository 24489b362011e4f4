section WP
variable {σ τ : St} {sh : Nat → Int}
theorem CA_inv {ca : List (Int × Int)} (h : CA τ σ ca) (hI : Inv σ) : Inv τ := by
  have F := h.1
  have e26 : τ 26 = σ 26 := F 26 (by decide) (by decide) (by decide)
  refine Inv_same hI (fun k hk => F k (kept_n 9 hk rfl) (kept_n 23 hk rfl) (kept_n 24 hk rfl)) ?_
  rw [e26]
  exact ⟨rfl, rfl, rfl, rfl⟩
theorem CA_mr {ca : List (Int × Int)} (h : CA τ σ ca) (M : MR σ sh) : MR τ sh := by
  have F := h.1
  unfold MR
  rw [F 27 (by decide) (by decide) (by decide), F 30 (by decide) (by decide) (by decide), F 31 (by decide) (by decide) (by decide)]
  exact M
theorem vq_e (V : Val sh) {t dr : Int} (ht : 0 ≤ t ∧ t ≤ 99) (hdr : 0 ≤ dr ∧ dr ≤ 20) : VW (vq sh t dr).1 ∧ ((vq sh t dr).2.2.1 = 1 → VP (vq sh t dr).1) ∧ ((vq sh t dr).2.2.1 = 1 ∨ (((vq sh t dr).2.1 : Int) < sh 77 ∧ ((vq sh t dr).2.2.1 = 9 ∨ (((vq sh t dr).2.2.1 = 3 ∨ (vq sh t dr).2.2.1 = 4 ∨ (vq sh t dr).2.2.1 = 5) ∧ mistZ sh (vq sh t dr).2.1 = -1000000)))) := by
  have h6 := V.1
  have z := vs0_p V
  have vp := vlegs_p V (cf := fun g => tL sh g 0) ht hdr (o := fun _ => false) (sh 77).toNat 0 (vs0 sh) (fun _ => 0) (by omega) z.1 z.2.1 (by omega)
  have vw := vlegs_w V (cf := fun g => tL sh g 0) (fun g hg => by have := (V.2.2.2.2.2.2.2 g hg).1; omega) ht hdr (o := fun _ => false) (sh 77).toNat 0 (vs0 sh) (fun _ => 0) (by omega) z.1 z.2.1 (by omega)
  have vm := vlegs_m V (cf := fun g => tL sh g 0) (t := t) (dr := dr) (o := fun _ => false) (sh 77).toNat 0 (vs0 sh) (fun _ => 0)
  unfold vq voy
  generalize vlegs sh (fun g => tL sh g 0) t dr (fun _ => false) (sh 77).toNat 0 (vs0 sh) (fun _ => 0) = q at *
  obtain ⟨v1, v2, v3, v4⟩ := vp
  refine ⟨vw, fun h => (v3 h).1, ?_⟩
  rcases v4 with e | ⟨e1, e2, e3⟩
  · exact Or.inl e
  · refine Or.inr ⟨by omega, ?_⟩
    rcases e3 with e | e | e | e
    · exact Or.inr ⟨Or.inl e, vm (Or.inl e)⟩
    · exact Or.inr ⟨Or.inr (Or.inl e), vm (Or.inr (Or.inl e))⟩
    · exact Or.inr ⟨Or.inr (Or.inr e), vm (Or.inr (Or.inr e))⟩
    · exact Or.inl e.1
theorem caL_4 (V : Val sh) {t dr : Int} (ht : 0 ≤ t ∧ t ≤ 99) (hdr : 0 ≤ dr ∧ dr ≤ 20) (o : Nat → Bool) : (caL sh t dr o (vq sh t dr).2.2.1 (vq sh t dr).2.1 (vq sh t dr).1).length ≤ 4 := by
  have v := (vq_e V ht hdr).2.2
  by_cases e : (vq sh t dr).2.2.1 = 1
  · unfold caL
    rw [if_neg (by omega), if_neg (by omega), if_neg (by omega), if_neg (by omega)]
    split
    · show 0 ≤ 4; decide
    · show 2 ≤ 4; decide
  · exact (caL_l (by omega) _ _).2
theorem p_why : P_why Inv := by
  intro σ a1 a2 a3 h
  obtain ⟨t, rfl, x1, x2⟩ := iI_ex a1
  obtain ⟨m, rfl, m1, m2⟩ := iI_ex a2
  obtain ⟨y, rfl, y1, y2⟩ := iI_ex a3
  rcases iv_sheet h with u | ⟨sh, V, R, M⟩
  · exact ⟨(-1000002, σ), (-1000002, σ), gd0 (told_u u), gd0 (sheet_u u), rfl, h⟩
  by_cases a : 0 ≤ t ∧ t ≤ 99
  case neg => exact ⟨(-1000001, σ), (-1000001, σ), (gd1 (told_t V R)).trans (gd0 (start0_f x1 x2 a)), (gd1 (sheet_t M)).trans (gd0 (start_f x1 x2 a)), rfl, h⟩
  by_cases c : m < 0
  · have c' : iI m < 0 := by rw [J0, iI_lt (by omega) (by omega) (by omega) (by omega)]; exact c
    exact ⟨(-1000001, σ), (-1000001, σ), (gd1 (told_t V R)).trans ((gd1 (start0_t a)).trans (if_pos c')), (gd1 (sheet_t M)).trans ((gd1 (start_t a)).trans (if_pos c')), rfl, h⟩
  have c' : ¬ iI m < 0 := by rw [J0, iI_lt (by omega) (by omega) (by omega) (by omega)]; exact c
  have J1 : (1 : Int32) = iI 1 := by decide
  by_cases b : 0 ≤ y ∧ y ≤ 1
  case neg => exact ⟨(-1000001, σ), (-1000001, σ), (gd1 (told_t V R)).trans ((gd1 (start0_t a)).trans ((if_neg c').trans (gd0 (by rw [J0, J1]; exact within_f (by omega) y1 y2 b)))), (gd1 (sheet_t M)).trans ((gd1 (start_t a)).trans ((if_neg c').trans (gd0 (by rw [L0, L1]; exact in_f (by omega) y1 y2 b)))), rfl, h⟩
  obtain ⟨τ, c1, c2⟩ := c_makeVoyage V R a
  have vb := vq_b V a V.2.2.2.1
  obtain ⟨ve1, ve2, ve3⟩ := vq_e V a V.2.2.2.1
  have c4 := caL_4 V a V.2.2.2.1 (fun _ => false)
  obtain ⟨τ1, f1, f2⟩ := k_find R V OutB0 a V.2.2.2.1 c2 vb.1 ve1 ve2 ve3
  have i1 := CA_inv f2 (CF_inv c2 h)
  have M1 := CA_mr f2 (CF_mr c2 M)
  obtain ⟨τ2, d1, d2⟩ := m_make V M1 i1 a V.2.2.2.1
  have i2 := RF_inv d2 i1
  have dr := ref_dr M1
  obtain ⟨-, -, -, ⟨k23, kC⟩, -⟩ := RF_get d2
  obtain ⟨-, g6, gC⟩ := f2
  generalize caL sh t (sh 0) (fun _ => false) (vq sh t (sh 0)).2.2.1 (vq sh t (sh 0)).2.1 (vq sh t (sh 0)).1 = ca at *
  have s1 : f_X10_why σ (iI t) (iI m) (iI y) = if iI y = 0 then (Option.bind (f_X0_kindOf τ1 (iI m)) fun q37 => some (q37.1, q37.2)) else (Option.bind (f_X0_numberOf τ1 (iI m)) fun q35 => some (q35.1, q35.2)) := by
    refine (gd1 (told_t V R)).trans ((gd1 (start0_t a)).trans ((if_neg c').trans ((gd1 (by rw [J0, J1]; exact within_t (by omega) b)).trans ?_)))
    dsimp only
    rw [c1, obs, f1, obs]
  have s2 : f_X11_why τ1 (iI t) (iI m) (iI y) = if iI m < τ2 26 23 then (if iI y = 0 then (if 0 ≤ (iI m).toInt ∧ (iI m).toInt < 4 then some (τ2 37 (iI m).toNatClampNeg, τ2) else none) else (if 0 ≤ (iI m).toInt ∧ (iI m).toInt < 4 then some (τ2 38 (iI m).toNatClampNeg, τ2) else none)) else some (-1000000, τ2) := by
    refine (gd1 (sheet_t M1)).trans ((gd1 (start_t a)).trans ((if_neg c').trans ((gd1 (by rw [L0, L1]; exact in_t (by omega) b)).trans ?_)))
    dsimp only
    rw [dr, d1, obs]
  rw [s1]
  unfold f_X0_kindOf f_X0_numberOf
  rw [if_neg c', if_neg c', g6]
  rw [k23] at s2
  by_cases e : m < ca.length
  · obtain ⟨n, rfl⟩ : ∃ n : Nat, m = n := ⟨m.toNat, by omega⟩
    have gd : 0 ≤ (iI (n : Int)).toInt ∧ (iI (n : Int)).toInt < 4 := by rw [iI_toInt (by omega) (by omega)]; omega
    have cl : (iI (n : Int)).toNatClampNeg = n := by rw [iI_clamp (by omega) (by omega), Int.toNat_natCast]
    have gC1 := gC n (by omega)
    have kC1 := kC n (by omega)
    have z1 : ¬ iI (ca.length : Int) ≤ iI (n : Int) := by rw [iI_le (by omega) (by omega) (by omega) (by omega)]; omega
    have z2 : ¬ (4 : Int32) ≤ iI (n : Int) := by rw [show (4 : Int32) = iI 4 by decide, iI_le (by omega) (by omega) (by omega) (by omega)]; omega
    rw [if_neg z1, if_neg z2, if_pos gd, if_neg z1, if_neg z2, if_pos gd, cl, gC1.1, gC1.2]
    rw [if_pos (show iI (n : Int) < iI (ca.length : Int) by rw [iI_lt (by omega) (by omega) (by omega) (by omega)]; omega), if_pos gd, if_pos gd, cl, kC1.1, kC1.2] at s2
    rcases (show y = 0 ∨ y = 1 by omega) with e | e <;> subst e
    · exact ⟨_, _, rfl, s2, rfl, i2⟩
    · exact ⟨_, _, rfl, s2, rfl, i2⟩
  · have z1 : iI (ca.length : Int) ≤ iI m := by rw [iI_le (by omega) (by omega) (by omega) (by omega)]; omega
    rw [if_pos z1, if_pos z1]
    rw [if_neg (show ¬ iI m < iI (ca.length : Int) by rw [iI_lt (by omega) (by omega) (by omega) (by omega)]; omega)] at s2
    rcases (show y = 0 ∨ y = 1 by omega) with e | e <;> subst e
    · exact ⟨_, _, rfl, s2, rfl, i2⟩
    · exact ⟨_, _, rfl, s2, rfl, i2⟩
theorem p_feed : P_feed Inv := by
  intro σ a1 h
  obtain ⟨z, rfl, z1, z2⟩ := iI_ex a1
  have J255 : (255 : Int32) = iI 255 := by decide
  have J160 : (160 : Int32) = iI 160 := by decide
  have J1 : (1 : Int32) = iI 1 := by decide
  by_cases b : 0 ≤ z ∧ z ≤ 255
  case neg => exact ⟨(-1000001, σ), (-1000001, σ), gd0 (by rw [J0, J255]; exact within_f (by omega) z1 z2 b), gd0 (by rw [L0, L255]; exact in_f (by omega) z1 z2 b), rfl, h⟩
  obtain ⟨⟨n, hn, t1, t2, t3⟩, hf, hs, hi, hh, hc⟩ := id h
  have s1 : f_X10_feed σ (iI z) = Option.bind (f_X7_isFull σ) fun q12 => if q12.1 = 0 then (Option.bind (f_X7_append q12.2 (iI z)) fun q15 => some (q15.1, q15.2)) else some (-1000003, q12.2) := gd1 (by rw [J0, J255]; exact within_t (by omega) b)
  by_cases e : n = 160
  · refine ⟨(-1000003, σ), (-1000003, σ), ?_, (gd1 (by rw [L0, L255]; exact in_t (by omega) b)).trans (if_pos (show σ 26 4 = 160 by rw [t2, e]; decide)), rfl, h⟩
    rw [s1]
    unfold f_X7_isFull
    rw [t1, e, if_neg (by decide), obs]
    rfl
  · have gd : 0 ≤ (iI (n : Int)).toInt ∧ (iI (n : Int)).toInt < 160 := by rw [iI_toInt (by omega) (by omega)]; omega
    have cl : (iI (n : Int)).toNatClampNeg = n := by rw [iI_clamp (by omega) (by omega), Int.toNat_natCast]
    have s3 : f_X10_feed σ (iI z) = some (iI ((n : Int) + 1), g_u2 (g_u2 σ 13 n (iI z)) 1 1 (iI ((n : Int) + 1))) := by
      rw [s1]
      unfold f_X7_isFull f_X7_append f_X7_append_p30
      rw [t1, if_pos (show iI (n : Int) < 160 by rw [J160, iI_lt (by omega) (by omega) (by omega) (by omega)]; omega), obs]
      dsimp only
      have e1 : g_u2 σ 13 n (iI z) 1 1 = iI n := by rw [g_u2_n1 (by decide), t1]
      rw [if_pos rfl]
      simp only [t1]
      rw [if_neg (show ¬ (160 : Int32) ≤ iI (n : Int) by rw [J160, iI_le (by omega) (by omega) (by omega) (by omega)]; omega), if_pos gd, cl, obs, obs, e1, J1, iI_add, obs, g_u2_e]
    obtain ⟨X, hX⟩ : ∃ X, X = g_u2 (g_u2 σ 13 n (iI z)) 1 1 (iI ((n : Int) + 1)) := ⟨_, rfl⟩
    rw [← hX] at s3
    have x4 : X 26 4 = iI n := by rw [hX, g_u2_n1 (by decide), g_u2_n1 (by decide), t2]
    refine ⟨(iI ((n : Int) + 1), X), (iI ((n : Int) + 1), g_u2 (g_u2 X 29 n (iI z)) 26 4 (iI ((n : Int) + 1))), s3, (gd1 (by rw [L0, L255]; exact in_t (by omega) b)).trans ?_, rfl, ?_⟩
    · simp only [x4]
      rw [if_neg (show ¬ iI (n : Int) = 160 by rw [J160, iI_eq (by omega) (by omega) (by omega) (by omega)]; omega), if_pos gd, cl, obs, obs, show g_u2 X 29 n (iI z) 26 4 = iI n by rw [g_u2_n1 (by decide), x4], J1, iI_add, g_u2_e]
    · have k : ∀ k, k ≠ 1 → k ≠ 13 → k ≠ 26 → k ≠ 29 → g_u2 (g_u2 X 29 n (iI z)) 26 4 (iI ((n : Int) + 1)) k = σ k := fun k k1 k2 k3 k4 => by rw [g_u2_n1 k3, g_u2_n1 k4, hX, g_u2_n1 k1, g_u2_n1 k2]
      have k26 : ∀ j, j ≠ 4 → g_u2 (g_u2 X 29 n (iI z)) 26 4 (iI ((n : Int) + 1)) 26 j = σ 26 j := fun j hj => by rw [g_u2_n2 hj, g_u2_n1 (by decide), hX, g_u2_n1 (by decide), g_u2_n1 (by decide)]
      show Inv (g_u2 (g_u2 X 29 n (iI z)) 26 4 (iI ((n : Int) + 1)))
      refine ⟨⟨n + 1, by omega, ?_, ?_, fun j hj => ?_⟩, ?_, ?_, ?_, ?_, ?_⟩
      · rw [g_u2_n1 (by decide), g_u2_n1 (by decide), hX, g_u2_e]; rfl
      · rw [g_u2_e]; rfl
      · have q13 : g_u2 (g_u2 X 29 n (iI z)) 26 4 (iI ((n : Int) + 1)) 13 = g_u2 σ 13 n (iI z) 13 := by rw [g_u2_n1 (by decide), g_u2_n1 (by decide), hX, g_u2_n1 (by decide)]
        have q29 : g_u2 (g_u2 X 29 n (iI z)) 26 4 (iI ((n : Int) + 1)) 29 = g_u2 X 29 n (iI z) 29 := by rw [g_u2_n1 (by decide)]
        rw [q13, q29]
        by_cases e : j = n
        · subst e
          exact ⟨z, b, g_u2_e _ _ _ _, g_u2_e _ _ _ _⟩
        · obtain ⟨v, v1, v2, v3⟩ := t3 j (by omega)
          refine ⟨v, v1, ?_, ?_⟩
          · rw [g_u2_n2 e, v2]
          · rw [g_u2_n2 e, hX, g_u2_n1 (by decide), g_u2_n1 (by decide), v3]
      · rw [k26 5 (by decide), k 0 (by decide) (by decide) (by decide) (by decide)]; exact hf
      · unfold IvS Un
        rw [k 14 (by decide) (by decide) (by decide) (by decide), k 27 (by decide) (by decide) (by decide) (by decide)]; exact hs
      · unfold IvI
        rw [k 15 (by decide) (by decide) (by decide) (by decide), k 16 (by decide) (by decide) (by decide) (by decide), k 27 (by decide) (by decide) (by decide) (by decide), k 28 (by decide) (by decide) (by decide) (by decide)]; exact hi
      · unfold IvH
        rw [k 4 (by decide) (by decide) (by decide) (by decide), k 18 (by decide) (by decide) (by decide) (by decide), k 27 (by decide) (by decide) (by decide) (by decide), k26 2 (by decide)]; exact hh
      · unfold IvC
        rw [k 30 (by decide) (by decide) (by decide) (by decide), k 31 (by decide) (by decide) (by decide) (by decide), k26 13 (by decide)]; exact hc
end WP
