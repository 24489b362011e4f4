section SA
variable {σ τ : St} {sh : Nat → Int}
theorem kept_n {k : Nat} (c : Nat) (h : kept k = true) (hc : kept c = false) : k ≠ c := by
  intro e
  rw [e, hc] at h
  exact absurd h (by decide)
theorem CF_inv {t dr : Int} {ob : Int32} {q : VQ} (h : CF τ σ sh t dr ob q) (hI : Inv σ) : Inv τ := by
  have F := h.1
  have e26 : τ 26 = σ 26 := F 26 (by decide) (by decide) (by decide) (by decide) (by decide) (by decide)
  refine Inv_same hI (fun k hk => F k (kept_n 8 hk rfl) (kept_n 12 hk rfl) (kept_n 19 hk rfl) (kept_n 20 hk rfl) (kept_n 21 hk rfl) (kept_n 22 hk rfl)) ?_
  rw [e26]
  exact ⟨rfl, rfl, rfl, rfl⟩
theorem RF_get {t dr : Int} {o : Nat → Bool} {q : VQ} (h : RF τ σ sh t dr o q) : (∀ k, k ≠ 26 → k ≠ 33 → k ≠ 34 → k ≠ 35 → k ≠ 36 → k ≠ 37 → k ≠ 38 → τ k = σ k) ∧ (∀ j, (j < 18 ∨ 23 < j) → τ 26 j = σ 26 j) ∧
    (τ 26 18 = iI q.1.1 ∧ τ 26 19 = iI q.2.1 ∧ τ 26 20 = bI (decide (enZ sh q = 0)) ∧ τ 26 21 = iI q.1.2.2.2.2.1 ∧ τ 26 22 = iI q.1.2.2.2.2.2) ∧
    (τ 26 23 = iI (caL sh t dr o q.2.2.1 q.2.1 q.1).length ∧ ∀ j, j < (caL sh t dr o q.2.2.1 q.2.1 q.1).length → τ 37 j = iI ((caL sh t dr o q.2.2.1 q.2.1 q.1).getD j (0, 0)).1 ∧ τ 38 j = iI ((caL sh t dr o q.2.2.1 q.2.1 q.1).getD j (0, 0)).2) ∧
    (∀ j, j ≤ q.1.1 → τ 33 j = iI (q.1.2.1 j) ∧ τ 34 j = iI (q.1.2.2.1 j) ∧ τ 35 j = iI (q.1.2.2.2.1 j)) ∧ (∀ j, j < bgN q → τ 36 j = iI (q.2.2.2 j)) := by
  obtain ⟨τ0, i, ⟨hF, hJ, ⟨h1, h2, h3, h4, h5⟩, ⟨hc, hd⟩, hT, hL, hG⟩, rfl⟩ := h
  refine ⟨fun k k1 k2 k3 k4 k5 k6 k7 => by rw [g_u2_n1 k1]; exact hF k k1 k2 k3 k4 k5 k6 k7, fun j hj => by rw [g_u2_n2 (by omega)]; exact hJ j hj, ⟨?_, ?_, ?_, ?_, ?_⟩, ⟨?_, fun j hj => ?_⟩, fun j hj => ?_, fun j hj => ?_⟩
  · rw [g_u2_n2 (by decide)]; exact h1
  · rw [g_u2_n2 (by decide)]; exact h2
  · rw [g_u2_e]
  · rw [g_u2_n2 (by decide)]; exact h4
  · rw [g_u2_n2 (by decide)]; exact h5
  · rw [g_u2_n2 (by decide)]; exact hc
  · rw [g_u2_n1 (by decide), g_u2_n1 (by decide)]; exact hd j hj
  · rw [g_u2_n1 (by decide), g_u2_n1 (by decide), g_u2_n1 (by decide)]; exact hT j hj
  · rw [g_u2_n1 (by decide)]; exact hL j hj
theorem RF_inv {t dr : Int} {o : Nat → Bool} {q : VQ} (h : RF τ σ sh t dr o q) (hI : Inv σ) : Inv τ := by
  obtain ⟨F, J, -⟩ := RF_get h
  exact Inv_same hI (fun k hk => F k (kept_n 26 hk rfl) (kept_n 33 hk rfl) (kept_n 34 hk rfl) (kept_n 35 hk rfl) (kept_n 36 hk rfl) (kept_n 37 hk rfl) (kept_n 38 hk rfl)) ⟨J 2 (by omega), J 4 (by omega), J 5 (by omega), J 13 (by omega)⟩
/-- a voyage of the sheet, without any mark out -/
def vq (sh : Nat → Int) (t dr : Int) : VQ := voy sh (fun g => tL sh g 0) t dr (fun _ => false)
theorem vq_b (V : Val sh) {t dr : Int} (ht : 0 ≤ t ∧ t ≤ 99) (hdr : 0 ≤ dr ∧ dr ≤ 20) : (vq sh t dr).1.1 ≤ 360 ∧ (vq sh t dr).2.1 ≤ 6 := by
  have h6 := V.1
  have z := vs0_p V
  have vp := vlegs_p V (cf := fun g => tL sh g 0) ht hdr (o := fun _ => false) (sh 77).toNat 0 (vs0 sh) (fun _ => 0) (by omega) z.1 z.2.1 (by omega)
  unfold vq voy
  generalize vlegs sh (fun g => tL sh g 0) t dr (fun _ => false) (sh 77).toNat 0 (vs0 sh) (fun _ => 0) = q at *
  obtain ⟨v1, v2, v3, v4⟩ := vp
  rcases v4 with e | e
  · have := v3 e
    omega
  · omega
theorem en_b (V : Val sh) {t dr : Int} (ht : 0 ≤ t ∧ t ≤ 99) (hdr : 0 ≤ dr ∧ dr ≤ 20) : 0 ≤ enZ sh (vq sh t dr) ∧ enZ sh (vq sh t dr) ≤ 10 := by
  have h6 := V.1
  have z := vs0_p V
  have vp := vlegs_p V (cf := fun g => tL sh g 0) ht hdr (o := fun _ => false) (sh 77).toNat 0 (vs0 sh) (fun _ => 0) (by omega) z.1 z.2.1 (by omega)
  unfold vq voy enZ
  generalize vlegs sh (fun g => tL sh g 0) t dr (fun _ => false) (sh 77).toNat 0 (vs0 sh) (fun _ => 0) = q at *
  obtain ⟨v1, v2, v3, v4⟩ := vp
  split
  · split <;> omega
  · omega
theorem c_make (V : Val sh) (R : RC (σ 14) sh) {t dr : Int} (ht : 0 ≤ t ∧ t ≤ 99) (hdr : 0 ≤ dr ∧ dr ≤ 20) : ∃ τ, f_X8_make σ (iI t) (iI dr) (iI 0) (iI (-1)) (iI 0) = some τ ∧ CF τ σ sh t dr (iI 0) (vq sh t dr) := by
  have e := e_make R V OutB0 ht hdr (og := -1) (oc := 0) (by omega) (by omega)
  rw [show (fun g : Nat => if (g : Int) = -1 then (0 : Int) else tL sh g 0) = fun g => tL sh g 0 from funext fun g => if_neg (by omega)] at e
  exact e
theorem m_make (V : Val sh) (M : MR σ sh) (h : Inv σ) {t dr : Int} (ht : 0 ≤ t ∧ t ≤ 99) (hdr : 0 ≤ dr ∧ dr ≤ 20) : ∃ τ, f_X11_sails σ (iI t) (iI dr) = some τ ∧ RF τ σ sh t dr (fun _ => false) (vq sh t dr) :=
  m_sails M V (by rw [iv_out h]; exact OutB0) ht hdr
theorem CF_mr {t dr : Int} {ob : Int32} {q : VQ} (h : CF τ σ sh t dr ob q) (M : MR σ sh) : MR τ sh := by
  have F := h.1
  unfold MR
  rw [F 27 (by decide) (by decide) (by decide) (by decide) (by decide) (by decide), F 30 (by decide) (by decide) (by decide) (by decide) (by decide) (by decide), F 31 (by decide) (by decide) (by decide) (by decide) (by decide) (by decide)]
  exact M
theorem RF_mr {t dr : Int} {o : Nat → Bool} {q : VQ} (h : RF τ σ sh t dr o q) (M : MR σ sh) : MR τ sh := by
  have F := (RF_get h).1
  unfold MR
  rw [F 27 (by decide) (by decide) (by decide) (by decide) (by decide) (by decide) (by decide), F 30 (by decide) (by decide) (by decide) (by decide) (by decide) (by decide) (by decide), F 31 (by decide) (by decide) (by decide) (by decide) (by decide) (by decide) (by decide)]
  exact M
theorem CF_rc {t dr : Int} {ob : Int32} {q : VQ} (h : CF τ σ sh t dr ob q) (R : RC (σ 14) sh) : RC (τ 14) sh := by
  rw [h.1 14 (by decide) (by decide) (by decide) (by decide) (by decide) (by decide)]
  exact R
theorem c_makeVoyage (V : Val sh) (R : RC (σ 14) sh) {t : Int} (ht : 0 ≤ t ∧ t ≤ 99) : ∃ τ, f_X10_makeVoyage σ (iI t) = some τ ∧ CF τ σ sh t (sh 0) (iI 0) (vq sh t (sh 0)) := by
  obtain ⟨τ, a, b⟩ := c_make V R ht V.2.2.2.1
  refine ⟨τ, ?_, b⟩
  unfold f_X10_makeVoyage
  simp only [iI_lit, iI_neg]
  rw [q_shipCell R rfl (by omega) (by omega), obs]
  simp only [Int.toNat_zero]
  rw [a, obs]
theorem ref_dr (M : MR σ sh) : σ 27 1 = iI (sh 0) := M.ship 0 (by decide)
theorem gd0 {x : Option (Int32 × St)} {σ : St} {a : Int32} {k : Int32 × St → Option (Int32 × St)} (h : x = some (iI 0, σ)) : (Option.bind x fun q => if q.1 = 0 then some (a, q.2) else k q) = some (a, σ) := by
  rw [h, obs]
  exact if_pos (show iI 0 = 0 by decide)
theorem gd1 {x : Option (Int32 × St)} {σ : St} {A k : Int32 × St → Option (Int32 × St)} (h : x = some (iI 1, σ)) : (Option.bind x fun q => if q.1 = 0 then A q else k q) = k (iI 1, σ) := by
  rw [h, obs]
  exact if_neg (show ¬ iI 1 = 0 by decide)
theorem sheet_t (M : MR σ sh) : f_X11_isSheet σ = some (iI 1, σ) := m_isSheet M
theorem start_t {z : Int} (h : 0 ≤ z ∧ z ≤ 99) : f_X11_isStart τ (iI z) = some (iI 1, τ) := by rw [w_isStart (by omega) (by omega), decide_eq_true h]; rfl
theorem start_f {z : Int} (h1 : -2147483648 ≤ z) (h2 : z < 2147483648) (h : ¬ (0 ≤ z ∧ z ≤ 99)) : f_X11_isStart τ (iI z) = some (iI 0, τ) := by rw [w_isStart h1 h2, decide_eq_false h]; rfl
theorem start0_t {z : Int} (h : 0 ≤ z ∧ z ≤ 99) : f_X10_isStart τ (iI z) = some (iI 1, τ) := by rw [w_isStart0 (by omega) (by omega), decide_eq_true h]; rfl
theorem start0_f {z : Int} (h1 : -2147483648 ≤ z) (h2 : z < 2147483648) (h : ¬ (0 ≤ z ∧ z ≤ 99)) : f_X10_isStart τ (iI z) = some (iI 0, τ) := by rw [w_isStart0 h1 h2, decide_eq_false h]; rfl
theorem within_t {z c : Int} (hc : 0 ≤ c ∧ c < 2147483648) (h : 0 ≤ z ∧ z ≤ c) : f_X10_isWithin τ (iI z) (iI 0) (iI c) = some (iI 1, τ) := by rw [e_isWithin (by omega) (by omega) (by omega) (by omega) (by omega) (by omega), decide_eq_true h]; rfl
theorem within_f {z c : Int} (hc : 0 ≤ c ∧ c < 2147483648) (h1 : -2147483648 ≤ z) (h2 : z < 2147483648) (h : ¬ (0 ≤ z ∧ z ≤ c)) : f_X10_isWithin τ (iI z) (iI 0) (iI c) = some (iI 0, τ) := by rw [e_isWithin (by omega) (by omega) (by omega) (by omega) (by omega) (by omega), decide_eq_false h]; rfl
theorem in_t {z c : Int} (hc : 0 ≤ c ∧ c < 2147483648) (h : 0 ≤ z ∧ z ≤ c) : f_X11_in τ (iI z).toInt64 (iI 0).toInt64 (iI c).toInt64 = some (iI 1, τ) := by rw [e_in (by omega) (by omega) (by omega) (by omega) (by omega) (by omega), decide_eq_true h]; rfl
theorem in_f {z c : Int} (hc : 0 ≤ c ∧ c < 2147483648) (h1 : -2147483648 ≤ z) (h2 : z < 2147483648) (h : ¬ (0 ≤ z ∧ z ≤ c)) : f_X11_in τ (iI z).toInt64 (iI 0).toInt64 (iI c).toInt64 = some (iI 0, τ) := by rw [e_in (by omega) (by omega) (by omega) (by omega) (by omega) (by omega), decide_eq_false h]; rfl
theorem J0 : (0 : Int32) = iI 0 := by decide
theorem J2 : (2 : Int32) = iI 2 := by decide
theorem J6 : (6 : Int32) = iI 6 := by decide
theorem p_sail : P_sail Inv := by
  intro σ a1 a2 h
  obtain ⟨t, rfl, x1, x2⟩ := iI_ex a1
  obtain ⟨y, rfl, y1, y2⟩ := iI_ex a2
  rcases iv_sheet h with u | ⟨sh, V, R, M⟩
  · exact ⟨(-1000002, σ), (-1000002, σ), gd0 (told_u u), gd0 (sheet_u u), rfl, h⟩
  by_cases a : 0 ≤ t ∧ t ≤ 99
  case neg => exact ⟨(-1000001, σ), (-1000001, σ), (gd1 (told_t V R)).trans (gd0 (start0_f x1 x2 a)), (gd1 (sheet_t M)).trans (gd0 (start_f x1 x2 a)), rfl, h⟩
  by_cases b : 0 ≤ y ∧ y ≤ 6
  case neg => exact ⟨(-1000001, σ), (-1000001, σ), (gd1 (told_t V R)).trans ((gd1 (start0_t a)).trans (gd0 (by rw [J0, J6]; exact within_f (by omega) y1 y2 b))), (gd1 (sheet_t M)).trans ((gd1 (start_t a)).trans (gd0 (by rw [L0, L6]; exact in_f (by omega) y1 y2 b))), rfl, h⟩
  obtain ⟨τ, c1, c2⟩ := c_makeVoyage V R a
  have i1 := CF_inv c2 h
  have M1 := CF_mr c2 M
  obtain ⟨τ2, d1, d2⟩ := m_make V M1 i1 a V.2.2.2.1
  have i2 := RF_inv d2 i1
  obtain ⟨-, ⟨-, -, g3, g4, g5, -, g7, g8, g10, g11, -⟩, -⟩ := c2
  obtain ⟨-, -, ⟨k18, k19, k20, k21, k22⟩, -, kT, -⟩ := RF_get d2
  have kT1 := kT _ (Nat.le_refl _)
  have vb := vq_b V a V.2.2.2.1
  have eb := en_b V a V.2.2.2.1
  have dr := ref_dr M1
  have gd : 0 ≤ (iI ((vq sh t (sh 0)).1.1 : Int)).toInt ∧ (iI ((vq sh t (sh 0)).1.1 : Int)).toInt < 361 := by rw [iI_toInt (by omega) (by omega)]; omega
  have cl : (iI ((vq sh t (sh 0)).1.1 : Int)).toNatClampNeg = (vq sh t (sh 0)).1.1 := by rw [iI_clamp (by omega) (by omega), Int.toNat_natCast]
  have ar : f_X8_arrives τ = some (bI (decide (enZ sh (vq sh t (sh 0)) = 0)), τ) := by
    unfold f_X8_arrives
    rw [g8]
    by_cases e : enZ sh (vq sh t (sh 0)) = 0
    · rw [e, if_pos (by decide)]; rfl
    · rw [if_neg (by rw [J0, iI_eq (by omega) (by omega) (by omega) (by omega)]; exact e), decide_eq_false e]; rfl
  generalize vq sh t (sh 0) = q at *
  obtain ⟨F, hF⟩ : ∃ F : St → Option (Int32 × St), F = fun q30 => if iI y = 0 then some (q30 8 3, q30) else if iI y = 1 then some (q30 8 4, q30) else if iI y = 2 then some (q30 8 5, q30) else if iI y = 3 then some (q30 8 7, q30) else if iI y = 4 then (Option.bind (f_X8_arrives q30) fun q36 => if q36.1 = 0 then some (0, q36.2) else some (1, q36.2)) else if iI y = 5 then some (q30 8 10, q30) else some (q30 8 11, q30) := ⟨_, rfl⟩
  obtain ⟨G, hG⟩ : ∃ G : St → Option (Int32 × St), G = fun q30 => if iI y = 0 then some (q30 26 18, q30) else if iI y = 1 then (if 0 ≤ (q30 26 18 : Int32).toInt ∧ (q30 26 18 : Int32).toInt < 361 then some (q30 33 (q30 26 18).toNatClampNeg, q30) else none) else if iI y = 2 then (if 0 ≤ (q30 26 18 : Int32).toInt ∧ (q30 26 18 : Int32).toInt < 361 then some (q30 34 (q30 26 18).toNatClampNeg, q30) else none) else if iI y = 3 then some (q30 26 19, q30) else if iI y = 4 then (if (q30 26 20) = 0 then some (0, q30) else some (1, q30)) else if iI y = 5 then some (q30 26 21, q30) else some (q30 26 22, q30) := ⟨_, rfl⟩
  have s1 : f_X10_sail σ (iI t) (iI y) = F τ := by
    refine (gd1 (told_t V R)).trans ((gd1 (start0_t a)).trans ((gd1 (by rw [J0, J6]; exact within_t (by omega) b)).trans ?_))
    dsimp only
    rw [c1, obs, hF]
  have s2 : f_X11_sail τ (iI t) (iI y) = G τ2 := by
    refine (gd1 (sheet_t M1)).trans ((gd1 (start_t a)).trans ((gd1 (by rw [L0, L6]; exact in_t (by omega) b)).trans ?_))
    dsimp only
    rw [dr, d1, obs, hG]
  rw [hF] at s1
  rw [hG] at s2
  dsimp only at s1 s2
  rw [g3, g4, g5, g7, g10, g11, ar, obs] at s1
  rw [k18, k19, k20, k21, k22, cl, kT1.1, kT1.2.1, if_pos gd, if_pos gd] at s2
  rw [s1]
  rcases (show y = 0 ∨ y = 1 ∨ y = 2 ∨ y = 3 ∨ y = 4 ∨ y = 5 ∨ y = 6 by omega) with e | e | e | e | e | e | e <;> subst e
  · exact ⟨_, _, rfl, s2, rfl, i2⟩
  · exact ⟨_, _, rfl, s2, rfl, i2⟩
  · exact ⟨_, _, rfl, s2, rfl, i2⟩
  · exact ⟨_, _, rfl, s2, rfl, i2⟩
  · have e1 : (if (bI (decide (enZ sh q = 0)), τ).1 = 0 then some ((0 : Int32), (bI (decide (enZ sh q = 0)), τ).2) else some (1, (bI (decide (enZ sh q = 0)), τ).2)) = some (bI (decide (enZ sh q = 0)), τ) := by
      rw [J0]; exact bz (by rw [bI_0])
    have e2 : (if bI (decide (enZ sh q = 0)) = 0 then some ((0 : Int32), τ2) else some (1, τ2)) = some (bI (decide (enZ sh q = 0)), τ2) := by
      rw [J0]; exact bz (by rw [bI_0])
    exact ⟨_, _, e1, s2.trans e2, rfl, i2⟩
  · exact ⟨_, _, rfl, s2, rfl, i2⟩
  · exact ⟨_, _, rfl, s2, rfl, i2⟩
end SA
