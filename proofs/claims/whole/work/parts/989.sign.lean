section SH2
variable {σ τ : St} {sh : Nat → Int}
def lgF (sh lm : Nat → Int) : Nat → Nat → List Int
  | 0, _ => []
  | n + 1, g => grF (tL sh g 0).toNat (nl (tL sh g 0).toNat) 0 ++ (fig (lm g) ++ ([59] ++ lgF sh lm n (g + 1)))
def cuF (ca : List (Int × Int)) : Nat → Nat → List Int
  | 0, _ => []
  | d + 1, j => (if j = 0 then [] else [44]) ++ (fig (ca.getD j (0, 0)).1 ++ cuF ca d (j + 1))
theorem len1 (l : List Int) (v : Int) : (l ++ [v]).length = l.length + 1 := by rw [List.length_append]; rfl
theorem l_c (V : Val sh) (R : RC (σ 14) sh) {B : Nat} {lm : Nat → Int} (hB : (B : Int) ≤ sh 77) (h86 : σ 8 6 = iI B) (h22 : ∀ j, j < B → σ 22 j = iI (lm j) ∧ (0 ≤ lm j ∧ lm j ≤ 60)) : ∀ (n g f : Nat) (τ : St) (l : List Int), g + n = B → n < f → LG 9 7 25 τ σ l → l.length + 6 * n ≤ 60 → ∃ τ', fx F_X0_writeLog_h7 z_X0_writeLog_h7 f τ (iI g) = (Option.bind (f_X8_arrives τ') fun q46 => if q46.1 = 0 then f_X0_writeLog_p76 q46.2 33 else f_X0_writeLog_p76 q46.2 46) ∧ LG 9 7 25 τ' σ (l ++ lgF sh lm n g) := by
  intro n
  have h6 := V.1
  induction n with
  | zero =>
    intro g f τ l h1 h2 h hl
    obtain ⟨f, rfl⟩ : ∃ j, f = j + 1 := ⟨f - 1, by omega⟩
    refine ⟨τ, ?_, by rw [show lgF sh lm 0 g = [] from rfl, List.append_nil]; exact h⟩
    rw [fx_s]
    generalize fx F_X0_writeLog_h7 z_X0_writeLog_h7 f = K
    unfold F_X0_writeLog_h7
    rw [h.1 8 (by decide) (by decide), h86]
    exact if_pos ((iI_le (by omega) (by omega) (by omega) (by omega)).mpr (by omega))
  | succ n ih =>
    intro g f τ l h1 h2 h hl
    obtain ⟨f, rfl⟩ : ∃ j, f = j + 1 := ⟨f - 1, by omega⟩
    have hg := (V.2.2.2.2.2.2.2 g (by omega)).1
    have hc : (tL sh g 0).toNat < 16 := by omega
    have nb := nl_b hc
    have lb := h22 g (by omega)
    obtain ⟨τ1, a1, a2⟩ := g_c hc (nl (tL sh g 0).toNat) 0 FU τ l (by omega) (by rw [FU_val]; omega) h (by omega)
    have al := gr_l (tL sh g 0).toNat (nl (tL sh g 0).toNat) 0
    obtain ⟨τ2, b1, b2⟩ := f_c a2 (by rw [List.length_append, al]; omega) (z := lm g) (by omega)
    have fl := fig_l (lm g)
    obtain ⟨τ3, c1, c2⟩ := w_c b2 (by rw [List.length_append, List.length_append, al]; omega) 59
    obtain ⟨τ4, i1, i2⟩ := ih (g + 1) f τ3 _ (by omega) (by omega) c2 (by rw [len1, List.length_append, List.length_append, al]; omega)
    refine ⟨τ4, ?_, ?_⟩
    · rw [← i1, fx_s]
      generalize fx F_X0_writeLog_h7 z_X0_writeLog_h7 f = K at *
      unfold F_X0_writeLog_h7 f_X0_writeGreat
      rw [h.1 8 (by decide) (by decide), h86]
      refine (if_neg (fun h => absurd ((iI_le (by omega) (by omega) (by omega) (by omega)).mp h) (by omega))).trans ?_
      rw [J0, q_legCell R (h.1 14 (by decide) (by decide)) (by omega) (by omega) (by omega) (by omega), obs]
      dsimp only
      rw [Int.toNat_natCast, Int.toNat_zero]
      rw [show f_X2_nameOf τ (iI (tL sh g 0)) = some ((tL sh g 0).toNat, τ) by
        have := j_nameOf (σ := τ) hc
        rw [show (((tL sh g 0).toNat : Nat) : Int) = tL sh g 0 by omega] at this
        exact this, obs]
      dsimp only
      rw [show fx F_X0_writeGreat_h2 z_X0_writeGreat_h2 FU τ (tL sh g 0).toNat (iI 0) = some τ1 from a1, obs]
      have mo : f_X8_minutesOf τ1 (iI g) = some (iI (lm g), τ1) := by
        unfold f_X8_minutesOf
        rw [J0, J6, if_neg (fun h => absurd ((iI_lt (by omega) (by omega) (by omega) (by omega)).mp h) (by omega)), if_neg (fun h => absurd ((iI_le (by omega) (by omega) (by omega) (by omega)).mp h) (by omega)), iI_toInt (by omega) (by omega), if_pos (by omega), iI_clamp (by omega) (by omega), Int.toNat_natCast, a2.1 22 (by decide) (by decide), lb.1]
      rw [mo, obs]
      dsimp only
      rw [b1, obs, show (59 : Int32) = iI 59 by decide, c1, obs, obs, show iI (g : Int) + 1 = iI ((g + 1 : Nat) : Int) by rw [show (1 : Int32) = iI 1 by decide, iI_add]; rfl]
    · rw [List.append_assoc, List.append_assoc, List.append_assoc] at i2
      exact i2
theorem k_c {ca : List (Int × Int)} (hca : ca.length ≤ 4) (hk : ∀ p ∈ ca, 1 ≤ p.1 ∧ p.1 ≤ 10) (h96 : σ 9 6 = iI ca.length) (h23 : ∀ j, j < ca.length → σ 23 j = iI (ca.getD j (0, 0)).1) : ∀ (d j f : Nat) (τ : St) (l : List Int), j + d = ca.length → d < f → LG 9 7 25 τ σ l → l.length + 3 * d ≤ 64 → ∃ τ', fx F_X0_writeLog_h81 z_X0_writeLog_h81 f τ (iI j) = some τ' ∧ LG 9 7 25 τ' σ (l ++ cuF ca d j) := by
  intro d
  induction d with
  | zero =>
    intro j f τ l h1 h2 h hl
    obtain ⟨f, rfl⟩ : ∃ j, f = j + 1 := ⟨f - 1, by omega⟩
    refine ⟨τ, ?_, by rw [show cuF ca 0 j = [] from rfl, List.append_nil]; exact h⟩
    rw [fx_s]
    generalize fx F_X0_writeLog_h81 z_X0_writeLog_h81 f = K
    unfold F_X0_writeLog_h81
    rw [h.2.1 6 (by decide), h96]
    exact if_pos ((iI_le (by omega) (by omega) (by omega) (by omega)).mpr (by omega))
  | succ d ih =>
    intro j f τ l h1 h2 h hl
    obtain ⟨f, rfl⟩ : ∃ j, f = j + 1 := ⟨f - 1, by omega⟩
    have kb : 1 ≤ (ca.getD j (0, 0)).1 ∧ (ca.getD j (0, 0)).1 ≤ 10 := by
      apply hk
      rw [List.getD_eq_getElem?_getD, List.getElem?_eq_getElem (by omega)]
      exact List.getElem_mem _
    have p99 : ∀ (τ1 : St) (l1 : List Int), LG 9 7 25 τ1 σ l1 → l1.length + 2 + 3 * d ≤ 64 → ∃ τ', f_X0_writeLog_p99 (fx F_X0_writeLog_h81 z_X0_writeLog_h81 f) τ1 (iI j) = some τ' ∧ LG 9 7 25 τ' σ (l1 ++ (fig (ca.getD j (0, 0)).1 ++ cuF ca d (j + 1))) := by
      intro τ1 l1 g1 g2
      obtain ⟨τ2, b1, b2⟩ := f_c g1 (by omega) (z := (ca.getD j (0, 0)).1) (by omega)
      have fl := fig_l (ca.getD j (0, 0)).1
      obtain ⟨τ3, i1, i2⟩ := ih (j + 1) f τ2 _ (by omega) (by omega) b2 (by rw [List.length_append]; omega)
      refine ⟨τ3, ?_, by rw [List.append_assoc] at i2; exact i2⟩
      unfold f_X0_writeLog_p99
      have ko : f_X0_kindOf τ1 (iI j) = some (iI (ca.getD j (0, 0)).1, τ1) := by
        unfold f_X0_kindOf
        rw [g1.2.1 6 (by decide), h96, J0, show (4 : Int32) = iI 4 by decide, if_neg (fun h => absurd ((iI_lt (by omega) (by omega) (by omega) (by omega)).mp h) (by omega)), if_neg (fun h => absurd ((iI_le (by omega) (by omega) (by omega) (by omega)).mp h) (by omega)), if_neg (fun h => absurd ((iI_le (by omega) (by omega) (by omega) (by omega)).mp h) (by omega)), iI_toInt (by omega) (by omega), if_pos (by omega), iI_clamp (by omega) (by omega), Int.toNat_natCast, g1.1 23 (by decide) (by decide), h23 j (by omega)]
      rw [ko, obs]
      dsimp only
      rw [b1, obs, obs, show iI (j : Int) + 1 = iI ((j + 1 : Nat) : Int) by rw [show (1 : Int32) = iI 1 by decide, iI_add]; rfl]
      exact i1
    rw [fx_s]
    generalize fx F_X0_writeLog_h81 z_X0_writeLog_h81 f = K at *
    unfold F_X0_writeLog_h81
    rw [h.2.1 6 (by decide), h96, J0, if_neg (fun h => absurd ((iI_le (by omega) (by omega) (by omega) (by omega)).mp h) (by omega))]
    rw [show cuF ca (d + 1) j = (if j = 0 then [] else [44]) ++ (fig (ca.getD j (0, 0)).1 ++ cuF ca d (j + 1)) from rfl]
    by_cases p : j = 0
    · rw [if_pos p, if_pos ((iI_le (by omega) (by omega) (by omega) (by omega)).mpr (by omega)), List.nil_append]
      exact p99 τ l h (by omega)
    · rw [if_neg p, if_neg (fun h => absurd ((iI_le (by omega) (by omega) (by omega) (by omega)).mp h) (by omega))]
      obtain ⟨τ1, w1, w2⟩ := w_c h (by omega) 44
      rw [show (44 : Int32) = iI 44 by decide, w1, obs]
      obtain ⟨τ2, x1, x2⟩ := p99 τ1 _ w2 (by rw [len1]; omega)
      exact ⟨τ2, x1, by rw [List.append_assoc] at x2; exact x2⟩
theorem g_m {c : Nat} (hc : c < 16) {g : Nat} (hg : g < 6) (K : St → Int32 → Int32 → Option St) (x1 : Int32) : ∀ (d j f : Nat) (τ : St) (l : List Int), j + d = nl c → d < f → LG 26 27 39 τ σ l → l.length + d ≤ 64 → ∃ τ', fx (F_X11_writesLog_h64 K) z_X11_writesLog_h64 f τ x1 (iI g) (iI c) (iI j) = (Option.bind (f_X11_writesNumber τ' (τ' 36 g)) fun q51 => Option.bind (f_X11_writes q51 (iI 59)) fun q53 => K q53 x1 (iI ((g + 1 : Nat) : Int))) ∧ LG 26 27 39 τ' σ (l ++ grF c d j) := by
  intro d
  have nb := nl_b hc
  induction d with
  | zero =>
    intro j f τ l h1 h2 h hl
    obtain ⟨f, rfl⟩ : ∃ j, f = j + 1 := ⟨f - 1, by omega⟩
    refine ⟨τ, ?_, by rw [show grF c 0 j = [] from rfl, List.append_nil]; exact h⟩
    rw [fx_s]
    unfold F_X11_writesLog_h64
    rw [m_nameAt hc (by omega), obs, nm_hi (by omega)]
    refine (if_pos (show iI (-1000000) = -1000000 by decide)).trans ?_
    rw [iI_toInt (by omega) (by omega), if_pos (by omega), iI_clamp (by omega) (by omega), Int.toNat_natCast, show (59 : Int32) = iI 59 by decide, show iI (g : Int) + 1 = iI ((g + 1 : Nat) : Int) by rw [show (1 : Int32) = iI 1 by decide, iI_add]; rfl]
    rfl
  | succ d ih =>
    intro j f τ l h1 h2 h hl
    obtain ⟨f, rfl⟩ : ∃ j, f = j + 1 := ⟨f - 1, by omega⟩
    have mb := nm_b hc (j := j) (by omega)
    obtain ⟨τ1, w1, w2⟩ := w_m h (by omega) (nm c j - 32)
    obtain ⟨τ2, i1, i2⟩ := ih (j + 1) f τ1 _ (by omega) (by omega) w2 (by rw [len1]; omega)
    refine ⟨τ2, ?_, ?_⟩
    · rw [← i1, fx_s]
      generalize fx (F_X11_writesLog_h64 K) z_X11_writesLog_h64 f = L at *
      unfold F_X11_writesLog_h64
      rw [m_nameAt hc (by omega), obs]
      refine (if_neg (show ¬ iI (nm c j) = -1000000 by rw [show (-1000000 : Int32) = iI (-1000000) by decide, iI_eq (by omega) (by omega) (by omega) (by omega)]; omega)).trans ?_
      dsimp only
      rw [m_nameAt hc (by omega), obs]
      dsimp only
      rw [show (32 : Int32) = iI 32 by decide, iI_sub, w1, obs, obs, show iI (j : Int) + 1 = iI ((j + 1 : Nat) : Int) by rw [show (1 : Int32) = iI 1 by decide, iI_add]; rfl]
    · rw [List.append_assoc] at i2
      exact i2
theorem LG_mr {l : List Int} (h : LG 26 27 39 τ σ l) (M : MR σ sh) : MR τ sh := by
  unfold MR
  rw [h.1 27 (by decide) (by decide), h.1 30 (by decide) (by decide), h.1 31 (by decide) (by decide)]
  exact M
theorem l_m (V : Val sh) (M : MR σ sh) {B : Nat} {lm : Nat → Int} (hB : (B : Int) ≤ sh 77) (h22 : ∀ j, j < B → σ 36 j = iI (lm j) ∧ (0 ≤ lm j ∧ lm j ≤ 60)) : ∀ (n g f : Nat) (τ : St) (l : List Int), g + n = B → n < f → LG 26 27 39 τ σ l → l.length + 6 * n ≤ 60 → ∃ τ', fx F_X11_writesLog_h49 z_X11_writesLog_h49 f τ (iI B) (iI g) = (if τ' 26 20 = 0 then f_X11_writesLog_p131 τ' 33 else f_X11_writesLog_p131 τ' 46) ∧ LG 26 27 39 τ' σ (l ++ lgF sh lm n g) := by
  intro n
  have h6 := V.1
  induction n with
  | zero =>
    intro g f τ l h1 h2 h hl
    obtain ⟨f, rfl⟩ : ∃ j, f = j + 1 := ⟨f - 1, by omega⟩
    refine ⟨τ, ?_, by rw [show lgF sh lm 0 g = [] from rfl, List.append_nil]; exact h⟩
    rw [fx_s]
    generalize fx F_X11_writesLog_h49 z_X11_writesLog_h49 f = K
    unfold F_X11_writesLog_h49
    exact if_pos ((iI_le (by omega) (by omega) (by omega) (by omega)).mpr (by omega))
  | succ n ih =>
    intro g f τ l h1 h2 h hl
    obtain ⟨f, rfl⟩ : ∃ j, f = j + 1 := ⟨f - 1, by omega⟩
    have hg := (V.2.2.2.2.2.2.2 g (by omega)).1
    have hc : (tL sh g 0).toNat < 16 := by omega
    have nb := nl_b hc
    have lb := h22 g (by omega)
    obtain ⟨τ1, a1, a2⟩ := g_m hc (g := g) (by omega) (fx F_X11_writesLog_h49 z_X11_writesLog_h49 f) (iI B) (nl (tL sh g 0).toNat) 0 FU τ l (by omega) (by rw [FU_val]; omega) h (by omega)
    have al := gr_l (tL sh g 0).toNat (nl (tL sh g 0).toNat) 0
    obtain ⟨τ2, b1, b2⟩ := f_m a2 (by rw [List.length_append, al]; omega) (z := lm g) (by omega)
    have fl := fig_l (lm g)
    obtain ⟨τ3, c1, c2⟩ := w_m b2 (by rw [List.length_append, List.length_append, al]; omega) 59
    obtain ⟨τ4, i1, i2⟩ := ih (g + 1) f τ3 _ (by omega) (by omega) c2 (by rw [len1, List.length_append, List.length_append, al]; omega)
    refine ⟨τ4, ?_, ?_⟩
    · rw [← i1, fx_s]
      generalize fx F_X11_writesLog_h49 z_X11_writesLog_h49 f = K at *
      unfold F_X11_writesLog_h49
      refine (if_neg (fun h => absurd ((iI_le (by omega) (by omega) (by omega) (by omega)).mp h) (by omega))).trans ?_
      rw [J0, m_legOf (LG_mr h M) h6.2 (by omega) (by omega) (by omega) (by omega), obs]
      dsimp only
      rw [Int.toNat_natCast, Int.toNat_zero]
      rw [show (((tL sh g 0).toNat : Nat) : Int) = tL sh g 0 by omega] at a1
      refine Eq.trans a1 ?_
      rw [a2.1 36 (by decide) (by decide), lb.1, b1, obs, c1, obs]
    · rw [List.append_assoc, List.append_assoc, List.append_assoc] at i2
      exact i2
theorem k_m {ca : List (Int × Int)} (hca : ca.length ≤ 4) (hk : ∀ p ∈ ca, 1 ≤ p.1 ∧ p.1 ≤ 10) (h96 : σ 26 23 = iI ca.length) (h23 : ∀ j, j < ca.length → σ 37 j = iI (ca.getD j (0, 0)).1) : ∀ (d j f : Nat) (τ : St) (l : List Int), j + d = ca.length → d < f → LG 26 27 39 τ σ l → l.length + 3 * d ≤ 64 → ∃ τ', fx F_X11_writesLog_h136 z_X11_writesLog_h136 f τ (iI j) = some τ' ∧ LG 26 27 39 τ' σ (l ++ cuF ca d j) := by
  intro d
  induction d with
  | zero =>
    intro j f τ l h1 h2 h hl
    obtain ⟨f, rfl⟩ : ∃ j, f = j + 1 := ⟨f - 1, by omega⟩
    refine ⟨τ, ?_, by rw [show cuF ca 0 j = [] from rfl, List.append_nil]; exact h⟩
    rw [fx_s]
    generalize fx F_X11_writesLog_h136 z_X11_writesLog_h136 f = K
    unfold F_X11_writesLog_h136
    rw [h.2.1 23 (by decide), h96]
    exact if_pos ((iI_le (by omega) (by omega) (by omega) (by omega)).mpr (by omega))
  | succ d ih =>
    intro j f τ l h1 h2 h hl
    obtain ⟨f, rfl⟩ : ∃ j, f = j + 1 := ⟨f - 1, by omega⟩
    have kb : 1 ≤ (ca.getD j (0, 0)).1 ∧ (ca.getD j (0, 0)).1 ≤ 10 := by
      apply hk
      rw [List.getD_eq_getElem?_getD, List.getElem?_eq_getElem (by omega)]
      exact List.getElem_mem _
    have p99 : ∀ (τ1 : St) (l1 : List Int), LG 26 27 39 τ1 σ l1 → l1.length + 2 + 3 * d ≤ 64 → ∃ τ', f_X11_writesLog_p154 (fx F_X11_writesLog_h136 z_X11_writesLog_h136 f) τ1 (iI j) = some τ' ∧ LG 26 27 39 τ' σ (l1 ++ (fig (ca.getD j (0, 0)).1 ++ cuF ca d (j + 1))) := by
      intro τ1 l1 g1 g2
      obtain ⟨τ2, b1, b2⟩ := f_m g1 (by omega) (z := (ca.getD j (0, 0)).1) (by omega)
      have fl := fig_l (ca.getD j (0, 0)).1
      obtain ⟨τ3, i1, i2⟩ := ih (j + 1) f τ2 _ (by omega) (by omega) b2 (by rw [List.length_append]; omega)
      refine ⟨τ3, ?_, by rw [List.append_assoc] at i2; exact i2⟩
      unfold f_X11_writesLog_p154
      rw [iI_toInt (by omega) (by omega), if_pos (by omega), iI_clamp (by omega) (by omega), Int.toNat_natCast, g1.1 37 (by decide) (by decide), h23 j (by omega), b1, obs, obs, show iI (j : Int) + 1 = iI ((j + 1 : Nat) : Int) by rw [show (1 : Int32) = iI 1 by decide, iI_add]; rfl]
      exact i1
    rw [fx_s]
    generalize fx F_X11_writesLog_h136 z_X11_writesLog_h136 f = K at *
    unfold F_X11_writesLog_h136
    rw [h.2.1 23 (by decide), h96, J0, if_neg (fun h => absurd ((iI_le (by omega) (by omega) (by omega) (by omega)).mp h) (by omega))]
    rw [show cuF ca (d + 1) j = (if j = 0 then [] else [44]) ++ (fig (ca.getD j (0, 0)).1 ++ cuF ca d (j + 1)) from rfl]
    by_cases p : j = 0
    · rw [if_pos p, if_pos ((iI_le (by omega) (by omega) (by omega) (by omega)).mpr (by omega)), List.nil_append]
      exact p99 τ l h (by omega)
    · rw [if_neg p, if_neg (fun h => absurd ((iI_le (by omega) (by omega) (by omega) (by omega)).mp h) (by omega))]
      obtain ⟨τ1, w1, w2⟩ := w_m h (by omega) 44
      rw [show (44 : Int32) = iI 44 by decide, w1, obs]
      obtain ⟨τ2, x1, x2⟩ := p99 τ1 _ w2 (by rw [len1]; omega)
      exact ⟨τ2, x1, by rw [List.append_assoc] at x2; exact x2⟩
theorem lg_l (lm : Nat → Int) : ∀ (n g : Nat), (∀ j : Nat, g ≤ j → j < g + n → 0 ≤ tL sh j 0 ∧ tL sh j 0 ≤ 15) → (lgF sh lm n g).length ≤ 6 * n := by
  intro n
  induction n with
  | zero => intro g _; exact Nat.le_refl _
  | succ n ih =>
    intro g h
    have i := ih (g + 1) (fun j h1 h2 => h j (by omega) (by omega))
    have hg := h g (Nat.le_refl _) (by omega)
    have nb := nl_b (c := (tL sh g 0).toNat) (by omega)
    have fl := fig_l (lm g)
    rw [show lgF sh lm (n + 1) g = grF (tL sh g 0).toNat (nl (tL sh g 0).toNat) 0 ++ (fig (lm g) ++ ([59] ++ lgF sh lm n (g + 1))) from rfl, List.length_append, List.length_append, List.length_append, gr_l]
    show nl (tL sh g 0).toNat + ((fig (lm g)).length + (1 + (lgF sh lm n (g + 1)).length)) ≤ 6 * (n + 1)
    omega
theorem ca_hd (t dr : Int) (o : Nat → Bool) {e : Int} (he : e = 3 ∨ e = 4 ∨ e = 5 ∨ e = 9) (g : Nat) (s : VS) : 0 < (caL sh t dr o e g s).length ∧ (caL sh t dr o e g s).getD 0 (0, 0) = (1, (g : Int)) := by
  unfold caL
  rcases he with h | h | h | h <;> subst h
  · rw [if_pos rfl]; exact ⟨Nat.zero_lt_succ _, rfl⟩
  · rw [if_neg (by decide), if_pos rfl]; exact ⟨Nat.zero_lt_succ _, rfl⟩
  · rw [if_neg (by decide), if_neg (by decide), if_pos rfl]; exact ⟨Nat.zero_lt_succ _, rfl⟩
  · rw [if_neg (by decide), if_neg (by decide), if_neg (by decide), if_pos rfl]; exact ⟨Nat.zero_lt_succ _, rfl⟩
end SH2
