section NE
variable {σ τ : St} {sh : Nat → Int}
theorem OutB1 {k : Nat} (hk : k < 8) : OutB ((1 : Int32) <<< (iI k &&& 31)) (fun j => decide (j = k)) := by
  intro j hj
  have h1 : k = 0 ∨ k = 1 ∨ k = 2 ∨ k = 3 ∨ k = 4 ∨ k = 5 ∨ k = 6 ∨ k = 7 := by omega
  have h2 : j = 0 ∨ j = 1 ∨ j = 2 ∨ j = 3 ∨ j = 4 ∨ j = 5 ∨ j = 6 ∨ j = 7 := by omega
  rcases h1 with h | h | h | h | h | h | h | h <;> subst h <;> rcases h2 with h | h | h | h | h | h | h | h <;> subst h <;> decide
theorem vo_b (V : Val sh) {cf : Nat → Int} {t dr : Int} (ht : 0 ≤ t ∧ t ≤ 99) (hdr : 0 ≤ dr ∧ dr ≤ 20) {o : Nat → Bool} : (voy sh cf t dr o).1.1 ≤ 360 ∧ (voy sh cf t dr o).2.1 ≤ 6 := by
  have h6 := V.1
  have z := vs0_p V
  have vp := vlegs_p V (cf := cf) ht hdr (o := o) (sh 77).toNat 0 (vs0 sh) (fun _ => 0) (by omega) z.1 z.2.1 (by omega)
  unfold voy
  generalize vlegs sh cf t dr o (sh 77).toNat 0 (vs0 sh) (fun _ => 0) = q at *
  obtain ⟨v1, v2, v3, v4⟩ := vp
  rcases v4 with e | e
  · have := v3 e
    omega
  · omega
/-- the voyage with marks out -/
def vo (sh : Nat → Int) (t dr : Int) (o : Nat → Bool) : VQ := voy sh (fun g => tL sh g 0) t dr o
theorem c_makeo (V : Val sh) (R : RC (σ 14) sh) {t dr : Int} (ht : 0 ≤ t ∧ t ≤ 99) (hdr : 0 ≤ dr ∧ dr ≤ 20) {ob : Int32} {o : Nat → Bool} (hO : OutB ob o) : ∃ τ, f_X8_make σ (iI t) (iI dr) ob (iI (-1)) (iI 0) = some τ ∧ CF τ σ sh t dr ob (vo sh t dr o) := by
  have e := e_make R V hO ht hdr (og := -1) (oc := 0) (by omega) (by omega)
  rw [show (fun g : Nat => if (g : Int) = -1 then (0 : Int) else tL sh g 0) = fun g => tL sh g 0 from funext fun g => if_neg (by omega)] at e
  exact e
/-- two voyages end alike -/
def sameP (sh : Nat → Int) (p q : VQ) : Bool := decide (bI (decide (enZ sh q = 0)) = bI (decide (enZ sh p = 0)) ∧ iI q.1.1 = iI p.1.1 ∧ iI (q.1.2.1 q.1.1) = iI (p.1.2.1 p.1.1) ∧ iI (q.1.2.2.1 q.1.1) = iI (p.1.2.2.1 p.1.1))
theorem if4 {α : Type} {a b c d : Prop} [Decidable a] [Decidable b] [Decidable c] [Decidable d] (x y : α) : (if a then (if b then (if c then (if d then x else y) else y) else y) else y) = if (a ∧ b ∧ c ∧ d) then x else y := by
  by_cases ha : a <;> by_cases hb : b <;> by_cases hc : c <;> by_cases hd : d <;> simp [ha, hb, hc, hd]
def neF (sh : Nat → Int) (t : Int) : Nat → Int32
  | 0 => 0
  | n + 1 => if isMk sh n = true ∧ sameP sh (vq sh t (sh 0)) (vo sh t (sh 0) (fun j => decide (j = n))) = false then neF sh t n ||| (1 <<< (iI n &&& 31)) else neF sh t n
theorem c_needed (V : Val sh) {t : Int} (ht : 0 ≤ t ∧ t ≤ 99) {p : VQ} (hp : p = vq sh t (sh 0)) : ∀ (d k f : Nat) (τ : St), (k : Int) + d = sh 76 → d < f → Inv τ → RC (τ 14) sh → MR τ sh → ∃ τ', fx F_X3_marksThatMatter_h59 z_X3_marksThatMatter_h59 f τ (iI t) (bI (decide (enZ sh p = 0))) (iI p.1.1) (iI (p.1.2.1 p.1.1)) (iI (p.1.2.2.1 p.1.1)) (neF sh t k) (iI k) = some (neF sh t (sh 76).toNat, τ') ∧ Inv τ' ∧ MR τ' sh := by
  intro d
  have h8 := V.2.2.1
  induction d with
  | zero =>
    intro k f τ h1 h2 hI R M
    obtain ⟨f, rfl⟩ : ∃ j, f = j + 1 := ⟨f - 1, by omega⟩
    refine ⟨τ, ?_, hI, M⟩
    rw [fx_s]
    generalize fx F_X3_marksThatMatter_h59 z_X3_marksThatMatter_h59 f = K
    unfold F_X3_marksThatMatter_h59
    rw [e_thingCount R, obs]
    refine (if_pos ((iI_le (by omega) (by omega) (by omega) (by omega)).mpr (by omega))).trans ?_
    rw [show (sh 76).toNat = k by omega]
  | succ d ih =>
    intro k f τ h1 h2 hI R M
    obtain ⟨f, rfl⟩ : ∃ j, f = j + 1 := ⟨f - 1, by omega⟩
    have e : iI (k : Int) + 1 = iI ((k + 1 : Nat) : Int) := by rw [show (1 : Int32) = iI 1 by decide, iI_add]; rfl
    have nd : neF sh t (k + 1) = if isMk sh k = true ∧ sameP sh (vq sh t (sh 0)) (vo sh t (sh 0) (fun j => decide (j = k))) = false then neF sh t k ||| (1 <<< (iI k &&& 31)) else neF sh t k := rfl
    rw [fx_s]
    cases hm : isMk sh k
    · obtain ⟨τ2, i1, i2⟩ := ih (k + 1) f τ (by omega) (by omega) hI R M
      refine ⟨τ2, ?_, i2⟩
      generalize fx F_X3_marksThatMatter_h59 z_X3_marksThatMatter_h59 f = K at *
      unfold F_X3_marksThatMatter_h59
      rw [e_thingCount R, obs]
      refine (if_neg (fun h => absurd ((iI_le (by omega) (by omega) (by omega) (by omega)).mp h) (by omega))).trans ?_
      dsimp only
      rw [q_isMark R V rfl (by omega) (by omega), obs, hm]
      refine (if_pos (show bI false = 0 by decide)).trans ?_
      unfold f_X3_marksThatMatter_p176
      rw [obs, e, ← i1, nd, if_neg (by rw [hm]; simp)]
    · obtain ⟨τ1, c1, c2⟩ := c_makeo V R (t := t) (dr := sh 0) ht V.2.2.2.1 (OutB1 (k := k) (by omega))
      have eb := en_bo V (cf := fun j => tL sh j 0) (t := t) (dr := sh 0) ht V.2.2.2.1 (o := fun j => decide (j = k))
      have ar := c_arrives c2 eb
      obtain ⟨τ2, i1, i2⟩ := ih (k + 1) f τ1 (by omega) (by omega) (CF_inv c2 hI) (CF_rc c2 R) (CF_mr c2 M)
      refine ⟨τ2, ?_, i2⟩
      have G := c2.2.1
      generalize fx F_X3_marksThatMatter_h59 z_X3_marksThatMatter_h59 f = K at *
      unfold F_X3_marksThatMatter_h59
      rw [e_thingCount R, obs]
      refine (if_neg (fun h => absurd ((iI_le (by omega) (by omega) (by omega) (by omega)).mp h) (by omega))).trans ?_
      dsimp only
      rw [q_isMark R V rfl (by omega) (by omega), obs, hm]
      refine (if_neg (show ¬ bI true = 0 by decide)).trans ?_
      dsimp only
      rw [show (-1 : Int32) = iI (-1) by decide, show (0 : Int32) = iI 0 by decide, q_shipCell R rfl (by omega) (by omega), obs]
      dsimp only
      rw [Int.toNat_zero, c1, obs, ar, obs]
      dsimp only
      simp only [G.2.2.1, G.2.2.2.1, G.2.2.2.2.1]
      rw [if4, ← i1, nd, ← hp]
      unfold f_X3_marksThatMatter_p155 f_X3_marksThatMatter_p156 f_X3_marksThatMatter_p173 f_X3_marksThatMatter_p176
      cases s : sameP sh p (vo sh t (sh 0) (fun j => decide (j = k)))
      case true => rw [if_pos (of_decide_eq_true s), if_neg (show ¬ (1 : Int32) = 0 by decide), if_neg (show ¬ (isMk sh k = true ∧ true = false) from fun h => absurd h.2 (by decide)), obs, obs, e, or_z]
      case false => rw [if_neg (of_decide_eq_false s), if_pos (show (0 : Int32) = 0 from rfl), if_pos (show isMk sh k = true ∧ false = false from ⟨hm, rfl⟩), obs, obs, e]
theorem m_needed (V : Val sh) {t : Int} (ht : 0 ≤ t ∧ t ≤ 99) {p : VQ} (hp : p = vq sh t (sh 0)) : ∀ (d k f : Nat) (τ : St), (k : Int) + d = sh 76 → d < f → Inv (g_u2 τ 26 13 0) → MR τ sh → ∃ τ', fx F_X11_needed_h69 z_X11_needed_h69 f τ (iI t) (iI p.1.1) (iI (p.1.2.1 p.1.1)) (iI (p.1.2.2.1 p.1.1)) (bI (decide (enZ sh p = 0))) (neF sh t k) (iI k) = some (neF sh t (sh 76).toNat, τ') ∧ Inv τ' := by
  intro d
  have h8 := V.2.2.1
  induction d with
  | zero =>
    intro k f τ h1 h2 hI M
    obtain ⟨f, rfl⟩ : ∃ j, f = j + 1 := ⟨f - 1, by omega⟩
    refine ⟨g_u2 τ 26 13 0, ?_, hI⟩
    rw [fx_s]
    generalize fx F_X11_needed_h69 z_X11_needed_h69 f = K
    unfold F_X11_needed_h69
    rw [M.c76]
    refine (if_pos ((iI_le (by omega) (by omega) (by omega) (by omega)).mpr (by omega))).trans ?_
    rw [obs, show (sh 76).toNat = k by omega]
  | succ d ih =>
    intro k f τ h1 h2 hI M
    obtain ⟨f, rfl⟩ : ∃ j, f = j + 1 := ⟨f - 1, by omega⟩
    have e : iI (k : Int) + 1 = iI ((k + 1 : Nat) : Int) := by rw [show (1 : Int32) = iI 1 by decide, iI_add]; rfl
    have nd : neF sh t (k + 1) = if isMk sh k = true ∧ sameP sh (vq sh t (sh 0)) (vo sh t (sh 0) (fun j => decide (j = k))) = false then neF sh t k ||| (1 <<< (iI k &&& 31)) else neF sh t k := rfl
    obtain ⟨ob, o, hO, hob⟩ : ∃ (ob : Int32) (o : Nat → Bool), OutB ob o ∧ ((isMk sh k = true ∧ ob = 1 <<< (iI k &&& 31) ∧ o = fun j => decide (j = k)) ∨ (isMk sh k = false ∧ ob = 0 ∧ o = fun _ => false)) := by
      cases hm : isMk sh k
      · exact ⟨0, _, OutB0, Or.inr ⟨rfl, rfl, rfl⟩⟩
      · exact ⟨_, _, OutB1 (k := k) (by omega), Or.inl ⟨rfl, rfl, rfl⟩⟩
    obtain ⟨T, hT⟩ : ∃ T, T = g_u2 τ 26 13 ob := ⟨_, rfl⟩
    have M' : MR T sh := by
      unfold MR
      rw [hT, g_u2_n1 (by decide), g_u2_n1 (by decide), g_u2_n1 (by decide)]
      exact M
    obtain ⟨τ1, c1, c2⟩ := m_sails M' V (o := o) (by rw [hT, g_u2_e]; exact hO) ht V.2.2.2.1
    obtain ⟨F, J, G, -, kT, -⟩ := RF_get c2
    have bd := vo_b V (cf := fun j => tL sh j 0) (t := t) (dr := sh 0) ht V.2.2.2.1 (o := o)
    have I' : Inv (g_u2 τ1 26 13 0) := by
      refine Inv_same hI (fun j hj => ?_) ?_
      · rw [g_u2_n1 (kept_n 26 hj rfl), g_u2_n1 (kept_n 26 hj rfl), F j (kept_n 26 hj rfl) (kept_n 33 hj rfl) (kept_n 34 hj rfl) (kept_n 35 hj rfl) (kept_n 36 hj rfl) (kept_n 37 hj rfl) (kept_n 38 hj rfl), hT, g_u2_n1 (kept_n 26 hj rfl)]
      · rw [g_u2_e, g_u2_e]
        simp (disch := omega) only [g_u2_n2]
        rw [J 2 (by omega), J 4 (by omega), J 5 (by omega), hT]
        simp (disch := omega) only [g_u2_n2]
        exact ⟨trivial, trivial, trivial, trivial⟩
    have kT1 := kT _ (Nat.le_refl _)
    obtain ⟨τ2, i1, i2⟩ := ih (k + 1) f τ1 (by omega) (by omega) I' (RF_mr c2 M')
    refine ⟨τ2, ?_, i2⟩
    rw [fx_s]
    generalize fx F_X11_needed_h69 z_X11_needed_h69 f = K at *
    have first : F_X11_needed_h69 K τ (iI t) (iI p.1.1) (iI (p.1.2.1 p.1.1)) (iI (p.1.2.2.1 p.1.1)) (bI (decide (enZ sh p = 0))) (neF sh t k) (iI k) = f_X11_needed_p99 K τ (iI t) (iI p.1.1) (iI (p.1.2.1 p.1.1)) (iI (p.1.2.2.1 p.1.1)) (bI (decide (enZ sh p = 0))) (neF sh t k) (iI k) ob := by
      unfold F_X11_needed_h69
      rw [M.c76]
      refine (if_neg (fun h => absurd ((iI_le (by omega) (by omega) (by omega) (by omega)).mp h) (by omega))).trans ?_
      rw [m_isMark M V (by omega) (by omega), obs]
      rcases hob with ⟨hm, rfl, -⟩ | ⟨hm, rfl, -⟩
      · rw [hm]; exact if_neg (show ¬ bI true = 0 by decide)
      · rw [hm]; exact if_pos (show bI false = 0 by decide)
    rw [first, ← i1, nd, ← hp]
    have sm : isMk sh k = false → sameP sh p (voy sh (fun g => tL sh g 0) t (sh 0) o) = true := by
      intro hm
      rcases hob with ⟨hm', -, -⟩ | ⟨-, -, ho⟩
      · rw [hm] at hm'; exact absurd hm' (by decide)
      · rw [ho, hp]; exact decide_eq_true ⟨rfl, rfl, rfl, rfl⟩
    have sn : isMk sh k = true → o = fun j => decide (j = k) := by
      intro hm
      rcases hob with ⟨-, -, ho⟩ | ⟨hm', -, -⟩
      · exact ho
      · rw [hm] at hm'; exact absurd hm' (by decide)
    have gd : 0 ≤ (iI ((voy sh (fun g => tL sh g 0) t (sh 0) o).1.1 : Int)).toInt ∧ (iI ((voy sh (fun g => tL sh g 0) t (sh 0) o).1.1 : Int)).toInt < 361 := by rw [iI_toInt (by omega) (by omega)]; omega
    have cl : (iI ((voy sh (fun g => tL sh g 0) t (sh 0) o).1.1 : Int)).toNatClampNeg = (voy sh (fun g => tL sh g 0) t (sh 0) o).1.1 := by rw [iI_clamp (by omega) (by omega), Int.toNat_natCast]
    unfold f_X11_needed_p99
    rw [← hT, obs, ref_dr M', c1, obs]
    simp only [G.1, G.2.2.1, cl, kT1.1, kT1.2.1, if_pos gd]
    rw [if4]
    unfold f_X11_needed_p159 f_X11_needed_p167
    cases s : sameP sh p (voy sh (fun g => tL sh g 0) t (sh 0) o)
    case true =>
      rw [if_pos (of_decide_eq_true s), obs, obs, e, or_z, if_neg]
      rintro ⟨hm, h⟩
      rw [sn hm] at s
      exact absurd (h.symm.trans s) (by decide)
    case false =>
      have hm : isMk sh k = true := by
        cases hm : isMk sh k
        · exact absurd (s.symm.trans (sm hm)) (by decide)
        · rfl
      rw [if_neg (of_decide_eq_false s), if_pos ⟨hm, by rw [sn hm] at s; exact s⟩, obs, obs, e]
theorem p_needed : P_needed Inv := by
  intro σ a1 h
  obtain ⟨t, rfl, t1, t2⟩ := iI_ex a1
  rcases iv_sheet h with u | ⟨sh, V, R, M⟩
  · exact ⟨(-1000002, σ), (-1000002, σ), gd0 (told_u u), gd0 (sheet_u u), rfl, h⟩
  by_cases b : 0 ≤ t ∧ t ≤ 99
  case neg => exact ⟨(-1000001, σ), (-1000001, σ), (gd1 (told_t V R)).trans (gd0 (start0_f t1 t2 b)), (gd1 (sheet_t M)).trans (gd0 (start_f t1 t2 b)), rfl, h⟩
  have h8 := V.2.2.1
  obtain ⟨τ1, c1, c2⟩ := c_make V R (t := t) b V.2.2.2.1
  have eb := en_b V (t := t) b V.2.2.2.1
  have ar := c_arrives c2 eb
  have G := c2.2.1
  obtain ⟨τ2, d1, d2, d3⟩ := c_needed V b rfl (sh 76).toNat 0 FU τ1 (by omega) (by rw [FU_val]; omega) (CF_inv c2 h) (CF_rc c2 R) (CF_mr c2 M)
  obtain ⟨τ3, e1, e2⟩ := m_make V d3 d2 b V.2.2.2.1
  obtain ⟨F, J, G3, -, kT, -⟩ := RF_get e2
  have kT1 := kT _ (Nat.le_refl _)
  have i3 := RF_inv e2 d2
  have bd := vq_b V (t := t) b V.2.2.2.1
  obtain ⟨τ4, g1, g2⟩ := m_needed V b rfl (sh 76).toNat 0 FU τ3 (by omega) (by rw [FU_val]; omega) (Inv_same i3 (fun j hj => g_u2_n1 (kept_n 26 hj rfl)) ⟨by rw [g_u2_n2 (by decide)], by rw [g_u2_n2 (by decide)], by rw [g_u2_n2 (by decide)], by rw [g_u2_e, iv_out i3]; rfl⟩) (RF_mr e2 d3)
  refine ⟨(neF sh t (sh 76).toNat, τ2), (neF sh t (sh 76).toNat, τ4), (gd1 (told_t V R)).trans ((gd1 (start0_t b)).trans ?_), (gd1 (sheet_t d3)).trans ((gd1 (start_t b)).trans ?_), rfl, g2⟩
  · unfold f_X3_marksThatMatter
    dsimp only
    generalize fx F_X3_marksThatMatter_h59 z_X3_marksThatMatter_h59 FU = K at *
    rw [show (-1 : Int32) = iI (-1) by decide, show (0 : Int32) = iI 0 by decide, q_shipCell R rfl (by omega) (by omega), obs]
    dsimp only
    rw [Int.toNat_zero, c1, obs, ar, obs]
    dsimp only
    rw [G.2.2.1, G.2.2.2.1, G.2.2.2.2.1, obs, obs, obs, show K τ1 (iI t) (bI (decide (enZ sh (vq sh t (sh 0)) = 0))) (iI (vq sh t (sh 0)).1.1) (iI ((vq sh t (sh 0)).1.2.1 (vq sh t (sh 0)).1.1)) (iI ((vq sh t (sh 0)).1.2.2.1 (vq sh t (sh 0)).1.1)) (iI 0) (iI 0) = _ from d1, obs]
  · have gd : 0 ≤ (iI ((vq sh t (sh 0)).1.1 : Int)).toInt ∧ (iI ((vq sh t (sh 0)).1.1 : Int)).toInt < 361 := by rw [iI_toInt (by omega) (by omega)]; omega
    have cl : (iI ((vq sh t (sh 0)).1.1 : Int)).toNatClampNeg = (vq sh t (sh 0)).1.1 := by rw [iI_clamp (by omega) (by omega), Int.toNat_natCast]
    dsimp only
    rw [ref_dr d3, e1, obs, obs, G3.1, if_pos gd, cl, kT1.1, obs, if_pos gd, kT1.2.1, obs, obs, G3.2.2.1]
    exact g1
end NE
