section CO
variable {σ τ : St} {sh sk : Nat → Int}
/-- two sheets alike but for the courses -/
def Alk (sh sk : Nat → Int) : Prop := ∀ j, (j < 51 ∨ 75 ≤ j ∨ (j - 51) % 4 ≠ 0) → sk j = sh j
theorem al_tT (A : Alk sh sk) {k w : Nat} (hk : k < 8) (hw : w < 5) : tT sk k w = tT sh k w := A _ (by omega)
theorem al_tL (A : Alk sh sk) {g w : Nat} (hw : 1 ≤ w ∧ w < 4) : tL sk g w = tL sh g w := A _ (by omega)
theorem al_tide (A : Alk sh sk) (V : Val sh) : tideZ sk = tideZ sh := by
  funext m
  have h5 := V.2.1
  have e := Int.emod_lt_of_pos (m / 10) (b := sh 75) (by omega)
  have e' := Int.emod_nonneg (m / 10) (b := sh 75) (by omega)
  unfold tideZ
  rw [A 75 (by omega)]
  generalize m / 10 % sh 75 = k at *
  simp only
  have e2 : (if k + 1 < sh 75 then k + 1 else 0) < 6 := by omega
  rw [A (5 + k.toNat) (by omega), A (5 + (if k + 1 < sh 75 then k + 1 else 0).toNat) (by omega)]
theorem al_lies (A : Alk sh sk) {n : Nat} (hn : n < 8) (x y : Int) : lies sk n x y = lies sh n x y := by
  unfold lies
  rw [al_tT A hn (by decide), al_tT A hn (by decide), al_tT A hn (by decide), al_tT A hn (by decide)]
theorem al_dF (A : Alk sh sk) (x y : Int) : ∀ n, n ≤ 8 → depF sk x y n = depF sh x y n := by
  intro n
  induction n with
  | zero => intro _; rfl
  | succ n ih =>
    intro h
    unfold depF
    rw [ih (by omega), al_lies A (by omega)]
    unfold dOf
    rw [al_tT A (by omega) (by decide), al_tT A (by omega) (by decide)]
theorem al_dep (A : Alk sh sk) (V : Val sh) : depZ sk = depZ sh := by
  have h8 := V.2.2.1
  funext x y
  unfold depZ
  rw [A 76 (by omega), al_dF A x y _ (by omega)]
theorem al_mX (A : Alk sh sk) {k : Nat} (hk : k < 8) (h : Int) : mX sk k h = mX sh k h := by
  unfold mX
  rw [al_tT A hk (by decide), al_tT A hk (by decide)]
theorem al_seen (A : Alk sh sk) (o : Nat → Bool) {k : Nat} (hk : k < 8) (x y h : Int) : seenZ sk o k x y h = seenZ sh o k x y h := by
  unfold seenZ
  rw [al_mX A hk, al_tT A hk (by decide), al_tT A hk (by decide), al_tT A hk (by decide), al_tT A hk (by decide), al_tT A hk (by decide)]
theorem al_line (A : Alk sh sk) {a b : Nat} (ha : a < 8) (hb : b < 8) (x y h : Int) : lineZ sk a b x y h = lineZ sh a b x y h := by
  unfold lineZ
  rw [al_mX A ha, al_mX A hb, al_tT A ha (by decide), al_tT A hb (by decide)]
theorem al_ab (A : Alk sh sk) (c : Int) {a : Nat} (ha : a < 8) (x y h : Int) : abZ sk c a x y h = abZ sh c a x y h := by
  unfold abZ
  rw [al_mX A ha, al_tT A ha (by decide)]
theorem al_isMk (A : Alk sh sk) (V : Val sh) (a : Int) : isMk sk a = isMk sh a := by
  have h8 := V.2.2.1
  unfold isMk
  rw [A 76 (by omega)]
  by_cases p : a < sh 76
  · rw [al_tT A (by omega) (by decide)]
  · rw [decide_eq_false p, Bool.and_false, Bool.false_and, Bool.false_and]
theorem al_mist (A : Alk sh sk) (V : Val sh) {g : Nat} (hg : (g : Int) < sh 77) : mistZ sk g = mistZ sh g := by
  obtain ⟨-, ⟨u1, u2⟩, u3, u4, u5, u6, u7⟩ := V.2.2.2.2.2.2.2 g hg
  unfold mistZ
  rw [al_tL A (by decide), al_tL A (by decide), al_tL A (by decide), al_isMk A V, al_isMk A V]
  by_cases p : tL sh g 1 = 0 ∨ tL sh g 1 = 4
  · rw [if_pos p, if_pos p]
  · have := u5 (by omega) (by omega)
    rw [al_tT A (by omega) (by decide)]
theorem al_come (A : Alk sh sk) (V : Val sh) (o : Nat → Bool) {g : Nat} (hg : (g : Int) < sh 77) : comesZ sk o g = comesZ sh o g := by
  obtain ⟨-, ⟨u1, u2⟩, u3, u4, u5, u6, u7⟩ := V.2.2.2.2.2.2.2 g hg
  funext c i x y h w was l0
  unfold comesZ
  rw [al_tL A (by decide), al_tL A (by decide), al_tL A (by decide)]
  by_cases p0 : tL sh g 1 = 0
  · rw [if_pos p0, if_pos p0]
  rw [if_neg p0, if_neg p0]
  by_cases p1 : tL sh g 1 = 1
  · have := u5 (by omega) (by omega)
    rw [if_pos p1, if_pos p1, al_seen A o (by omega), al_ab A _ (by omega)]
  rw [if_neg p1, if_neg p1]
  by_cases p2 : tL sh g 1 = 2
  · have := u5 (by omega) (by omega)
    have := u6 p2
    rw [if_pos p2, if_pos p2, al_seen A o (by omega), al_seen A o (by omega), al_line A (by omega) (by omega)]
  rw [if_neg p2, if_neg p2]
  by_cases p3 : tL sh g 1 = 3
  · have := u5 (by omega) (by omega)
    rw [if_pos p3, if_pos p3, al_seen A o (by omega)]
  rw [if_neg p3, if_neg p3]
theorem al_was (A : Alk sh sk) (V : Val sh) (o : Nat → Bool) {g : Nat} (hg : (g : Int) < sh 77) : wasZ sk o g = wasZ sh o g := by
  obtain ⟨-, ⟨u1, u2⟩, u3, u4, u5, u6, u7⟩ := V.2.2.2.2.2.2.2 g hg
  funext x y h
  unfold wasZ
  rw [al_tL A (by decide), al_tL A (by decide)]
  by_cases p3 : tL sh g 1 = 3
  · have := u5 (by omega) (by omega)
    rw [if_pos p3, if_pos p3, al_seen A o (by omega)]
  rw [if_neg p3, if_neg p3]
theorem al_lw (A : Alk sh sk) (V : Val sh) {g : Nat} (hg : (g : Int) < sh 77) : lwZ sk g = lwZ sh g := by
  obtain ⟨-, ⟨u1, u2⟩, u3, u4, u5, u6, u7⟩ := V.2.2.2.2.2.2.2 g hg
  funext x y h
  unfold lwZ
  rw [al_tL A (by decide), al_tL A (by decide), al_tL A (by decide)]
  by_cases p2 : tL sh g 1 = 2
  · have := u5 (by omega) (by omega)
    have := u6 p2
    rw [if_pos p2, if_pos p2, al_line A (by omega) (by omega)]
  rw [if_neg p2, if_neg p2]
theorem al_step (A : Alk sh sk) (V : Val sh) (t dr : Int) (o : Nat → Bool) {g : Nat} (hg : (g : Int) < sh 77) : vstep sk t dr o g = vstep sh t dr o g := by
  funext c f was l0 s
  unfold vstep wtZ
  rw [al_tide A V, al_dep A V, al_come A V o hg]
theorem al_leg (A : Alk sh sk) (V : Val sh) (t dr : Int) (o : Nat → Bool) {g : Nat} (hg : (g : Int) < sh 77) (c : Int) (f : Nat) (was : Bool) (l0 : Int) : ∀ (n : Nat) (s : VS), vleg sk t dr o g c f was l0 n s = vleg sh t dr o g c f was l0 n s := by
  intro n
  induction n with
  | zero => intro s; rfl
  | succ n ih =>
    intro s
    unfold vleg
    rw [al_step A V t dr o hg, ih]
theorem al_legs (A : Alk sh sk) (V : Val sh) (cf : Nat → Int) (t dr : Int) (o : Nat → Bool) : ∀ (n g : Nat) (s : VS) (lm : Nat → Int), (g : Int) + n ≤ sh 77 → vlegs sk cf t dr o n g s lm = vlegs sh cf t dr o n g s lm := by
  intro n
  induction n with
  | zero => intro g s lm _; rfl
  | succ n ih =>
    intro g s lm h
    have hg : (g : Int) < sh 77 := by omega
    unfold vlegs
    rw [al_mist A V hg, al_was A V o hg, al_lw A V hg, al_tide A V, al_leg A V t dr o hg]
    simp only [ih (g + 1) _ _ (show ((g + 1 : Nat) : Int) + n ≤ sh 77 by omega)]
theorem al_voy (A : Alk sh sk) (V : Val sh) (cf : Nat → Int) (t dr : Int) (o : Nat → Bool) : voy sk cf t dr o = voy sh cf t dr o := by
  have h6 := V.1
  unfold voy
  rw [A 77 (by omega), show vs0 sk = vs0 sh by unfold vs0; rw [A 1 (by omega), A 2 (by omega)], al_legs A V cf t dr o _ _ _ _ (by omega)]
theorem al_en (A : Alk sh sk) (q : VQ) : enZ sk q = enZ sh q := by
  unfold enZ hbZ
  rw [A 3 (by omega), A 4 (by omega)]
theorem en_bo (V : Val sh) {cf : Nat → Int} {t dr : Int} (ht : 0 ≤ t ∧ t ≤ 99) (hdr : 0 ≤ dr ∧ dr ≤ 20) {o : Nat → Bool} : 0 ≤ enZ sh (voy sh cf t dr o) ∧ enZ sh (voy sh cf t dr o) ≤ 10 := by
  have h6 := V.1
  have z := vs0_p V
  have vp := vlegs_p V (cf := cf) ht hdr (o := o) (sh 77).toNat 0 (vs0 sh) (fun _ => 0) (by omega) z.1 z.2.1 (by omega)
  unfold voy enZ
  generalize vlegs sh cf t dr o (sh 77).toNat 0 (vs0 sh) (fun _ => 0) = q at *
  obtain ⟨v1, v2, v3, v4⟩ := vp
  split
  · split <;> omega
  · omega
/-- the voyage, the course of one leg another -/
def vc (sh : Nat → Int) (g : Nat) (c : Int) (t : Int) : VQ := voy sh (fun k => if (k : Int) = (g : Int) then c else tL sh k 0) t (sh 0) (fun _ => false)
theorem alk_fu {g : Nat} (hg : g < 6) (c : Int) : Alk sh (fu sh (51 + 4 * g) c) := fun j hj => by
  by_cases e : j = 51 + 4 * g
  · omega
  · exact fu_n e
def coF (sh : Nat → Int) (g : Nat) (t : Int) : Nat → Int32
  | 0 => 0
  | n + 1 => if enZ sh (vc sh g n t) = 0 then coF sh g t n ||| (1 <<< (iI n &&& 31)) else coF sh g t n
theorem c_courses (V : Val sh) {g : Nat} (hg : (g : Int) < sh 77) {t : Int} (ht : 0 ≤ t ∧ t ≤ 99) : ∀ (d k f : Nat) (τ : St), k + d = 16 → d < f → Inv τ → RC (τ 14) sh → MR τ sh → ∃ τ', fx F_X3_coursesThatArrive_h5 z_X3_coursesThatArrive_h5 f τ (iI g) (iI t) (coF sh g t k) (iI k) = some (coF sh g t 16, τ') ∧ Inv τ' ∧ MR τ' sh := by
  intro d
  have h6 := V.1
  induction d with
  | zero =>
    intro k f τ h1 h2 hI R M
    obtain ⟨f, rfl⟩ : ∃ j, f = j + 1 := ⟨f - 1, by omega⟩
    obtain rfl : k = 16 := by omega
    exact ⟨τ, by rw [fx_s]; rfl, hI, M⟩
  | succ d ih =>
    intro k f τ h1 h2 hI R M
    obtain ⟨f, rfl⟩ : ∃ j, f = j + 1 := ⟨f - 1, by omega⟩
    obtain ⟨τ1, c1, c2⟩ := e_make R V OutB0 (t := t) (dr := sh 0) ht V.2.2.2.1 (og := (g : Int)) (oc := (k : Int)) (by omega) (by omega)
    have eb := en_bo V (cf := fun j => if (j : Int) = (g : Int) then (k : Int) else tL sh j 0) (t := t) (dr := sh 0) ht V.2.2.2.1 (o := fun _ => false)
    have ar := c_arrives c2 eb
    obtain ⟨τ2, i1, i2⟩ := ih (k + 1) f τ1 (by omega) (by omega) (CF_inv c2 hI) (CF_rc c2 R) (CF_mr c2 M)
    refine ⟨τ2, ?_, i2⟩
    rw [fx_s]
    generalize fx F_X3_coursesThatArrive_h5 z_X3_coursesThatArrive_h5 f = K at *
    unfold F_X3_coursesThatArrive_h5 f_X3_coursesThatArrive_p49
    rw [if_neg (show ¬ (16 : Int32) ≤ iI k by rw [show (16 : Int32) = iI 16 by decide, iI_le (by omega) (by omega) (by omega) (by omega)]; omega)]
    rw [show (0 : Int32) = iI 0 by decide, q_shipCell R rfl (by omega) (by omega), obs]
    dsimp only
    rw [Int.toNat_zero, c1, obs, ar, obs, ← i1]
    have e : iI (k : Int) + 1 = iI ((k + 1 : Nat) : Int) := by rw [show (1 : Int32) = iI 1 by decide, iI_add]; rfl
    simp only [obs, e, bI_0]
    rw [show coF sh g t (k + 1) = if enZ sh (vc sh g k t) = 0 then coF sh g t k ||| (1 <<< (iI k &&& 31)) else coF sh g t k from rfl]
    unfold vc
    by_cases p : enZ sh (voy sh (fun j => if (j : Int) = (g : Int) then (k : Int) else tL sh j 0) t (sh 0) (fun _ => false)) = 0
    · rw [if_pos p, decide_eq_true p, if_neg (by decide)]
    · rw [if_neg p, decide_eq_false p, if_pos rfl]
/-- the state as it was, but for one cell of the reference -/
def Cq (τ σ : St) (A : Nat) : Prop := (∀ k, kept k = true → k ≠ 27 → τ k = σ k) ∧ (∀ i, i ≠ A → τ 27 i = σ 27 i) ∧ (τ 26 2 = σ 26 2 ∧ τ 26 4 = σ 26 4 ∧ τ 26 5 = σ 26 5 ∧ τ 26 13 = σ 26 13)
theorem m_courses (V : Val sh) (hI : Inv σ) (M : MR σ sh) {g : Nat} (hg : (g : Int) < sh 77) {t : Int} (ht : 0 ≤ t ∧ t ≤ 99) : ∀ (d k f : Nat) (τ : St), k + d = 16 → d < f → Cq τ σ (55 + 4 * g) → ∃ τ', fx F_X11_courses_h36 z_X11_courses_h36 f τ (iI g) (iI t) (σ 27 (55 + 4 * g)) (coF sh g t k) (iI k) = some (coF sh g t 16, τ') ∧ Inv τ' := by
  intro d
  have h6 := V.1
  have ad : (55 : Int32) + 4 * iI g = iI ((55 + 4 * g : Nat) : Int) := by rw [show (55 : Int32) = iI 55 by decide, show (4 : Int32) = iI 4 by decide, iI_mul, iI_add]; congr 1
  have gd : 0 ≤ (iI ((55 + 4 * g : Nat) : Int)).toInt ∧ (iI ((55 + 4 * g : Nat) : Int)).toInt < 1817 := by rw [iI_toInt (by omega) (by omega)]; omega
  have cl : (iI ((55 + 4 * g : Nat) : Int)).toNatClampNeg = 55 + 4 * g := by rw [iI_clamp (by omega) (by omega), Int.toNat_natCast]
  induction d with
  | zero =>
    intro k f τ h1 h2 C
    obtain ⟨f, rfl⟩ : ∃ j, f = j + 1 := ⟨f - 1, by omega⟩
    obtain rfl : k = 16 := by omega
    refine ⟨g_u2 τ 27 (55 + 4 * g) (σ 27 (55 + 4 * g)), ?_, Inv_same hI (fun j hj => ?_) ?_⟩
    · rw [fx_s]
      generalize fx F_X11_courses_h36 z_X11_courses_h36 f = K
      unfold F_X11_courses_h36
      rw [if_pos (by decide), ad, if_pos gd, cl, obs]
    · by_cases e : j = 27
      · subst e
        funext i
        by_cases e2 : i = 55 + 4 * g
        · subst e2; rw [g_u2_e]
        · rw [g_u2_n2 e2]; exact C.2.1 i e2
      · rw [g_u2_n1 e]; exact C.1 j hj e
    · rw [g_u2_n1 (by decide)]; exact C.2.2
  | succ d ih =>
    intro k f τ h1 h2 C
    obtain ⟨f, rfl⟩ : ∃ j, f = j + 1 := ⟨f - 1, by omega⟩
    obtain ⟨T, hT⟩ : ∃ T, T = g_u2 τ 27 (55 + 4 * g) (iI k) := ⟨_, rfl⟩
    have A := alk_fu (sh := sh) (g := g) (by omega) (k : Int)
    have V' : Val (fu sh (51 + 4 * g) (k : Int)) := Val_edit V (by unfold okv; omega)
    have k26 : T 26 = τ 26 := by rw [hT, g_u2_n1 (by decide)]
    have M' : MR T (fu sh (51 + 4 * g) (k : Int)) := by
      refine ⟨RM_edit V M.1 (A := 55 + 4 * g) (by unfold rel; omega) (fun i _ hi => ?_) ?_, ?_⟩
      · rw [hT, g_u2_n2 hi]; exact C.2.1 i hi
      · rw [hT, g_u2_e]
      · rw [hT, g_u2_n1 (by decide), g_u2_n1 (by decide), C.1 30 rfl (by decide), C.1 31 rfl (by decide)]; exact M.2
    obtain ⟨τ1, c1, c2⟩ := m_sails M' V' (o := fun _ => false) (by rw [k26, C.2.2.2.2.2, iv_out hI]; exact OutB0) ht (dr := fu sh (51 + 4 * g) (k : Int) 0) V'.2.2.2.1
    obtain ⟨F, J, G, -⟩ := RF_get c2
    have c20 := G.2.2.1
    rw [al_voy A V, al_en A] at c20
    have ve : voy sh (fun j => tL (fu sh (51 + 4 * g) (k : Int)) j 0) t (fu sh (51 + 4 * g) (k : Int) 0) (fun _ => false) = vc sh g k t := by
      unfold vc
      rw [A 0 (by omega)]
      congr 1
      funext j
      unfold tL
      by_cases e : (j : Int) = (g : Int)
      · rw [if_pos e, show 51 + 4 * j + 0 = 51 + 4 * g by omega, fu_e]
      · rw [if_neg e, fu_n (by omega)]
    rw [ve] at c20
    have C' : Cq τ1 σ (55 + 4 * g) := by
      refine ⟨fun j hj h27 => ?_, fun i hi => ?_, ?_⟩
      · rw [F j (kept_n 26 hj rfl) (kept_n 33 hj rfl) (kept_n 34 hj rfl) (kept_n 35 hj rfl) (kept_n 36 hj rfl) (kept_n 37 hj rfl) (kept_n 38 hj rfl), hT, g_u2_n1 h27]
        exact C.1 j hj h27
      · rw [F 27 (by decide) (by decide) (by decide) (by decide) (by decide) (by decide) (by decide), hT, g_u2_n2 hi]
        exact C.2.1 i hi
      · rw [J 2 (by omega), J 4 (by omega), J 5 (by omega), J 13 (by omega), k26]
        exact C.2.2
    obtain ⟨τ2, i1, i2⟩ := ih (k + 1) f τ1 (by omega) (by omega) C'
    refine ⟨τ2, ?_, i2⟩
    rw [fx_s]
    generalize fx F_X11_courses_h36 z_X11_courses_h36 f = K at *
    unfold F_X11_courses_h36 f_X11_courses_p80 f_X11_arrivesFrom
    rw [if_neg (show ¬ (16 : Int32) ≤ iI k by rw [show (16 : Int32) = iI 16 by decide, iI_le (by omega) (by omega) (by omega) (by omega)]; omega)]
    rw [ad, if_pos gd, cl, ← hT, obs, ref_dr M', c1, obs, c20, if_pos (show bI (decide (enZ sh (vc sh g k t) = 0)) = 0 ∨ bI (decide (enZ sh (vc sh g k t) = 0)) = 1 from bI_01 _), ← i1]
    have e : iI (k : Int) + 1 = iI ((k + 1 : Nat) : Int) := by rw [show (1 : Int32) = iI 1 by decide, iI_add]; rfl
    simp only [obs, e]
    rw [show coF sh g t (k + 1) = if enZ sh (vc sh g k t) = 0 then coF sh g t k ||| (1 <<< (iI k &&& 31)) else coF sh g t k from rfl]
    by_cases p : enZ sh (vc sh g k t) = 0
    · rw [if_pos p, decide_eq_true p, if_neg (show ¬ bI true = 0 by decide)]
    · rw [if_neg p, decide_eq_false p, if_pos (show bI false = 0 by decide), or_z]
theorem p_courses : P_courses Inv := by
  intro σ a1 a2 h
  obtain ⟨x, rfl, x1, x2⟩ := iI_ex a1
  obtain ⟨t, rfl, t1, t2⟩ := iI_ex a2
  rcases iv_sheet h with u | ⟨sh, V, R, M⟩
  · exact ⟨(-1000001, σ), (-1000001, σ), gd0 (hasLeg_u u _), gd0 (isLeg_u u _), rfl, h⟩
  by_cases a : 0 ≤ x ∧ x < sh 77
  case neg => exact ⟨(-1000001, σ), (-1000001, σ), gd0 (hasLeg_f R V x1 x2 a), gd0 (isLeg_f M V x1 x2 a), rfl, h⟩
  by_cases b : 0 ≤ t ∧ t ≤ 99
  case neg => exact ⟨(-1000001, σ), (-1000001, σ), (gd1 (hasLeg_t R V a)).trans (gd0 (start0_f t1 t2 b)), (gd1 (isLeg_t M V a)).trans (gd0 (start_f t1 t2 b)), rfl, h⟩
  have h6 := V.1
  obtain ⟨g, rfl⟩ : ∃ g : Nat, x = g := ⟨x.toNat, by omega⟩
  obtain ⟨τ, c1, c2, c3⟩ := c_courses V a.2 b 16 0 FU σ (by omega) (by rw [FU_val]; omega) h R M
  obtain ⟨τ2, d1, d2⟩ := m_courses V c2 c3 a.2 b 16 0 FU τ (by omega) (by rw [FU_val]; omega) ⟨fun _ _ _ => rfl, fun _ _ => rfl, rfl, rfl, rfl, rfl⟩
  refine ⟨(coF sh g t 16, τ), (coF sh g t 16, τ2), (gd1 (hasLeg_t R V a)).trans ((gd1 (start0_t b)).trans ?_), (gd1 (isLeg_t c3 V a)).trans ((gd1 (start_t b)).trans ?_), rfl, d2⟩
  · unfold f_X3_coursesThatArrive
    dsimp only
    rw [show fx F_X3_coursesThatArrive_h5 z_X3_coursesThatArrive_h5 FU σ (iI g) (iI t) 0 0 = some (coF sh g t 16, τ) from c1, obs]
  · dsimp only
    have ad : (55 : Int32) + 4 * iI g = iI ((55 + 4 * g : Nat) : Int) := by rw [show (55 : Int32) = iI 55 by decide, show (4 : Int32) = iI 4 by decide, iI_mul, iI_add]; congr 1
    rw [ad, if_pos (show 0 ≤ (iI ((55 + 4 * g : Nat) : Int)).toInt ∧ (iI ((55 + 4 * g : Nat) : Int)).toInt < 1817 by rw [iI_toInt (by omega) (by omega)]; omega), iI_clamp (by omega) (by omega), Int.toNat_natCast, obs]
    exact d1
end CO
