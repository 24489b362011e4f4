section SI
variable {σ τ : St} {sh : Nat → Int}
def mkZ (sh : Nat → Int) (q : VQ) : Int := if enZ sh q = 0 then 46 else 33
def logL (sh : Nat → Int) (q : VQ) (ca : List (Int × Int)) : List Int := lgF sh q.2.2.2 (bgN q) 0 ++ [mkZ sh q] ++ cuF ca ca.length 0
theorem c_log (V : Val sh) (R : RC (σ 14) sh) {q : VQ} {ca : List (Int × Int)} (hB : (bgN q : Int) ≤ sh 77) (hE : 0 ≤ enZ sh q ∧ enZ sh q ≤ 10) (h86 : σ 8 6 = iI (bgN q)) (h88 : σ 8 8 = iI (enZ sh q)) (h22 : ∀ j, j < bgN q → σ 22 j = iI (q.2.2.2 j) ∧ (0 ≤ q.2.2.2 j ∧ q.2.2.2 j ≤ 60)) (hca : ca.length ≤ 4) (hk : ∀ p ∈ ca, 1 ≤ p.1 ∧ p.1 ≤ 10) (h96 : σ 9 6 = iI ca.length) (h23 : ∀ j, j < ca.length → σ 23 j = iI (ca.getD j (0, 0)).1) : ∃ τ', f_X0_writeLog σ = some τ' ∧ LG 9 7 25 τ' (g_u2 σ 9 7 0) (logL sh q ca) := by
  have h6 := V.1
  obtain ⟨T, hT⟩ : ∃ T, T = g_u2 σ 9 7 0 := ⟨_, rfl⟩
  have kT : ∀ k, k ≠ 9 → T k = σ k := fun k hk => by rw [hT, g_u2_n1 hk]
  have L0' : LG 9 7 25 T T [] := ⟨fun _ _ _ => rfl, fun _ _ => rfl, by rw [hT, g_u2_e]; rfl, fun j hj => absurd hj (by show ¬ j < 0; omega)⟩
  obtain ⟨τ1, a1, a2⟩ := l_c V (σ := T) (by rw [kT 14 (by decide)]; exact R) hB (by rw [kT 8 (by decide)]; exact h86) (by rw [kT 22 (by decide)]; exact h22) (bgN q) 0 FU T [] (by omega) (by rw [FU_val]; omega) L0' (by show 0 + 6 * bgN q ≤ 60; omega)
  rw [List.nil_append] at a2
  have ll := lg_l (sh := sh) q.2.2.2 (bgN q) 0 (fun j _ h2 => (V.2.2.2.2.2.2.2 j (by omega)).1)
  obtain ⟨τ2, b1, b2⟩ := w_c a2 (by omega) (mkZ sh q)
  obtain ⟨τ3, c1, c2⟩ := k_c (σ := T) hca hk (by rw [hT, g_u2_n2 (by decide)]; exact h96) (by rw [kT 23 (by decide)]; exact h23) ca.length 0 FU τ2 _ (by omega) (by rw [FU_val]; omega) b2 (by rw [len1]; omega)
  refine ⟨τ3, ?_, by rw [← hT]; exact c2⟩
  unfold f_X0_writeLog
  rw [obs, ← hT]
  refine Eq.trans a1 ?_
  have ar : f_X8_arrives τ1 = some (bI (decide (enZ sh q = 0)), τ1) := by
    unfold f_X8_arrives
    rw [a2.1 8 (by decide) (by decide), kT 8 (by decide), h88]
    by_cases e : enZ sh q = 0
    · rw [e, if_pos (by decide)]; rfl
    · rw [if_neg (by rw [J0, iI_eq (by omega) (by omega) (by omega) (by omega)]; exact e), decide_eq_false e]; rfl
  rw [ar, obs]
  have p76 : f_X0_writeLog_p76 τ1 (iI (mkZ sh q)) = some τ3 := by
    unfold f_X0_writeLog_p76
    rw [b1, obs]
    exact c1
  unfold mkZ at p76
  by_cases e : enZ sh q = 0
  · rw [if_pos e] at p76
    rw [decide_eq_true e]
    exact (if_neg (show ¬ bI true = 0 by decide)).trans p76
  · rw [if_neg e] at p76
    rw [decide_eq_false e]
    exact (if_pos (show bI false = 0 by decide)).trans p76
theorem m_log (V : Val sh) (M : MR σ sh) {q : VQ} {ca : List (Int × Int)} (hB : (bgN q : Int) ≤ sh 77) (h20 : σ 26 20 = bI (decide (enZ sh q = 0))) (h36 : ∀ j, j < bgN q → σ 36 j = iI (q.2.2.2 j) ∧ (0 ≤ q.2.2.2 j ∧ q.2.2.2 j ≤ 60)) (hca : ca.length ≤ 4) (hk : ∀ p ∈ ca, 1 ≤ p.1 ∧ p.1 ≤ 10) (h23 : σ 26 23 = iI ca.length) (h37 : ∀ j, j < ca.length → σ 37 j = iI (ca.getD j (0, 0)).1 ∧ σ 38 j = iI (ca.getD j (0, 0)).2)
    (hh : (ca = [] ∧ (bgN q : Int) = sh 77) ∨ (0 < ca.length ∧ (((ca.getD 0 (0, 0)).2 = sh 77 ∧ (bgN q : Int) = sh 77) ∨ (0 ≤ (ca.getD 0 (0, 0)).2 ∧ (ca.getD 0 (0, 0)).2 < sh 77 ∧ (ca.getD 0 (0, 0)).2 + 1 = bgN q)))) : ∃ τ', f_X11_writesLog σ = some τ' ∧ LG 26 27 39 τ' (g_u2 σ 26 27 0) (logL sh q ca) := by
  have h6 := V.1
  obtain ⟨T, hT⟩ : ∃ T, T = g_u2 σ 26 27 0 := ⟨_, rfl⟩
  have kT : ∀ k, k ≠ 26 → T k = σ k := fun k hk => by rw [hT, g_u2_n1 hk]
  have jT : ∀ j, j ≠ 27 → T 26 j = σ 26 j := fun j hj => by rw [hT, g_u2_n2 hj]
  have L0' : LG 26 27 39 T T [] := ⟨fun _ _ _ => rfl, fun _ _ => rfl, by rw [hT, g_u2_e]; rfl, fun j hj => absurd hj (by show ¬ j < 0; omega)⟩
  have MT : MR T sh := by
    unfold MR
    rw [kT 27 (by decide), kT 30 (by decide), kT 31 (by decide)]
    exact M
  obtain ⟨τ1, a1, a2⟩ := l_m V MT hB (by rw [kT 36 (by decide)]; exact h36) (bgN q) 0 FU T [] (by omega) (by rw [FU_val]; omega) L0' (by show 0 + 6 * bgN q ≤ 60; omega)
  rw [List.nil_append] at a2
  have ll := lg_l (sh := sh) q.2.2.2 (bgN q) 0 (fun j _ h2 => (V.2.2.2.2.2.2.2 j (by omega)).1)
  obtain ⟨τ2, b1, b2⟩ := w_m a2 (by omega) (mkZ sh q)
  obtain ⟨τ3, c1, c2⟩ := k_m (σ := T) hca hk (by rw [jT 23 (by decide)]; exact h23) (fun j hj => by rw [kT 37 (by decide)]; exact (h37 j hj).1) ca.length 0 FU τ2 _ (by omega) (by rw [FU_val]; omega) b2 (by rw [len1]; omega)
  refine ⟨τ3, ?_, by rw [← hT]; exact c2⟩
  have p131 : f_X11_writesLog_p131 τ1 (iI (mkZ sh q)) = some τ3 := by
    unfold f_X11_writesLog_p131
    rw [b1, obs]
    exact c1
  have p46 : f_X11_writesLog_p46 T (iI (bgN q)) = some τ3 := by
    unfold f_X11_writesLog_p46
    refine Eq.trans a1 ?_
    rw [a2.2.1 20 (by decide), jT 20 (by decide), h20]
    unfold mkZ at p131
    by_cases e : enZ sh q = 0
    · rw [if_pos e] at p131
      rw [decide_eq_true e]
      exact (if_neg (show ¬ bI true = 0 by decide)).trans p131
    · rw [if_neg e] at p131
      rw [decide_eq_false e]
      exact (if_pos (show bI false = 0 by decide)).trans p131
  unfold f_X11_writesLog f_X11_writesLog_p39
  rw [obs, ← hT, jT 23 (by decide), h23, MT.c77, J0]
  rcases hh with ⟨h1, h2⟩ | ⟨h0, h⟩
  · rw [h1, if_pos (show iI (([] : List (Int × Int)).length : Int) ≤ iI 0 by decide), ← h2]; exact p46
  · rw [if_neg (fun h => absurd ((iI_le (by omega) (by omega) (by omega) (by omega)).mp h) (by omega)), kT 38 (by decide), (h37 0 h0).2]
    rcases h with ⟨h1, h2⟩ | ⟨h1, h2, h3⟩
    · rw [h1, if_pos ((iI_le (by omega) (by omega) (by omega) (by omega)).mpr (by omega)), ← h2]; exact p46
    · rw [if_neg (fun h => absurd ((iI_le (by omega) (by omega) (by omega) (by omega)).mp h) (by omega)), show (1 : Int32) = iI 1 by decide, iI_add, h3]; exact p46
theorem p_sign : P_sign Inv := by
  intro σ a1 a2 h
  obtain ⟨t, rfl, x1, x2⟩ := iI_ex a1
  obtain ⟨m, rfl, m1, m2⟩ := iI_ex a2
  rcases iv_sheet h with u | ⟨sh, V, R, M⟩
  · exact ⟨(-1000002, σ), (-1000002, σ), gd0 (told_u u), gd0 (sheet_u u), rfl, h⟩
  by_cases a : 0 ≤ t ∧ t ≤ 99
  case neg => exact ⟨(-1000001, σ), (-1000001, σ), (gd1 (told_t V R)).trans (gd0 (start0_f x1 x2 a)), (gd1 (sheet_t M)).trans (gd0 (start_f x1 x2 a)), rfl, h⟩
  by_cases c : 0 ≤ m
  case neg =>
    have c' : ¬ (0 : Int32) ≤ iI m := by rw [J0, iI_le (by omega) (by omega) (by omega) (by omega)]; exact c
    exact ⟨(-1000001, σ), (-1000001, σ), (gd1 (told_t V R)).trans ((gd1 (start0_t a)).trans (if_neg c')), (gd1 (sheet_t M)).trans ((gd1 (start_t a)).trans (if_neg c')), rfl, h⟩
  have c' : (0 : Int32) ≤ iI m := by rw [J0, iI_le (by omega) (by omega) (by omega) (by omega)]; exact c
  have h6 := V.1
  obtain ⟨τ, c1, c2⟩ := c_makeVoyage V R a
  have vb := vq_b V a V.2.2.2.1
  have eb := en_b V a V.2.2.2.1
  have lmb := vq_lm V a V.2.2.2.1
  obtain ⟨ve1, ve2, ve3⟩ := vq_e V a V.2.2.2.1
  have c4 := caL_4 V a V.2.2.2.1 (fun _ => false)
  have ck := caL_k (sh := sh) t (sh 0) (fun _ => false) (vq sh t (sh 0)).2.2.1 (vq sh t (sh 0)).2.1 (vq sh t (sh 0)).1
  obtain ⟨τ1, f1, f2⟩ := k_find R V OutB0 a V.2.2.2.1 c2 vb.1 ve1 ve2 ve3
  have i1 := CA_inv f2 (CF_inv c2 h)
  have M1 := CA_mr f2 (CF_mr c2 M)
  have vall : (vq sh t (sh 0)).2.2.1 = 1 → ((vq sh t (sh 0)).2.1 : Int) = sh 77 := by
    intro e
    have z := vs0_p V
    have vp := vlegs_p V (cf := fun g => tL sh g 0) a V.2.2.2.1 (o := fun _ => false) (sh 77).toNat 0 (vs0 sh) (fun _ => 0) (by omega) z.1 z.2.1 (by omega)
    have := (vp.2.2.1 e).2.1
    show (((vlegs sh (fun g => tL sh g 0) t (sh 0) (fun _ => false) (sh 77).toNat 0 (vs0 sh) (fun _ => 0)).2.1 : Nat) : Int) = sh 77
    omega
  have hB : (bgN (vq sh t (sh 0)) : Int) ≤ sh 77 := by
    unfold bgN
    rcases ve3 with e | e
    · rw [if_pos e]; have := vall e; omega
    · rw [if_neg (by omega)]; omega
  have g86 : τ 8 6 = iI (bgN (vq sh t (sh 0))) := by
    rw [c2.2.1.2.2.2.2.2.1]
    unfold bgN
    by_cases e : (vq sh t (sh 0)).2.2.1 = 1
    · rw [if_pos e, if_pos e]
    · rw [if_neg e, if_neg e]; rfl
  have g22 : ∀ j, j < bgN (vq sh t (sh 0)) → τ 22 j = iI ((vq sh t (sh 0)).2.2.2 j) := by
    intro j hj
    apply c2.2.2.2.1 j
    unfold bgN at hj
    by_cases e : (vq sh t (sh 0)).2.2.1 = 1
    · rw [if_pos e] at hj ⊢; omega
    · rw [if_neg e] at hj ⊢; omega
  have g88 := c2.2.1.2.2.2.2.2.2.2.1
  have k1 : ∀ k, k ≠ 9 → k ≠ 23 → k ≠ 24 → τ1 k = τ k := f2.1
  obtain ⟨τ2, l1, l2⟩ := c_log V (σ := τ1) (q := vq sh t (sh 0)) (ca := caL sh t (sh 0) (fun _ => false) (vq sh t (sh 0)).2.2.1 (vq sh t (sh 0)).2.1 (vq sh t (sh 0)).1) (by rw [k1 14 (by decide) (by decide) (by decide)]; exact CF_rc c2 R) hB eb (by rw [k1 8 (by decide) (by decide) (by decide)]; exact g86) (by rw [k1 8 (by decide) (by decide) (by decide)]; exact g88) (fun j hj => ⟨by rw [k1 22 (by decide) (by decide) (by decide)]; exact g22 j hj, lmb j hj⟩) c4 ck f2.2.1 (fun j hj => (f2.2.2 j hj).1)
  have i2 : Inv τ2 := by
    refine Inv_same i1 (fun j hj => ?_) ?_
    · rw [l2.1 j (kept_n 9 hj rfl) (kept_n 25 hj rfl), g_u2_n1 (kept_n 9 hj rfl)]
    · rw [l2.1 26 (by decide) (by decide), g_u2_n1 (by decide)]; exact ⟨rfl, rfl, rfl, rfl⟩
  have M2 : MR τ2 sh := by
    unfold MR
    rw [l2.1 27 (by decide) (by decide), l2.1 30 (by decide) (by decide), l2.1 31 (by decide) (by decide), g_u2_n1 (by decide), g_u2_n1 (by decide), g_u2_n1 (by decide)]
    exact M1
  obtain ⟨τ3, d1, d2⟩ := m_make V M2 i2 a V.2.2.2.1
  have i3 := RF_inv d2 i2
  obtain ⟨-, -, ⟨-, -, k20, -⟩, ⟨k23, kC⟩, -, k36⟩ := RF_get d2
  have hh : (caL sh t (sh 0) (fun _ => false) (vq sh t (sh 0)).2.2.1 (vq sh t (sh 0)).2.1 (vq sh t (sh 0)).1 = [] ∧ (bgN (vq sh t (sh 0)) : Int) = sh 77) ∨ (0 < (caL sh t (sh 0) (fun _ => false) (vq sh t (sh 0)).2.2.1 (vq sh t (sh 0)).2.1 (vq sh t (sh 0)).1).length ∧ ((((caL sh t (sh 0) (fun _ => false) (vq sh t (sh 0)).2.2.1 (vq sh t (sh 0)).2.1 (vq sh t (sh 0)).1).getD 0 (0, 0)).2 = sh 77 ∧ (bgN (vq sh t (sh 0)) : Int) = sh 77) ∨ (0 ≤ ((caL sh t (sh 0) (fun _ => false) (vq sh t (sh 0)).2.2.1 (vq sh t (sh 0)).2.1 (vq sh t (sh 0)).1).getD 0 (0, 0)).2 ∧ ((caL sh t (sh 0) (fun _ => false) (vq sh t (sh 0)).2.2.1 (vq sh t (sh 0)).2.1 (vq sh t (sh 0)).1).getD 0 (0, 0)).2 < sh 77 ∧ ((caL sh t (sh 0) (fun _ => false) (vq sh t (sh 0)).2.2.1 (vq sh t (sh 0)).2.1 (vq sh t (sh 0)).1).getD 0 (0, 0)).2 + 1 = bgN (vq sh t (sh 0))))) := by
    rcases ve3 with e | ⟨e0, e⟩
    · have ce : caL sh t (sh 0) (fun _ => false) (vq sh t (sh 0)).2.2.1 (vq sh t (sh 0)).2.1 (vq sh t (sh 0)).1 = if hbZ sh (vq sh t (sh 0)).1 ≤ 9 then [] else [(1, sh 77), (10, hbZ sh (vq sh t (sh 0)).1)] := by
        unfold caL
        rw [if_neg (by omega), if_neg (by omega), if_neg (by omega), if_neg (by omega)]
      have be : (bgN (vq sh t (sh 0)) : Int) = sh 77 := by unfold bgN; rw [if_pos e]; exact vall e
      rw [ce]
      by_cases p : hbZ sh (vq sh t (sh 0)).1 ≤ 9
      · rw [if_pos p]; exact Or.inl ⟨rfl, be⟩
      · rw [if_neg p]; exact Or.inr ⟨Nat.zero_lt_succ _, Or.inl ⟨rfl, be⟩⟩
    · have hd := ca_hd (sh := sh) t (sh 0) (fun _ => false) (e := (vq sh t (sh 0)).2.2.1) (by omega) (vq sh t (sh 0)).2.1 (vq sh t (sh 0)).1
      refine Or.inr ⟨hd.1, Or.inr ?_⟩
      rw [hd.2]
      have be : bgN (vq sh t (sh 0)) = (vq sh t (sh 0)).2.1 + 1 := by unfold bgN; rw [if_neg (by omega)]
      rw [be]
      dsimp only
      omega
  obtain ⟨τ4, n1, n2⟩ := m_log V (RF_mr d2 M2) hB k20 (fun j hj => ⟨k36 j hj, lmb j hj⟩) c4 ck k23 kC hh
  have i4 : Inv τ4 := by
    refine Inv_same i3 (fun j hj => ?_) ?_
    · rw [n2.1 j (kept_n 26 hj rfl) (kept_n 39 hj rfl), g_u2_n1 (kept_n 26 hj rfl)]
    · rw [n2.2.1 2 (by decide), n2.2.1 4 (by decide), n2.2.1 5 (by decide), n2.2.1 13 (by decide), g_u2_n2 (by decide), g_u2_n2 (by decide), g_u2_n2 (by decide), g_u2_n2 (by decide)]
      exact ⟨rfl, rfl, rfl, rfl⟩
  have cl4 : (cuF (caL sh t (sh 0) (fun _ => false) (vq sh t (sh 0)).2.2.1 (vq sh t (sh 0)).2.1 (vq sh t (sh 0)).1) (caL sh t (sh 0) (fun _ => false) (vq sh t (sh 0)).2.2.1 (vq sh t (sh 0)).2.1 (vq sh t (sh 0)).1).length 0).length ≤ 3 * (caL sh t (sh 0) (fun _ => false) (vq sh t (sh 0)).2.2.1 (vq sh t (sh 0)).2.1 (vq sh t (sh 0)).1).length := by
    have : ∀ (ca : List (Int × Int)) (d j : Nat), (cuF ca d j).length ≤ 3 * d := by
      intro ca d
      induction d with
      | zero => intro j; exact Nat.le_refl _
      | succ d ih =>
        intro j
        have i := ih (j + 1)
        have fl := fig_l (ca.getD j (0, 0)).1
        rw [show cuF ca (d + 1) j = (if j = 0 then [] else [44]) ++ (fig (ca.getD j (0, 0)).1 ++ cuF ca d (j + 1)) from rfl, List.length_append, List.length_append]
        have : (if j = 0 then ([] : List Int) else [44]).length ≤ 1 := by split <;> simp
        omega
    exact this _ _ _
  have ll := lg_l (sh := sh) (vq sh t (sh 0)).2.2.2 (bgN (vq sh t (sh 0))) 0 (fun j _ h2 => (V.2.2.2.2.2.2.2 j (by omega)).1)
  obtain ⟨L, hL⟩ : ∃ L, L = logL sh (vq sh t (sh 0)) (caL sh t (sh 0) (fun _ => false) (vq sh t (sh 0)).2.2.1 (vq sh t (sh 0)).2.1 (vq sh t (sh 0)).1) := ⟨_, rfl⟩
  have L64 : L.length ≤ 64 := by
    rw [hL]
    unfold logL
    rw [List.length_append, len1]
    omega
  rw [← hL] at l2 n2
  have s1 : f_X10_sign σ (iI t) (iI m) = Option.bind (f_X0_signAt τ2 (iI m)) fun q29 => some (q29.1, q29.2) := by
    refine (gd1 (told_t V R)).trans ((gd1 (start0_t a)).trans ((if_pos c').trans ?_))
    dsimp only
    rw [c1, obs, f1, obs, l1, obs]
  have s2 : f_X11_sign τ2 (iI t) (iI m) = if τ4 26 27 ≤ iI m then some (-1000000, τ4) else (if 0 ≤ (iI m).toInt ∧ (iI m).toInt < 64 then some (τ4 39 (iI m).toNatClampNeg, τ4) else none) := by
    refine (gd1 (sheet_t M2)).trans ((gd1 (start_t a)).trans ((if_pos c').trans ?_))
    dsimp only
    rw [ref_dr M2, d1, obs, n1, obs]
  rw [n2.2.2.1] at s2
  have s3 : f_X0_signAt τ2 (iI m) = if iI (L.length : Int) ≤ iI m then some (-1000000, τ2) else (if 64 ≤ iI m then some (-1000000, τ2) else (if 0 ≤ (iI m).toInt ∧ (iI m).toInt < 64 then some (τ2 25 (iI m).toNatClampNeg, τ2) else none)) := by
    unfold f_X0_signAt
    rw [if_neg (show ¬ iI m < 0 by rw [J0, iI_lt (by omega) (by omega) (by omega) (by omega)]; omega), l2.2.2.1]
  rw [s1, s3]
  by_cases p : (L.length : Int) ≤ m
  · rw [if_pos ((iI_le (by omega) (by omega) (by omega) (by omega)).mpr p)] at s2 ⊢
    exact ⟨_, _, rfl, s2, rfl, i4⟩
  · obtain ⟨n, rfl⟩ : ∃ n : Nat, m = n := ⟨m.toNat, by omega⟩
    rw [if_neg (fun h => p ((iI_le (by omega) (by omega) (by omega) (by omega)).mp h))] at s2 ⊢
    rw [iI_toInt (by omega) (by omega), if_pos (by omega), iI_clamp (by omega) (by omega), Int.toNat_natCast, n2.2.2.2 n (by omega)] at s2
    rw [show (64 : Int32) = iI 64 by decide, if_neg (fun h => absurd ((iI_le (by omega) (by omega) (by omega) (by omega)).mp h) (by omega)), iI_toInt (by omega) (by omega), if_pos (by omega), iI_clamp (by omega) (by omega), Int.toNat_natCast, l2.2.2.2 n (by omega)]
    exact ⟨_, _, rfl, s2, rfl, i4⟩
end SI
