section TR
variable {σ τ : St} {sh : Nat → Int}
theorem p_track : P_track Inv := by
  intro σ a1 a2 a3 h
  obtain ⟨t, rfl, x1, x2⟩ := iI_ex a1
  obtain ⟨m, rfl, m1, m2⟩ := iI_ex a2
  obtain ⟨y, rfl, y1, y2⟩ := iI_ex a3
  rcases iv_sheet h with u | ⟨sh, V, R, M⟩
  · exact ⟨(-1000002, σ), (-1000002, σ), gd0 (told_u u), gd0 (sheet_u u), rfl, h⟩
  by_cases a : 0 ≤ t ∧ t ≤ 99
  case neg => exact ⟨(-1000001, σ), (-1000001, σ), (gd1 (told_t V R)).trans (gd0 (start0_f x1 x2 a)), (gd1 (sheet_t M)).trans (gd0 (start_f x1 x2 a)), rfl, h⟩
  by_cases c : m < 0
  · have c' : iI m < 0 := by rw [J0, iI_lt (by omega) (by omega) (by omega) (by omega)]; exact c
    exact ⟨(-1000001, σ), (-1000001, σ), (gd1 (told_t V R)).trans ((gd1 (start0_t a)).trans (if_pos c')), (gd1 (sheet_t M)).trans ((gd1 (start_t a)).trans (if_pos c')), rfl, h⟩
  have c' : ¬ iI m < 0 := by rw [J0, iI_lt (by omega) (by omega) (by omega) (by omega)]; exact c
  by_cases b : 0 ≤ y ∧ y ≤ 2
  case neg => exact ⟨(-1000001, σ), (-1000001, σ), (gd1 (told_t V R)).trans ((gd1 (start0_t a)).trans ((if_neg c').trans (gd0 (by rw [J0, J2]; exact within_f (by omega) y1 y2 b)))), (gd1 (sheet_t M)).trans ((gd1 (start_t a)).trans ((if_neg c').trans (gd0 (by rw [L0, L2]; exact in_f (by omega) y1 y2 b)))), rfl, h⟩
  obtain ⟨τ, c1, c2⟩ := c_makeVoyage V R a
  have i1 := CF_inv c2 h
  have M1 := CF_mr c2 M
  obtain ⟨τ2, d1, d2⟩ := m_make V M1 i1 a V.2.2.2.1
  have i2 := RF_inv d2 i1
  obtain ⟨-, ⟨-, -, g3, -⟩, gT, -⟩ := c2
  obtain ⟨-, -, ⟨k18, -⟩, -, kT, -⟩ := RF_get d2
  have vb := vq_b V a V.2.2.2.1
  have dr := ref_dr M1
  generalize vq sh t (sh 0) = q at *
  have s1 : f_X10_track σ (iI t) (iI m) (iI y) = Option.bind (f_X8_trackCell τ (iI m) (iI y)) fun q27 => some (q27.1, q27.2) := by
    refine (gd1 (told_t V R)).trans ((gd1 (start0_t a)).trans ((if_neg c').trans ((gd1 (by rw [J0, J2]; exact within_t (by omega) b)).trans ?_)))
    dsimp only
    rw [c1, obs]
  have s2 : f_X11_track τ (iI t) (iI m) (iI y) = if iI m ≤ τ2 26 18 then (if iI y = 0 then (if 0 ≤ (iI m).toInt ∧ (iI m).toInt < 361 then some (τ2 33 (iI m).toNatClampNeg, τ2) else none) else if iI y = 1 then (if 0 ≤ (iI m).toInt ∧ (iI m).toInt < 361 then some (τ2 34 (iI m).toNatClampNeg, τ2) else none) else (if 0 ≤ (iI m).toInt ∧ (iI m).toInt < 361 then some (τ2 35 (iI m).toNatClampNeg, τ2) else none)) else some (-1000000, τ2) := by
    refine (gd1 (sheet_t M1)).trans ((gd1 (start_t a)).trans ((if_neg c').trans ((gd1 (by rw [L0, L2]; exact in_t (by omega) b)).trans ?_)))
    dsimp only
    rw [dr, d1, obs]
  rw [s1]
  unfold f_X8_trackCell
  rw [if_neg c', g3]
  rw [k18] at s2
  by_cases e : m ≤ q.1.1
  · obtain ⟨n, rfl⟩ : ∃ n : Nat, m = n := ⟨m.toNat, by omega⟩
    have gd : 0 ≤ (iI (n : Int)).toInt ∧ (iI (n : Int)).toInt < 361 := by rw [iI_toInt (by omega) (by omega)]; omega
    have cl : (iI (n : Int)).toNatClampNeg = n := by rw [iI_clamp (by omega) (by omega), Int.toNat_natCast]
    have gT1 := gT n (by omega)
    have kT1 := kT n (by omega)
    rw [if_neg (show ¬ iI (q.1.1 : Int) < iI n by rw [iI_lt (by omega) (by omega) (by omega) (by omega)]; omega), if_pos (show iI (n : Int) ≤ 360 by rw [show (360 : Int32) = iI 360 by decide, iI_le (by omega) (by omega) (by omega) (by omega)]; omega)]
    rw [if_pos (show iI (n : Int) ≤ iI (q.1.1 : Int) by rw [iI_le (by omega) (by omega) (by omega) (by omega)]; omega)] at s2
    rw [if_pos gd, if_pos gd, if_pos gd, cl, kT1.1, kT1.2.1, kT1.2.2] at s2
    rw [if_pos gd, if_pos gd, if_pos gd, cl, gT1.1, gT1.2.1, gT1.2.2]
    rcases (show y = 0 ∨ y = 1 ∨ y = 2 by omega) with e | e | e <;> subst e
    · exact ⟨_, _, rfl, s2, rfl, i2⟩
    · exact ⟨_, _, rfl, s2, rfl, i2⟩
    · exact ⟨_, _, rfl, s2, rfl, i2⟩
  · rw [if_pos (show iI (q.1.1 : Int) < iI m by rw [iI_lt (by omega) (by omega) (by omega) (by omega)]; omega)]
    rw [if_neg (show ¬ iI m ≤ iI (q.1.1 : Int) by rw [iI_le (by omega) (by omega) (by omega) (by omega)]; omega)] at s2
    exact ⟨_, _, rfl, s2, rfl, i2⟩
/-- the starts of the first n minutes that arrive -/
def tiF (sh : Nat → Int) : Nat → Int32
  | 0 => 0
  | n + 1 => if enZ sh (vq sh n (sh 0)) = 0 then tiF sh n ||| (1 <<< (iI n &&& 31)) else tiF sh n
theorem c_arrives {t dr : Int} {ob : Int32} {q : VQ} (c2 : CF τ σ sh t dr ob q) (hq : 0 ≤ enZ sh q ∧ enZ sh q ≤ 10) : f_X8_arrives τ = some (bI (decide (enZ sh q = 0)), τ) := by
  unfold f_X8_arrives
  rw [c2.2.1.2.2.2.2.2.2.2.1]
  by_cases e : enZ sh q = 0
  · rw [e, if_pos (by decide)]; rfl
  · rw [if_neg (by rw [J0, iI_eq (by omega) (by omega) (by omega) (by omega)]; exact e), decide_eq_false e]; rfl
theorem m_arrivesFrom (V : Val sh) (M : MR σ sh) (h : Inv σ) {t dr : Int} (ht : 0 ≤ t ∧ t ≤ 99) (hdr : 0 ≤ dr ∧ dr ≤ 20) : ∃ τ, f_X11_arrivesFrom σ (iI t) (iI dr) = some (bI (decide (enZ sh (vq sh t dr) = 0)), τ) ∧ RF τ σ sh t dr (fun _ => false) (vq sh t dr) := by
  obtain ⟨τ, d1, d2⟩ := m_make V M h ht hdr
  refine ⟨τ, ?_, d2⟩
  unfold f_X11_arrivesFrom
  rw [d1, obs, (RF_get d2).2.2.1.2.2.1]
  exact if_pos (bI_01 _)
theorem c_times (V : Val sh) : ∀ (d k f : Nat) (τ : St), k + d = 30 → d < f → Inv τ → RC (τ 14) sh → MR τ sh → ∃ τ', fx F_X3_startsThatArrive_h4 z_X3_startsThatArrive_h4 f τ (tiF sh k) (iI k) = some (tiF sh 30, τ') ∧ Inv τ' ∧ MR τ' sh := by
  intro d
  induction d with
  | zero =>
    intro k f τ h1 h2 hI R M
    obtain ⟨f, rfl⟩ : ∃ j, f = j + 1 := ⟨f - 1, by omega⟩
    obtain rfl : k = 30 := by omega
    exact ⟨τ, by rw [fx_s]; rfl, hI, M⟩
  | succ d ih =>
    intro k f τ h1 h2 hI R M
    obtain ⟨f, rfl⟩ : ∃ j, f = j + 1 := ⟨f - 1, by omega⟩
    obtain ⟨τ1, c1, c2⟩ := c_make V R (t := (k : Int)) (by omega) V.2.2.2.1
    have eb := en_b V (t := (k : Int)) (by omega) V.2.2.2.1
    have ar := c_arrives c2 eb
    obtain ⟨τ2, i1, i2⟩ := ih (k + 1) f τ1 (by omega) (by omega) (CF_inv c2 hI) (CF_rc c2 R) (CF_mr c2 M)
    refine ⟨τ2, ?_, i2⟩
    rw [fx_s]
    generalize fx F_X3_startsThatArrive_h4 z_X3_startsThatArrive_h4 f = K at *
    unfold F_X3_startsThatArrive_h4 f_X3_startsThatArrive_p45
    rw [if_neg (show ¬ (30 : Int32) ≤ iI k by rw [show (30 : Int32) = iI 30 by decide, iI_le (by omega) (by omega) (by omega) (by omega)]; omega)]
    rw [show (-1 : Int32) = iI (-1) by decide, show (0 : Int32) = iI 0 by decide, q_shipCell R rfl (by omega) (by omega), obs]
    dsimp only
    rw [Int.toNat_zero, c1, obs, ar, obs, ← i1]
    have e : iI (k : Int) + 1 = iI ((k + 1 : Nat) : Int) := by rw [show (1 : Int32) = iI 1 by decide, iI_add]; rfl
    simp only [obs, e, bI_0]
    rw [show tiF sh (k + 1) = if enZ sh (vq sh k (sh 0)) = 0 then tiF sh k ||| (1 <<< (iI k &&& 31)) else tiF sh k from rfl]
    by_cases p : enZ sh (vq sh k (sh 0)) = 0
    · rw [if_pos p, decide_eq_true p, if_neg (by decide)]
    · rw [if_neg p, decide_eq_false p, if_pos rfl]
theorem or_z (x : Int32) : x ||| 0 = x := by
  apply Int32.toBitVec_inj.mp
  simp
theorem m_times (V : Val sh) : ∀ (d k f : Nat) (τ : St), k + d = 30 → d < f → Inv τ → MR τ sh → ∃ τ', fx F_X11_times_h14 z_X11_times_h14 f τ (tiF sh k) (iI k) = some (tiF sh 30, τ') ∧ Inv τ' := by
  intro d
  induction d with
  | zero =>
    intro k f τ h1 h2 hI M
    obtain ⟨f, rfl⟩ : ∃ j, f = j + 1 := ⟨f - 1, by omega⟩
    obtain rfl : k = 30 := by omega
    exact ⟨τ, by rw [fx_s]; rfl, hI⟩
  | succ d ih =>
    intro k f τ h1 h2 hI M
    obtain ⟨f, rfl⟩ : ∃ j, f = j + 1 := ⟨f - 1, by omega⟩
    obtain ⟨τ1, c1, c2⟩ := m_arrivesFrom V M hI (t := (k : Int)) (by omega) V.2.2.2.1
    obtain ⟨τ2, i1, i2⟩ := ih (k + 1) f τ1 (by omega) (by omega) (RF_inv c2 hI) (RF_mr c2 M)
    refine ⟨τ2, ?_, i2⟩
    rw [fx_s]
    generalize fx F_X11_times_h14 z_X11_times_h14 f = K at *
    unfold F_X11_times_h14 f_X11_times_p42
    rw [if_neg (show ¬ (30 : Int32) ≤ iI k by rw [show (30 : Int32) = iI 30 by decide, iI_le (by omega) (by omega) (by omega) (by omega)]; omega)]
    rw [ref_dr M, c1, obs, ← i1]
    have e : iI (k : Int) + 1 = iI ((k + 1 : Nat) : Int) := by rw [show (1 : Int32) = iI 1 by decide, iI_add]; rfl
    simp only [obs, e]
    rw [show tiF sh (k + 1) = if enZ sh (vq sh k (sh 0)) = 0 then tiF sh k ||| (1 <<< (iI k &&& 31)) else tiF sh k from rfl]
    by_cases p : enZ sh (vq sh k (sh 0)) = 0
    · rw [if_pos p, decide_eq_true p, if_neg (show ¬ bI true = 0 by decide)]
    · rw [if_neg p, decide_eq_false p, if_pos (show bI false = 0 by decide), or_z]
theorem p_times : P_times Inv := by
  intro σ h
  rcases iv_sheet h with u | ⟨sh, V, R, M⟩
  · exact ⟨(-1000002, σ), (-1000002, σ), gd0 (told_u u), gd0 (sheet_u u), rfl, h⟩
  obtain ⟨τ, c1, c2, c3⟩ := c_times V 30 0 FU σ (by omega) (by rw [FU_val]; omega) h R M
  obtain ⟨τ2, d1, d2⟩ := m_times V 30 0 FU τ (by omega) (by rw [FU_val]; omega) c2 c3
  refine ⟨(tiF sh 30, τ), (tiF sh 30, τ2), (gd1 (told_t V R)).trans ?_, (gd1 (sheet_t c3)).trans ?_, rfl, d2⟩
  · unfold f_X3_startsThatArrive
    dsimp only
    rw [show fx F_X3_startsThatArrive_h4 z_X3_startsThatArrive_h4 FU σ 0 0 = some (tiF sh 30, τ) from c1, obs]
  · exact d1
end TR
