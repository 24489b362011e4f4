/-! Whole numbers under the longs. -/
def jI (z : Int) : Int64 := Int64.ofInt z
theorem jI_toInt {z : Int} (h1 : -9223372036854775808 ≤ z) (h2 : z < 9223372036854775808) : (jI z).toInt = z := by
  unfold jI
  rw [Int64.toInt_ofInt]
  apply Int.bmod_eq_of_le <;> simp <;> omega
theorem jI_mul (a b : Int) : jI a * jI b = jI (a * b) := (Int64.ofInt_mul a b).symm
theorem jI_sub (a b : Int) : jI a - jI b = jI (a - b) := (Int64.ofInt_sub a b).symm
theorem jI_add (a b : Int) : jI a + jI b = jI (a + b) := (Int64.ofInt_add a b).symm
theorem jI_divp {a b : Int} (h1 : 0 ≤ a) (h2 : a < 9223372036854775808) (h3 : 0 < b) (h4 : b < 9223372036854775808) : jI a / jI b = jI (a / b) := by
  rw [← Int64.toInt_inj, Int64.toInt_div, jI_toInt (by omega) h2, jI_toInt (by omega) h4, Int.tdiv_eq_ediv_of_nonneg h1]
  unfold jI
  rw [Int64.toInt_ofInt]
theorem jI_rem {a b : Int} (h1 : 0 ≤ a) (h2 : a < 9223372036854775808) (h3 : 0 < b) (h4 : b < 9223372036854775808) : jI a - jI a / jI b * jI b = jI (a % b) := by
  rw [jI_divp h1 h2 h3 h4, jI_mul, jI_sub, modf]
theorem jI_32 {z : Int} (h1 : 0 ≤ z) (h2 : z < 2147483648) : (jI z).toInt32 = iI z := by
  rw [← Int32.toInt_inj, Int64.toInt_toInt32, jI_toInt (by omega) (by omega), iI_toInt (by omega) h2]
  apply Int.bmod_eq_of_le <;> simp <;> omega
theorem iI_64 {z : Int} (h1 : -2147483648 ≤ z) (h2 : z < 2147483648) : (iI z).toInt64 = jI z := by
  rw [← Int64.toInt_inj, Int32.toInt_toInt64, iI_toInt h1 h2, jI_toInt (by omega) (by omega)]
section DW
variable {σ τ : St} {sh : Nat → Int}
def dnZ (z : Int) : Int := z * 16807 % 2147483647
theorem dn_b (z : Int) : 0 ≤ dnZ z ∧ dnZ z < 2147483647 := by
  unfold dnZ
  omega
theorem dn_e {z : Int} (h1 : 0 ≤ z) (h2 : z < 2147483648) : jI z * 16807 - jI z * 16807 / 2147483647 * 2147483647 = jI (dnZ z) := by
  rw [show (16807 : Int64) = jI 16807 by decide, show (2147483647 : Int64) = jI 2147483647 by decide, jI_mul, jI_rem (by omega) (by omega) (by omega) (by omega)]
  rfl
theorem dn_t {z : Int} (h1 : 0 ≤ z) (h2 : z < 2147483648) : (jI z - jI z / 100 * 100).toInt32 = iI (z % 100) := by
  rw [show (100 : Int64) = jI 100 by decide, jI_rem (by omega) (by omega) (by omega) (by omega), jI_32 (by omega) (by omega)]
theorem dn_d {z : Int} (h1 : 0 ≤ z) (h2 : z < 2147483648) : (jI z / 128 - jI z / 128 / 21 * 21).toInt32 = iI (z / 128 % 21) := by
  rw [show (128 : Int64) = jI 128 by decide, show (21 : Int64) = jI 21 by decide, jI_divp (by omega) (by omega) (by omega) (by omega), jI_rem (by omega) (by omega) (by omega) (by omega), jI_32 (by omega) (by omega)]
/-- the draws one behind the other: the draw, how many arrive, the minutes of all -/
def dwF (sh : Nat → Int) (z : Int) : Nat → Int × Int32 × Int32
  | 0 => (z, 0, 0)
  | n + 1 => (dnZ (dwF sh z n).1, (dwF sh z n).2.1 + bI (decide (enZ sh (vq sh (dnZ (dwF sh z n).1 % 100) (dnZ (dwF sh z n).1 / 128 % 21)) = 0)), (dwF sh z n).2.2 + iI (vq sh (dnZ (dwF sh z n).1 % 100) (dnZ (dwF sh z n).1 / 128 % 21)).1.1)
theorem dw_b {z : Int} (h : 0 ≤ z ∧ z < 2147483648) : ∀ n, 0 ≤ (dwF sh z n).1 ∧ (dwF sh z n).1 < 2147483648 := by
  intro n
  cases n with
  | zero => exact h
  | succ n => have := dn_b (dwF sh z n).1; show 0 ≤ dnZ (dwF sh z n).1 ∧ dnZ (dwF sh z n).1 < 2147483648; omega
theorem c_drawn (V : Val sh) {z : Int} (hz : 0 ≤ z ∧ z < 2147483648) {N : Nat} (hN : N ≤ 12) : ∀ (d k f : Nat) (τ : St), k + d = N → d < f → Inv τ → RC (τ 14) sh → MR τ sh → τ 10 2 = (dwF sh z k).2.1 → τ 10 3 = (dwF sh z k).2.2 → ∃ τ', fx F_X3_drawVoyages_h16 z_X3_drawVoyages_h16 f τ (iI N) (jI (dwF sh z k).1) (iI k) = some τ' ∧ Inv τ' ∧ MR τ' sh ∧ τ' 10 2 = (dwF sh z N).2.1 ∧ τ' 10 3 = (dwF sh z N).2.2 := by
  intro d
  induction d with
  | zero =>
    intro k f τ h1 h2 hI R M t2 t3
    obtain ⟨f, rfl⟩ : ∃ j, f = j + 1 := ⟨f - 1, by omega⟩
    obtain rfl : k = N := by omega
    refine ⟨τ, ?_, hI, M, t2, t3⟩
    rw [fx_s]
    exact if_pos ((iI_le (by omega) (by omega) (by omega) (by omega)).mpr (by omega))
  | succ d ih =>
    intro k f τ h1 h2 hI R M t2 t3
    obtain ⟨f, rfl⟩ : ∃ j, f = j + 1 := ⟨f - 1, by omega⟩
    have b := dw_b (sh := sh) hz k
    have bn := dn_b (dwF sh z k).1
    have s1 : (dwF sh z (k + 1)).1 = dnZ (dwF sh z k).1 := rfl
    have s2 : (dwF sh z (k + 1)).2.1 = (dwF sh z k).2.1 + bI (decide (enZ sh (vq sh (dnZ (dwF sh z k).1 % 100) (dnZ (dwF sh z k).1 / 128 % 21)) = 0)) := rfl
    have s3 : (dwF sh z (k + 1)).2.2 = (dwF sh z k).2.2 + iI (vq sh (dnZ (dwF sh z k).1 % 100) (dnZ (dwF sh z k).1 / 128 % 21)).1.1 := rfl
    rw [← t2] at s2
    rw [← t3] at s3
    generalize hy : dnZ (dwF sh z k).1 = y at *
    obtain ⟨τ1, c1, c2⟩ := c_make V R (t := y % 100) (dr := y / 128 % 21) (by omega) (by omega)
    have eb := en_b V (t := y % 100) (dr := y / 128 % 21) (by omega) (by omega)
    have ar := c_arrives c2 eb
    have k10 : τ1 10 = τ 10 := c2.1 10 (by decide) (by decide) (by decide) (by decide) (by decide) (by decide)
    have k83 := c2.2.1.2.2.1
    obtain ⟨T, hT⟩ : ∃ T, T = g_u2 (g_u2 τ1 10 2 (τ 10 2 + bI (decide (enZ sh (vq sh (y % 100) (y / 128 % 21)) = 0)))) 10 3 (τ 10 3 + iI (vq sh (y % 100) (y / 128 % 21)).1.1) := ⟨_, rfl⟩
    have kT : ∀ j, j ≠ 10 → T j = τ1 j := fun j hj => by rw [hT, g_u2_n1 hj, g_u2_n1 hj]
    have IT : Inv T := Inv_same (CF_inv c2 hI) (fun j hj => kT j (kept_n 10 hj rfl)) (by rw [kT 26 (by decide)]; exact ⟨rfl, rfl, rfl, rfl⟩)
    have RT : RC (T 14) sh := by rw [kT 14 (by decide)]; exact CF_rc c2 R
    have MT : MR T sh := by
      unfold MR
      rw [kT 27 (by decide), kT 30 (by decide), kT 31 (by decide)]
      exact CF_mr c2 M
    obtain ⟨τ2, i1, i2⟩ := ih (k + 1) f T (by omega) (by omega) IT RT MT (by rw [s2, hT, g_u2_n2 (by decide), g_u2_e]) (by rw [s3, hT, g_u2_e])
    refine ⟨τ2, ?_, i2⟩
    rw [fx_s]
    generalize fx F_X3_drawVoyages_h16 z_X3_drawVoyages_h16 f = K at *
    unfold F_X3_drawVoyages_h16 f_X3_drawVoyages_p86
    refine (if_neg (fun h => absurd ((iI_le (by omega) (by omega) (by omega) (by omega)).mp h) (by omega))).trans ?_
    rw [dn_e b.1 b.2, hy, obs, dn_t (by omega) (by omega), obs, dn_d (by omega) (by omega), obs, show (-1 : Int32) = iI (-1) by decide, show (0 : Int32) = iI 0 by decide, c1, obs, ar, obs, ← i1, s1]
    have e : iI (k : Int) + 1 = iI ((k + 1 : Nat) : Int) := by rw [show (1 : Int32) = iI 1 by decide, iI_add]; rfl
    have fin : ∀ b : Bool, b = decide (enZ sh (vq sh (y % 100) (y / 128 % 21)) = 0) → g_u2 (g_u2 τ1 10 2 (τ1 10 2 + bI b)) 10 3 (g_u2 τ1 10 2 (τ1 10 2 + bI b) 10 3 + g_u2 τ1 10 2 (τ1 10 2 + bI b) 8 3) = T := by
      intro b hb
      rw [hT, hb, g_u2_n2 (by decide), g_u2_n1 (by decide), k83, k10]
    simp only [obs, e]
    by_cases p : enZ sh (vq sh (y % 100) (y / 128 % 21)) = 0
    · rw [decide_eq_true p]
      rw [decide_eq_true p] at fin
      rw [if_neg (by decide)]
      have := fin true rfl
      rw [bI_t, ← show (1 : Int32) = iI 1 by decide] at this
      rw [this]
    · rw [decide_eq_false p]
      rw [decide_eq_false p] at fin
      rw [if_pos (by decide)]
      have := fin false rfl
      rw [bI_f] at this
      rw [this]
theorem m_drawn (V : Val sh) {z : Int} (hz : 0 ≤ z ∧ z < 2147483648) {N : Nat} (hN : N ≤ 12) (c : Int32) : ∀ (d k f : Nat) (τ : St), k + d = N → d < f → Inv τ → MR τ sh → ∃ τ', fx F_X11_drawn_h60 z_X11_drawn_h60 f τ (iI N) c (jI (dwF sh z k).1) (dwF sh z k).2.1 (dwF sh z k).2.2 (iI k) = some (if c = 0 then (dwF sh z N).2.1 else (dwF sh z N).2.2, τ') ∧ Inv τ' := by
  intro d
  induction d with
  | zero =>
    intro k f τ h1 h2 hI M
    obtain ⟨f, rfl⟩ : ∃ j, f = j + 1 := ⟨f - 1, by omega⟩
    obtain rfl : k = N := by omega
    refine ⟨τ, ?_, hI⟩
    rw [fx_s]
    refine (if_pos ((iI_le (by omega) (by omega) (by omega) (by omega)).mpr (by omega))).trans ?_
    by_cases p : c = 0
    · rw [if_pos p, if_pos p]
    · rw [if_neg p, if_neg p]
  | succ d ih =>
    intro k f τ h1 h2 hI M
    obtain ⟨f, rfl⟩ : ∃ j, f = j + 1 := ⟨f - 1, by omega⟩
    have b := dw_b (sh := sh) hz k
    have bn := dn_b (dwF sh z k).1
    have s1 : (dwF sh z (k + 1)).1 = dnZ (dwF sh z k).1 := rfl
    have s2 : (dwF sh z (k + 1)).2.1 = (dwF sh z k).2.1 + bI (decide (enZ sh (vq sh (dnZ (dwF sh z k).1 % 100) (dnZ (dwF sh z k).1 / 128 % 21)) = 0)) := rfl
    have s3 : (dwF sh z (k + 1)).2.2 = (dwF sh z k).2.2 + iI (vq sh (dnZ (dwF sh z k).1 % 100) (dnZ (dwF sh z k).1 / 128 % 21)).1.1 := rfl
    generalize hy : dnZ (dwF sh z k).1 = y at *
    obtain ⟨τ1, c1, c2⟩ := m_arrivesFrom V M hI (t := y % 100) (dr := y / 128 % 21) (by omega) (by omega)
    have k18 := (RF_get c2).2.2.1.1
    obtain ⟨τ2, i1, i2⟩ := ih (k + 1) f τ1 (by omega) (by omega) (RF_inv c2 hI) (RF_mr c2 M)
    refine ⟨τ2, ?_, i2⟩
    rw [fx_s]
    generalize fx F_X11_drawn_h60 z_X11_drawn_h60 f = K at *
    unfold F_X11_drawn_h60 f_X11_drawn_p110
    refine (if_neg (fun h => absurd ((iI_le (by omega) (by omega) (by omega) (by omega)).mp h) (by omega))).trans ?_
    rw [dn_e b.1 b.2, hy, obs, dn_t (by omega) (by omega), dn_d (by omega) (by omega), c1, obs, ← i1, s1, s2, s3]
    have e : iI (k : Int) + 1 = iI ((k + 1 : Nat) : Int) := by rw [show (1 : Int32) = iI 1 by decide, iI_add]; rfl
    simp only [obs, e, k18]
    by_cases p : enZ sh (vq sh (y % 100) (y / 128 % 21)) = 0
    · rw [decide_eq_true p]
      exact if_neg (show ¬ bI true = 0 by decide)
    · rw [decide_eq_false p]
      exact if_pos (show bI false = 0 by decide)
theorem p_drawn : P_drawn Inv := by
  intro σ a1 a2 a3 h
  obtain ⟨x, rfl, x1, x2⟩ := iI_ex a1
  obtain ⟨z, rfl, z1, z2⟩ := iI_ex a2
  obtain ⟨y, rfl, y1, y2⟩ := iI_ex a3
  have J12 : (12 : Int32) = iI 12 := by decide
  have J1 : (1 : Int32) = iI 1 := by decide
  have J9 : (999999 : Int32) = iI 999999 := by decide
  rcases iv_sheet h with u | ⟨sh, V, R, M⟩
  · exact ⟨(-1000002, σ), (-1000002, σ), gd0 (told_u u), gd0 (sheet_u u), rfl, h⟩
  by_cases a : 0 ≤ x ∧ x ≤ 12
  case neg => exact ⟨(-1000001, σ), (-1000001, σ), (gd1 (told_t V R)).trans (gd0 (by rw [J0, J12]; exact within_f (by omega) x1 x2 a)), (gd1 (sheet_t M)).trans (gd0 (by rw [L0, L12]; exact in_f (by omega) x1 x2 a)), rfl, h⟩
  have wt : ∀ τ : St, f_X10_isWithin τ (iI z) 1 999999 = some (bI (decide (1 ≤ z ∧ z ≤ 999999)), τ) := fun τ => by rw [J1, J9, e_isWithin z1 z2 (by omega) (by omega) (by omega) (by omega)]
  have it : ∀ τ : St, f_X11_in τ (iI z).toInt64 1 999999 = some (bI (decide (1 ≤ z ∧ z ≤ 999999)), τ) := fun τ => by rw [L1, L999999, e_in z1 z2 (by omega) (by omega) (by omega) (by omega)]
  by_cases b : 1 ≤ z ∧ z ≤ 999999
  case neg =>
    rw [decide_eq_false b] at wt it
    exact ⟨(-1000001, σ), (-1000001, σ), (gd1 (told_t V R)).trans ((gd1 (by rw [J0, J12]; exact within_t (by omega) a)).trans (gd0 (wt σ))), (gd1 (sheet_t M)).trans ((gd1 (by rw [L0, L12]; exact in_t (by omega) a)).trans (gd0 (it σ))), rfl, h⟩
  rw [decide_eq_true b] at wt it
  by_cases c : 0 ≤ y ∧ y ≤ 1
  case neg => exact ⟨(-1000001, σ), (-1000001, σ), (gd1 (told_t V R)).trans ((gd1 (by rw [J0, J12]; exact within_t (by omega) a)).trans ((gd1 (wt σ)).trans (gd0 (by rw [J0, J1]; exact within_f (by omega) y1 y2 c)))), (gd1 (sheet_t M)).trans ((gd1 (by rw [L0, L12]; exact in_t (by omega) a)).trans ((gd1 (it σ)).trans (gd0 (by rw [L0, L1]; exact in_f (by omega) y1 y2 c)))), rfl, h⟩
  obtain ⟨N, rfl⟩ : ∃ N : Nat, x = N := ⟨x.toNat, by omega⟩
  obtain ⟨T, hT⟩ : ∃ T, T = g_u2 (g_u2 σ 10 2 0) 10 3 0 := ⟨_, rfl⟩
  have kT : ∀ j, j ≠ 10 → T j = σ j := fun j hj => by rw [hT, g_u2_n1 hj, g_u2_n1 hj]
  have IT : Inv T := Inv_same h (fun j hj => kT j (kept_n 10 hj rfl)) (by rw [kT 26 (by decide)]; exact ⟨rfl, rfl, rfl, rfl⟩)
  have RT : RC (T 14) sh := by rw [kT 14 (by decide)]; exact R
  have MT : MR T sh := by
    unfold MR
    rw [kT 27 (by decide), kT 30 (by decide), kT 31 (by decide)]
    exact M
  obtain ⟨τ, c1, c2, c3, c4, c5⟩ := c_drawn V (z := z) (by omega) (N := N) (by omega) N 0 FU T (by omega) (by rw [FU_val]; omega) IT RT MT (by rw [hT, g_u2_n2 (by decide), g_u2_e]; rfl) (by rw [hT, g_u2_e]; rfl)
  obtain ⟨τ2, d1, d2⟩ := m_drawn V (z := z) (by omega) (N := N) (by omega) (iI y) N 0 FU τ (by omega) (by rw [FU_val]; omega) c2 c3
  refine ⟨(if iI y = 0 then (dwF sh z N).2.1 else (dwF sh z N).2.2, τ), (if iI y = 0 then (dwF sh z N).2.1 else (dwF sh z N).2.2, τ2), (gd1 (told_t V R)).trans ((gd1 (by rw [J0, J12]; exact within_t (by omega) a)).trans ((gd1 (wt σ)).trans ((gd1 (by rw [J0, J1]; exact within_t (by omega) c)).trans ?_))), (gd1 (sheet_t c3)).trans ((gd1 (by rw [L0, L12]; exact in_t (by omega) a)).trans ((gd1 (it τ)).trans ((gd1 (by rw [L0, L1]; exact in_t (by omega) c)).trans ?_))), rfl, d2⟩
  · unfold f_X3_drawVoyages
    dsimp only
    rw [iI_64 (by omega) (by omega), obs, obs, obs, ← hT, show fx F_X3_drawVoyages_h16 z_X3_drawVoyages_h16 FU T (iI N) (jI z) 0 = _ from c1, obs, c4, c5]
    by_cases p : iI y = 0
    · rw [if_pos p, if_pos p]
    · rw [if_neg p, if_neg p]
  · dsimp only
    rw [iI_64 (by omega) (by omega), obs]
    exact d1
end DW
