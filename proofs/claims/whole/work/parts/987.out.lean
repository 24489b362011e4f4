section OW
variable {σ τ : St} {sh : Nat → Int} {lam : Lm}
/-- one voyage of the reference with marks out -/
theorem m_one (V : Val sh) (hI : Inv (g_u2 τ 26 13 0)) (M : MR τ sh) {ob : Int32} {o : Nat → Bool} (hO : OutB ob o) {t : Int} (ht : 0 ≤ t ∧ t ≤ 99) : ∃ τ1, f_X11_arrivesFrom (g_u2 τ 26 13 ob) (iI t) (g_u2 τ 26 13 ob 27 1) = some (bI (decide (enZ sh (vo sh t (sh 0) o) = 0)), τ1) ∧ Inv (g_u2 τ1 26 13 0) ∧ MR τ1 sh := by
  obtain ⟨T, hT⟩ : ∃ T, T = g_u2 τ 26 13 ob := ⟨_, rfl⟩
  have M' : MR T sh := by
    unfold MR
    rw [hT, g_u2_n1 (by decide), g_u2_n1 (by decide), g_u2_n1 (by decide)]
    exact M
  obtain ⟨τ1, c1, c2⟩ := m_sails M' V (o := o) (by rw [hT, g_u2_e]; exact hO) ht V.2.2.2.1
  obtain ⟨F, J, G, -, kT, -⟩ := RF_get c2
  refine ⟨τ1, ?_, ?_, RF_mr c2 M'⟩
  · rw [← hT, ref_dr M']
    unfold f_X11_arrivesFrom
    rw [c1, obs, G.2.2.1]
    exact if_pos (bI_01 _)
  · refine Inv_same hI (fun j hj => ?_) ?_
    · rw [g_u2_n1 (kept_n 26 hj rfl), g_u2_n1 (kept_n 26 hj rfl), F j (kept_n 26 hj rfl) (kept_n 33 hj rfl) (kept_n 34 hj rfl) (kept_n 35 hj rfl) (kept_n 36 hj rfl) (kept_n 37 hj rfl) (kept_n 38 hj rfl), hT, g_u2_n1 (kept_n 26 hj rfl)]
    · rw [g_u2_e, g_u2_e]
      simp (disch := omega) only [g_u2_n2]
      rw [J 2 (by omega), J 4 (by omega), J 5 (by omega), hT]
      simp (disch := omega) only [g_u2_n2]
      exact ⟨trivial, trivial, trivial, trivial⟩
theorem jI_0 : (0 : Int64) = jI 0 := by decide
theorem m_waysR (V : Val sh) {M : Nat} (hM : M = awN sh (sh 77).toNat) (hM2 : M < 256) {p t : Int} (hp : 0 ≤ p ∧ p ≤ 10) (ht : 0 ≤ t ∧ t ≤ 99) : ∀ (n S f : Nat) (w : Int64) (τ : St), n + 1 < f → S < 256 → (∃ k, k < 8 ∧ S.testBit k = true ∧ M.testBit k = true) → chk M n (iI S) = true → Inv (g_u2 τ 26 13 0) → MR τ sh → ∃ τ', fx F_X11_ways_h9 z_X11_ways_h9 f τ (iI t) (iI p) (iI M) w (iI S) 1 = some (w, τ') ∧ Inv τ' := by
  intro n
  have h6 := V.1
  induction n with
  | zero => intro S f w τ _ _ _ h; exact absurd h (by unfold chk; decide)
  | succ n ih =>
    intro S f w τ hf hS hk hc hI MM
    obtain ⟨f, rfl⟩ : ∃ j, f = j + 1 := ⟨f - 1, by omega⟩
    obtain ⟨τ1, a1, a2, a3⟩ := m_one V hI MM (OutBN hS) ht
    obtain ⟨k, k1, k2, k3⟩ := hk
    rw [hM] at k3
    obtain ⟨g, g1, g2⟩ := aw_ex _ _ k3
    have no := vo_out V g2 (by omega) (o := fun k => S.testBit k) k2 ht V.2.2.2.1
    rw [decide_eq_false no] at a1
    have wt := m_wts (σ := τ1) hM2 hS hp 0 (fx F_X11_ways_h9 z_X11_ways_h9 f) (iI t) 0 w 8 0 FU (by omega) (by rw [FU_val]; omega)
    rw [wF_0, wF_0, ← jI_0, Int64.add_zero] at wt
    have one : fx F_X11_ways_h9 z_X11_ways_h9 (f + 1) τ (iI t) (iI p) (iI M) w (iI S) 1 = if (iI S - iI M) &&& iI M = 0 then fx F_X11_ways_h9 z_X11_ways_h9 f τ1 (iI t) (iI p) (iI M) w ((iI S - iI M) &&& iI M) 0 else fx F_X11_ways_h9 z_X11_ways_h9 f τ1 (iI t) (iI p) (iI M) w ((iI S - iI M) &&& iI M) 1 := by
      rw [fx_s]
      generalize fx F_X11_ways_h9 z_X11_ways_h9 f = K at *
      unfold F_X11_ways_h9 f_X11_ways_p39
      refine (if_neg (by decide)).trans ?_
      rw [obs, a1, obs]
      refine (if_pos (show bI false = 0 by decide)).trans ?_
      exact wt
    rw [one]
    unfold chk at hc
    by_cases z : (iI S - iI M) &&& iI M = 0
    · rw [if_pos z]
      obtain ⟨f, rfl⟩ : ∃ j, f = j + 1 := ⟨f - 1, by omega⟩
      refine ⟨g_u2 τ1 26 13 0, ?_, a2⟩
      rw [fx_s]
      rfl
    · rw [if_neg z] at hc ⊢
      rw [Bool.and_eq_true, Bool.and_eq_true, Bool.and_eq_true, decide_eq_true_eq, decide_eq_true_eq, List.any_eq_true] at hc
      obtain ⟨⟨⟨h1, h2⟩, j, j1, j2⟩, h4⟩ := hc
      generalize ((iI S - iI M) &&& iI M).toNatClampNeg = S' at *
      rw [Bool.and_eq_true] at j2
      rw [h1] at h4 ⊢
      exact ih S' f w τ1 (by omega) h2 ⟨j, List.mem_range.mp j1, j2.1, j2.2⟩ h4 a2 a3
/-- all cases: only that in which none is out may arrive -/
theorem m_ways (V : Val sh) {M : Nat} (hM : M = awN sh (sh 77).toNat) {q : Nat} (hq : q ≤ 10) {t : Int} (ht : 0 ≤ t ∧ t ≤ 99) (hI : Inv τ) (MM : MR τ sh) : ∃ τ', f_X11_ways τ (iI t) (iI (10 - (q : Int))) (iI M) = some (jI ((if enZ sh (vq sh t (sh 0)) = 0 then q ^ pcF M 8 else 0 : Nat) : Int), τ') ∧ Inv τ' := by
  have h6 := V.1
  have hM2 : M < 256 := by rw [hM]; exact aw_b V _ (by omega)
  have i0 := iv_out hI
  have hI0 : Inv (g_u2 τ 26 13 0) := Inv_same hI (fun j hj => g_u2_n1 (kept_n 26 hj rfl)) ⟨by rw [g_u2_n2 (by decide)], by rw [g_u2_n2 (by decide)], by rw [g_u2_n2 (by decide)], by rw [g_u2_e, i0]; rfl⟩
  obtain ⟨τ1, a1, a2, a3⟩ := m_one V hI0 MM (ob := 0) OutB0 ht
  obtain ⟨f, hf⟩ : ∃ f, FU = f + 1 := ⟨FU - 1, by rw [FU_val]⟩
  have fv : f = 1999 := by have := FU_val; omega
  obtain ⟨a, ha⟩ : ∃ a : Nat, a = if enZ sh (vq sh t (sh 0)) = 0 then 1 else 0 := ⟨_, rfl⟩
  have wt := m_wts (σ := τ1) hM2 (S := 0) (by decide) (p := 10 - (q : Int)) (by omega) (a : Int) (fx F_X11_ways_h9 z_X11_ways_h9 f) (iI t) 0 0 8 0 FU (by omega) (by rw [FU_val]; omega)
  rw [show wF M 0 (10 - (q : Int)) (a : Int) 0 = (a : Int) from rfl, wF_e, show (10 : Int) - (10 - (q : Int)) = (q : Int) by omega, Int64.zero_add] at wt
  have we : jI ((a : Int) * (q : Int) ^ pcF M 8) = jI ((if enZ sh (vq sh t (sh 0)) = 0 then q ^ pcF M 8 else 0 : Nat) : Int) := by
    congr 1
    rw [ha]
    by_cases p : enZ sh (vq sh t (sh 0)) = 0
    · rw [if_pos p, if_pos p, Int.natCast_pow]; show (1 : Int) * _ = _; rw [Int.one_mul]
    · rw [if_neg p, if_neg p]; show (0 : Int) * _ = 0; rw [Int.zero_mul]
  rw [we] at wt
  generalize jI ((if enZ sh (vq sh t (sh 0)) = 0 then q ^ pcF M 8 else 0 : Nat) : Int) = W at *
  have one : f_X11_ways τ (iI t) (iI (10 - (q : Int))) (iI M) = if (iI ((0 : Nat) : Int) - iI M) &&& iI M = 0 then fx F_X11_ways_h9 z_X11_ways_h9 f τ1 (iI t) (iI (10 - (q : Int))) (iI M) W ((iI ((0 : Nat) : Int) - iI M) &&& iI M) 0 else fx F_X11_ways_h9 z_X11_ways_h9 f τ1 (iI t) (iI (10 - (q : Int))) (iI M) W ((iI ((0 : Nat) : Int) - iI M) &&& iI M) 1 := by
    unfold f_X11_ways
    rw [hf, fx_s]
    rw [hf] at wt
    generalize fx F_X11_ways_h9 z_X11_ways_h9 f = K at *
    unfold F_X11_ways_h9 f_X11_ways_p39
    refine (if_neg (by decide)).trans ?_
    rw [obs, a1, obs, hf]
    by_cases p : enZ sh (vq sh t (sh 0)) = 0
    · rw [if_pos p] at ha
      subst ha
      rw [decide_eq_true (show enZ sh (vo sh t (sh 0) fun _ => false) = 0 from p)]
      refine (if_neg (show ¬ bI true = 0 by decide)).trans ?_
      exact wt
    · rw [if_neg p] at ha
      subst ha
      rw [decide_eq_false (show ¬ enZ sh (vo sh t (sh 0) fun _ => false) = 0 from p)]
      refine (if_pos (show bI false = 0 by decide)).trans ?_
      exact wt
  rw [one]
  have hc := chk_tab ⟨M, hM2⟩
  unfold chk at hc
  simp only at hc
  rw [show iI ((0 : Nat) : Int) = iI 0 from rfl]
  by_cases z : (iI 0 - iI M) &&& iI M = 0
  · rw [if_pos z]
    obtain ⟨f, rfl⟩ : ∃ j, f = j + 1 := ⟨f - 1, by omega⟩
    refine ⟨g_u2 τ1 26 13 0, ?_, a2⟩
    rw [fx_s]
    rfl
  · rw [if_neg z] at hc ⊢
    rw [Bool.and_eq_true, Bool.and_eq_true, Bool.and_eq_true, decide_eq_true_eq, decide_eq_true_eq, List.any_eq_true] at hc
    obtain ⟨⟨⟨h1, h2⟩, j, j1, j2⟩, h4⟩ := hc
    generalize ((iI 0 - iI M) &&& iI M).toNatClampNeg = S' at *
    rw [Bool.and_eq_true] at j2
    rw [h1] at h4 ⊢
    exact m_waysR V hM hM2 (by omega) ht 256 S' f W τ1 (by omega) h2 ⟨j, List.mem_range.mp j1, j2.1, j2.2⟩ h4 a2 a3
theorem lgc {a b : Int} (h1 : -9223372036854775808 ≤ a) (h2 : a < 9223372036854775808) (h3 : -9223372036854775808 ≤ b) (h4 : b < 9223372036854775808) : (lg_cmp (jI a) (jI b) ≤ 0) ↔ a ≤ b := by
  unfold lg_cmp
  simp only [gt_iff_lt, Int64.lt_iff_toInt_lt, jI_toInt h1 h2, jI_toInt h3 h4]
  by_cases p : b < a
  · rw [if_pos p]
    constructor
    · intro h; exact absurd h (by decide)
    · intro h; omega
  · rw [if_neg p]
    constructor
    · intro h; omega
    · intro h; split <;> decide
def euO : Nat → Nat → Nat → Option Nat
  | 0, _, _ => none
  | f + 1, a, b => if b = 0 then some a else euO f b (a % b)
theorem m_euclid (c : Int32) (X Y : Int64) : ∀ (f a b g f' : Nat), euO f a b = some g → f ≤ f' → 0 < g → a < 1000000000 → b < 1000000000 → fx F_X11_out_h122 z_X11_out_h122 f' σ c X Y (jI a) (jI b) = if c = 0 then some (Y / jI g, σ) else some (X / jI g, σ) := by
  intro f
  induction f with
  | zero => intro a b g f' h; exact absurd h (by unfold euO; simp)
  | succ f ih =>
    intro a b g f' h hf hg ha hb
    obtain ⟨f', rfl⟩ : ∃ j, f' = j + 1 := ⟨f' - 1, by omega⟩
    unfold euO at h
    rw [fx_s]
    unfold F_X11_out_h122
    rw [jI_0]
    by_cases p : b = 0
    · rw [if_pos p] at h
      obtain rfl : a = g := by injection h
      rw [if_pos ((lgc (by omega) (by omega) (by omega) (by omega)).mpr (by omega)), if_neg (show ¬ jI a = jI 0 by
        intro h
        have := congrArg Int64.toInt h
        rw [jI_toInt (by omega) (by omega), jI_toInt (by omega) (by omega)] at this
        omega), if_neg (show ¬ jI a = jI 0 by
        intro h
        have := congrArg Int64.toInt h
        rw [jI_toInt (by omega) (by omega), jI_toInt (by omega) (by omega)] at this
        omega)]
    · rw [if_neg p] at h
      rw [if_neg (fun h => absurd ((lgc (by omega) (by omega) (by omega) (by omega)).mp h) (by omega)), if_neg (show ¬ jI b = jI 0 by
        intro h
        have := congrArg Int64.toInt h
        rw [jI_toInt (by omega) (by omega), jI_toInt (by omega) (by omega)] at this
        omega), obs, jI_rem (by omega) (by omega) (by omega) (by omega), ← Int.natCast_emod]
      have := Nat.mod_lt a (show 0 < b by omega)
      exact ih b (a % b) g f' h (by omega) hg hb (by omega)
theorem eu_tab : ∀ k : Fin 7, ∀ q : Fin 11, (match euO 60 (q.val ^ k.val) (10 ^ k.val) with | some G => decide (0 < G) && decide (q.val ^ k.val / G = (q.val / shF q.val 10) ^ k.val) && decide (10 ^ k.val / G = (10 / shF q.val 10) ^ k.val) | none => false) = true := by decide +kernel
theorem eu_tab0 : ∀ k : Fin 7, euO 60 0 (10 ^ k.val) = some (10 ^ k.val) ∧ 0 < 10 ^ k.val ∧ 10 ^ k.val / 10 ^ k.val = 1 := by decide +kernel
theorem pw_tab : ∀ k : Fin 9, (10 ^ k.val ≤ 1000000 ↔ k.val ≤ 6) ∧ 10 ^ k.val < 1000000000 := by decide +kernel
theorem pq_tab : ∀ k : Fin 7, ∀ q : Fin 11, q.val ^ k.val < 1000000000 := by decide +kernel
theorem m_outL (V : Val sh) {M : Nat} (hM : M = awN sh (sh 77).toNat) {q : Nat} (hq : q ≤ 10) {t : Int} (ht : 0 ≤ t ∧ t ≤ 99) (hI : Inv τ) (MM : MR τ sh) (c : Int32) : ∀ (d k f : Nat), k + d = 8 → d < f → ∃ τ', fx F_X11_out_h56 z_X11_out_h56 f τ (iI t) (iI (10 - (q : Int))) c (iI M) (jI ((10 ^ pcF M k : Nat) : Int)) (iI k) = some (if pcF M 8 ≤ 6 then (if c = 0 then jI ((if enZ sh (vq sh t (sh 0)) = 0 then (q / shF q 10) ^ pcF M 8 else 0 : Nat) : Int) else jI ((if enZ sh (vq sh t (sh 0)) = 0 then (10 / shF q 10) ^ pcF M 8 else 1 : Nat) : Int)) else -1000003, τ') ∧ Inv τ' := by
  intro d
  have h6 := V.1
  have hM2 : M < 256 := by rw [hM]; exact aw_b V _ (by omega)
  have pb := (bc_tab ⟨M, hM2⟩).2
  simp only at pb
  induction d with
  | zero =>
    intro k f h1 h2
    obtain ⟨f, rfl⟩ : ∃ j, f = j + 1 := ⟨f - 1, by omega⟩
    obtain rfl : k = 8 := by omega
    have pt := pw_tab ⟨pcF M 8, by omega⟩
    simp only at pt
    obtain ⟨P, hP⟩ : ∃ P, P = 10 ^ pcF M 8 := ⟨_, rfl⟩
    rw [← hP] at pt ⊢
    rw [fx_s]
    generalize fx F_X11_out_h56 z_X11_out_h56 f = K
    unfold F_X11_out_h56
    rw [if_pos (show (8 : Int32) ≤ iI ((8 : Nat) : Int) by decide), show (1000000 : Int64) = jI ((1000000 : Nat) : Int) by decide]
    by_cases p : pcF M 8 ≤ 6
    · rw [if_pos ((lgc (by omega) (by omega) (by omega) (by omega)).mpr (by have := pt.1.mpr p; omega)), if_pos p]
      obtain ⟨τ1, w1, w2⟩ := m_ways V hM hq ht hI MM
      refine ⟨τ1, ?_, w2⟩
      rw [w1, obs]
      dsimp only
      by_cases r : enZ sh (vq sh t (sh 0)) = 0
      · rw [if_pos r, if_pos r, if_pos r]
        have et := eu_tab ⟨pcF M 8, by omega⟩ ⟨q, by omega⟩
        have qb := pq_tab ⟨pcF M 8, by omega⟩ ⟨q, by omega⟩
        simp only at et qb
        rw [← hP] at et
        cases he : euO 60 (q ^ pcF M 8) P with
        | none => rw [he] at et; exact Bool.noConfusion et
        | some G =>
          rw [he] at et
          simp only [Bool.and_eq_true, decide_eq_true_eq] at et
          obtain ⟨⟨e1, e2⟩, e3⟩ := et
          have gb : G < 1000000000 := by
            rcases Nat.lt_or_ge G 1000000000 with h | h
            · exact h
            · have z1 : P / G = 0 := Nat.div_eq_of_lt (by omega)
              have sb := sh_b ⟨q, by omega⟩
              simp only at sb
              have : 0 < (10 / shF q 10) ^ pcF M 8 := Nat.pow_pos (Nat.div_pos (by omega) (by omega))
              omega
          rw [m_euclid c _ _ 60 _ _ G FU he (by rw [FU_val]; omega) e1 qb (by omega), jI_divp (by omega) (by omega) (by omega) (by omega), jI_divp (by omega) (by omega) (by omega) (by omega), ← Int.natCast_ediv, ← Int.natCast_ediv, e2, e3]
          by_cases z : c = 0
          · rw [if_pos z, if_pos z]
          · rw [if_neg z, if_neg z]
      · rw [if_neg r, if_neg r, if_neg r]
        obtain ⟨e1, e2, e3⟩ := eu_tab0 ⟨pcF M 8, by omega⟩
        simp only at e1 e2 e3
        rw [← hP] at e1 e2 e3
        rw [m_euclid c _ _ 60 0 _ _ FU e1 (by rw [FU_val]; omega) e2 (by omega) (by omega), jI_divp (by omega) (by omega) (by omega) (by omega), jI_divp (by omega) (by omega) (by omega) (by omega), ← Int.natCast_ediv, ← Int.natCast_ediv, e3, Nat.zero_div]
        by_cases z : c = 0
        · rw [if_pos z, if_pos z]
        · rw [if_neg z, if_neg z]
    · rw [if_neg (fun h => p (pt.1.mp (by have := (lgc (by omega) (by omega) (by omega) (by omega)).mp h; omega))), if_neg p]
      exact ⟨τ, rfl, hI⟩
  | succ d ih =>
    intro k f h1 h2
    obtain ⟨f, rfl⟩ : ∃ j, f = j + 1 := ⟨f - 1, by omega⟩
    obtain ⟨τ', i1, i2⟩ := ih (k + 1) f (by omega) (by omega)
    refine ⟨τ', ?_, i2⟩
    rw [fx_s]
    generalize fx F_X11_out_h56 z_X11_out_h56 f = K at *
    unfold F_X11_out_h56 f_X11_out_p82
    rw [if_neg (show ¬ (8 : Int32) ≤ iI k by rw [show (8 : Int32) = iI 8 by decide, iI_le (by omega) (by omega) (by omega) (by omega)]; omega), m_has hM2 (by omega), obs, obs, obs, obs, obs, show iI (k : Int) + 1 = iI ((k + 1 : Nat) : Int) by rw [show (1 : Int32) = iI 1 by decide, iI_add]; rfl, ← i1, show (10 : Int64) = jI ((10 : Nat) : Int) by decide, show (1 : Int64) = jI ((1 : Nat) : Int) by decide, jI_mul, jI_mul, ← Int.natCast_mul, ← Int.natCast_mul]
    rw [show pcF M (k + 1) = pcF M k + if M.testBit k = true then 1 else 0 from rfl]
    cases M.testBit k
    · refine (if_pos (show bI false = 0 by decide)).trans ?_
      rw [if_neg (show ¬ false = true by decide), Nat.mul_one, Nat.add_zero]; try rfl
    · refine (if_neg (show ¬ bI true = 0 by decide)).trans ?_
      rw [if_pos rfl, Nat.pow_succ]; try rfl
theorem c_weighA (V : Val sh) (R : RC (σ 14) sh) {M : Nat} (hM : M = awN sh (sh 77).toNat) {q : Nat} (hq : q ≤ 10) {t : Int} (ht : 0 ≤ t ∧ t ≤ 99) (lam : Lm) : ∃ lam' τ, f_X3_weighArrival lam σ (iI t) (iI (10 - (q : Int))) = some (lam', τ) ∧ CF τ σ sh t (sh 0) (iI 0) (vq sh t (sh 0)) ∧ lam' 0 = jI ((if enZ sh (vq sh t (sh 0)) = 0 then (q / shF q 10) ^ pcF M 8 else 0 : Nat) : Int) ∧ lam' 1 = jI ((if enZ sh (vq sh t (sh 0)) = 0 then (10 / shF q 10) ^ pcF M 8 else 1 : Nat) : Int) := by
  have h6 := V.1
  have hM2 : M < 256 := by rw [hM]; exact aw_b V _ (by omega)
  have pb := (bc_tab ⟨M, hM2⟩)
  simp only at pb
  have sb := sh_b ⟨q, by omega⟩
  simp only at sb
  obtain ⟨τ, c1, c2⟩ := c_make V R (t := t) ht V.2.2.2.1
  have eb := en_b V (t := t) ht V.2.2.2.1
  have ar := c_arrives c2 eb
  have start : f_X3_weighArrival lam σ (iI t) (iI (10 - (q : Int))) = if enZ sh (vq sh t (sh 0)) = 0 then f_X3_weighArrival_p35 lam τ (iI (10 - (q : Int))) 1 else f_X3_weighArrival_p35 lam τ (iI (10 - (q : Int))) 0 := by
    unfold f_X3_weighArrival
    rw [show (-1 : Int32) = iI (-1) by decide, show (0 : Int32) = iI 0 by decide, q_shipCell R rfl (by omega) (by omega), obs]
    dsimp only
    rw [Int.toNat_zero, c1, obs, ar, obs]
    by_cases p : enZ sh (vq sh t (sh 0)) = 0
    · rw [if_pos p, decide_eq_true p]; exact if_neg (show ¬ bI true = iI 0 by decide)
    · rw [if_neg p, decide_eq_false p]; exact if_pos (show bI false = iI 0 by decide)
  rw [start]
  by_cases p : enZ sh (vq sh t (sh 0)) = 0
  · rw [if_pos p, if_pos p, if_pos p]
    have aw := c_awaited (CF_rc c2 R) V (sh 77).toNat 0 FU (by omega) (by rw [FU_val]; omega)
    obtain ⟨lam', w1, w2, w3⟩ := c_weigh (σ := τ) (N := pcF M 8) (q := q) (g := shF q 10) (by omega) hq sb (pcF M 8) 0 FU (vp_updL (vp_updL lam 0 1) 1 1) (by omega) (by rw [FU_val]; omega) (by rw [updL_n (by decide), updL_e, Nat.pow_zero]; decide) (by rw [updL_e, Nat.pow_zero]; decide)
    refine ⟨lam', τ, ?_, c2, w2, w3⟩
    unfold f_X3_weighArrival_p35 f_X3_marksAwaited f_X3_sharedWithCases
    rw [obs, obs, updL_n (show (0 : Nat) ≠ 1 by decide), updL_e, if_neg (show ¬ lg_cmp 1 0 = 0 by decide), show fx F_X3_marksAwaited_h4 z_X3_marksAwaited_h4 FU τ 0 0 = some (iI (awN sh (sh 77).toNat), τ) from aw, obs]
    dsimp only
    rw [← hM, j_bitCount, obs, pb.1]
    dsimp only
    rw [show (10 : Int32) - iI (10 - (q : Int)) = iI q by rw [show (10 : Int32) = iI 10 by decide, iI_sub, show (10 : Int) - (10 - (q : Int)) = (q : Int) by omega], obs, show fx F_X3_sharedWithCases_h3 z_X3_sharedWithCases_h3 FU τ (iI q) 10 = some (iI (shF q 10), τ) from c_shared hq 10 FU (by omega) (by rw [FU_val]; omega), obs]
    exact w1
  · rw [if_neg p, if_neg p, if_neg p]
    refine ⟨vp_updL (vp_updL lam 0 0) 1 1, τ, ?_, c2, ?_, ?_⟩
    · unfold f_X3_weighArrival_p35
      rw [obs, obs, updL_n (show (0 : Nat) ≠ 1 by decide), updL_e, if_pos (by decide)]
    · rw [updL_n (by decide), updL_e]; decide
    · rw [updL_e]; decide
theorem p_out : P_out Inv := by
  intro lam σ a1 a2 a3 h
  obtain ⟨t, rfl, t1, t2⟩ := iI_ex a1
  obtain ⟨p, rfl, p1, p2⟩ := iI_ex a2
  obtain ⟨y, rfl, y1, y2⟩ := iI_ex a3
  have J10 : (10 : Int32) = iI 10 := by decide
  have J1 : (1 : Int32) = iI 1 := by decide
  rcases iv_sheet h with u | ⟨sh, V, R, M⟩
  · exact ⟨(-1000002, lam, σ), (-1000002, σ), gdo0 (told_u u), gdo0 (sheet_u u), rfl, h⟩
  by_cases a : 0 ≤ t ∧ t ≤ 99
  case neg => exact ⟨(-1000001, lam, σ), (-1000001, σ), (gdo1 (told_t V R)).trans (gdo0 (start0_f t1 t2 a)), (gdo1 (sheet_t M)).trans (gdo0 (start_f t1 t2 a)), rfl, h⟩
  by_cases b : 0 ≤ p ∧ p ≤ 10
  case neg => exact ⟨(-1000001, lam, σ), (-1000001, σ), (gdo1 (told_t V R)).trans ((gdo1 (start0_t a)).trans (gdo0 (by rw [J0, J10]; exact within_f (by omega) p1 p2 b))), (gdo1 (sheet_t M)).trans ((gdo1 (start_t a)).trans (gdo0 (by rw [L0, L10]; exact in_f (by omega) p1 p2 b))), rfl, h⟩
  by_cases c : 0 ≤ y ∧ y ≤ 1
  case neg => exact ⟨(-1000001, lam, σ), (-1000001, σ), (gdo1 (told_t V R)).trans ((gdo1 (start0_t a)).trans ((gdo1 (by rw [J0, J10]; exact within_t (by omega) b)).trans (gdo0 (by rw [J0, J1]; exact within_f (by omega) y1 y2 c)))), (gdo1 (sheet_t M)).trans ((gdo1 (start_t a)).trans ((gdo1 (by rw [L0, L10]; exact in_t (by omega) b)).trans (gdo0 (by rw [L0, L1]; exact in_f (by omega) y1 y2 c)))), rfl, h⟩
  have h6 := V.1
  obtain ⟨q, hq⟩ : ∃ q : Nat, p = 10 - (q : Int) := ⟨(10 - p).toNat, by omega⟩
  subst hq
  obtain ⟨N, hN⟩ : ∃ N, N = awN sh (sh 77).toNat := ⟨_, rfl⟩
  have hN2 : N < 256 := by rw [hN]; exact aw_b V _ (by omega)
  have pb := (bc_tab ⟨N, hN2⟩)
  simp only at pb
  have g1 : ∀ (k : Int32 × St → Option (Int64 × Lm × St)), k (iI 1, σ) = k (iI 1, σ) := fun _ => rfl
  have cg : ∀ {x : Option (Int64 × Lm × St)}, (Option.bind (f_X3_marksAwaited σ) fun q33 => Option.bind (f_J6_bitCount_0f7a4 q33.2 (q33.1)) fun q35 => if q35.1 ≤ 6 then (Option.bind (f_X3_weighArrival lam q35.2 (iI t) (iI (10 - (q : Int)))) fun q38 => if iI y = 0 then some (q38.1 0, q38.1, q38.2) else some (q38.1 1, q38.1, q38.2)) else some ((-1000003), lam, q35.2)) = x → f_X10_out lam σ (iI t) (iI (10 - (q : Int))) (iI y) = x := by
    intro x hx
    refine (gdo1 (told_t V R)).trans ((gdo1 (start0_t a)).trans ((gdo1 (by rw [J0, J10]; exact within_t (by omega) b)).trans ((gdo1 (by rw [J0, J1]; exact within_t (by omega) c)).trans hx)))
  have mg : ∀ (τ : St), MR τ sh → f_X11_out τ (iI t) (iI (10 - (q : Int))) (iI y) = fx F_X11_out_h56 z_X11_out_h56 FU τ (iI t) (iI (10 - (q : Int))) (iI y) (iI N) 1 0 := by
    intro τ Mτ
    refine (gdo1 (sheet_t Mτ)).trans ((gdo1 (start_t a)).trans ((gdo1 (by rw [L0, L10]; exact in_t (by omega) b)).trans ((gdo1 (by rw [L0, L1]; exact in_t (by omega) c)).trans ?_)))
    have gb := m_goneBy Mτ V (sh 77).toNat 0 FU (by omega) (by rw [FU_val]; omega)
    unfold f_X11_goneBy
    dsimp only
    rw [show fx F_X11_goneBy_h4 z_X11_goneBy_h4 FU τ 0 0 = some (iI (awN sh (sh 77).toNat), τ) from gb, obs, ← hN]
  have aw := c_awaited R V (sh 77).toNat 0 FU (by omega) (by rw [FU_val]; omega)
  have cb : ∀ {x : Option (Int64 × Lm × St)}, (if iI (pcF N 8 : Int) ≤ 6 then (Option.bind (f_X3_weighArrival lam σ (iI t) (iI (10 - (q : Int)))) fun q38 => if iI y = 0 then some (q38.1 0, q38.1, q38.2) else some (q38.1 1, q38.1, q38.2)) else some ((-1000003), lam, σ)) = x → f_X10_out lam σ (iI t) (iI (10 - (q : Int))) (iI y) = x := by
    intro x hx
    apply cg
    unfold f_X3_marksAwaited
    rw [show fx F_X3_marksAwaited_h4 z_X3_marksAwaited_h4 FU σ 0 0 = some (iI (awN sh (sh 77).toNat), σ) from aw, obs, ← hN]
    dsimp only
    rw [j_bitCount, obs, pb.1]
    exact hx
  have i6 : (iI (pcF N 8 : Int) ≤ 6) ↔ pcF N 8 ≤ 6 := by
    rw [J6, iI_le (by omega) (by omega) (by omega) (by omega)]; omega
  by_cases k : pcF N 8 ≤ 6
  · obtain ⟨lam', τ, w1, w2, w3, w4⟩ := c_weighA V R hN (q := q) (by omega) a lam
    obtain ⟨τ', d1, d2⟩ := m_outL V hN (q := q) (by omega) a (CF_inv w2 h) (CF_mr w2 M) (iI y) 8 0 FU (by omega) (by rw [FU_val]; omega)
    rw [if_pos k] at d1
    rw [if_pos (i6.mpr k), w1, obs] at cb
    dsimp only at cb
    rw [w3, w4] at cb
    by_cases z : iI y = 0
    · rw [if_pos z] at d1 cb
      exact ⟨_, _, cb rfl, (mg τ (CF_mr w2 M)).trans d1, rfl, d2⟩
    · rw [if_neg z] at d1 cb
      exact ⟨_, _, cb rfl, (mg τ (CF_mr w2 M)).trans d1, rfl, d2⟩
  · obtain ⟨τ', d1, d2⟩ := m_outL V hN (q := q) (by omega) a h M (iI y) 8 0 FU (by omega) (by rw [FU_val]; omega)
    rw [if_neg k] at d1
    rw [if_neg (fun h => k (i6.mp h))] at cb
    exact ⟨_, _, cb rfl, (mg σ M).trans d1, rfl, d2⟩
end OW
