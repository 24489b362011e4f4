section OV
variable {σ τ : St} {sh : Nat → Int} {lam : Lm}
theorem gdo1 {β : Type} {x : Option (Int32 × St)} {A k : Int32 × St → Option β} (h : x = some (iI 1, σ)) : (Option.bind x fun q => if q.1 = 0 then A q else k q) = k (iI 1, σ) := by
  rw [h, obs]
  exact if_neg (show ¬ iI 1 = 0 by decide)
theorem gdo0 {β : Type} {x : Option (Int32 × St)} {A k : Int32 × St → Option β} (h : x = some (iI 0, σ)) : (Option.bind x fun q => if q.1 = 0 then A q else k q) = A (iI 0, σ) := by
  rw [h, obs]
  exact if_pos (show iI 0 = 0 by decide)
theorem updL_e (i : Nat) (v : Int64) : vp_updL lam i v i = v := if_pos rfl
theorem updL_n {i j : Nat} {v : Int64} (h : j ≠ i) : vp_updL lam i v j = lam j := if_neg h
/-- what two small numbers share -/
def shF (q : Nat) : Nat → Nat
  | 0 => 1
  | k + 1 => if k = 0 then 1 else if 10 % (k + 1) = 0 ∧ q % (k + 1) = 0 then k + 1 else shF q k
theorem c_shared {q : Nat} (hq : q ≤ 10) : ∀ (k f : Nat), k ≤ 10 → k < f → fx F_X3_sharedWithCases_h3 z_X3_sharedWithCases_h3 f σ (iI q) (iI k) = some (iI (shF q k), σ) := by
  intro k
  induction k with
  | zero =>
    intro f _ h
    obtain ⟨f, rfl⟩ : ∃ j, f = j + 1 := ⟨f - 1, by omega⟩
    rw [fx_s]
    exact if_pos (by decide)
  | succ k ih =>
    intro f h0 h
    obtain ⟨f, rfl⟩ : ∃ j, f = j + 1 := ⟨f - 1, by omega⟩
    have i1 := ih f (by omega) (by omega)
    rw [fx_s]
    generalize fx F_X3_sharedWithCases_h3 z_X3_sharedWithCases_h3 f = K at *
    unfold F_X3_sharedWithCases_h3 f_X3_sharedWithCases_p23 shF
    rw [show (1 : Int32) = iI 1 by decide, J0, show (10 : Int32) = iI 10 by decide]
    by_cases p : k = 0
    · subst p
      rw [if_pos (show (0 : Nat) = 0 from rfl)]
      exact if_pos (by decide)
    · rw [if_neg p, if_neg (fun h => absurd ((iI_le (by omega) (by omega) (by omega) (by omega)).mp h) (by omega)), if_neg (show ¬ iI ((k + 1 : Nat) : Int) = iI 0 by rw [iI_eq (by omega) (by omega) (by omega) (by omega)]; omega), iI_rem (by omega) (by omega) (by omega) (by omega), if_neg (show ¬ iI ((k + 1 : Nat) : Int) = iI 0 by rw [iI_eq (by omega) (by omega) (by omega) (by omega)]; omega), iI_rem (by omega) (by omega) (by omega) (by omega), show iI ((k + 1 : Nat) : Int) + -iI 1 = iI k by rw [iI_neg, iI_add]; congr 1; omega, obs, i1]
      have b1 : 0 ≤ 10 % ((k + 1 : Nat) : Int) ∧ 10 % ((k + 1 : Nat) : Int) < 11 := ⟨Int.emod_nonneg _ (by omega), by have := Int.emod_lt_of_pos 10 (b := ((k + 1 : Nat) : Int)) (by omega); omega⟩
      have b2 : 0 ≤ (q : Int) % ((k + 1 : Nat) : Int) ∧ (q : Int) % ((k + 1 : Nat) : Int) < 11 := ⟨Int.emod_nonneg _ (by omega), by have := Int.emod_lt_of_pos (q : Int) (b := ((k + 1 : Nat) : Int)) (by omega); omega⟩
      have e1 : (10 % ((k + 1 : Nat) : Int) = 0) ↔ 10 % (k + 1) = 0 := by
        rw [show (10 : Int) = ((10 : Nat) : Int) from rfl, ← Int.natCast_emod]; omega
      have e2 : ((q : Int) % ((k + 1 : Nat) : Int) = 0) ↔ q % (k + 1) = 0 := by
        rw [← Int.natCast_emod]; omega
      by_cases q1 : 10 % (k + 1) = 0
      · rw [if_pos (by rw [e1.mpr q1])]
        by_cases q2 : q % (k + 1) = 0
        · rw [if_pos (by rw [e2.mpr q2]), if_pos ⟨q1, q2⟩]
        · rw [if_neg (fun h => q2 (e2.mp ((iI_eq (by omega) (by omega) (by omega) (by omega)).mp h))), if_neg (fun h => q2 h.2)]
      · rw [if_neg (fun h => q1 (e1.mp ((iI_eq (by omega) (by omega) (by omega) (by omega)).mp h))), if_neg (fun h => q1 h.1)]
theorem sh_b : ∀ q : Fin 11, 1 ≤ shF q.val 10 ∧ shF q.val 10 ≤ 10 := by decide
/-- above and below -/
theorem c_weigh {N q g : Nat} (hN : N ≤ 8) (hq : q ≤ 10) (hg : 1 ≤ g ∧ g ≤ 10) : ∀ (d k f : Nat) (lam : Lm), k + d = N → d < f → lam 0 = jI ((q / g : Nat) ^ k : Nat) → lam 1 = jI ((10 / g : Nat) ^ k : Nat) → ∃ lam', fx F_X3_weighArrival_h77 z_X3_weighArrival_h77 f lam σ (iI N) (iI q) (iI g) (iI k) = some (lam', σ) ∧ lam' 0 = jI ((q / g : Nat) ^ N : Nat) ∧ lam' 1 = jI ((10 / g : Nat) ^ N : Nat) := by
  intro d
  induction d with
  | zero =>
    intro k f lam h1 h2 l0 l1
    obtain ⟨f, rfl⟩ : ∃ j, f = j + 1 := ⟨f - 1, by omega⟩
    obtain rfl : k = N := by omega
    refine ⟨lam, ?_, l0, l1⟩
    rw [fx_s]
    exact if_pos ((iI_le (by omega) (by omega) (by omega) (by omega)).mpr (by omega))
  | succ d ih =>
    intro k f lam h1 h2 l0 l1
    obtain ⟨f, rfl⟩ : ∃ j, f = j + 1 := ⟨f - 1, by omega⟩
    have q1 : (iI (q : Int) / iI (g : Int)).toInt64 = jI ((q / g : Nat) : Int) := by
      have : q / g ≤ q := Nat.div_le_self _ _
      rw [iI_divp (by omega) (by omega) (by omega) (by omega), ← Int.natCast_ediv]
      clear l0 l1 ih
      generalize q / g = r at *
      exact iI_64 (by omega) (by omega)
    have q2 : ((10 : Int32) / iI (g : Int)).toInt64 = jI ((10 / g : Nat) : Int) := by
      have : 10 / g ≤ 10 := Nat.div_le_self _ _
      rw [show (10 : Int32) = iI ((10 : Nat) : Int) by decide, iI_divp (by omega) (by omega) (by omega) (by omega), ← Int.natCast_ediv]
      clear l0 l1 ih q1
      generalize 10 / g = r at *
      exact iI_64 (by omega) (by omega)
    obtain ⟨lam', i1, i2⟩ := ih (k + 1) f (vp_updL (vp_updL lam 0 (lam 0 * (iI (q : Int) / iI (g : Int)).toInt64)) 1 (lam 1 * ((10 : Int32) / iI (g : Int)).toInt64)) (by omega) (by omega) (by rw [updL_n (by decide), updL_e, l0, q1, jI_mul, Nat.pow_succ, Int.natCast_mul]) (by rw [updL_e, l1, q2, jI_mul, Nat.pow_succ, Int.natCast_mul])
    refine ⟨lam', ?_, i2⟩
    rw [fx_s]
    generalize fx F_X3_weighArrival_h77 z_X3_weighArrival_h77 f = K at *
    unfold F_X3_weighArrival_h77
    refine (if_neg (fun h => absurd ((iI_le (by omega) (by omega) (by omega) (by omega)).mp h) (by omega))).trans ?_
    have g0 : ¬ iI (g : Int) = 0 := by rw [J0, iI_eq (by omega) (by omega) (by omega) (by omega)]; omega
    rw [if_neg g0, obs, if_neg g0, obs, obs, updL_n (by decide), show iI (k : Int) + 1 = iI ((k + 1 : Nat) : Int) by rw [show (1 : Int32) = iI 1 by decide, iI_add]; rfl]
    exact i1
/-- the reference's weights of one case -/
def wF (M S : Nat) (p a : Int) : Nat → Int
  | 0 => a
  | k + 1 => wF M S p a k * (if M.testBit k = true then (if S.testBit k = true then p else 10 - p) else 1)
theorem m_has {M : Nat} (h : M < 256) {k : Nat} (hk : k < 8) : f_X11_has σ (iI M) (iI k) = some (bI (M.testBit k), σ) := by
  unfold f_X11_has
  have e := bit_tab ⟨M, h⟩ ⟨k, hk⟩
  simp only at e
  rw [show (31 : Int32) = iI 31 by decide, show (1 : Int32) = iI 1 by decide, e, J0]
  exact bo (bI_1 _)
theorem m_wts {M S : Nat} (hM : M < 256) (hS : S < 256) {p : Int} (hp : 0 ≤ p ∧ p ≤ 10) (a : Int) (k9 : St → Int32 → Int32 → Int32 → Int64 → Int32 → Int32 → Option (Int64 × St)) (t x : Int32) (w : Int64) : ∀ (d k f : Nat), k + d = 8 → d < f → fx (F_X11_ways_h44 k9) z_X11_ways_h44 f σ t (iI p) (iI M) w (iI S) (jI (wF M S p a k)) (iI k) = (if (iI S - iI M) &&& iI M = 0 then k9 σ t (iI p) (iI M) (w + jI (wF M S p a 8)) ((iI S - iI M) &&& iI M) 0 else k9 σ t (iI p) (iI M) (w + jI (wF M S p a 8)) ((iI S - iI M) &&& iI M) 1) := by
  intro d
  induction d with
  | zero =>
    intro k f h1 h2
    obtain ⟨f, rfl⟩ : ∃ j, f = j + 1 := ⟨f - 1, by omega⟩
    obtain rfl : k = 8 := by omega
    rw [fx_s]
    unfold F_X11_ways_h44 f_X11_ways_p121
    refine (if_pos (by decide)).trans ?_
    rw [obs, obs]
  | succ d ih =>
    intro k f h1 h2
    obtain ⟨f, rfl⟩ : ∃ j, f = j + 1 := ⟨f - 1, by omega⟩
    have i1 := ih (k + 1) f (by omega) (by omega)
    rw [fx_s]
    generalize fx (F_X11_ways_h44 k9) z_X11_ways_h44 f = K at *
    unfold F_X11_ways_h44 f_X11_ways_p87
    rw [if_neg (show ¬ (8 : Int32) ≤ iI k by rw [show (8 : Int32) = iI 8 by decide, iI_le (by omega) (by omega) (by omega) (by omega)]; omega), m_has hM (by omega), obs]
    dsimp only
    rw [m_has hS (by omega), obs, obs, obs, obs, obs, obs, obs, show iI (k : Int) + 1 = iI ((k + 1 : Nat) : Int) by rw [show (1 : Int32) = iI 1 by decide, iI_add]; rfl, ← i1, iI_64 (by omega) (by omega), show (10 : Int64) = jI 10 by decide, show (1 : Int64) = jI 1 by decide, jI_sub, jI_mul, jI_mul, jI_mul]
    rw [show wF M S p a (k + 1) = wF M S p a k * (if M.testBit k = true then (if S.testBit k = true then p else 10 - p) else 1) from rfl]
    cases M.testBit k
    · refine (if_pos (show bI false = 0 by decide)).trans ?_
      rw [if_neg (show ¬ false = true by decide)]
    · refine (if_neg (show ¬ bI true = 0 by decide)).trans ?_
      rw [if_pos rfl]
      cases S.testBit k
      · refine (if_pos (show bI false = 0 by decide)).trans ?_
        rw [if_neg (show ¬ false = true by decide)]
      · refine (if_neg (show ¬ bI true = 0 by decide)).trans ?_
        rw [if_pos rfl]
theorem wF_0 (M S : Nat) (p : Int) : ∀ k, wF M S p 0 k = 0 := by
  intro k
  induction k with
  | zero => rfl
  | succ k ih => unfold wF; rw [ih, Int.zero_mul]
theorem wF_e (M : Nat) (p : Int) (a : Int) : ∀ k, wF M 0 p a k = a * (10 - p) ^ pcF M k := by
  intro k
  induction k with
  | zero => show a = a * (10 - p) ^ 0; rw [Int.pow_zero, Int.mul_one]
  | succ k ih =>
    unfold wF pcF
    rw [ih, Nat.zero_testBit]
    cases M.testBit k
    · rw [if_neg (by decide), if_neg (by decide), Int.mul_one, Nat.add_zero]
    · rw [if_pos rfl, if_pos rfl, if_neg (by decide), Int.pow_succ, Int.mul_assoc]
/-- the cases one behind the other come to an end -/
def chk (M : Nat) : Nat → Int32 → Bool
  | 0, _ => false
  | f + 1, s => if (s - iI M) &&& iI M = 0 then true else (decide ((s - iI M) &&& iI M = iI (((s - iI M) &&& iI M).toNatClampNeg : Nat)) && decide (((s - iI M) &&& iI M).toNatClampNeg < 256) && (List.range 8).any (fun k => ((s - iI M) &&& iI M).toNatClampNeg.testBit k && M.testBit k) && chk M f ((s - iI M) &&& iI M))
theorem chk_tab : ∀ M : Fin 256, chk M.val 257 (iI 0) = true := by decide +kernel
end OV
