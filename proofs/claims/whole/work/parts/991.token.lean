section TK
variable {σ π τ ρ ρ1 : St} {sh : Nat → Int} {n : Nat} {b : Nat → Int}
/-! The tape, read token by token. -/
def bb (n : Nat) (b : Nat → Int) (j : Nat) : Int := if j < n then b j else -1
def isF (z : Int) : Bool := decide (48 ≤ z ∧ z ≤ 57)
def isL (z : Int) : Bool := decide ((97 ≤ z ∧ z ≤ 122) ∨ z = 44 ∨ z = 59)
def tk (n : Nat) (b : Nat → Int) (p : Nat) : Int :=
  if n ≤ p then -1000000 else if isF (bb n b p) = true then (if isF (bb n b (p + 1)) = false then 1000 + (b p - 48) else if isF (bb n b (p + 2)) = false then 1000 + (10 * (b p - 48) + (b (p + 1) - 48)) else 0) else if isL (b p) = true then b p else 0
def tl (n : Nat) (b : Nat → Int) (p : Nat) : Nat := if n ≤ p then 0 else if isF (bb n b p) = true then (if isF (bb n b (p + 1)) = false then 1 else 2) else 1
theorem isF_t {z : Int} (h : isF z = true) : 48 ≤ z ∧ z ≤ 57 := of_decide_eq_true h
theorem isF_f {z : Int} (h : isF z = false) : ¬ (48 ≤ z ∧ z ≤ 57) := of_decide_eq_false h
theorem bb_lt {j : Nat} (h : j < n) : bb n b j = b j := if_pos h
theorem bb_ge {j : Nat} (h : ¬ j < n) : bb n b j = -1 := if_neg h
theorem isF_lt {j : Nat} (h : isF (bb n b j) = true) : j < n := by
  have f := isF_t h
  by_cases p : j < n
  · exact p
  · rw [bb_ge p] at f; omega
theorem tl_le {p : Nat} (hp : p ≤ n) : p + tl n b p ≤ n := by
  unfold tl
  by_cases h : n ≤ p
  · rw [if_pos h]; omega
  · rw [if_neg h]
    cases h1 : isF (bb n b p)
    · rw [if_neg (by decide)]; omega
    · rw [if_pos rfl]
      cases h2 : isF (bb n b (p + 1))
      · rw [if_pos rfl]; omega
      · have := isF_lt h2
        rw [if_neg (by decide)]; omega
theorem tk_b (hb : ∀ j, j < n → 0 ≤ b j ∧ b j ≤ 255) (p : Nat) : -1000000 ≤ tk n b p ∧ tk n b p ≤ 1100 := by
  unfold tk
  by_cases h : n ≤ p
  · rw [if_pos h]; omega
  · rw [if_neg h]
    have hp := hb p (by omega)
    cases h1 : isF (bb n b p)
    · rw [if_neg (by decide)]; split <;> omega
    · have f1 := isF_t h1
      rw [bb_lt (by omega)] at f1
      rw [if_pos rfl]
      cases h2 : isF (bb n b (p + 1))
      · rw [if_pos rfl]; omega
      · have f2 := isF_t h2
        rw [bb_lt (isF_lt h2)] at f2
        rw [if_neg (by decide)]
        split <;> omega
/-- a letter or a sign: its byte is its token -/
theorem tk_bb (hb : ∀ j, j < n → 0 ≤ b j ∧ b j ≤ 255) {c : Int} (hc : isL c = true) (p : Nat) : (bb n b p = c ↔ tk n b p = c) ∧ (tk n b p = c → tl n b p = 1) := by
  have hc' : (97 ≤ c ∧ c ≤ 122) ∨ c = 44 ∨ c = 59 := of_decide_eq_true hc
  unfold tk tl
  by_cases h : n ≤ p
  · rw [if_pos h, if_pos h, bb_ge (by omega)]
    exact ⟨⟨fun h => by omega, fun h => by omega⟩, fun h => by omega⟩
  · rw [if_neg h, if_neg h]
    have e := bb_lt (n := n) (b := b) (j := p) (by omega)
    have hp := hb p (by omega)
    cases h1 : isF (bb n b p)
    · rw [if_neg (show ¬ false = true by decide), if_neg (show ¬ false = true by decide), e]
      refine ⟨?_, fun _ => rfl⟩
      by_cases q : isL (b p) = true
      · rw [if_pos q]
      · rw [if_neg q]
        constructor
        · intro h; rw [h] at q; exact absurd hc q
        · intro h; omega
    · have f1 := isF_t h1
      rw [if_pos rfl, if_pos rfl]
      have nc : bb n b p ≠ c := by omega
      have bp : 48 ≤ b p := by omega
      have g : ∀ z : Int, (z = 0 ∨ 1000 ≤ z) → z ≠ c := fun z hz => by omega
      cases h2 : isF (bb n b (p + 1))
      · rw [if_pos rfl]
        exact ⟨⟨fun h => absurd h nc, fun h => absurd h (g _ (by omega))⟩, fun h => absurd h (g _ (by omega))⟩
      · have f2 := isF_t h2
        rw [bb_lt (isF_lt h2)] at f2
        rw [if_neg (by decide)]
        have k : (if isF (bb n b (p + 2)) = false then 1000 + (10 * (b p - 48) + (b (p + 1) - 48)) else 0) ≠ c := g _ (by split <;> omega)
        exact ⟨⟨fun h => absurd h nc, fun h => absurd h k⟩, fun h => absurd h k⟩
theorem Tp.bytes (T : Tp σ n b) : ∀ j, j < n → 0 ≤ b j ∧ b j ≤ 255 := fun j hj => (T.2.2 j hj).1
theorem e_bb (T : Tp σ n b) {j : Nat} (hj : j < 1000) : f_X7_byteAt σ (iI j) = some (iI (bb n b j), σ) := by
  by_cases h : j < n
  · rw [bb_lt h]; exact e_byteAt T h
  · obtain ⟨t1, t2, t3⟩ := T
    rw [bb_ge h]
    unfold f_X7_byteAt
    rw [t2, J0, if_neg (fun h => absurd ((iI_lt (by omega) (by omega) (by omega) (by omega)).mp h) (by omega)), if_pos ((iI_le (by omega) (by omega) (by omega) (by omega)).mpr (by omega))]
    rfl
theorem c_isFig {z : Int} (h1 : -2147483648 ≤ z) (h2 : z < 2147483648) : f_X5_isFigure τ (iI z) = some (bI (isF z), τ) := by
  unfold f_X5_isFigure isF
  rw [show (48 : Int32) = iI 48 by decide, show (57 : Int32) = iI 57 by decide]
  by_cases p : z < 48
  · rw [if_pos ((iI_lt (by omega) (by omega) (by omega) (by omega)).mpr p), decide_eq_false (by omega)]; rfl
  · rw [if_neg (fun h => p ((iI_lt (by omega) (by omega) (by omega) (by omega)).mp h))]
    by_cases q : 57 < z
    · rw [if_pos ((iI_lt (by omega) (by omega) (by omega) (by omega)).mpr q), decide_eq_false (by omega)]; rfl
    · rw [if_neg (fun h => q ((iI_lt (by omega) (by omega) (by omega) (by omega)).mp h)), decide_eq_true (by omega)]; rfl
theorem m_isFig {z : Int} (h1 : -2147483648 ≤ z) (h2 : z < 2147483648) : f_X11_isFigure ρ (iI z) = some (bI (isF z), ρ) := by
  unfold f_X11_isFigure isF
  rw [L48, L57, e_in h1 h2 (by omega) (by omega) (by omega) (by omega), obs]
  exact if_pos (bI_01 _)
/-- the reference's frame of a token -/
def Fq (ρ' ρ : St) : Prop := (∀ k, k ≠ 26 → ρ' k = ρ k) ∧ (∀ j, (j < 9 ∨ 11 < j) → ρ' 26 j = ρ 26 j)
theorem Fq_r (ρ : St) : Fq ρ ρ := ⟨fun _ _ => rfl, fun _ _ => rfl⟩
theorem Fq_u (h : Fq ρ1 ρ) {j : Nat} (hj : 9 ≤ j ∧ j ≤ 11) (v : Int32) : Fq (g_u2 ρ1 26 j v) ρ := ⟨fun k hk => by rw [g_u2_n1 hk]; exact h.1 k hk, fun i hi => by rw [g_u2_n2 (by omega)]; exact h.2 i hi⟩
theorem Fq_t {ρ2 : St} (h1 : Fq ρ1 ρ) (h2 : Fq ρ2 ρ1) : Fq ρ2 ρ := ⟨fun k hk => by rw [h2.1 k hk]; exact h1.1 k hk, fun i hi => by rw [h2.2 i hi]; exact h1.2 i hi⟩
theorem tk_step (T : Tr ρ n b) (h4 : ρ 26 4 = iI n) {j p : Nat} (hj : j ≤ n) (h9 : ρ 26 9 = iI j) (h10 : ρ 26 10 = iI p) (hp : p ≤ n) (K : St → Int32 → Option St) (x : Int32) : F_X11_take_h93 K ρ x = if isF (bb n b j) = false then f_X11_take_p169 ρ x else K (g_u2 ρ 26 9 (iI ((j + 1 : Nat) : Int))) (if j = p + 1 then 10 * x + iI (b j) - 48 else 1000) := by
  have t1 := T.1
  unfold F_X11_take_h93 f_X11_take_p155
  rw [h4, h9]
  by_cases h : j < n
  · have bj := T.2 j h
    rw [if_neg (fun h => absurd ((iI_le (by omega) (by omega) (by omega) (by omega)).mp h) (by omega)), iI_toInt (by omega) (by omega), if_pos (by omega), iI_clamp (by omega) (by omega), Int.toNat_natCast, bj.2, m_isFig (by omega) (by omega), obs, bb_lt h]
    cases hf : isF (b j)
    · exact (if_pos (show bI false = 0 by decide)).trans (if_pos rfl).symm
    · refine (if_neg (show ¬ bI true = 0 by decide)).trans ?_
      rw [if_neg (show ¬ true = false by decide)]
      dsimp only
      simp only [h9, h10, obs]
      rw [show iI (p : Int) + 1 = iI ((p + 1 : Nat) : Int) by rw [show (1 : Int32) = iI 1 by decide, iI_add]; rfl, show iI (j : Int) + 1 = iI ((j + 1 : Nat) : Int) by rw [show (1 : Int32) = iI 1 by decide, iI_add]; rfl, iI_toInt (by omega) (by omega), iI_clamp (by omega) (by omega), Int.toNat_natCast, bj.2]
      by_cases e : j = p + 1
      · rw [if_pos e, if_pos (show iI (j : Int) = iI ((p + 1 : Nat) : Int) by rw [e]), if_pos (show 0 ≤ (j : Int) ∧ (j : Int) < 160 by omega)]
      · rw [if_neg e, if_neg (show ¬ iI (j : Int) = iI ((p + 1 : Nat) : Int) from fun h => e (by have := (iI_eq (by omega) (by omega) (by omega) (by omega)).mp h; omega))]
  · rw [bb_ge h, if_pos ((iI_le (by omega) (by omega) (by omega) (by omega)).mpr (by omega))]
    exact (if_pos (by decide)).symm
theorem tk_1000 {p : Nat} (hp : p ≤ n) : ∀ (d j f : Nat) (ρ : St), Tr ρ n b → ρ 26 4 = iI n → j + d = n → d < f → p + 2 ≤ j → ρ 26 9 = iI j → ρ 26 10 = iI p → ∃ ρ', fx F_X11_take_h93 z_X11_take_h93 f ρ 1000 = some ρ' ∧ Fq ρ' ρ ∧ ρ' 26 10 = iI p ∧ ρ' 26 11 = iI 0 := by
  intro d
  have last : ∀ ρ : St, ρ 26 10 = iI p → ∃ ρ', f_X11_take_p169 ρ 1000 = some ρ' ∧ Fq ρ' ρ ∧ ρ' 26 10 = iI p ∧ ρ' 26 11 = iI 0 := by
    intro ρ h10
    refine ⟨g_u2 ρ 26 11 0, ?_, Fq_u (Fq_r ρ) (by omega) _, ?_, ?_⟩
    · unfold f_X11_take_p169 f_X11_take_p186
      rw [if_pos (by decide), obs]
    · rw [g_u2_n2 (by decide)]; exact h10
    · rw [g_u2_e]; rfl
  induction d with
  | zero =>
    intro j f ρ T h4 h1 h2 h3 h9 h10
    obtain ⟨f, rfl⟩ : ∃ j, f = j + 1 := ⟨f - 1, by omega⟩
    rw [fx_s, tk_step T h4 (by omega) h9 h10 hp, bb_ge (by omega), if_pos (by decide)]
    exact last ρ h10
  | succ d ih =>
    intro j f ρ T h4 h1 h2 h3 h9 h10
    obtain ⟨f, rfl⟩ : ∃ j, f = j + 1 := ⟨f - 1, by omega⟩
    rw [fx_s, tk_step T h4 (by omega) h9 h10 hp]
    cases hf : isF (bb n b j)
    · rw [if_pos rfl]; exact last ρ h10
    · rw [if_neg (by decide), if_neg (by omega)]
      obtain ⟨ρ', i1, i2, i3⟩ := ih (j + 1) f (g_u2 ρ 26 9 (iI ((j + 1 : Nat) : Int))) ⟨T.1, fun i hi => by rw [g_u2_n1 (by decide)]; exact T.2 i hi⟩ (by rw [g_u2_n2 (by decide)]; exact h4) (by omega) (by omega) (by omega) (g_u2_e _ _ _ _) (by rw [g_u2_n2 (by decide)]; exact h10)
      exact ⟨ρ', i1, Fq_t (Fq_u (Fq_r ρ) (by omega) _) i2, i3⟩
theorem m_take (T : Tr ρ n b) (h4 : ρ 26 4 = iI n) {p : Nat} (hp : p ≤ n) (h9 : ρ 26 9 = iI p) : ∃ ρ', f_X11_take ρ = some ρ' ∧ Fq ρ' ρ ∧ ρ' 26 10 = iI p ∧ ρ' 26 11 = iI (tk n b p) ∧ (tk n b p ≠ 0 → ρ' 26 9 = iI ((p + tl n b p : Nat) : Int)) := by
  have t1 := T.1
  obtain ⟨A, hA⟩ : ∃ A, A = g_u2 ρ 26 10 (iI p) := ⟨_, rfl⟩
  have A9 : A 26 9 = iI p := by rw [hA, g_u2_n2 (by decide)]; exact h9
  have A4 : A 26 4 = iI n := by rw [hA, g_u2_n2 (by decide)]; exact h4
  have A10 : A 26 10 = iI p := by rw [hA, g_u2_e]
  have FA : Fq A ρ := by rw [hA]; exact Fq_u (Fq_r ρ) (by omega) _
  unfold f_X11_take
  rw [h9, obs, ← hA, A9, A4]
  by_cases h : n ≤ p
  · have e : p = n := by omega
    rw [if_pos (by rw [e]), obs]
    refine ⟨_, rfl, Fq_u FA (by omega) _, ?_, ?_, fun _ => ?_⟩
    · rw [g_u2_n2 (by decide)]; exact A10
    · rw [g_u2_e]; unfold tk; rw [if_pos h]; rfl
    · rw [g_u2_n2 (by decide), A9]; unfold tl; rw [if_pos h]; rfl
  · have bp := T.2 p (by omega)
    have Ab : A 29 p = iI (b p) := by rw [hA, g_u2_n1 (by decide)]; exact bp.2
    obtain ⟨B, hB⟩ : ∃ B, B = g_u2 A 26 9 (iI ((p + 1 : Nat) : Int)) := ⟨_, rfl⟩
    have FB : Fq B ρ := by rw [hB]; exact Fq_u FA (by omega) _
    have TB : Tr B n b := ⟨t1, fun j hj => by rw [FB.1 29 (by decide)]; exact T.2 j hj⟩
    have B9 : B 26 9 = iI ((p + 1 : Nat) : Int) := by rw [hB, g_u2_e]
    have B4 : B 26 4 = iI n := by rw [hB, g_u2_n2 (by decide)]; exact A4
    have B10 : B 26 10 = iI p := by rw [hB, g_u2_n2 (by decide)]; exact A10
    rw [if_neg (fun h => absurd ((iI_eq (by omega) (by omega) (by omega) (by omega)).mp h) (by omega)), iI_toInt (by omega) (by omega), if_pos (by omega), iI_clamp (by omega) (by omega), Int.toNat_natCast, Ab, obs, show iI (p : Int) + 1 = iI ((p + 1 : Nat) : Int) by rw [show (1 : Int32) = iI 1 by decide, iI_add]; rfl, ← hB, obs, L97, L122, e_in (by omega) (by omega) (by omega) (by omega) (by omega) (by omega), obs]
    obtain ⟨C, hC⟩ : ∃ C, C = g_u2 B 26 11 (iI (if isL (b p) = true then b p else 0)) := ⟨_, rfl⟩
    have FC : Fq C ρ := by rw [hC]; exact Fq_u FB (by omega) _
    have TC : Tr C n b := ⟨t1, fun j hj => by rw [FC.1 29 (by decide)]; exact T.2 j hj⟩
    have C9 : C 26 9 = iI ((p + 1 : Nat) : Int) := by rw [hC, g_u2_n2 (by decide)]; exact B9
    have C4 : C 26 4 = iI n := by rw [hC, g_u2_n2 (by decide)]; exact B4
    have C10 : C 26 10 = iI p := by rw [hC, g_u2_n2 (by decide)]; exact B10
    have p78 : (if (bI (decide (97 ≤ b p ∧ b p ≤ 122)), B).1 = 0 then (if iI (b p) = 44 then f_X11_take_p73 (bI (decide (97 ≤ b p ∧ b p ≤ 122)), B).2 (iI (b p)) else (if iI (b p) = 59 then f_X11_take_p73 (bI (decide (97 ≤ b p ∧ b p ≤ 122)), B).2 (iI (b p)) else f_X11_take_p78 (bI (decide (97 ≤ b p ∧ b p ≤ 122)), B).2 (iI (b p)) 0)) else f_X11_take_p73 (bI (decide (97 ≤ b p ∧ b p ≤ 122)), B).2 (iI (b p))) = if isF (b p) = false then some C else fx F_X11_take_h93 z_X11_take_h93 FU C (iI (b p - 48)) := by
      have z : f_X11_take_p78 B (iI (b p)) (iI (if isL (b p) = true then b p else 0)) = if isF (b p) = false then some C else fx F_X11_take_h93 z_X11_take_h93 FU C (iI (b p - 48)) := by
        unfold f_X11_take_p78
        rw [obs, ← hC, m_isFig (by omega) (by omega), obs]
        cases isF (b p)
        · exact (if_pos (show bI false = 0 by decide)).trans (if_pos rfl).symm
        · refine (if_neg (show ¬ bI true = 0 by decide)).trans ?_
          rw [if_neg (show ¬ true = false by decide), obs, show (48 : Int32) = iI 48 by decide, iI_sub]
      rw [← z]
      unfold f_X11_take_p73
      have e44 : iI (b p) = 44 ↔ b p = 44 := by rw [show (44 : Int32) = iI 44 by decide, iI_eq (by omega) (by omega) (by omega) (by omega)]
      have e59 : iI (b p) = 59 ↔ b p = 59 := by rw [show (59 : Int32) = iI 59 by decide, iI_eq (by omega) (by omega) (by omega) (by omega)]
      by_cases q1 : 97 ≤ b p ∧ b p ≤ 122
      · rw [decide_eq_true q1, show isL (b p) = true from decide_eq_true (by omega), if_pos rfl]
        exact if_neg (show ¬ bI true = 0 by decide)
      · rw [decide_eq_false q1]
        refine (if_pos (show bI false = 0 by decide)).trans ?_
        by_cases q2 : b p = 44
        · rw [if_pos (e44.mpr q2), show isL (b p) = true from decide_eq_true (by omega), if_pos rfl]
        · rw [if_neg (fun h => q2 (e44.mp h))]
          by_cases q3 : b p = 59
          · rw [if_pos (e59.mpr q3), show isL (b p) = true from decide_eq_true (by omega), if_pos rfl]
          · rw [if_neg (fun h => q3 (e59.mp h)), show isL (b p) = false from decide_eq_false (by omega), if_neg (by decide)]; rfl
    rw [p78]
    unfold tk tl
    rw [if_neg h, if_neg h, bb_lt (n := n) (b := b) (j := p) (by omega)]
    cases f1 : isF (b p)
    · rw [if_pos rfl, if_neg (show ¬ false = true by decide), if_neg (show ¬ false = true by decide)]
      exact ⟨C, rfl, FC, C10, by rw [hC, g_u2_e], fun _ => C9⟩
    · have v1 := isF_t f1
      rw [if_neg (show ¬ true = false by decide), if_pos (show true = true from rfl), if_pos (show true = true from rfl)]
      obtain ⟨f, hf⟩ : ∃ f, FU = f + 2 := ⟨FU - 2, by rw [FU_val]⟩
      have fv : f = 1998 := by have := FU_val; omega
      rw [hf, fx_s, tk_step TC C4 (j := p + 1) (by omega) C9 C10 (by omega)]
      -- the end of a number
      have fin : ∀ (X : St) (v : Int) (q : Nat), Fq X ρ → X 26 10 = iI p → X 26 9 = iI q → 0 ≤ v ∧ v < 100 → ∃ ρ', f_X11_take_p169 X (iI v) = some ρ' ∧ Fq ρ' ρ ∧ ρ' 26 10 = iI p ∧ ρ' 26 11 = iI (1000 + v) ∧ ρ' 26 9 = iI q := by
        intro X v q g1 g2 g3 g4
        refine ⟨g_u2 X 26 11 (iI (1000 + v)), ?_, Fq_u g1 (by omega) _, ?_, g_u2_e _ _ _ _, ?_⟩
        · unfold f_X11_take_p169 f_X11_take_p186
          rw [show (1000 : Int32) = iI 1000 by decide, if_neg (fun h => absurd ((iI_le (by omega) (by omega) (by omega) (by omega)).mp h) (by omega)), obs, iI_add]
        · rw [g_u2_n2 (by decide)]; exact g2
        · rw [g_u2_n2 (by decide)]; exact g3
      cases f2 : isF (bb n b (p + 1))
      · rw [if_pos (show false = false from rfl), if_pos (show false = false from rfl), if_pos (show false = false from rfl)]
        obtain ⟨ρ', r1, r2, r3, r4, r5⟩ := fin C (b p - 48) (p + 1) FC C10 C9 (by omega)
        exact ⟨ρ', r1, r2, r3, r4, fun _ => r5⟩
      · have v2 := isF_t f2
        have l2 := isF_lt f2
        rw [bb_lt l2] at v2
        rw [if_neg (show ¬ true = false by decide), if_pos (show p + 1 = p + 1 from rfl), if_neg (show ¬ true = false by decide), if_neg (show ¬ true = false by decide)]
        obtain ⟨E, hE⟩ : ∃ E, E = g_u2 C 26 9 (iI ((p + 2 : Nat) : Int)) := ⟨_, rfl⟩
        have FE : Fq E ρ := by rw [hE]; exact Fq_u FC (by omega) _
        have TE : Tr E n b := ⟨t1, fun j hj => by rw [FE.1 29 (by decide)]; exact T.2 j hj⟩
        have E9 : E 26 9 = iI ((p + 2 : Nat) : Int) := by rw [hE, g_u2_e]
        have E4 : E 26 4 = iI n := by rw [hE, g_u2_n2 (by decide)]; exact C4
        have E10 : E 26 10 = iI p := by rw [hE, g_u2_n2 (by decide)]; exact C10
        rw [← hE, fx_s, tk_step TE E4 (j := p + 2) (by omega) E9 E10 (by omega)]
        have xe : (10 : Int32) * iI (b p - 48) + iI (b (p + 1)) - 48 = iI (10 * (b p - 48) + (b (p + 1) - 48)) := by
          rw [show (10 : Int32) = iI 10 by decide, show (48 : Int32) = iI 48 by decide, iI_mul, iI_add, iI_sub]
          congr 1
          omega
        rw [xe]
        cases f3 : isF (bb n b (p + 2))
        · rw [if_pos (show false = false from rfl), if_pos (show false = false from rfl)]
          obtain ⟨ρ', r1, r2, r3, r4, r5⟩ := fin E (10 * (b p - 48) + (b (p + 1) - 48)) (p + 2) FE E10 E9 (by omega)
          exact ⟨ρ', r1, r2, r3, r4, fun _ => r5⟩
        · have l3 := isF_lt f3
          rw [if_neg (show ¬ true = false by decide), if_neg (show ¬ p + 2 = p + 1 by omega), if_neg (show ¬ true = false by decide)]
          obtain ⟨ρ', i1, i2, i3, i4⟩ := tk_1000 (n := n) (b := b) (p := p) (by omega) (n - (p + 3)) (p + 3) f (g_u2 E 26 9 (iI ((p + 3 : Nat) : Int))) ⟨t1, fun i hi => by rw [g_u2_n1 (by decide)]; exact TE.2 i hi⟩ (by rw [g_u2_n2 (by decide)]; exact E4) (by omega) (by omega) (by omega) (g_u2_e _ _ _ _) (by rw [g_u2_n2 (by decide)]; exact E10)
          exact ⟨ρ', i1, Fq_t (Fq_u FE (by omega) _) i2, i3, i4, fun h => absurd rfl h⟩
end TK
