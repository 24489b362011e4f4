section DQ
variable {σ τ : St} {sh : Nat → Int}
theorem st_n {t d : Int} {o : Nat → Bool} {g : Nat} {c : Int} {f : Nat} {was : Bool} {l0 : Int} {s : VS} (h : ND s) (he : (vstep sh t d o g c f was l0 s).2 = 0 ∨ (vstep sh t d o g c f was l0 s).2 = 1) : ND (vstep sh t d o g c f was l0 s).1 ∧ (vstep sh t d o g c f was l0 s).1.2.2.2.2.2 ≠ -1000000 := by
  have kk := kl_k (wtZ sh t c s - d) (goS g c s)
  have b : ¬ wtZ sh t c s < d → ND (klS (wtZ sh t c s - d) (goS g c s)) := by
    intro hw _
    unfold klS
    by_cases p : (goS g c s).2.2.2.2.2 = -1000000 ∨ wtZ sh t c s - d < (goS g c s).2.2.2.2.1
    · rw [if_pos p]
      show 0 ≤ wtZ sh t c s - d
      omega
    · rw [if_neg p]
      exact h (fun e => p (Or.inl e))
  unfold vstep at he ⊢
  by_cases p : chZ (nX c s) (nY c s) = false
  · rw [if_pos p] at he
    simp only at he
    omega
  · rw [if_neg p] at he ⊢
    by_cases a : wtZ sh t c s < d
    · rw [if_pos a] at he
      simp only at he
      omega
    · rw [if_neg a]
      split
      · exact ⟨b a, kk.2.2.1⟩
      · exact ⟨b a, kk.2.2.1⟩
theorem lg_n {t d : Int} {o : Nat → Bool} {g : Nat} {c : Int} {f : Nat} {was : Bool} {l0 : Int} : ∀ (n : Nat) (s : VS), ND s → (vleg sh t d o g c f was l0 n s).2 = 1 → ND (vleg sh t d o g c f was l0 n s).1 ∧ (vleg sh t d o g c f was l0 n s).1.2.2.2.2.2 ≠ -1000000 := by
  intro n
  induction n with
  | zero => intro s h e; exact absurd e (by show ¬ (5 : Int) = 1; decide)
  | succ n ih =>
    intro s h
    unfold vleg
    by_cases p : (vstep sh t d o g c f was l0 s).2 = 0
    · rw [if_pos p]
      exact ih _ (st_n h (Or.inl p)).1
    · rw [if_neg p]
      intro e
      exact st_n h (Or.inr e)
theorem lgs_n {t d : Int} {cf : Nat → Int} {o : Nat → Bool} : ∀ (n g : Nat) (s : VS) (lm : Nat → Int), ND s → (n = 0 → s.2.2.2.2.2 ≠ -1000000) → (vlegs sh cf t d o n g s lm).2.2.1 = 1 → ND (vlegs sh cf t d o n g s lm).1 ∧ (vlegs sh cf t d o n g s lm).1.2.2.2.2.2 ≠ -1000000 := by
  intro n
  induction n with
  | zero => intro g s lm h h0 _; exact ⟨h, h0 rfl⟩
  | succ n ih =>
    intro g s lm h h0
    unfold vlegs
    by_cases p : mistZ sh g = -1000000
    · rw [if_pos p]
      simp only
      have l := lg_n (sh := sh) (t := t) (d := d) (o := o) (g := g) (c := cf g) (f := s.1) (was := wasZ sh o g (s.2.1 s.1) (s.2.2.1 s.1) (tideZ sh (t + s.1))) (l0 := lwZ sh g (s.2.1 s.1) (s.2.2.1 s.1) (tideZ sh (t + s.1))) 60 s h
      generalize vleg sh t d o g (cf g) s.1 (wasZ sh o g (s.2.1 s.1) (s.2.2.1 s.1) (tideZ sh (t + s.1))) (lwZ sh g (s.2.1 s.1) (s.2.2.1 s.1) (tideZ sh (t + s.1))) 60 s = q at *
      by_cases e : q.2 = 1
      · rw [if_pos e]
        exact ih _ _ _ (l e).1 (fun _ => (l e).2)
      · rw [if_neg e]
        intro e2
        exact absurd e2 e
    · rw [if_neg p]
      intro e
      exact absurd e (by show ¬ (9 : Int) = 1; decide)
theorem en_0 (V : Val sh) {t dr : Int} (ht : 0 ≤ t ∧ t ≤ 99) (hdr : 0 ≤ dr ∧ dr ≤ 20) : enZ sh (vq sh t dr) = 0 ↔ (vq sh t dr).2.2.1 = 1 ∧ hbZ sh (vq sh t dr).1 ≤ 9 := by
  have v := (vq_e V ht hdr).2.2
  unfold enZ
  by_cases e : (vq sh t dr).2.2.1 = 1
  · rw [if_pos e]
    by_cases p : hbZ sh (vq sh t dr).1 ≤ 9
    · rw [if_pos p]; exact ⟨fun _ => ⟨e, p⟩, fun _ => rfl⟩
    · rw [if_neg p]; exact ⟨fun h => absurd h (by decide), fun h => absurd h.2 p⟩
  · rw [if_neg e]
    exact ⟨fun h => by omega, fun h => absurd h.1 e⟩
theorem dp_iff (V : Val sh) {t d : Int} (ht : 0 ≤ t ∧ t ≤ 99) (hd : 0 ≤ d ∧ d ≤ 20) : enZ sh (vq sh t d) = 0 ↔ enZ sh (vq sh t 0) = 0 ∧ d ≤ (vq sh t 0).1.2.2.2.2.1 := by
  have h6 := V.1
  rw [en_0 V ht hd, en_0 V ht (dr := 0) (by omega)]
  have q0 : QD d (vs0 sh) (vs0 sh) := ⟨rfl, rfl, rfl, rfl, rfl, fun h => absurd rfl h⟩
  have n0 : ND (vs0 sh) := fun h => absurd rfl h
  have nn := lgs_n (sh := sh) (t := t) (d := d) (cf := fun g => tL sh g 0) (o := fun _ => false) (sh 77).toNat 0 (vs0 sh) (fun _ => 0) n0 (fun h => by omega)
  have qq := lgs_q (sh := sh) (t := t) hd.1 (cf := fun g => tL sh g 0) (o := fun _ => false) (sh 77).toNat 0 (vs0 sh) (vs0 sh) (fun _ => 0) q0
  unfold vq voy
  generalize vlegs sh (fun g => tL sh g 0) t d (fun _ => false) (sh 77).toNat 0 (vs0 sh) (fun _ => 0) = A at *
  generalize vlegs sh (fun g => tL sh g 0) t 0 (fun _ => false) (sh 77).toNat 0 (vs0 sh) (fun _ => 0) = B at *
  rcases qq with ⟨⟨a1, a2, a3, a4, a5, a6⟩, b⟩ | ⟨a, b1, b2⟩
  · have hb : hbZ sh A.1 = hbZ sh B.1 := by unfold hbZ; rw [a1, a2, a3]
    rw [b, hb]
    rw [b] at nn
    refine ⟨fun h => ⟨h, ?_⟩, fun h => h.1⟩
    obtain ⟨m1, m2⟩ := nn h.1
    have k1 := m1 m2
    have k2 := a6 (by rw [← a5]; exact m2)
    omega
  · exact ⟨fun h => by omega, fun h => by omega⟩
def dpF (sh : Nat → Int) (t : Int) : Nat → Int
  | 0 => -1000000
  | n + 1 => if enZ sh (vq sh t n) = 0 then (n : Int) else dpF sh t n
theorem dpF_e (V : Val sh) {t : Int} (ht : 0 ≤ t ∧ t ≤ 99) : dpF sh t 21 = if enZ sh (vq sh t 0) = 0 then (if 20 < (vq sh t 0).1.2.2.2.2.1 then 20 else (vq sh t 0).1.2.2.2.2.1) else -1000000 := by
  by_cases p : enZ sh (vq sh t 0) = 0
  · have k0 := ((dp_iff V ht (d := 0) (by omega)).mp p).2
    have : ∀ n : Nat, n ≤ 20 → dpF sh t (n + 1) = if (n : Int) < (vq sh t 0).1.2.2.2.2.1 then (n : Int) else (vq sh t 0).1.2.2.2.2.1 := by
      intro n
      induction n with
      | zero =>
        intro _
        show (if enZ sh (vq sh t ((0 : Nat) : Int)) = 0 then ((0 : Nat) : Int) else dpF sh t 0) = _
        rw [show ((0 : Nat) : Int) = 0 from rfl, if_pos p]
        split <;> omega
      | succ n ih =>
        intro hn
        have i := ih (by omega)
        show (if enZ sh (vq sh t ((n + 1 : Nat) : Int)) = 0 then ((n + 1 : Nat) : Int) else dpF sh t (n + 1)) = _
        have q := dp_iff V ht (d := ((n + 1 : Nat) : Int)) (by omega)
        by_cases e : ((n + 1 : Nat) : Int) ≤ (vq sh t 0).1.2.2.2.2.1
        · rw [if_pos (q.mpr ⟨p, e⟩)]
          split <;> omega
        · rw [if_neg (fun h => e (q.mp h).2), i, if_neg (show ¬ ((n + 1 : Nat) : Int) < (vq sh t 0).1.2.2.2.2.1 by omega)]
          split <;> omega
    have z := this 20 (by omega)
    rw [if_pos p, z]
    rfl
  · rw [if_neg p]
    have : ∀ n : Nat, n ≤ 21 → dpF sh t n = -1000000 := by
      intro n
      induction n with
      | zero => intro _; rfl
      | succ n ih =>
        intro hn
        show (if enZ sh (vq sh t (n : Int)) = 0 then (n : Int) else dpF sh t n) = _
        rw [if_neg (fun h => p ((dp_iff V ht (d := (n : Int)) (by omega)).mp h).1), ih (by omega)]
    exact this 21 (by omega)
theorem r_deep (V : Val sh) {t : Int} (ht : 0 ≤ t ∧ t ≤ 99) : ∀ (d k f : Nat) (τ : St), k + d = 21 → d < f → Inv τ → MR τ sh → ∃ τ', fx F_X11_deepest_h25 z_X11_deepest_h25 f τ (iI t) (iI (dpF sh t k)) (iI k) = some (iI (dpF sh t 21), τ') ∧ Inv τ' := by
  intro d
  induction d with
  | zero =>
    intro k f τ h1 h2 hI M
    obtain ⟨f, rfl⟩ : ∃ j, f = j + 1 := ⟨f - 1, by omega⟩
    obtain rfl : k = 21 := by omega
    refine ⟨τ, ?_, hI⟩
    rw [fx_s]
    generalize fx F_X11_deepest_h25 z_X11_deepest_h25 f = K
    exact if_pos (by decide)
  | succ d ih =>
    intro k f τ h1 h2 hI M
    obtain ⟨f, rfl⟩ : ∃ j, f = j + 1 := ⟨f - 1, by omega⟩
    obtain ⟨τ1, c1, c2⟩ := m_arrivesFrom V M hI ht (dr := (k : Int)) (by omega)
    obtain ⟨τ2, i1, i2⟩ := ih (k + 1) f τ1 (by omega) (by omega) (RF_inv c2 hI) (RF_mr c2 M)
    refine ⟨τ2, ?_, i2⟩
    rw [fx_s]
    generalize fx F_X11_deepest_h25 z_X11_deepest_h25 f = K at *
    unfold F_X11_deepest_h25 f_X11_deepest_p45
    rw [if_neg (show ¬ (21 : Int32) ≤ iI k by rw [show (21 : Int32) = iI 21 by decide, iI_le (by omega) (by omega) (by omega) (by omega)]; omega), c1, obs, ← i1]
    have e : iI (k : Int) + 1 = iI ((k + 1 : Nat) : Int) := by rw [show (1 : Int32) = iI 1 by decide, iI_add]; rfl
    simp only [obs, e]
    rw [show dpF sh t (k + 1) = if enZ sh (vq sh t k) = 0 then (k : Int) else dpF sh t k from rfl]
    by_cases p : enZ sh (vq sh t k) = 0
    · rw [if_pos p, decide_eq_true p, if_neg (show ¬ bI true = 0 by decide)]
    · rw [if_neg p, decide_eq_false p, if_pos (show bI false = 0 by decide)]
theorem p_deepest : P_deepest Inv := by
  intro σ a1 h
  obtain ⟨t, rfl, x1, x2⟩ := iI_ex a1
  rcases iv_sheet h with u | ⟨sh, V, R, M⟩
  · exact ⟨(-1000002, σ), (-1000002, σ), gd0 (told_u u), gd0 (sheet_u u), rfl, h⟩
  by_cases a : 0 ≤ t ∧ t ≤ 99
  case neg => exact ⟨(-1000001, σ), (-1000001, σ), (gd1 (told_t V R)).trans (gd0 (start0_f x1 x2 a)), (gd1 (sheet_t M)).trans (gd0 (start_f x1 x2 a)), rfl, h⟩
  obtain ⟨τ, c1, c2⟩ := c_make V R a (dr := 0) (by omega)
  have i1 := CF_inv c2 h
  have M1 := CF_mr c2 M
  have eb := en_b V a (dr := 0) (by omega)
  have ar := c_arrives c2 eb
  have k10 := c2.2.1.2.2.2.2.2.2.2.2.1
  have z := vs0_p V
  have h6 := V.1
  have vi : VI (vq sh t 0).1 := (vlegs_p V (cf := fun g => tL sh g 0) a (dr := 0) (by omega) (o := fun _ => false) (sh 77).toNat 0 (vs0 sh) (fun _ => 0) (by omega) z.1 z.2.1 (by omega)).1
  unfold VI at vi
  obtain ⟨τ2, d1, d2⟩ := r_deep V a 21 0 FU τ (by omega) (by rw [FU_val]; omega) i1 M1
  rw [dpF_e V a] at d1
  refine ⟨(iI (if enZ sh (vq sh t 0) = 0 then (if 20 < (vq sh t 0).1.2.2.2.2.1 then 20 else (vq sh t 0).1.2.2.2.2.1) else -1000000), τ), (iI (if enZ sh (vq sh t 0) = 0 then (if 20 < (vq sh t 0).1.2.2.2.2.1 then 20 else (vq sh t 0).1.2.2.2.2.1) else -1000000), τ2), (gd1 (told_t V R)).trans ((gd1 (start0_t a)).trans ?_), (gd1 (sheet_t M1)).trans ((gd1 (start_t a)).trans ?_), rfl, d2⟩
  · dsimp only
    unfold f_X3_greatestDraught
    rw [show (-1 : Int32) = iI (-1) by decide, J0, c1, obs, ar, obs]
    dsimp only
    by_cases p : enZ sh (vq sh t 0) = 0
    · rw [if_pos p, decide_eq_true p, if_neg (show ¬ bI true = iI 0 by decide), obs]
      simp only [k10, show (20 : Int32) = iI 20 by decide]
      by_cases e : 20 < (vq sh t 0).1.2.2.2.2.1
      · rw [if_pos e, if_pos (by rw [iI_lt (by omega) (by omega) (by omega) (by omega)]; exact e)]
      · rw [if_neg e, if_neg (by rw [iI_lt (by omega) (by omega) (by omega) (by omega)]; exact e)]
    · rw [if_neg p, decide_eq_false p, if_pos (show bI false = iI 0 by decide), obs]
      rfl
  · dsimp only
    generalize fx F_X11_deepest_h25 z_X11_deepest_h25 FU = K at *
    rw [show (-1000000 : Int32) = iI (-1000000) by decide, show (0 : Int32) = iI ((0 : Nat) : Int) by decide]
    exact d1
end DQ
