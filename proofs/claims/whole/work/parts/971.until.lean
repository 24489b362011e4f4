section UN
variable {σ τ : St} {sh : Nat → Int}
def okU (s a b : Int) : Bool := decide (0 ≤ s ∧ s ≤ 4) && (decide ((if s = 0 then 1 else 0) ≤ a ∧ a ≤ (if s = 0 ∨ s = 4 then 60 else 7)) && (if s = 2 then decide (0 ≤ b ∧ b ≤ 7) else true))
theorem e_isUntil {s a b : Int} (s1 : -2147483648 ≤ s) (s2 : s < 2147483648) (a1 : -2147483648 ≤ a) (a2 : a < 2147483648) (b1 : -2147483648 ≤ b) (b2 : b < 2147483648) : f_X10_isUntil σ (iI s) (iI a) (iI b) = some (bI (okU s a b), σ) := by
  unfold okU
  by_cases p : 0 ≤ s ∧ s ≤ 4
  case neg =>
    rw [decide_eq_false p, Bool.false_and]
    exact gd0 (by rw [J0, show (4 : Int32) = iI 4 by decide]; exact within_f (by omega) s1 s2 p)
  rw [decide_eq_true p, Bool.true_and]
  have lo : f_X6_untilLeast σ (iI s) = some (iI (if s = 0 then 1 else 0), σ) := by
    unfold f_X6_untilLeast
    by_cases e : s = 0
    · rw [e]; rfl
    · rw [if_neg e, if_neg (show ¬ iI s = 0 by rw [J0, iI_eq (by omega) (by omega) (by omega) (by omega)]; exact e)]; rfl
  have hi : f_X6_untilMost σ (iI s) = some (iI (if s = 0 ∨ s = 4 then 60 else 7), σ) := by
    unfold f_X6_untilMost
    rcases (show s = 0 ∨ s = 1 ∨ s = 2 ∨ s = 3 ∨ s = 4 by omega) with e | e | e | e | e <;> subst e <;> rfl
  refine (gd1 (by rw [J0, show (4 : Int32) = iI 4 by decide]; exact within_t (by omega) p)).trans ?_
  dsimp only
  rw [lo, obs]
  dsimp only
  rw [hi, obs]
  dsimp only
  have lb : (0 ≤ (if s = 0 then (1 : Int) else 0) ∧ (if s = 0 then (1 : Int) else 0) ≤ 1) ∧ (0 ≤ (if s = 0 ∨ s = 4 then (60 : Int) else 7) ∧ (if s = 0 ∨ s = 4 then (60 : Int) else 7) ≤ 60) := by omega
  generalize (if s = 0 then (1 : Int) else 0) = l at *
  generalize (if s = 0 ∨ s = 4 then (60 : Int) else 7) = u at *
  have w := e_isWithin (σ := σ) a1 a2 (b := l) (c := u) (by omega) (by omega) (by omega) (by omega)
  by_cases q : l ≤ a ∧ a ≤ u
  · rw [decide_eq_true q] at w ⊢
    rw [Bool.true_and]
    refine (gd1 w).trans ?_
    dsimp only
    by_cases e : s = 2
    · rw [if_pos e, if_pos (show iI s = 2 by rw [e]; decide)]
      by_cases c : 0 ≤ b ∧ b ≤ 7
      · rw [decide_eq_true c]
        exact gd1 (A := fun q => some (0, q.2)) (k := fun q => some (1, q.2)) (by rw [J0, show (7 : Int32) = iI 7 by decide]; exact within_t (by omega) c)
      · rw [decide_eq_false c]
        exact gd0 (by rw [J0, show (7 : Int32) = iI 7 by decide]; exact within_f (by omega) b1 b2 c)
    · rw [if_neg e, if_neg (show ¬ iI s = 2 by rw [show (2 : Int32) = iI 2 by decide, iI_eq (by omega) (by omega) (by omega) (by omega)]; exact e)]
      rfl
  · rw [decide_eq_false q] at w ⊢
    rw [Bool.false_and]
    exact gd0 w
theorem m_isUntil {s a b : Int} (s1 : -2147483648 ≤ s) (s2 : s < 2147483648) (a1 : -2147483648 ≤ a) (a2 : a < 2147483648) (b1 : -2147483648 ≤ b) (b2 : b < 2147483648) : f_X11_isUntil σ (iI s) (iI a) (iI b) = some (bI (okU s a b), σ) := by
  unfold okU
  by_cases p : 0 ≤ s ∧ s ≤ 4
  case neg =>
    rw [decide_eq_false p, Bool.false_and]
    unfold f_X11_isUntil f_X11_isUntil_p51 f_X11_isUntil_p52
    rw [L0, L4, in_f (by omega) s1 s2 p, obs]
    rfl
  rw [decide_eq_true p, Bool.true_and]
  have st : f_X11_isUntil σ (iI s) (iI a) (iI b) = f_X11_isUntil_p41 σ (iI s) (iI b) (iI (if s = 0 ∨ s = 4 then 60 else 7)).toInt64 (iI (if s = 0 then 1 else 0)).toInt64 (iI a).toInt64 := by
    unfold f_X11_isUntil f_X11_isUntil_p23 f_X11_isUntil_p32
    rw [L0, L4, in_t (by omega) p, obs]
    rcases (show s = 0 ∨ s = 1 ∨ s = 2 ∨ s = 3 ∨ s = 4 by omega) with e | e | e | e | e <;> subst e <;> rfl
  rw [st]
  have lb : (0 ≤ (if s = 0 then (1 : Int) else 0) ∧ (if s = 0 then (1 : Int) else 0) ≤ 1) ∧ (0 ≤ (if s = 0 ∨ s = 4 then (60 : Int) else 7) ∧ (if s = 0 ∨ s = 4 then (60 : Int) else 7) ≤ 60) := by omega
  generalize (if s = 0 then (1 : Int) else 0) = l at *
  generalize (if s = 0 ∨ s = 4 then (60 : Int) else 7) = u at *
  have w := e_in (σ := σ) a1 a2 (b := l) (c := u) (by omega) (by omega) (by omega) (by omega)
  unfold f_X11_isUntil_p41 f_X11_isUntil_p51 f_X11_isUntil_p52
  rw [w, obs]
  dsimp only
  by_cases q : l ≤ a ∧ a ≤ u
  · rw [decide_eq_true q, Bool.true_and, if_neg (show ¬ bI true = 0 by decide), if_neg (show ¬ (1 : Int32) = 0 by decide)]
    by_cases e : s = 2
    · rw [if_pos e, if_pos (show iI s = 2 by rw [e]; decide)]
      by_cases c : 0 ≤ b ∧ b ≤ 7
      · rw [decide_eq_true c]
        exact gd1 (A := fun q => some (0, q.2)) (k := fun q => some (1, q.2)) (by rw [L0, L7]; exact in_t (by omega) c)
      · rw [decide_eq_false c]
        exact gd0 (by rw [L0, L7]; exact in_f (by omega) b1 b2 c)
    · rw [if_neg e, if_neg (show ¬ iI s = 2 by rw [show (2 : Int32) = iI 2 by decide, iI_eq (by omega) (by omega) (by omega) (by omega)]; exact e)]
      rfl
  · rw [decide_eq_false q, Bool.false_and, if_pos (show bI false = 0 by decide)]
    rfl
theorem okU_v {s a b : Int} (h : okU s a b = true) : (0 ≤ s ∧ s ≤ 4) ∧ ValU s a (if s = 2 then b else -1000000) := by
  unfold okU at h
  simp only [Bool.and_eq_true, decide_eq_true_eq] at h
  obtain ⟨h1, h2, h3⟩ := h
  refine ⟨h1, ?_⟩
  unfold ValU
  by_cases e : s = 2
  · rw [if_pos e] at h3 ⊢
    rw [decide_eq_true_eq] at h3
    rw [if_neg (by omega), if_neg (by omega)] at h2
    omega
  · rw [if_neg e]
    refine ⟨h1, fun h => ?_, fun h => ?_, fun h g => ?_, fun h => absurd h e, fun _ => rfl⟩
    · rw [if_pos h, if_pos (Or.inl h)] at h2; exact h2
    · rw [if_neg (by omega), if_pos (Or.inr h)] at h2; exact h2
    · rw [if_neg (by omega), if_neg (by omega)] at h2; exact h2
end UN
