section DP
variable {σ τ : St} {sh : Nat → Int}
/-- two voyages that differ in the draught alone -/
def QD (d : Int) (s s' : VS) : Prop := s'.1 = s.1 ∧ s'.2.1 = s.2.1 ∧ s'.2.2.1 = s.2.2.1 ∧ s'.2.2.2.1 = s.2.2.2.1 ∧ s'.2.2.2.2.2 = s.2.2.2.2.2 ∧ (s.2.2.2.2.2 ≠ -1000000 → s'.2.2.2.2.1 = s.2.2.2.2.1 - d)
def KD (d : Int) (s : VS) : Prop := s.2.2.2.2.2 ≠ -1000000 ∧ s.2.2.2.2.1 < d
def ND (s : VS) : Prop := s.2.2.2.2.2 ≠ -1000000 → 0 ≤ s.2.2.2.2.1
theorem kl_k (u : Int) (s : VS) : (s.2.2.2.2.2 ≠ -1000000 → (klS u s).2.2.2.2.1 ≤ s.2.2.2.2.1) ∧ (klS u s).2.2.2.2.1 ≤ (if s.2.2.2.2.2 = -1000000 ∨ u < s.2.2.2.2.1 then u else s.2.2.2.2.1) ∧ (klS u s).2.2.2.2.2 ≠ -1000000 ∧ (klS u s).2.2.2.2.1 ≤ u := by
  unfold klS
  by_cases p : s.2.2.2.2.2 = -1000000 ∨ u < s.2.2.2.2.1
  · rw [if_pos p, if_pos p]
    refine ⟨fun h => ?_, Int.le_refl _, ?_, Int.le_refl _⟩
    · show u ≤ _
      rcases p with p | p
      · exact absurd p h
      · omega
    · show ((s.1 : Int)) ≠ -1000000
      omega
  · rw [if_neg p, if_neg p]
    refine ⟨fun _ => Int.le_refl _, Int.le_refl _, fun h => p (Or.inl h), ?_⟩
    omega
theorem kl_q {d u : Int} {s s' : VS} (h : QD d s s') : QD d (klS u s) (klS (u - d) s') := by
  obtain ⟨h1, h2, h3, h4, h5, h6⟩ := h
  unfold klS
  by_cases p : s.2.2.2.2.2 = -1000000 ∨ u < s.2.2.2.2.1
  · have p' : s'.2.2.2.2.2 = -1000000 ∨ u - d < s'.2.2.2.2.1 := by
      by_cases e : s.2.2.2.2.2 = -1000000
      · exact Or.inl (by rw [h5, e])
      · have := h6 e
        exact Or.inr (by omega)
    rw [if_pos p, if_pos p']
    exact ⟨h1, h2, h3, h4, by show ((s'.1 : Int)) = (s.1 : Int); rw [h1], fun _ => rfl⟩
  · have p' : ¬ (s'.2.2.2.2.2 = -1000000 ∨ u - d < s'.2.2.2.2.1) := by
      have := h6 (fun e => p (Or.inl e))
      rw [h5]
      omega
    rw [if_neg p, if_neg p']
    exact ⟨h1, h2, h3, h4, h5, h6⟩
theorem go_q {d c : Int} {g : Nat} {s s' : VS} (h : QD d s s') : QD d (goS g c s) (goS g c s') ∧ nX c s' = nX c s ∧ nY c s' = nY c s := by
  obtain ⟨h1, h2, h3, h4, h5, h6⟩ := h
  have e1 : nX c s' = nX c s := by unfold nX; rw [h1, h2]
  have e2 : nY c s' = nY c s := by unfold nY; rw [h1, h3]
  refine ⟨⟨?_, ?_, ?_, ?_, h5, h6⟩, e1, e2⟩
  · show s'.1 + 1 = s.1 + 1; rw [h1]
  · show fu s'.2.1 (s'.1 + 1) (nX c s') = fu s.2.1 (s.1 + 1) (nX c s); rw [h1, h2, e1]
  · show fu s'.2.2.1 (s'.1 + 1) (nY c s') = fu s.2.2.1 (s.1 + 1) (nY c s); rw [h1, h3, e2]
  · show fu s'.2.2.2.1 (s'.1 + 1) g = fu s.2.2.2.1 (s.1 + 1) g; rw [h1, h4]
theorem st_q {t d : Int} (hd : 0 ≤ d) {o : Nat → Bool} {g : Nat} {c : Int} {f : Nat} {was : Bool} {l0 : Int} {s s' : VS} (h : QD d s s') :
    (QD d (vstep sh t 0 o g c f was l0 s).1 (vstep sh t d o g c f was l0 s').1 ∧ (vstep sh t d o g c f was l0 s').2 = (vstep sh t 0 o g c f was l0 s).2) ∨ ((vstep sh t d o g c f was l0 s').2 = 4 ∧ KD d (vstep sh t 0 o g c f was l0 s).1) := by
  obtain ⟨g1, g2, g3⟩ := go_q (g := g) (c := c) h
  have h1 := h.1
  have ew : wtZ sh t c s' = wtZ sh t c s := by unfold wtZ; rw [g2, g3, h1]
  have kq := kl_q (u := wtZ sh t c s - 0) g1
  rw [Int.sub_zero] at kq
  have kk := kl_k (wtZ sh t c s - 0) (goS g c s)
  unfold vstep
  rw [g2, g3, ew, h1]
  by_cases p : chZ (nX c s) (nY c s) = false
  · rw [if_pos p, if_pos p]
    exact Or.inl ⟨g1, rfl⟩
  · rw [if_neg p, if_neg p]
    by_cases a : wtZ sh t c s < 0
    · rw [if_pos a, if_pos (show wtZ sh t c s < d by omega)]
      rw [Int.sub_zero]
      exact Or.inl ⟨kq, rfl⟩
    · rw [if_neg a]
      by_cases b : wtZ sh t c s < d
      · rw [if_pos b]
        refine Or.inr ⟨rfl, ?_⟩
        have : KD d (klS (wtZ sh t c s - 0) (goS g c s)) := ⟨kk.2.2.1, by have := kk.2.2.2; omega⟩
        split <;> exact this
      · rw [if_neg b, Int.sub_zero]
        split
        · exact Or.inl ⟨kq, rfl⟩
        · exact Or.inl ⟨kq, rfl⟩
theorem st_k {t d : Int} {o : Nat → Bool} {g : Nat} {c : Int} {f : Nat} {was : Bool} {l0 : Int} {s : VS} (h : KD d s) : KD d (vstep sh t 0 o g c f was l0 s).1 := by
  have kk := kl_k (wtZ sh t c s - 0) (goS g c s)
  have a : KD d (goS g c s) := h
  have b : KD d (klS (wtZ sh t c s - 0) (goS g c s)) := ⟨kk.2.2.1, by have := kk.1 a.1; have := a.2; omega⟩
  unfold vstep
  split
  · exact a
  · split
    · exact b
    · split <;> exact b
theorem lg_k {t d : Int} {o : Nat → Bool} {g : Nat} {c : Int} {f : Nat} {was : Bool} {l0 : Int} : ∀ (n : Nat) (s : VS), KD d s → KD d (vleg sh t 0 o g c f was l0 n s).1 := by
  intro n
  induction n with
  | zero => intro s h; exact h
  | succ n ih =>
    intro s h
    unfold vleg
    split
    · exact ih _ (st_k h)
    · exact st_k h
theorem lgs_k {t d : Int} {cf : Nat → Int} {o : Nat → Bool} : ∀ (n g : Nat) (s : VS) (lm : Nat → Int), KD d s → KD d (vlegs sh cf t 0 o n g s lm).1 := by
  intro n
  induction n with
  | zero => intro g s lm h; exact h
  | succ n ih =>
    intro g s lm h
    unfold vlegs
    split
    · simp only
      split
      · exact ih _ _ _ (lg_k _ _ h)
      · exact lg_k _ _ h
    · exact h
theorem lg_q {t d : Int} (hd : 0 ≤ d) {o : Nat → Bool} {g : Nat} {c : Int} {f : Nat} {was : Bool} {l0 : Int} : ∀ (n : Nat) (s s' : VS), QD d s s' →
    (QD d (vleg sh t 0 o g c f was l0 n s).1 (vleg sh t d o g c f was l0 n s').1 ∧ (vleg sh t d o g c f was l0 n s').2 = (vleg sh t 0 o g c f was l0 n s).2) ∨ ((vleg sh t d o g c f was l0 n s').2 = 4 ∧ KD d (vleg sh t 0 o g c f was l0 n s).1) := by
  intro n
  induction n with
  | zero => intro s s' h; exact Or.inl ⟨h, rfl⟩
  | succ n ih =>
    intro s s' h
    unfold vleg
    rcases st_q (sh := sh) (t := t) hd (o := o) (g := g) (c := c) (f := f) (was := was) (l0 := l0) h with ⟨a, b⟩ | ⟨a, b⟩
    · rw [b]
      by_cases p : (vstep sh t 0 o g c f was l0 s).2 = 0
      · rw [if_pos p, if_pos p]
        exact ih _ _ a
      · rw [if_neg p, if_neg p]
        exact Or.inl ⟨a, b⟩
    · rw [if_neg (show ¬ (vstep sh t d o g c f was l0 s').2 = 0 by omega)]
      refine Or.inr ⟨a, ?_⟩
      split
      · exact lg_k _ _ b
      · exact b
theorem lgs_q {t d : Int} (hd : 0 ≤ d) {cf : Nat → Int} {o : Nat → Bool} : ∀ (n g : Nat) (s s' : VS) (lm : Nat → Int), QD d s s' →
    (QD d (vlegs sh cf t 0 o n g s lm).1 (vlegs sh cf t d o n g s' lm).1 ∧ (vlegs sh cf t d o n g s' lm).2.2.1 = (vlegs sh cf t 0 o n g s lm).2.2.1) ∨ ((vlegs sh cf t d o n g s' lm).2.2.1 = 4 ∧ KD d (vlegs sh cf t 0 o n g s lm).1) := by
  intro n
  induction n with
  | zero => intro g s s' lm h; exact Or.inl ⟨h, rfl⟩
  | succ n ih =>
    intro g s s' lm h
    unfold vlegs
    by_cases p : mistZ sh g = -1000000
    · rw [if_pos p, if_pos p]
      simp only
      rw [h.1, h.2.1, h.2.2.1]
      rcases lg_q (sh := sh) (t := t) hd (o := o) (g := g) (c := cf g) (f := s.1) (was := wasZ sh o g (s.2.1 s.1) (s.2.2.1 s.1) (tideZ sh (t + s.1))) (l0 := lwZ sh g (s.2.1 s.1) (s.2.2.1 s.1) (tideZ sh (t + s.1))) 60 s s' h with ⟨a, b⟩ | ⟨a, b⟩
      · generalize vleg sh t 0 o g (cf g) s.1 (wasZ sh o g (s.2.1 s.1) (s.2.2.1 s.1) (tideZ sh (t + s.1))) (lwZ sh g (s.2.1 s.1) (s.2.2.1 s.1) (tideZ sh (t + s.1))) 60 s = q at *
        generalize vleg sh t d o g (cf g) s.1 (wasZ sh o g (s.2.1 s.1) (s.2.2.1 s.1) (tideZ sh (t + s.1))) (lwZ sh g (s.2.1 s.1) (s.2.2.1 s.1) (tideZ sh (t + s.1))) 60 s' = q' at *
        rw [b, a.1]
        by_cases e : q.2 = 1
        · rw [if_pos e, if_pos e]
          exact ih _ _ _ _ a
        · rw [if_neg e, if_neg e]
          exact Or.inl ⟨a, rfl⟩
      · generalize vleg sh t 0 o g (cf g) s.1 (wasZ sh o g (s.2.1 s.1) (s.2.2.1 s.1) (tideZ sh (t + s.1))) (lwZ sh g (s.2.1 s.1) (s.2.2.1 s.1) (tideZ sh (t + s.1))) 60 s = q at *
        generalize vleg sh t d o g (cf g) s.1 (wasZ sh o g (s.2.1 s.1) (s.2.2.1 s.1) (tideZ sh (t + s.1))) (lwZ sh g (s.2.1 s.1) (s.2.2.1 s.1) (tideZ sh (t + s.1))) 60 s' = q' at *
        rw [if_neg (show ¬ q'.2 = 1 by omega)]
        refine Or.inr ⟨a, ?_⟩
        split
        · exact lgs_k _ _ _ _ b
        · exact b
    · rw [if_neg p, if_neg p]
      exact Or.inl ⟨h, rfl⟩
end DP
