section SG
variable {σ τ : St} {sh : Nat → Int}
/-- the minutes of a leg -/
theorem vlegs_lm (V : Val sh) {cf : Nat → Int} {t dr : Int} (ht : 0 ≤ t ∧ t ≤ 99) (hdr : 0 ≤ dr ∧ dr ≤ 20) {o : Nat → Bool} : ∀ (n g : Nat) (s : VS) (lm : Nat → Int), g + n ≤ 6 → VI s → VP s → s.1 ≤ 60 * g → (∀ j, j < g → 0 ≤ lm j ∧ lm j ≤ 60) → ∀ j, j < bgN (vlegs sh cf t dr o n g s lm) → 0 ≤ (vlegs sh cf t dr o n g s lm).2.2.2 j ∧ (vlegs sh cf t dr o n g s lm).2.2.2 j ≤ 60 := by
  intro n
  induction n with
  | zero => intro g s lm hg hI hP hm hl j hj; exact hl j hj
  | succ n ih =>
    intro g s lm hg hI hP hm hl
    unfold vlegs
    by_cases p : mistZ sh g = -1000000
    · rw [if_pos p]
      have vp := vleg_p V ht hdr (o := o) (g := g) (c := cf g) (f := s.1) (was := wasZ sh o g (s.2.1 s.1) (s.2.2.1 s.1) (tideZ sh (t + s.1))) (l0 := lwZ sh g (s.2.1 s.1) (s.2.2.1 s.1) (tideZ sh (t + s.1))) 60 s hI hP (by omega)
      simp only
      generalize vleg sh t dr o g (cf g) s.1 (wasZ sh o g (s.2.1 s.1) (s.2.2.1 s.1) (tideZ sh (t + s.1))) (lwZ sh g (s.2.1 s.1) (s.2.2.1 s.1) (tideZ sh (t + s.1))) 60 s = q at *
      have hl2 : ∀ j, j < g + 1 → 0 ≤ fu lm g ((q.1.1 - s.1 : Nat) : Int) j ∧ fu lm g ((q.1.1 - s.1 : Nat) : Int) j ≤ 60 := by
        intro j hj
        by_cases e : j = g
        · rw [e, fu_e]; omega
        · rw [fu_n e]; exact hl j (by omega)
      by_cases e : q.2 = 1
      · rw [if_pos e]
        exact ih (g + 1) q.1 _ (by omega) vp.1 (vp.2.2.1 e) (by omega) hl2
      · rw [if_neg e]
        intro j hj
        unfold bgN at hj
        rw [if_neg (show ¬ q.2 = 1 from e)] at hj
        exact hl2 j hj
    · rw [if_neg p]
      intro j hj
      have hj2 : j < g + 1 := hj
      show 0 ≤ fu lm g 0 j ∧ fu lm g 0 j ≤ 60
      by_cases e : j = g
      · rw [e, fu_e]; omega
      · rw [fu_n e]; exact hl j (by omega)
theorem vq_lm (V : Val sh) {t dr : Int} (ht : 0 ≤ t ∧ t ≤ 99) (hdr : 0 ≤ dr ∧ dr ≤ 20) : ∀ j, j < bgN (vq sh t dr) → 0 ≤ (vq sh t dr).2.2.2 j ∧ (vq sh t dr).2.2.2 j ≤ 60 := by
  have h6 := V.1
  have z := vs0_p V
  exact vlegs_lm V ht hdr (sh 77).toNat 0 (vs0 sh) (fun _ => 0) (by omega) z.1 z.2.1 (by omega) (fun j hj => absurd hj (by omega))
theorem od_k (o : Nat → Bool) (g : Nat) (x y h : Int) : ∀ p ∈ odL sh o g x y h, p.1 = 8 := by
  intro p hp
  unfold odL at hp
  split at hp
  · split at hp
    · rw [List.mem_singleton] at hp; rw [hp]
    · cases hp
  · split at hp
    · split at hp
      · rw [List.mem_singleton] at hp; rw [hp]
      · split at hp
        · rw [List.mem_singleton] at hp; rw [hp]
        · cases hp
    · cases hp
theorem caL_k (t dr : Int) (o : Nat → Bool) (e : Int) (g : Nat) (s : VS) : ∀ p ∈ caL sh t dr o e g s, 1 ≤ p.1 ∧ p.1 ≤ 10 := by
  unfold caL
  split
  · intro p hp; simp only [List.mem_cons, List.not_mem_nil, or_false] at hp; rcases hp with h | h | h <;> subst h <;> (constructor <;> (simp only; omega))
  split
  · unfold lkZ
    intro p hp; simp only [List.mem_cons, List.not_mem_nil, or_false] at hp
    rcases hp with h | h | h | h
    · subst h; constructor <;> (simp only; omega)
    · subst h; constructor <;> (simp only; omega)
    · subst h; constructor <;> (simp only; omega)
    · subst h; (repeat split) <;> (constructor <;> (simp only; omega))
  split
  · intro p hp
    rw [List.mem_append] at hp
    rcases hp with hp | hp
    · simp only [List.mem_cons, List.not_mem_nil, or_false] at hp; rcases hp with h | h | h <;> subst h <;> (constructor <;> (simp only; omega))
    · have := od_k _ _ _ _ _ p hp
      omega
  split
  · intro p hp; simp only [List.mem_cons, List.not_mem_nil, or_false] at hp; rcases hp with h | h <;> subst h <;> (constructor <;> (simp only; omega))
  split
  · intro p hp; simp only [List.not_mem_nil] at hp
  · intro p hp; simp only [List.mem_cons, List.not_mem_nil, or_false] at hp; rcases hp with h | h <;> subst h <;> (constructor <;> (simp only; omega))
/-! The log, sign by sign: the class's cells 9 7 25, the reference's 26 27 39. -/
def LG (c i a : Nat) (τ σ : St) (l : List Int) : Prop := (∀ k, k ≠ c → k ≠ a → τ k = σ k) ∧ (∀ j, j ≠ i → τ c j = σ c j) ∧ τ c i = iI l.length ∧ ∀ j, j < l.length → τ a j = iI (l.getD j 0)
theorem LG_add {c i a : Nat} (hca : c ≠ a) {l : List Int} (h : LG c i a τ σ l) (v : Int) : LG c i a (g_u2 (g_u2 τ a l.length (iI v)) c i (iI ((l.length + 1 : Nat) : Int))) σ (l ++ [v]) := by
  obtain ⟨h1, h2, h3, h4⟩ := h
  refine ⟨fun k k1 k2 => ?_, fun j hj => ?_, ?_, fun j hj => ?_⟩
  · rw [g_u2_n1 k1, g_u2_n1 k2]; exact h1 k k1 k2
  · rw [g_u2_n2 hj, g_u2_n1 hca]; exact h2 j hj
  · rw [g_u2_e, List.length_append]; rfl
  · rw [List.length_append] at hj
    have hj' : j < l.length + 1 := hj
    rw [g_u2_n1 (fun h => hca h.symm), List.getD_eq_getElem?_getD]
    by_cases e : j = l.length
    · rw [e, g_u2_e, List.getElem?_append_right (Nat.le_refl _), Nat.sub_self]; rfl
    · rw [g_u2_n2 e, List.getElem?_append_left (by omega), ← List.getD_eq_getElem?_getD]
      exact h4 j (by omega)
theorem w_c {l : List Int} (h : LG 9 7 25 τ σ l) (hl : l.length < 64) (v : Int) : ∃ τ', f_X0_writeSign τ (iI v) = some τ' ∧ LG 9 7 25 τ' σ (l ++ [v]) := by
  refine ⟨_, ?_, LG_add (by decide) h v⟩
  obtain ⟨h1, h2, h3, h4⟩ := h
  unfold f_X0_writeSign
  rw [h3, J0, if_neg (fun h => absurd ((iI_lt (by omega) (by omega) (by omega) (by omega)).mp h) (by omega)), show (64 : Int32) = iI 64 by decide, if_neg (fun h => absurd ((iI_le (by omega) (by omega) (by omega) (by omega)).mp h) (by omega)), iI_toInt (by omega) (by omega), if_pos (by omega), obs, obs, iI_clamp (by omega) (by omega), Int.toNat_natCast, g_u2_n1 (by decide), h3, show (1 : Int32) = iI 1 by decide, iI_add]
  rfl
theorem w_m {l : List Int} (h : LG 26 27 39 τ σ l) (hl : l.length < 64) (v : Int) : ∃ τ', f_X11_writes τ (iI v) = some τ' ∧ LG 26 27 39 τ' σ (l ++ [v]) := by
  refine ⟨_, ?_, LG_add (by decide) h v⟩
  obtain ⟨h1, h2, h3, h4⟩ := h
  unfold f_X11_writes
  rw [h3, iI_toInt (by omega) (by omega), if_pos (by omega), obs, obs, iI_clamp (by omega) (by omega), Int.toNat_natCast, g_u2_n1 (by decide), h3, show (1 : Int32) = iI 1 by decide, iI_add]
  rfl
def fig (z : Int) : List Int := if z < 10 then [48 + z % 10] else [48 + z / 10, 48 + z % 10]
theorem fig_l (z : Int) : (fig z).length ≤ 2 := by unfold fig; split <;> simp
theorem f_c {l : List Int} (h : LG 9 7 25 τ σ l) (hl : l.length + 2 ≤ 64) {z : Int} (hz : 0 ≤ z ∧ z < 100) : ∃ τ', f_X0_writeFigures τ (iI z) = some τ' ∧ LG 9 7 25 τ' σ (l ++ fig z) := by
  have p20 : ∀ (τ1 : St) (l1 : List Int), LG 9 7 25 τ1 σ l1 → l1.length < 64 → ∃ τ', f_X0_writeFigures_p20 τ1 (iI z) = some τ' ∧ LG 9 7 25 τ' σ (l1 ++ [48 + z % 10]) := by
    intro τ1 l1 g1 g2
    obtain ⟨τ', w1, w2⟩ := w_c g1 g2 (48 + z % 10)
    refine ⟨τ', ?_, w2⟩
    unfold f_X0_writeFigures_p20
    rw [show (10 : Int32) = iI 10 by decide, iI_rem (by omega) (by omega) (by omega) (by omega), show (48 : Int32) = iI 48 by decide, iI_add, w1, obs]
  unfold f_X0_writeFigures fig
  by_cases p : z < 10
  · rw [if_pos p, show (10 : Int32) = iI 10 by decide, if_pos ((iI_lt (by omega) (by omega) (by omega) (by omega)).mpr p)]
    exact p20 τ l h (by omega)
  · obtain ⟨τ1, w1, w2⟩ := w_c h (by omega) (48 + z / 10)
    rw [if_neg p, show (10 : Int32) = iI 10 by decide, if_neg (fun h => p ((iI_lt (by omega) (by omega) (by omega) (by omega)).mp h)), iI_divp (by omega) (by omega) (by omega) (by omega), iI_rem (by omega) (by omega) (by omega) (by omega), show (48 : Int32) = iI 48 by decide, iI_add, show z / 10 % 10 = z / 10 by omega, w1, obs]
    obtain ⟨τ2, x1, x2⟩ := p20 τ1 _ w2 (by rw [List.length_append]; show l.length + 1 < 64; omega)
    refine ⟨τ2, x1, ?_⟩
    rw [List.append_assoc] at x2
    exact x2
theorem f_m {l : List Int} (h : LG 26 27 39 τ σ l) (hl : l.length + 2 ≤ 64) {z : Int} (hz : 0 ≤ z ∧ z < 100) : ∃ τ', f_X11_writesNumber τ (iI z) = some τ' ∧ LG 26 27 39 τ' σ (l ++ fig z) := by
  have p20 : ∀ (τ1 : St) (l1 : List Int), LG 26 27 39 τ1 σ l1 → l1.length < 64 → ∃ τ', f_X11_writesNumber_p17 τ1 (iI z) = some τ' ∧ LG 26 27 39 τ' σ (l1 ++ [48 + z % 10]) := by
    intro τ1 l1 g1 g2
    obtain ⟨τ', w1, w2⟩ := w_m g1 g2 (48 + z % 10)
    refine ⟨τ', ?_, w2⟩
    unfold f_X11_writesNumber_p17
    rw [show (10 : Int32) = iI 10 by decide, iI_rem (by omega) (by omega) (by omega) (by omega), show (48 : Int32) = iI 48 by decide, iI_add, w1, obs]
  unfold f_X11_writesNumber fig
  by_cases p : z < 10
  · rw [if_pos p, show (9 : Int32) = iI 9 by decide, if_pos ((iI_le (by omega) (by omega) (by omega) (by omega)).mpr (by omega))]
    exact p20 τ l h (by omega)
  · obtain ⟨τ1, w1, w2⟩ := w_m h (by omega) (48 + z / 10)
    rw [if_neg p, show (9 : Int32) = iI 9 by decide, if_neg (fun h => p (by have := (iI_le (by omega) (by omega) (by omega) (by omega)).mp h; omega)), show (10 : Int32) = iI 10 by decide, iI_divp (by omega) (by omega) (by omega) (by omega), show (48 : Int32) = iI 48 by decide, iI_add, w1, obs]
    obtain ⟨τ2, x1, x2⟩ := p20 τ1 _ w2 (by rw [List.length_append]; show l.length + 1 < 64; omega)
    refine ⟨τ2, x1, ?_⟩
    rw [List.append_assoc] at x2
    exact x2
/-- a name in great letters, from a place on -/
def grF (c : Nat) : Nat → Nat → List Int
  | 0, _ => []
  | d + 1, j => (nm c j - 32) :: grF c d (j + 1)
theorem gr_l (c : Nat) : ∀ d j, (grF c d j).length = d := by
  intro d
  induction d with
  | zero => intro j; rfl
  | succ d ih => intro j; show (grF c d (j + 1)).length + 1 = d + 1; rw [ih]
theorem g_c {c : Nat} (hc : c < 16) : ∀ (d j f : Nat) (τ : St) (l : List Int), j + d = nl c → d < f → LG 9 7 25 τ σ l → l.length + d ≤ 64 → ∃ τ', fx F_X0_writeGreat_h2 z_X0_writeGreat_h2 f τ c (iI j) = some τ' ∧ LG 9 7 25 τ' σ (l ++ grF c d j) := by
  intro d
  have h18 : c < 18 := by omega
  have nb := nl_b hc
  induction d with
  | zero =>
    intro j f τ l h1 h2 h hl
    obtain ⟨f, rfl⟩ : ∃ j, f = j + 1 := ⟨f - 1, by omega⟩
    refine ⟨τ, ?_, by rw [show grF c 0 j = [] from rfl, List.append_nil]; exact h⟩
    rw [fx_s]
    unfold F_X0_writeGreat_h2
    rw [if_pos h18, j_len hc, obs]
    exact if_pos ((iI_le (by omega) (by omega) (by omega) (by omega)).mpr (by omega))
  | succ d ih =>
    intro j f τ l h1 h2 h hl
    obtain ⟨f, rfl⟩ : ∃ j, f = j + 1 := ⟨f - 1, by omega⟩
    obtain ⟨τ1, w1, w2⟩ := w_c h (by omega) (nm c j - 32)
    obtain ⟨τ2, i1, i2⟩ := ih (j + 1) f τ1 _ (by omega) (by omega) w2 (by rw [List.length_append]; show l.length + 1 + d ≤ 64; omega)
    refine ⟨τ2, ?_, ?_⟩
    · rw [fx_s]
      unfold F_X0_writeGreat_h2
      rw [if_pos h18, j_len hc, obs]
      refine (if_neg (fun h => absurd ((iI_le (by omega) (by omega) (by omega) (by omega)).mp h) (by omega))).trans ?_
      rw [if_pos h18]
      dsimp only
      rw [j_chr hc (by omega), obs]
      dsimp only
      rw [show (-32 : Int32) = iI (-32) by decide, iI_add, show nm c j + -32 = nm c j - 32 by omega, w1, obs, obs, show iI (j : Int) + 1 = iI ((j + 1 : Nat) : Int) by rw [show (1 : Int32) = iI 1 by decide, iI_add]; rfl]
      exact i1
    · rw [List.append_assoc] at i2
      exact i2
end SG
