section PU
variable {σ τ : St} {sh : Nat → Int}
theorem RM_keep {w w' : Nat → Int32} (V : Val sh) (W : RM w 0 sh) (h1 : ∀ i, i < 79 → w' i = w i) : RM w' 0 sh := by
  obtain ⟨W1, W2, W3, W4, W5, W6, W7, W8⟩ := W
  have h6 := V.1
  have h5 := V.2.1
  have h8 := V.2.2.1
  refine ⟨fun j hj => ?_, ?_, ?_, ?_, ?_, fun k hk => ?_, fun k hk j hj => ?_, fun g hg j hj => ?_⟩
  · rw [h1 _ (by omega)]; exact W1 j hj
  · rw [h1 _ (by omega)]; exact W2
  · rw [h1 _ (by omega)]; exact W3
  · rw [h1 _ (by omega)]; exact W4
  · rw [h1 _ (by omega)]; exact W5
  · rw [h1 _ (by omega)]; exact W6 k hk
  · rw [h1 _ (by omega)]; exact W7 k hk j hj
  · rw [h1 _ (by omega)]; exact W8 g hg j hj
/-- what was is kept on both sides; behind it the sheet may be changed -/
theorem push (h : Inv σ) (V : Val sh) (R : RC (σ 14) sh) (M : MR σ sh) :
    ∃ τ, f_X4_keep σ = some τ ∧ τ 14 = σ 14 ∧ ∀ X : St, (∀ c, c ≠ 14 → X c = τ c) → MR X sh ∧ ∃ τ1, f_X11_minds X = some τ1 ∧ MR τ1 sh ∧ τ1 14 = X 14 ∧ (∀ Y : St, (∀ c, c ≠ 27 → Y c = τ1 c) → (∀ j, 79 ≤ j → Y 27 j = τ1 27 j) → SH (Y 14) (Y 27) 0 → Inv Y) := by
  obtain ⟨hT, hf, hs, hi, ⟨nx, sz, n1, n2, n3, n4, n5, n6⟩, hc⟩ := id h
  obtain ⟨τ, c1, c2, c3, c4, c5, c6⟩ := c_keep (σ := σ) n1 n2 n3 n4
  refine ⟨τ, c1, c2 14 (by decide) (by decide), fun X hX => ?_⟩
  have kX : ∀ c, c ≠ 4 → c ≠ 14 → c ≠ 18 → X c = σ c := fun c h1 h2 h3 => by rw [hX c h2, c2 c h1 h3]
  have M1 : MR X sh := by unfold MR; rw [kX 27 (by decide) (by decide) (by decide), kX 30 (by decide) (by decide) (by decide), kX 31 (by decide) (by decide) (by decide)]; exact M
  obtain ⟨τ1, d1, d2, d3, d4, d5, d6, d7⟩ := m_minds (σ := X) n2 (by rw [kX 26 (by decide) (by decide) (by decide)]; exact n5)
  have x27 : X 27 = σ 27 := kX 27 (by decide) (by decide) (by decide)
  have M2 : MR τ1 sh := by
    have := RM_keep V M.1 (w' := τ1 27) (fun i hi => by rw [d5 i (by omega), x27])
    unfold MR
    rw [d2 30 (by decide) (by decide), d2 31 (by decide) (by decide)]
    exact ⟨this, M1.2⟩
  refine ⟨M1, τ1, d1, M2, d2 14 (by decide) (by decide), fun Y hY hY2 hSH => ?_⟩
  have k : ∀ c, c ≠ 4 → c ≠ 14 → c ≠ 18 → c ≠ 26 → c ≠ 27 → Y c = σ c := fun c h1 h2 h3 h4 h5 => by rw [hY c h5, d2 c h4 h5, kX c h1 h2 h3]
  have k26 : ∀ j, j ≠ 2 → Y 26 j = σ 26 j := fun j hj => by rw [hY 26 (by decide), d3 j hj, kX 26 (by decide) (by decide) (by decide)]
  have k27 : ∀ j, 79 ≤ j → j < 237 → Y 27 j = σ 27 j := fun j h1 h2 => by rw [hY2 j h1, d5 j h2, x27]
  refine ⟨?_, ?_, Or.inr hSH, ⟨?_, ?_⟩, ?_, ?_⟩
  · unfold IvT
    rw [k 1 (by decide) (by decide) (by decide) (by decide) (by decide), k26 4 (by decide), k 13 (by decide) (by decide) (by decide) (by decide) (by decide), k 29 (by decide) (by decide) (by decide) (by decide) (by decide)]; exact hT
  · rw [k26 5 (by decide), k 0 (by decide) (by decide) (by decide) (by decide) (by decide)]; exact hf
  · rw [k 15 (by decide) (by decide) (by decide) (by decide) (by decide), k 28 (by decide) (by decide) (by decide) (by decide) (by decide)]
    rcases hi.1 with i | i
    · exact Or.inl i
    · exact Or.inr ⟨i.1, SH_w i.2 (fun j hj => k27 _ (by omega) (by omega))⟩
  · rw [k 16 (by decide) (by decide) (by decide) (by decide) (by decide), k 28 (by decide) (by decide) (by decide) (by decide) (by decide)]
    rcases hi.2 with i | i
    · exact Or.inl i
    · exact Or.inr ⟨i.1, SH_w i.2 (fun j hj => k27 _ (by omega) (by omega))⟩
  · rw [x27] at d6 d7
    have x4 : Y 4 = τ 4 := by rw [hY 4 (by decide), d2 4 (by decide) (by decide), hX 4 (by decide)]
    have x18 : Y 18 = τ 18 := by rw [hY 18 (by decide), d2 18 (by decide) (by decide), hX 18 (by decide)]
    refine IvH_push n1 n2 n6 ⟨sh, V, R, M.1⟩ (by rw [x4]; exact c3) (by rw [x4]; exact c4) (by rw [x18]; exact c5) (by rw [x18]; exact c6) (by rw [hY 26 (by decide)]; exact d4) (fun i j hi hj => ?_) (fun j hj => ?_)
    · rw [hY2 _ (by omega)]; exact d6 i j hi hj
    · rw [hY2 _ (by omega)]; exact d7 j hj
  · unfold IvC
    rw [k 30 (by decide) (by decide) (by decide) (by decide) (by decide), k 31 (by decide) (by decide) (by decide) (by decide) (by decide), k26 13 (by decide)]; exact hc
/-- the sort, the first and the second of a leg's until, changed -/
def unS (sh : Nat → Int) (g : Nat) (s a b : Int) : Nat → Int := fu (fu (fu sh (51 + 4 * g + 2) a) (51 + 4 * g + 3) b) (51 + 4 * g + 1) s
theorem unS_n {g : Nat} {s a b : Int} {i : Nat} (h : i ≤ 51 + 4 * g ∨ 51 + 4 * g + 3 < i) : unS sh g s a b i = sh i := by
  unfold unS
  rw [fu_n (by omega), fu_n (by omega), fu_n (by omega)]
theorem unS_v (sh : Nat → Int) (g : Nat) (s a b : Int) : unS sh g s a b (51 + 4 * g + 1) = s ∧ unS sh g s a b (51 + 4 * g + 2) = a ∧ unS sh g s a b (51 + 4 * g + 3) = b := by
  unfold unS
  refine ⟨fu_e _ _ _, ?_, ?_⟩
  · rw [fu_n (by omega), fu_n (by omega), fu_e]
  · rw [fu_n (by omega), fu_e]
theorem Val_un (V : Val sh) {g : Nat} {s a b : Int} (hg : (g : Int) < sh 77) (hu : ValU s a b) : Val (unS sh g s a b) := by
  obtain ⟨v77, v75, v76, v0, ⟨a1, a2, a3, a4⟩, vh, vt, vl⟩ := V
  unfold Val
  rw [unS_n (i := 75) (by omega), unS_n (i := 76) (by omega), unS_n (i := 77) (by omega), unS_n (i := 0) (by omega), unS_n (i := 1) (by omega), unS_n (i := 2) (by omega), unS_n (i := 3) (by omega), unS_n (i := 4) (by omega)]
  refine ⟨v77, v75, v76, v0, ⟨a1, a2, a3, a4⟩, fun k hk => ?_, fun k hk => ?_, fun k hk => ?_⟩
  · rw [unS_n (by omega)]; exact vh k hk
  · have := vt k hk
    unfold ValT tT at *
    rw [unS_n (by omega), unS_n (by omega), unS_n (by omega), unS_n (by omega), unS_n (by omega)]
    exact this
  · have := vl k hk
    unfold ValL tL at *
    rw [unS_n (i := 51 + 4 * k + 0) (by omega)]
    refine ⟨this.1, ?_⟩
    by_cases e : k = g
    · subst e
      have v := unS_v sh k s a b
      rw [v.1, v.2.1, v.2.2]
      exact hu
    · rw [unS_n (by omega), unS_n (by omega), unS_n (by omega)]
      exact this.2
theorem RM_un {w w' : Nat → Int32} (V : Val sh) (W : RM w 0 sh) {g : Nat} {s a b : Int} (hg : (g : Int) < sh 77) (h1 : ∀ i, i < 79 → i ≤ 55 + 4 * g ∨ 55 + 4 * g + 3 < i → w' i = w i) (h2 : w' (55 + 4 * g + 1) = iI s ∧ w' (55 + 4 * g + 2) = iI a ∧ w' (55 + 4 * g + 3) = iI b) : RM w' 0 (unS sh g s a b) := by
  obtain ⟨W1, W2, W3, W4, W5, W6, W7, W8⟩ := W
  have h6 := V.1
  have h5 := V.2.1
  have h8 := V.2.2.1
  unfold RM
  rw [unS_n (i := 75) (by omega), unS_n (i := 76) (by omega), unS_n (i := 77) (by omega)]
  refine ⟨fun j hj => ?_, ?_, ?_, ?_, ?_, fun k hk => ?_, fun k hk j hj => ?_, fun k hk j hj => ?_⟩
  · rw [h1 _ (by omega) (by omega), unS_n (by omega)]; exact W1 j hj
  · rw [h1 _ (by omega) (by omega)]; exact W2
  · rw [h1 _ (by omega) (by omega)]; exact W3
  · rw [h1 _ (by omega) (by omega)]; exact W4
  · rw [h1 _ (by omega) (by omega)]; exact W5
  · rw [h1 _ (by omega) (by omega), unS_n (by omega)]; exact W6 k hk
  · unfold tT
    rw [h1 _ (by omega) (by omega), unS_n (by omega)]; exact W7 k hk j hj
  · unfold tL
    have v := unS_v sh g s a b
    by_cases e : k = g
    · subst e
      rcases (show j = 0 ∨ j = 1 ∨ j = 2 ∨ j = 3 by omega) with q | q | q | q <;> subst q
      · rw [h1 _ (by omega) (by omega), unS_n (by omega)]; exact W8 k hk 0 hj
      · rw [v.1, Nat.zero_add]; exact h2.1
      · rw [v.2.1, Nat.zero_add]; exact h2.2.1
      · rw [v.2.2, Nat.zero_add]; exact h2.2.2
    · rw [h1 _ (by omega) (by omega), unS_n (by omega)]; exact W8 k hk j hj
end PU
