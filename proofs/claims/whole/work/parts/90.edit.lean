section ED
variable {σ τ : St} {sh : Nat → Int}
/-- the reference's place of a cell of the class's row -/
def rel (jc A : Nat) : Prop := (jc < 5 ∧ A = jc + 1) ∨ (5 ≤ jc ∧ jc < 11 ∧ A = jc + 2) ∨ (11 ≤ jc ∧ jc < 51 ∧ A = jc + 3) ∨ (51 ≤ jc ∧ jc < 75 ∧ A = jc + 4)
theorem RM_edit {w w' : Nat → Int32} (V : Val sh) (W : RM w 0 sh) {jc A : Nat} (hr : rel jc A) {v : Int} (h1 : ∀ i, i < 79 → i ≠ A → w' i = w i) (h2 : w' A = iI v) : RM w' 0 (fu sh jc v) := by
  obtain ⟨W1, W2, W3, W4, W5, W6, W7, W8⟩ := W
  have h6 := V.1
  have h5 := V.2.1
  have h8 := V.2.2.1
  unfold rel at hr
  have f75 : fu sh jc v 75 = sh 75 := fu_n (by omega)
  have f76 : fu sh jc v 76 = sh 76 := fu_n (by omega)
  have f77 : fu sh jc v 77 = sh 77 := fu_n (by omega)
  unfold RM
  rw [f75, f76, f77]
  refine ⟨fun j hj => ?_, ?_, ?_, ?_, ?_, fun k hk => ?_, fun k hk j hj => ?_, fun g hg j hj => ?_⟩
  · by_cases e : j = jc
    · rw [show 0 + 1 + j = A by omega, h2, e, fu_e]
    · rw [h1 _ (by omega) (by omega), fu_n e]; exact W1 j hj
  · rw [h1 _ (by omega) (by omega)]; exact W2
  · rw [h1 _ (by omega) (by omega)]; exact W3
  · rw [h1 _ (by omega) (by omega)]; exact W4
  · rw [h1 _ (by omega) (by omega)]; exact W5
  · by_cases e : 5 + k = jc
    · rw [show 0 + 7 + k = A by omega, h2, e, fu_e]
    · rw [h1 _ (by omega) (by omega), fu_n e]; exact W6 k hk
  · unfold tT
    by_cases e : 11 + 5 * k + j = jc
    · rw [show 0 + 14 + 5 * k + j = A by omega, h2, e, fu_e]
    · rw [h1 _ (by omega) (by omega), fu_n e]; exact W7 k hk j hj
  · unfold tL
    by_cases e : 51 + 4 * g + j = jc
    · rw [show 0 + 55 + 4 * g + j = A by omega, h2, e, fu_e]
    · rw [h1 _ (by omega) (by omega), fu_n e]; exact W8 g hg j hj
/-- what a cell may hold -/
def okv (jc : Nat) (v : Int) : Prop := (jc = 0 ∧ 0 ≤ v ∧ v ≤ 20) ∨ (1 ≤ jc ∧ jc < 5 ∧ 0 ≤ v ∧ v ≤ 60) ∨ (5 ≤ jc ∧ jc < 11 ∧ 0 ≤ v ∧ v ≤ 20) ∨
  (11 ≤ jc ∧ jc < 51 ∧ ((jc - 11) % 5 = 0 → 1 ≤ v ∧ v ≤ 6) ∧ ((jc - 11) % 5 = 1 ∨ (jc - 11) % 5 = 2 → 0 ≤ v ∧ v ≤ 60) ∧ ((jc - 11) % 5 = 3 → 0 ≤ v ∧ v ≤ 15) ∧ ((jc - 11) % 5 = 4 → 0 ≤ v ∧ v ≤ 20)) ∨ (51 ≤ jc ∧ jc < 75 ∧ (jc - 51) % 4 = 0 ∧ 0 ≤ v ∧ v ≤ 15)
theorem fu_or (f : Nat → Int) (k : Nat) (v : Int) (i : Nat) : (i = k ∧ fu f k v i = v) ∨ (i ≠ k ∧ fu f k v i = f i) := by
  by_cases e : i = k
  · exact Or.inl ⟨e, by rw [e, fu_e]⟩
  · exact Or.inr ⟨e, fu_n e⟩
theorem Val_edit (V : Val sh) {jc : Nat} {v : Int} (h : okv jc v) : Val (fu sh jc v) := by
  obtain ⟨v77, v75, v76, v0, ⟨a1, a2, a3, a4⟩, vh, vt, vl⟩ := V
  unfold okv at h
  have f75 : fu sh jc v 75 = sh 75 := fu_n (by omega)
  have f76 : fu sh jc v 76 = sh 76 := fu_n (by omega)
  have f77 : fu sh jc v 77 = sh 77 := fu_n (by omega)
  unfold Val
  rw [f75, f76, f77]
  refine ⟨v77, v75, v76, ?_, ⟨?_, ?_, ?_, ?_⟩, fun k hk => ?_, fun k hk => ?_, fun g hg => ?_⟩
  · rcases fu_or sh jc v 0 with ⟨e, q⟩ | ⟨e, q⟩ <;> rw [q] <;> omega
  · rcases fu_or sh jc v 1 with ⟨e, q⟩ | ⟨e, q⟩ <;> rw [q] <;> omega
  · rcases fu_or sh jc v 2 with ⟨e, q⟩ | ⟨e, q⟩ <;> rw [q] <;> omega
  · rcases fu_or sh jc v 3 with ⟨e, q⟩ | ⟨e, q⟩ <;> rw [q] <;> omega
  · rcases fu_or sh jc v 4 with ⟨e, q⟩ | ⟨e, q⟩ <;> rw [q] <;> omega
  · have := vh k hk
    rcases fu_or sh jc v (5 + k) with ⟨e, q⟩ | ⟨e, q⟩ <;> rw [q] <;> omega
  · obtain ⟨t0, t1, t2, t3, t4⟩ := vt k hk
    unfold tT at t0 t1 t2 t3 t4
    unfold ValT tT
    refine ⟨?_, ?_, ?_, ?_, ?_⟩
    · rcases fu_or sh jc v (11 + 5 * k + 0) with ⟨e, q⟩ | ⟨e, q⟩ <;> rw [q] <;> omega
    · rcases fu_or sh jc v (11 + 5 * k + 1) with ⟨e, q⟩ | ⟨e, q⟩ <;> rw [q] <;> omega
    · rcases fu_or sh jc v (11 + 5 * k + 2) with ⟨e, q⟩ | ⟨e, q⟩ <;> rw [q] <;> omega
    · rcases fu_or sh jc v (11 + 5 * k + 3) with ⟨e, q⟩ | ⟨e, q⟩ <;> rw [q] <;> omega
    · rcases fu_or sh jc v (11 + 5 * k + 4) with ⟨e, q⟩ | ⟨e, q⟩ <;> rw [q] <;> omega
  · obtain ⟨l0, lu⟩ := vl g hg
    have e1 : tL (fu sh jc v) g 1 = tL sh g 1 := by unfold tL; exact fu_n (by omega)
    have e2 : tL (fu sh jc v) g 2 = tL sh g 2 := by unfold tL; exact fu_n (by omega)
    have e3 : tL (fu sh jc v) g 3 = tL sh g 3 := by unfold tL; exact fu_n (by omega)
    unfold ValL
    rw [e1, e2, e3]
    refine ⟨?_, lu⟩
    unfold tL at l0 ⊢
    rcases fu_or sh jc v (51 + 4 * g + 0) with ⟨e, q⟩ | ⟨e, q⟩ <;> rw [q] <;> omega
theorem RM_cell (V : Val sh) {w : Nat → Int32} (W : RM w 0 sh) {jc A : Nat} (hr : rel jc A) (hn : (5 ≤ jc → jc < 11 → ((jc - 5 : Nat) : Int) < sh 75) ∧ (11 ≤ jc → jc < 51 → (((jc - 11) / 5 : Nat) : Int) < sh 76) ∧ (51 ≤ jc → (((jc - 51) / 4 : Nat) : Int) < sh 77)) : w A = iI (sh jc) := by
  obtain ⟨W1, W2, W3, W4, W5, W6, W7, W8⟩ := W
  unfold rel at hr
  rcases hr with ⟨h1, h2⟩ | ⟨h1, h2, h3⟩ | ⟨h1, h2, h3⟩ | ⟨h1, h2, h3⟩
  · have := W1 jc h1
    rw [show 0 + 1 + jc = A by omega] at this
    exact this
  · have := W6 (jc - 5) (hn.1 h1 h2)
    rw [show 0 + 7 + (jc - 5) = A by omega, show 5 + (jc - 5) = jc by omega] at this
    exact this
  · have := W7 ((jc - 11) / 5) (hn.2.1 h1 h2) ((jc - 11) % 5) (by omega)
    unfold tT at this
    rw [show 0 + 14 + 5 * ((jc - 11) / 5) + (jc - 11) % 5 = A by omega, show 11 + 5 * ((jc - 11) / 5) + (jc - 11) % 5 = jc by omega] at this
    exact this
  · have := W8 ((jc - 51) / 4) (hn.2.2 h1) ((jc - 51) % 4) (by omega)
    unfold tL at this
    rw [show 0 + 55 + 4 * ((jc - 51) / 4) + (jc - 51) % 4 = A by omega, show 51 + 4 * ((jc - 51) / 4) + (jc - 51) % 4 = jc by omega] at this
    exact this
/-- a cell is changed, what was is kept -/
theorem edit (h : Inv σ) (V : Val sh) (R : RC (σ 14) sh) (M : MR σ sh) {jc A : Nat} (hr : rel jc A) {v : Int} (hv : okv jc v) (hn : (5 ≤ jc → jc < 11 → ((jc - 5 : Nat) : Int) < sh 75) ∧ (11 ≤ jc → jc < 51 → (((jc - 11) / 5 : Nat) : Int) < sh 76) ∧ (51 ≤ jc → (((jc - 51) / 4 : Nat) : Int) < sh 77)) :
    ∃ τ, f_X4_keep σ = some τ ∧ τ 14 = σ 14 ∧ MR (g_u2 τ 14 jc (iI v)) sh ∧ ∃ τ2, f_X11_acts (g_u2 τ 14 jc (iI v)) (iI A) (iI v) = some (iI (sh jc), τ2) ∧ Inv τ2 := by
  obtain ⟨hT, hf, hs, hi, ⟨nx, sz, n1, n2, n3, n4, n5, n6⟩, hc⟩ := id h
  obtain ⟨τ, c1, c2, c3, c4, c5, c6⟩ := c_keep (σ := σ) n1 n2 n3 n4
  have hA : A < 79 ∧ jc < 75 := by unfold rel at hr; omega
  obtain ⟨X, hX⟩ : ∃ X, X = g_u2 τ 14 jc (iI v) := ⟨_, rfl⟩
  have kX : ∀ c, c ≠ 4 → c ≠ 14 → c ≠ 18 → X c = σ c := fun c h1 h2 h3 => by rw [hX, g_u2_n1 h2, c2 c h1 h3]
  have M1 : MR X sh := by unfold MR; rw [kX 27 (by decide) (by decide) (by decide), kX 30 (by decide) (by decide) (by decide), kX 31 (by decide) (by decide) (by decide)]; exact M
  obtain ⟨τ1, d1, d2, d3, d4, d5, d6, d7⟩ := m_minds (σ := X) n2 (by rw [kX 26 (by decide) (by decide) (by decide)]; exact n5)
  refine ⟨τ, c1, c2 14 (by decide) (by decide), by rw [← hX]; exact M1, g_u2 τ1 27 A (iI v), ?_, ?_⟩
  · rw [← hX]
    unfold f_X11_acts
    have gd : 0 ≤ (iI (A : Int)).toInt ∧ (iI (A : Int)).toInt < 1817 := by rw [iI_toInt (by omega) (by omega)]; omega
    have cl : (iI (A : Int)).toNatClampNeg = A := by rw [iI_clamp (by omega) (by omega), Int.toNat_natCast]
    rw [if_pos gd, obs, d1, obs, if_pos gd, obs, cl, RM_cell V M1.1 hr hn]
  · have k : ∀ c, c ≠ 4 → c ≠ 14 → c ≠ 18 → c ≠ 26 → c ≠ 27 → g_u2 τ1 27 A (iI v) c = σ c := fun c h1 h2 h3 h4 h5 => by rw [g_u2_n1 h5, d2 c h4 h5, kX c h1 h2 h3]
    have k26 : ∀ j, j ≠ 2 → g_u2 τ1 27 A (iI v) 26 j = σ 26 j := fun j hj => by rw [g_u2_n1 (by decide), d3 j hj, kX 26 (by decide) (by decide) (by decide)]
    have k27 : ∀ j, 79 ≤ j → j < 237 → g_u2 τ1 27 A (iI v) 27 j = σ 27 j := fun j h1 h2 => by rw [g_u2_n2 (by omega), d5 j h2, kX 27 (by decide) (by decide) (by decide)]
    have hSH : SH (g_u2 τ1 27 A (iI v) 14) (g_u2 τ1 27 A (iI v) 27) 0 := by
      refine ⟨fu sh jc v, Val_edit V hv, fun j hj => ?_, RM_edit V M.1 hr (fun i hi hne => ?_) (g_u2_e _ _ _ _)⟩
      · rw [g_u2_n1 (by decide), d2 14 (by decide) (by decide), hX]
        by_cases e : j = jc
        · rw [e, g_u2_e, fu_e]
        · rw [g_u2_n2 e, fu_n e, c2 14 (by decide) (by decide)]; exact R j hj
      · rw [g_u2_n2 hne, d5 i (by omega), kX 27 (by decide) (by decide) (by decide)]
    refine ⟨?_, ?_, Or.inr hSH, ⟨?_, ?_⟩, ?_, ?_⟩
    · unfold IvT
      rw [k 1 (by decide) (by decide) (by decide) (by decide) (by decide), k26 4 (by decide), k 13 (by decide) (by decide) (by decide) (by decide) (by decide), k 29 (by decide) (by decide) (by decide) (by decide) (by decide)]; exact hT
    · rw [k26 5 (by decide), k 0 (by decide) (by decide) (by decide) (by decide) (by decide)]; exact hf
    · rw [k 15 (by decide) (by decide) (by decide) (by decide) (by decide), k 28 (by decide) (by decide) (by decide) (by decide) (by decide)]
      rcases hi.1 with i | i
      · exact Or.inl i
      · exact Or.inr ⟨i.1, SH_w i.2 (fun j hj => k27 _ (by omega) (by omega))⟩
    · rw [k 16 (by decide) (by decide) (by decide) (by decide) (by decide), k 28 (by decide) (by decide) (by decide) (by decide) (by decide)]
      rcases hi.2 with i | i
      · exact Or.inl i
      · exact Or.inr ⟨i.1, SH_w i.2 (fun j hj => k27 _ (by omega) (by omega))⟩
    · have x27 : X 27 = σ 27 := kX 27 (by decide) (by decide) (by decide)
      rw [x27] at d6 d7
      have x4 : g_u2 τ1 27 A (iI v) 4 = τ 4 := by rw [g_u2_n1 (by decide), d2 4 (by decide) (by decide), hX, g_u2_n1 (by decide)]
      have x18 : g_u2 τ1 27 A (iI v) 18 = τ 18 := by rw [g_u2_n1 (by decide), d2 18 (by decide) (by decide), hX, g_u2_n1 (by decide)]
      refine IvH_push n1 n2 n6 ⟨sh, V, R, M.1⟩ (by rw [x4]; exact c3) (by rw [x4]; exact c4) (by rw [x18]; exact c5) (by rw [x18]; exact c6) (by rw [g_u2_n1 (by decide)]; exact d4) (fun i j hi hj => ?_) (fun j hj => ?_)
      · rw [g_u2_n2 (by omega)]; exact d6 i j hi hj
      · rw [g_u2_n2 (by omega)]; exact d7 j hj
    · unfold IvC
      rw [k 30 (by decide) (by decide) (by decide) (by decide) (by decide), k 31 (by decide) (by decide) (by decide) (by decide) (by decide), k26 13 (by decide)]; exact hc
end ED
