section CT
variable {σ τ : St} {sh : Nat → Int}
/-- how many of the first n things are marks -/
def mkF (sh : Nat → Int) : Nat → Int
  | 0 => 0
  | n + 1 => if isMk sh n = true then mkF sh n + 1 else mkF sh n
theorem mkF_e (sh : Nat → Int) : ∀ n : Nat, (sh 76).toNat ≤ n → mkF sh n = mkF sh (sh 76).toNat := by
  intro n
  induction n with
  | zero => intro h; rw [show (sh 76).toNat = 0 by omega]
  | succ n ih =>
    intro h
    by_cases e : (sh 76).toNat = n + 1
    · rw [e]
    · have : isMk sh n = false := by
        unfold isMk
        rw [decide_eq_false (p := (n : Int) < sh 76) (by omega), Bool.and_false, Bool.false_and]
      rw [show mkF sh (n + 1) = if isMk sh n = true then mkF sh n + 1 else mkF sh n from rfl, this, if_neg (by decide), ih (by omega)]
theorem c_marks (R : RC (σ 14) sh) (V : Val sh) : ∀ (d k f : Nat), k + d = 8 → d < f → fx (F_X6_markCount_h4 14) z_X6_markCount_h4 f σ (iI (mkF sh k)) (iI k) = some (iI (mkF sh 8), σ) := by
  intro d
  induction d with
  | zero =>
    intro k f h1 h2
    obtain ⟨f, rfl⟩ : ∃ j, f = j + 1 := ⟨f - 1, by omega⟩
    obtain rfl : k = 8 := by omega
    rw [fx_s]
    generalize fx (F_X6_markCount_h4 14) z_X6_markCount_h4 f = K
    exact if_pos (by decide)
  | succ d ih =>
    intro k f h1 h2
    obtain ⟨f, rfl⟩ : ∃ j, f = j + 1 := ⟨f - 1, by omega⟩
    have i1 := ih (k + 1) f (by omega) (by omega)
    rw [fx_s]
    generalize fx (F_X6_markCount_h4 14) z_X6_markCount_h4 f = K at *
    unfold F_X6_markCount_h4 f_X6_markCount_p21
    rw [if_neg (show ¬ (8 : Int32) ≤ iI (k : Int) by rw [show (8 : Int32) = iI 8 by decide, iI_le (by omega) (by omega) (by omega) (by omega)]; omega), q_isMark R V rfl (by omega) (by omega), obs]
    rw [show mkF sh (k + 1) = if isMk sh k = true then mkF sh k + 1 else mkF sh k from rfl, show ((k + 1 : Nat) : Int) = (k : Int) + 1 by omega] at i1
    simp only [obs, show (1 : Int32) = iI 1 by decide, iI_add]
    cases hm : isMk sh k
    · rw [hm, if_neg (by decide)] at i1
      exact (if_pos (show bI false = 0 by decide)).trans i1
    · rw [hm, if_pos rfl] at i1
      exact (if_neg (show ¬ bI true = 0 by decide)).trans i1
theorem r_marks (M : MR σ sh) (V : Val sh) : ∀ (d k f : Nat), (k : Int) + d = sh 76 → d < f → fx F_X11_marks_h4 z_X11_marks_h4 f σ (iI (mkF sh k)) (iI k) = some (iI (mkF sh (sh 76).toNat), σ) := by
  have h8 := V.2.2.1
  intro d
  induction d with
  | zero =>
    intro k f h1 h2
    obtain ⟨f, rfl⟩ : ∃ j, f = j + 1 := ⟨f - 1, by omega⟩
    have e : k = (sh 76).toNat := by omega
    rw [fx_s]
    generalize fx F_X11_marks_h4 z_X11_marks_h4 f = K
    unfold F_X11_marks_h4
    rw [M.c76, if_pos ((iI_le (by omega) (by omega) (by omega) (by omega)).mpr (by omega)), e]
  | succ d ih =>
    intro k f h1 h2
    obtain ⟨f, rfl⟩ : ∃ j, f = j + 1 := ⟨f - 1, by omega⟩
    have i1 := ih (k + 1) f (by omega) (by omega)
    rw [fx_s]
    generalize fx F_X11_marks_h4 z_X11_marks_h4 f = K at *
    unfold F_X11_marks_h4 f_X11_marks_p29
    rw [M.c76, if_neg (show ¬ iI (sh 76) ≤ iI (k : Int) by rw [iI_le (by omega) (by omega) (by omega) (by omega)]; omega), m_isMark M V (by omega) (by omega), obs]
    rw [show mkF sh (k + 1) = if isMk sh k = true then mkF sh k + 1 else mkF sh k from rfl, show ((k + 1 : Nat) : Int) = (k : Int) + 1 by omega] at i1
    simp only [obs, show (1 : Int32) = iI 1 by decide, show (0 : Int32) = iI 0 by decide, iI_add]
    cases hm : isMk sh k
    · rw [hm, if_neg (by decide)] at i1
      rw [show mkF sh k + 0 = mkF sh k by omega]
      exact (if_pos (show bI false = iI 0 by decide)).trans i1
    · rw [hm, if_pos rfl] at i1
      exact (if_neg (show ¬ bI true = iI 0 by decide)).trans i1
theorem u_marks (u : Un σ) : ∀ (d k f : Nat), k + d = 8 → d < f → fx (F_X6_markCount_h4 14) z_X6_markCount_h4 f σ (iI 0) (iI k) = some (iI 0, σ) := by
  intro d
  induction d with
  | zero =>
    intro k f h1 h2
    obtain ⟨f, rfl⟩ : ∃ j, f = j + 1 := ⟨f - 1, by omega⟩
    obtain rfl : k = 8 := by omega
    rw [fx_s]
    generalize fx (F_X6_markCount_h4 14) z_X6_markCount_h4 f = K
    exact if_pos (by decide)
  | succ d ih =>
    intro k f h1 h2
    obtain ⟨f, rfl⟩ : ∃ j, f = j + 1 := ⟨f - 1, by omega⟩
    have i1 := ih (k + 1) f (by omega) (by omega)
    rw [fx_s]
    generalize fx (F_X6_markCount_h4 14) z_X6_markCount_h4 f = K at *
    have im : f_X6_isMark 14 σ (iI k) = some (iI 0, σ) := by
      unfold f_X6_isMark
      rw [hasThing_u u, obs]
      exact if_pos (show iI 0 = 0 by decide)
    unfold F_X6_markCount_h4 f_X6_markCount_p21
    rw [if_neg (show ¬ (8 : Int32) ≤ iI (k : Int) by rw [show (8 : Int32) = iI 8 by decide, iI_le (by omega) (by omega) (by omega) (by omega)]; omega), im, obs]
    refine (if_pos (show iI 0 = 0 by decide)).trans ?_
    rw [obs, show (1 : Int32) = iI 1 by decide, iI_add]
    exact i1
theorem p_count : P_count Inv := by
  intro σ a1 h
  obtain ⟨⟨n, hn, t1, t2, t3⟩, hf, hs, hi, ⟨nx, sz, n1, n2, n3, n4, n5, n6⟩, hc⟩ := id h
  -- things, marks, legs, heights of both
  obtain ⟨A, B, hA1, hA2, hB1, hB2, hC, hD⟩ : ∃ A B : Int32, σ 14 76 = A ∧ σ 27 13 = A ∧ f_X6_markCount 14 σ = some (B, σ) ∧ f_X11_marks σ = some (B, σ) ∧ σ 14 77 = σ 27 54 ∧ σ 14 75 = σ 27 6 := by
    rcases iv_sheet h with u | ⟨sh, V, R, M⟩
    · refine ⟨iI 0, iI 0, u.2.1, u.2.2.2.2.2.1, u_marks u 8 0 FU (by omega) (by rw [FU_val]; omega), ?_, by rw [u.2.2.1, u.2.2.2.2.2.2], by rw [u.1, u.2.2.2.2.1]⟩
      obtain ⟨f, hf⟩ : ∃ f, FU = f + 1 := ⟨FU - 1, by rw [FU_val]⟩
      unfold f_X11_marks
      rw [hf, fx_s]
      generalize fx F_X11_marks_h4 z_X11_marks_h4 f = K
      unfold F_X11_marks_h4
      rw [u.2.2.2.2.2.1]
      exact if_pos (by decide)
    · have h8 := V.2.2.1
      refine ⟨iI (sh 76), iI (mkF sh (sh 76).toNat), R 76 (by decide), M.c76, ?_, r_marks M V (sh 76).toNat 0 FU (by omega) (by rw [FU_val]; omega), by rw [R 77 (by decide), M.c77], by rw [R 75 (by decide), M.c75]⟩
      rw [← mkF_e sh 8 (by omega)]
      exact c_marks R V 8 0 FU (by omega) (by rw [FU_val]; omega)
  have sx : f_X10_count σ a1 = if a1 = 0 then some (A, σ) else if a1 = 1 then some (B, σ) else if a1 = 2 then some (A - B, σ) else if a1 = 3 then some (σ 14 77, σ) else if a1 = 4 then some (σ 14 75, σ) else if a1 = 5 then some (σ 4 2, σ) else if a1 = 6 then some (σ 1 1, σ) else some (-1000001, σ) := by
    unfold f_X10_count f_X6_thingCount f_X6_legCount f_X6_heightCount f_X4_size f_X7_size
    simp only [obs, hA1, hB1]
  have sm : f_X11_count σ a1 = if a1 = 0 then some (A, σ) else if a1 = 1 then some (B, σ) else if a1 = 2 then some (A - B, σ) else if a1 = 3 then some (σ 14 77, σ) else if a1 = 4 then some (σ 14 75, σ) else if a1 = 5 then some (σ 4 2, σ) else if a1 = 6 then some (σ 1 1, σ) else some (-1000001, σ) := by
    unfold f_X11_count
    simp only [obs, hA2, hB2, hC, hD, n4, n5, t1, t2]
  have all : ∃ v, f_X10_count σ a1 = some (v, σ) ∧ f_X11_count σ a1 = some (v, σ) := by
    rw [sx, sm]
    repeat (split; exact ⟨_, rfl, rfl⟩)
    exact ⟨_, rfl, rfl⟩
  obtain ⟨v, v1, v2⟩ := all
  exact ⟨(v, σ), (v, σ), v1, v2, rfl, h⟩
end CT
