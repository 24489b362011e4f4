section MT
variable {σ τ : St} {sh : Nat → Int}
/-- the rows of a leg's minutes, one further -/
theorem RV_next {g : Nat} {lm : Nat → Int} {i dn : Int} {ca : List (Int × Int)} {s : VS} (h : RV τ σ g lm i dn ca s) : ∃ i2, RV τ σ (g + 1) (fu lm g i) i2 dn ca s := by
  obtain ⟨hF, hJ, hA, hC, hT, hL, hG⟩ := h
  obtain ⟨z, hz, -⟩ := iI_ex (τ 36 (g + 1))
  refine ⟨z, hF, hJ, hA, hC, hT, fun j hj => ?_, hz⟩
  by_cases e : j = g
  · rw [e, fu_e]; exact hG
  · rw [fu_n e]; exact hL j (by omega)
theorem RV_zero {g : Nat} {lm : Nat → Int} {i dn : Int} {ca : List (Int × Int)} {s : VS} (h : RV τ σ g lm i dn ca s) : RV (g_u2 τ 36 g (iI 0)) σ g lm 0 dn ca s := by
  obtain ⟨hF, hJ, hA, hC, hT, hL, hG⟩ := h
  refine ⟨fun k k1 k2 k3 k4 k5 k6 k7 => ?_, fun j hj => ?_, ?_, ?_, fun j hj => ?_, fun j hj => ?_, g_u2_e _ _ _ _⟩
  · rw [g_u2_n1 k5, hF k k1 k2 k3 k4 k5 k6 k7]
  · rw [g_u2_n1 (by decide), hJ j hj]
  · rw [g_u2_n1 (by decide)]; exact hA
  · rw [g_u2_n1 (by decide), g_u2_n1 (by decide), g_u2_n1 (by decide)]; exact hC
  · rw [g_u2_n1 (by decide), g_u2_n1 (by decide), g_u2_n1 (by decide)]; exact hT j hj
  · rw [g_u2_n2 (by omega)]; exact hL j hj
/-- how many legs were begun -/
def bgN (q : VQ) : Nat := if q.2.2.1 = 1 then q.2.1 else q.2.1 + 1
theorem h66_end (M : MR σ sh) (V : Val sh) {g : Nat} {lm : Nat → Int} {i dn : Int} {ca : List (Int × Int)} {s : VS} (h : RV τ σ g lm i dn ca s) (hl : 0 < ca.length) (hl4 : ca.length ≤ 4) (K : St → Int32 → Int32 → Int32 → Option St) (x1 x2 x3 : Int32) : F_X11_sails_h66 K τ x1 x2 x3 = f_X11_sails_p258 τ := by
  unfold F_X11_sails_h66
  rw [h.2.2.2.1.1]
  rw [if_neg (show ¬ iI (ca.length : Int) = 0 by rw [show (0 : Int32) = iI 0 by decide, iI_eq (by omega) (by omega) (by omega) (by omega)]; omega)]
  split <;> rfl
theorem caL_l {t dr : Int} {o : Nat → Bool} {e : Int} (he : e = 3 ∨ e = 4 ∨ e = 5 ∨ e = 9) (g : Nat) (s : VS) : 0 < (caL sh t dr o e g s).length ∧ (caL sh t dr o e g s).length ≤ 4 := by
  unfold caL odL
  rcases he with h | h | h | h
  · rw [if_pos h]; exact ⟨by show 0 < 3; decide, by show 3 ≤ 4; decide⟩
  · rw [if_neg (by omega), if_pos h]; exact ⟨by show 0 < 4; decide, by show 4 ≤ 4; decide⟩
  · rw [if_neg (by omega), if_neg (by omega), if_pos h, List.length_append]
    have : ∀ l : List (Int × Int), l.length ≤ 1 → 0 < [((1 : Int), (g : Int)), (2, (s.1 : Int)), (5, tL sh g 1)].length + l.length ∧ [((1 : Int), (g : Int)), (2, (s.1 : Int)), (5, tL sh g 1)].length + l.length ≤ 4 := by
      intro l hl
      show 0 < 3 + l.length ∧ 3 + l.length ≤ 4
      omega
    apply this
    split
    · split <;> simp
    · split
      · split
        · simp
        · split <;> simp
      · simp
  · rw [if_neg (by omega), if_neg (by omega), if_neg (by omega), if_pos h]; exact ⟨by show 0 < 2; decide, by show 2 ≤ 4; decide⟩
theorem m_legs (M : MR σ sh) (V : Val sh) {o : Nat → Bool} (hO : OutB (σ 26 13) o) {t dr : Int} (ht : 0 ≤ t ∧ t ≤ 99) (hdr : 0 ≤ dr ∧ dr ≤ 20) :
    ∀ (n fu g : Nat) (s : VS) (lm : Nat → Int) (i : Int) (τ : St), n < fu → (g : Int) + n = sh 77 → VI s → VP s → s.1 ≤ 60 * g → RV τ σ g lm i g [] s →
    ∀ q, q = vlegs sh (fun g => tL sh g 0) t dr o n g s lm →
    ∃ τ' i', fx F_X11_sails_h66 z_X11_sails_h66 fu τ (iI t) (iI dr) (iI g) = f_X11_sails_p258 τ' ∧ RV τ' σ (bgN q) q.2.2.2 i' q.2.1 (if q.2.2.1 = 1 then [] else caL sh t dr o q.2.2.1 q.2.1 q.1) q.1 := by
  have h6 := V.1
  intro n
  induction n with
  | zero =>
    intro fu g s lm i τ hn hg hI hP hm h q hq
    obtain ⟨fu, rfl⟩ : ∃ k, fu = k + 1 := ⟨fu - 1, by omega⟩
    refine ⟨τ, i, ?_, ?_⟩
    · rw [fx_s]
      generalize fx F_X11_sails_h66 z_X11_sails_h66 fu = K
      unfold F_X11_sails_h66
      rw [(h.mr M).c77, if_pos ((iI_le (by omega) (by omega) (by omega) (by omega)).mpr (by omega))]
    · rw [hq]
      unfold vlegs bgN
      exact h
  | succ n ih =>
    intro fu g s lm i τ hn hg hI hP hm h q hq
    obtain ⟨fu, rfl⟩ : ∃ k, fu = k + 1 := ⟨fu - 1, by omega⟩
    have hg1 : (g : Int) < sh 77 := by omega
    have h0 := RV_zero h
    have gdg : 0 ≤ (iI (g : Int)).toInt ∧ (iI (g : Int)).toInt < 6 := by rw [iI_toInt (by omega) (by omega)]; omega
    have clg : (iI (g : Int)).toNatClampNeg = g := by rw [iI_clamp (by omega) (by omega), Int.toNat_natCast]
    have mi := m_mistaken (h0.mr M) V hg1
    have mb : -1000000 ≤ mistZ sh g ∧ mistZ sh g ≤ 100 := by
      obtain ⟨-, ⟨u1, u2⟩, u3, u4, u5, u6, u7⟩ := V.2.2.2.2.2.2.2 g hg1
      unfold mistZ
      split
      · omega
      · have ua := u5 (by omega) (by omega)
        split
        · omega
        · split
          · omega
          · split
            · have := u6 (by omega); omega
            · omega
    have hP' := hP
    unfold VP at hP'
    rw [fx_s]
    have first : ∀ K, F_X11_sails_h66 K τ (iI t) (iI dr) (iI g) = if mistZ sh g = -1000000 then fx (F_X11_sails_h139 K) z_X11_sails_h139 FU (g_u2 τ 36 g (iI 0)) (iI t) (iI dr) (iI g) (iI s.1) (iI 1) else (Option.bind (f_X11_by (g_u2 τ 36 g (iI 0)) (iI 1) (iI g)) fun q127 => Option.bind (f_X11_by q127 (iI 9) (iI (mistZ sh g))) fun q129 => fx (F_X11_sails_h139 K) z_X11_sails_h139 FU q129 (iI t) (iI dr) (iI g) (q129 26 18) (iI 0)) := by
      intro K
      unfold F_X11_sails_h66 f_X11_sails_p119 f_X11_sails_p137
      generalize fx (F_X11_sails_h139 K) z_X11_sails_h139 FU = K2
      simp only [iI_lit, iI_neg]
      rw [(h.mr M).c77, h.2.2.2.1.1]
      rw [if_neg (show ¬ iI (sh 77) ≤ iI g by rw [iI_le (by omega) (by omega) (by omega) (by omega)]; omega), if_pos (show iI (([] : List (Int × Int)).length : Int) = iI 0 from rfl), if_pos gdg, obs, clg, mi, obs]
      simp only [obs, h0.2.2.1.1]
      by_cases p : mistZ sh g = -1000000
      · rw [if_pos p, p, if_pos rfl, if_pos rfl]
      · have p' : ¬ iI (mistZ sh g) = iI (-1000000) := by rw [iI_eq (by omega) (by omega) (by omega) (by omega)]; exact p
        simp only [if_neg p, if_neg p']
    rw [first]
    unfold vlegs at hq
    by_cases p : mistZ sh g = -1000000
    · rw [if_pos p] at hq ⊢
      obtain ⟨v, hv⟩ : ∃ v, v = vleg sh t dr o g (tL sh g 0) s.1 (wasZ sh o g (s.2.1 s.1) (s.2.2.1 s.1) (tideZ sh (t + s.1))) (lwZ sh g (s.2.1 s.1) (s.2.2.1 s.1) (tideZ sh (t + s.1))) 60 s := ⟨_, rfl⟩
      have vp := vleg_p V ht hdr (o := o) (g := g) (c := tL sh g 0) (f := s.1) (was := wasZ sh o g (s.2.1 s.1) (s.2.2.1 s.1) (tideZ sh (t + s.1))) (l0 := lwZ sh g (s.2.1 s.1) (s.2.2.1 s.1) (tideZ sh (t + s.1))) 60 s hI hP (by omega)
      obtain ⟨τ1, r1, r2⟩ := m_leg M V hO ht hdr hg1 p (lm := lm) (f := s.1) (by omega) (x0 := s.2.1 s.1) (y0 := s.2.2.1 s.1) (by omega) (fx F_X11_sails_h66 z_X11_sails_h66 fu) 59 FU s (g_u2 τ 36 g (iI 0)) (by rw [FU_val]; omega) hI hP (Nat.le_refl _) (by omega) rfl rfl (by rw [Nat.sub_self]; exact h0)
      simp only [show 59 + 1 = 60 from rfl] at r2
      rw [← hv] at r2 vp
      simp only [← hv] at hq
      rw [r1]
      obtain ⟨i2, r3⟩ := RV_next r2
      by_cases e : v.2 = 1
      · rw [if_pos e] at hq
        rw [if_pos e, if_pos e] at r3
        exact ih fu (g + 1) v.1 _ i2 τ1 (by omega) (by omega) vp.1 (vp.2.2.1 e) (by omega) r3 q hq
      · rw [if_neg e] at hq
        rw [if_neg e, if_neg e] at r3
        obtain ⟨fu, rfl⟩ : ∃ k, fu = k + 1 := ⟨fu - 1, by omega⟩
        refine ⟨τ1, i2, ?_, ?_⟩
        · rw [fx_s]
          have cl := caL_l (sh := sh) (t := t) (dr := dr) (o := o) (e := v.2) (by omega) g v.1
          exact h66_end M V r3 cl.1 cl.2 _ _ _ _
        · subst hq
          unfold bgN
          rw [if_neg e, if_neg e]
          exact r3
    · rw [if_neg p] at hq ⊢
      obtain ⟨τ1, a1, a2⟩ := m_by h0 (by decide) 1 g
      obtain ⟨τ2, b1, b2⟩ := m_by a2 (show 1 < 4 by decide) 9 (mistZ sh g)
      obtain ⟨i2, r3⟩ := RV_next b2
      obtain ⟨fv, hfv⟩ : ∃ f, FU = f + 1 := ⟨FU - 1, by rw [FU_val]⟩
      obtain ⟨fu, rfl⟩ : ∃ k, fu = k + 1 := ⟨fu - 1, by omega⟩
      refine ⟨τ2, i2, ?_, ?_⟩
      · rw [a1, obs, b1, obs, hfv, fx_s]
        generalize fx (F_X11_sails_h139 (fx F_X11_sails_h66 z_X11_sails_h66 (fu + 1))) z_X11_sails_h139 fv = K
        unfold F_X11_sails_h139
        rw [if_pos (show iI 0 = 0 by decide), obs, fx_s]
        exact h66_end M V r3 (show 0 < 2 by decide) (show 2 ≤ 4 by decide) _ _ _ _
      · subst hq
        exact r3
theorem m_square (a b : Int) : f_X11_square τ (iI a) (iI b) = some (iI (a * a + b * b), τ) := by
  unfold f_X11_square
  simp only [iI_mul, iI_add]
/-- the reference's voyage, made -/
def RF (τ σ : St) (sh : Nat → Int) (t dr : Int) (o : Nat → Bool) (q : VQ) : Prop :=
  ∃ (τ0 : St) (i : Int), RV τ0 σ (bgN q) q.2.2.2 i q.2.1 (caL sh t dr o q.2.2.1 q.2.1 q.1) q.1 ∧ τ = g_u2 τ0 26 20 (bI (decide (enZ sh q = 0)))
theorem m_end (M : MR σ sh) (V : Val sh) {o : Nat → Bool} {t dr : Int} {q : VQ} {i : Int} (h : RV τ σ (bgN q) q.2.2.2 i q.2.1 (if q.2.2.1 = 1 then [] else caL sh t dr o q.2.2.1 q.2.1 q.1) q.1) (hs : q.1.1 ≤ 360) (hP : q.2.2.1 = 1 → VP q.1) (he : q.2.2.1 = 1 ∨ (q.2.2.1 = 3 ∨ q.2.2.1 = 4 ∨ q.2.2.1 = 5 ∨ q.2.2.1 = 9)) :
    ∃ τ', f_X11_sails_p258 τ = some τ' ∧ RF τ' σ sh t dr o q := by
  have M1 := h.mr M
  have k18 := h.2.2.1.1
  have k23 := h.2.2.2.1.1
  have rT := h.2.2.2.2.1 q.1.1 (Nat.le_refl _)
  have gd : 0 ≤ (iI (q.1.1 : Int)).toInt ∧ (iI (q.1.1 : Int)).toInt < 361 := by rw [iI_toInt (by omega) (by omega)]; omega
  have cl : (iI (q.1.1 : Int)).toNatClampNeg = q.1.1 := by rw [iI_clamp (by omega) (by omega), Int.toNat_natCast]
  have w4 : τ 27 4 = iI (sh 3) := M1.ship 3 (by decide)
  have w5 : τ 27 5 = iI (sh 4) := M1.ship 4 (by decide)
  have start : f_X11_sails_p258 τ = if τ 26 23 = iI 0 then (if iI (hbZ sh q.1) ≤ iI 9 then f_X11_sails_p326 τ else (Option.bind (f_X11_by τ (iI 1) (τ 27 54)) fun q84 => Option.bind (f_X11_by q84 (iI 10) (iI (hbZ sh q.1))) fun q86 => f_X11_sails_p326 q86)) else f_X11_sails_p326 τ := by
    unfold f_X11_sails_p258
    simp only [iI_lit, k18]
    rw [if_pos gd, if_pos gd, cl, rT.1, rT.2.1, w4, w5, iI_sub, iI_sub, m_square, obs]
    rfl
  have p326 : ∀ (τ1 : St) (b : Bool), (τ1 26 23 = iI 0 ↔ b = true) → f_X11_sails_p326 τ1 = some (g_u2 τ1 26 20 (bI b)) := by
    intro τ1 b hb
    unfold f_X11_sails_p326 f_X11_sails_p339
    simp only [iI_lit, obs]
    cases b
    · rw [if_neg (fun h => absurd (hb.mp h) (by decide)), if_pos (Or.inl trivial)]; rfl
    · rw [if_pos (hb.mpr rfl), if_pos (Or.inr trivial)]; rfl
  unfold RF
  by_cases e : q.2.2.1 = 1
  · rw [if_pos e] at h k23
    have hb := hb_b V (hP e)
    have k0 : τ 26 23 = iI 0 := k23
    have ce : caL sh t dr o q.2.2.1 q.2.1 q.1 = if hbZ sh q.1 ≤ 9 then [] else [(1, sh 77), (10, hbZ sh q.1)] := by
      unfold caL
      rw [if_neg (by omega), if_neg (by omega), if_neg (by omega), if_neg (by omega)]
    have ee : enZ sh q = if hbZ sh q.1 ≤ 9 then 0 else 10 := by unfold enZ; rw [if_pos e]
    rw [start, if_pos k0, ce, ee]
    by_cases p : hbZ sh q.1 ≤ 9
    · rw [if_pos ((iI_le (by omega) (by omega) (by omega) (by omega)).mpr p), if_pos p, if_pos p]
      refine ⟨_, p326 τ true (by rw [k0]; decide), τ, i, h, rfl⟩
    · obtain ⟨τ1, a1, a2⟩ := m_by h (by decide) 1 (sh 77)
      obtain ⟨τ2, b1, b2⟩ := m_by a2 (show 1 < 4 by decide) 10 (hbZ sh q.1)
      rw [if_neg (fun h => p ((iI_le (by omega) (by omega) (by omega) (by omega)).mp h)), if_neg p, if_neg p, M1.c77, a1, obs, b1, obs]
      refine ⟨_, p326 τ2 false ?_, τ2, i, b2, rfl⟩
      have : τ2 26 23 = iI 2 := b2.2.2.2.1.1
      rw [this]
      decide
  · rw [if_neg e] at h k23
    have he' := he.resolve_left e
    have cl := caL_l (sh := sh) (t := t) (dr := dr) (o := o) he' q.2.1 q.1
    have k0 : ¬ τ 26 23 = iI 0 := by rw [k23, iI_eq (by omega) (by omega) (by omega) (by omega)]; omega
    have ee : decide (enZ sh q = 0) = false := by unfold enZ; rw [if_neg e]; exact decide_eq_false (by omega)
    rw [start, if_neg k0, ee]
    exact ⟨_, p326 τ false ⟨fun h => absurd h k0, fun h => absurd h (by decide)⟩, τ, i, h, rfl⟩
/-- the reference's voyage -/
theorem m_sails (M : MR σ sh) (V : Val sh) {o : Nat → Bool} (hO : OutB (σ 26 13) o) {t dr : Int} (ht : 0 ≤ t ∧ t ≤ 99) (hdr : 0 ≤ dr ∧ dr ≤ 20) : ∃ τ', f_X11_sails σ (iI t) (iI dr) = some τ' ∧ RF τ' σ sh t dr o (voy sh (fun g => tL sh g 0) t dr o) := by
  have h6 := V.1
  have z := vs0_p V
  obtain ⟨T, hTe⟩ : ∃ T, T = g_u2 (g_u2 (g_u2 (g_u2 (g_u2 (g_u2 (g_u2 (g_u2 (g_u2 σ 26 18 (iI 0)) 26 19 (iI 0)) 26 20 (iI 0)) 26 21 (iI (-1000000))) 26 22 (iI (-1000000))) 26 23 (iI 0)) 33 0 (iI (sh 1))) 34 0 (iI (sh 2))) 35 0 (iI (-1000000)) := ⟨_, rfl⟩
  have w2 : σ 27 2 = iI (sh 1) := M.ship 1 (by decide)
  have w3 : σ 27 3 = iI (sh 2) := M.ship 2 (by decide)
  have start : f_X11_sails σ (iI t) (iI dr) = fx F_X11_sails_h66 z_X11_sails_h66 FU T (iI t) (iI dr) (iI ((0 : Nat) : Int)) := by
    unfold f_X11_sails
    generalize fx F_X11_sails_h66 z_X11_sails_h66 FU = K
    simp only [obs, iI_lit, iI_neg]
    simp (disch := omega) only [g_u2_n1, w2, w3]
    rw [hTe]
    rfl
  obtain ⟨i, hi, -⟩ := iI_ex (T 36 0)
  have hR : RV T σ 0 (fun _ => 0) i 0 [] (vs0 sh) := by
    refine ⟨fun k k1 k2 k3 k4 k5 k6 k7 => ?_, fun j hj => ?_, ?_, ⟨?_, fun j hj => absurd hj (by show ¬ j < 0; omega)⟩, fun j hj => ?_, fun j hj => absurd hj (by omega), hi⟩
    · rw [hTe, g_u2_n1 k4, g_u2_n1 k3, g_u2_n1 k2]; simp only [g_u2_n1 k1]
    · rw [hTe]; simp (disch := omega) only [g_u2_n1, g_u2_n2]
    · rw [hTe]; unfold vs0; simp (disch := omega) only [g_u2_n1, g_u2_n2, g_u2_e]; refine ⟨?_, ?_, ?_, ?_, ?_⟩ <;> first | rfl | trivial
    · rw [hTe]; simp (disch := omega) only [g_u2_n1, g_u2_n2, g_u2_e]; rfl
    · have : j = 0 := by unfold vs0 at hj; simp only at hj; omega
      subst this
      rw [hTe]
      unfold vs0
      simp (disch := omega) only [g_u2_n1, g_u2_n2, g_u2_e]
      exact ⟨trivial, trivial, trivial⟩
  obtain ⟨q, hq⟩ : ∃ q, q = vlegs sh (fun g => tL sh g 0) t dr o (sh 77).toNat 0 (vs0 sh) (fun _ => 0) := ⟨_, rfl⟩
  have vp := vlegs_p V (cf := fun g => tL sh g 0) ht hdr (o := o) (sh 77).toNat 0 (vs0 sh) (fun _ => 0) (by omega) z.1 z.2.1 (by omega)
  rw [← hq] at vp
  obtain ⟨τ', i', r1, r2⟩ := m_legs M V hO ht hdr (sh 77).toNat FU 0 (vs0 sh) (fun _ => 0) i T (by rw [FU_val]; omega) (by omega) z.1 z.2.1 (by omega) hR q hq
  rw [start, r1]
  unfold voy
  rw [← hq]
  have e3 := vp.2.2.2
  exact m_end M V r2 (by rcases e3 with e | e
                         · have := vp.2.2.1 e; omega
                         · omega) (fun h => (vp.2.2.1 h).1) (by omega)
end MT
