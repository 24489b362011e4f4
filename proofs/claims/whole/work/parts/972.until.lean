section UP
variable {σ τ : St} {sh : Nat → Int}
theorem RC_up (R : RC (τ 14) sh) (j : Nat) (v : Int) : RC (g_u2 τ 14 j (iI v) 14) (fu sh j v) := by
  intro i hi
  by_cases e : i = j
  · rw [e, g_u2_e, fu_e]
  · rw [g_u2_n2 e, fu_n e]; exact R i hi
theorem c_putUntil (R : RC (τ 14) sh) {g : Nat} (hg : g < 6) (s a b : Int) (hs : 0 ≤ s ∧ s ≤ 4) : f_X6_putUntil 14 τ (iI g) (iI s) (iI a) (iI b) = some (iI (tL sh g 1), g_u2 (g_u2 (g_u2 τ 14 (51 + 4 * g + 2) (iI a)) 14 (51 + 4 * g + 3) (iI (if s = 2 then b else -1000000))) 14 (51 + 4 * g + 1) (iI s)) := by
  have R2 := RC_up R (51 + 4 * g + 2) a
  have R3 := RC_up R2 (51 + 4 * g + 3) (if s = 2 then b else -1000000)
  have p2 := c_putLeg R (k := (g : Int)) (w := 2) (by omega) (by omega) (by omega) (by omega) (iI a)
  have p3 := c_putLeg R2 (k := (g : Int)) (w := 3) (by omega) (by omega) (by omega) (by omega) (iI (if s = 2 then b else -1000000))
  have p1 := c_putLeg R3 (k := (g : Int)) (w := 1) (by omega) (by omega) (by omega) (by omega) (iI s)
  simp only [Int.toNat_natCast, Int.reduceToNat, Int.toNat_one] at p1 p2 p3
  rw [fu_n (by omega), fu_n (by omega)] at p1
  have st : f_X6_putUntil 14 τ (iI g) (iI s) (iI a) (iI b) = f_X6_putUntil_p23 14 (g_u2 τ 14 (51 + 4 * g + 2) (iI a)) (iI g) (iI s) (iI (if s = 2 then b else -1000000)) (iI 3) (iI g) := by
    unfold f_X6_putUntil
    rw [show (2 : Int32) = iI 2 by decide, p2, obs]
    dsimp only
    by_cases e : s = 2
    · rw [if_pos e, if_pos (show iI s = iI 2 by rw [e])]; rfl
    · rw [if_neg e, if_neg (show ¬ iI s = iI 2 by rw [iI_eq (by omega) (by omega) (by omega) (by omega)]; exact e)]; rfl
  rw [st]
  unfold f_X6_putUntil_p23
  rw [p3, obs]
  dsimp only
  rw [show (1 : Int32) = iI 1 by decide, p1, obs]
  rfl
theorem m_lays {g : Nat} (hg : g < 6) (s a b : Int) (hs : 0 ≤ s ∧ s ≤ 4) : f_X11_lays τ (iI g) (iI s) (iI a) (iI b) = some (g_u2 (g_u2 (g_u2 τ 27 (55 + 4 * g + 1) (iI s)) 27 (55 + 4 * g + 2) (iI a)) 27 (55 + 4 * g + 3) (iI (if s = 2 then b else -1000000))) := by
  have i1 : (55 + 4 * iI (g : Int) + 1 : Int32) = iI ((55 + 4 * g + 1 : Nat) : Int) := by rw [show (55 : Int32) = iI 55 by decide, show (4 : Int32) = iI 4 by decide, show (1 : Int32) = iI 1 by decide, iI_mul, iI_add, iI_add]; rfl
  have i2 : (55 + 4 * iI (g : Int) + 2 : Int32) = iI ((55 + 4 * g + 2 : Nat) : Int) := by rw [show (55 : Int32) = iI 55 by decide, show (4 : Int32) = iI 4 by decide, show (2 : Int32) = iI 2 by decide, iI_mul, iI_add, iI_add]; rfl
  have i3 : (55 + 4 * iI (g : Int) + 3 : Int32) = iI ((55 + 4 * g + 3 : Nat) : Int) := by rw [show (55 : Int32) = iI 55 by decide, show (4 : Int32) = iI 4 by decide, show (3 : Int32) = iI 3 by decide, iI_mul, iI_add, iI_add]; rfl
  have gd : ∀ n : Nat, n < 1817 → 0 ≤ (iI (n : Int)).toInt ∧ (iI (n : Int)).toInt < 1817 := fun n hn => by rw [iI_toInt (by omega) (by omega)]; omega
  have cl : ∀ n : Nat, n < 1817 → (iI (n : Int)).toNatClampNeg = n := fun n hn => by rw [iI_clamp (by omega) (by omega), Int.toNat_natCast]
  unfold f_X11_lays f_X11_lays_p52
  rw [i1, i2, i3, if_pos (gd _ (by omega)), obs, if_pos (gd _ (by omega)), obs, cl _ (by omega), cl _ (by omega), if_pos (gd _ (by omega)), obs, if_pos (gd _ (by omega)), obs, cl _ (by omega)]
  by_cases e : s = 2
  · rw [if_pos e, if_pos (show iI s = 2 by rw [e]; decide)]
  · rw [if_neg e, if_neg (show ¬ iI s = 2 by rw [show (2 : Int32) = iI 2 by decide, iI_eq (by omega) (by omega) (by omega) (by omega)]; exact e)]
    rfl
theorem p_until : P_until Inv := by
  intro σ a1 a2 a3 a4 h
  obtain ⟨x, rfl, x1, x2⟩ := iI_ex a1
  obtain ⟨s, rfl, s1, s2⟩ := iI_ex a2
  obtain ⟨a, rfl, a1, a2⟩ := iI_ex a3
  obtain ⟨b, rfl, b1, b2⟩ := iI_ex a4
  rcases iv_sheet h with u | ⟨sh, V, R, M⟩
  · exact ⟨(-1000001, σ), (-1000001, σ), gd0 (hasLeg_u u _), gd0 (isLeg_u u _), rfl, h⟩
  have h6 := V.1
  by_cases c : 0 ≤ x ∧ x < sh 77
  case neg => exact ⟨(-1000001, σ), (-1000001, σ), gd0 (hasLeg_f R V x1 x2 c), gd0 (isLeg_f M V x1 x2 c), rfl, h⟩
  have e1 : ∀ τ : St, f_X10_isUntil τ (iI s) (iI a) (iI b) = some (bI (okU s a b), τ) := fun τ => e_isUntil s1 s2 a1 a2 b1 b2
  have e2 : ∀ τ : St, f_X11_isUntil τ (iI s) (iI a) (iI b) = some (bI (okU s a b), τ) := fun τ => m_isUntil s1 s2 a1 a2 b1 b2
  cases hu : okU s a b
  · rw [hu] at e1 e2
    exact ⟨(-1000001, σ), (-1000001, σ), (gd1 (hasLeg_t R V c)).trans (gd0 (e1 σ)), (gd1 (isLeg_t M V c)).trans (gd0 (e2 σ)), rfl, h⟩
  rw [hu] at e1 e2
  obtain ⟨hs, hv⟩ := okU_v hu
  obtain ⟨g, rfl⟩ : ∃ g : Nat, x = g := ⟨x.toNat, by omega⟩
  obtain ⟨τ, k1, k2, k3⟩ := push h V R M
  obtain ⟨X, hX⟩ : ∃ X, X = g_u2 (g_u2 (g_u2 τ 14 (51 + 4 * g + 2) (iI a)) 14 (51 + 4 * g + 3) (iI (if s = 2 then b else -1000000))) 14 (51 + 4 * g + 1) (iI s) := ⟨_, rfl⟩
  obtain ⟨M1, τ1, d1, M2, d3, d4⟩ := k3 X (fun c hc => by rw [hX, g_u2_n1 hc, g_u2_n1 hc, g_u2_n1 hc])
  obtain ⟨Y, hY⟩ : ∃ Y, Y = g_u2 (g_u2 (g_u2 τ1 27 (55 + 4 * g + 1) (iI s)) 27 (55 + 4 * g + 2) (iI a)) 27 (55 + 4 * g + 3) (iI (if s = 2 then b else -1000000)) := ⟨_, rfl⟩
  have yr : ∀ c, c ≠ 27 → Y c = τ1 c := fun c hc => by rw [hY, g_u2_n1 hc, g_u2_n1 hc, g_u2_n1 hc]
  have ye : ∀ i, (i ≤ 55 + 4 * g ∨ 55 + 4 * g + 3 < i) → Y 27 i = τ1 27 i := fun i hi => by rw [hY, g_u2_n2 (by omega), g_u2_n2 (by omega), g_u2_n2 (by omega)]
  have hSH : SH (Y 14) (Y 27) 0 := by
    refine ⟨unS sh g s a (if s = 2 then b else -1000000), Val_un V c.2 hv, ?_, RM_un V M2.1 c.2 (fun i _ hi2 => ye i hi2) ⟨?_, ?_, ?_⟩⟩
    · rw [yr 14 (by decide), d3, hX]
      exact RC_up (RC_up (RC_up (by rw [k2]; exact R) _ _) _ _) _ _
    · rw [hY, g_u2_n2 (by omega), g_u2_n2 (by omega), g_u2_e]
    · rw [hY, g_u2_n2 (by omega), g_u2_e]
    · rw [hY, g_u2_e]
  refine ⟨(iI (tL sh g 1), X), (iI (tL sh g 1), Y), (gd1 (hasLeg_t R V c)).trans ((gd1 (e1 σ)).trans ?_), (gd1 (isLeg_t M1 V c)).trans ((gd1 (e2 X)).trans ?_), rfl, d4 Y yr (fun j hj => ye j (by omega)) hSH⟩
  · dsimp only
    rw [k1, obs, c_putUntil (by rw [k2]; exact R) (by omega) s a b hs, obs, hX]
  · dsimp only
    have i1 : (55 + 4 * iI (g : Int) + 1 : Int32) = iI ((55 + 4 * g + 1 : Nat) : Int) := by rw [show (55 : Int32) = iI 55 by decide, show (4 : Int32) = iI 4 by decide, show (1 : Int32) = iI 1 by decide, iI_mul, iI_add, iI_add]; rfl
    rw [i1, if_pos (by rw [iI_toInt (by omega) (by omega)]; omega), obs, iI_clamp (by omega) (by omega), Int.toNat_natCast, M1.leg g c.2 1 (by decide), d1, obs, m_lays (by omega) s a b hs, obs, hY]
end UP
