section WZ
variable {σ τ : St} {sh : Nat → Int}
theorem k_find (R : RC (σ 14) sh) (V : Val sh) {o : Nat → Bool} {ob : Int32} (hO : OutB ob o) {t dr : Int} (ht : 0 ≤ t ∧ t ≤ 99) (hdr : 0 ≤ dr ∧ dr ≤ 20) {q : VQ} (h : CF τ σ sh t dr ob q) (hs : q.1.1 ≤ 360) (hw : VW q.1) (hP : q.2.2.1 = 1 → VP q.1)
    (he : q.2.2.1 = 1 ∨ ((q.2.1 : Int) < sh 77 ∧ (q.2.2.1 = 9 ∨ ((q.2.2.1 = 3 ∨ q.2.2.1 = 4 ∨ q.2.2.1 = 5) ∧ mistZ sh q.2.1 = -1000000)))) : ∃ τ', f_X0_findCauses τ = some τ' ∧ CA τ' τ (caL sh t dr o q.2.2.1 q.2.1 q.1) := by
  obtain ⟨hF, ⟨h1, h2, h3, h4, h5, h6, h7, h8, h10, h11, h9⟩, hT, hL, hW⟩ := h
  have h14 : τ 14 = σ 14 := hF 14 (by decide) (by decide) (by decide) (by decide) (by decide) (by decide)
  have v6 := V.1
  have C0 : CA (g_u2 τ 9 6 (iI 0)) τ [] := ⟨fun k k1 k2 k3 => g_u2_n1 k1, g_u2_e _ _ _ _, fun j hj => absurd hj (by show ¬ j < 0; omega)⟩
  have a8 : ∀ (τ1 : St) (ca : List (Int × Int)), CA τ1 τ ca → τ1 8 = τ 8 := fun τ1 ca h => h.1 8 (by decide) (by decide) (by decide)
  have a14 : ∀ (τ1 : St) (ca : List (Int × Int)), CA τ1 τ ca → τ1 14 = σ 14 := fun τ1 ca h => by rw [h.1 14 (by decide) (by decide) (by decide), h14]
  have a12 : ∀ (τ1 : St) (ca : List (Int × Int)), CA τ1 τ ca → τ1 12 = τ 12 := fun τ1 ca h => h.1 12 (by decide) (by decide) (by decide)
  unfold f_X0_findCauses
  simp only [iI_lit, obs]
  generalize g_u2 τ 9 6 (iI 0) = T at *
  have T8 := a8 T [] C0
  rw [T8, h8]
  by_cases e1 : q.2.2.1 = 1
  · have hb := hb_b V (hP e1)
    have ce : caL sh t dr o q.2.2.1 q.2.1 q.1 = if hbZ sh q.1 ≤ 9 then [] else [(1, sh 77), (10, hbZ sh q.1)] := by
      unfold caL
      rw [if_neg (by omega), if_neg (by omega), if_neg (by omega), if_neg (by omega)]
    have ee : enZ sh q = if hbZ sh q.1 ≤ 9 then 0 else 10 := by unfold enZ; rw [if_pos e1]
    rw [ce, ee]
    by_cases p : hbZ sh q.1 ≤ 9
    · rw [if_pos p, if_pos p, if_pos rfl]
      exact ⟨T, rfl, C0⟩
    · rw [if_neg p, if_neg p, if_neg (show ¬ iI 10 = iI 0 by decide), if_neg (show ¬ iI 10 = iI 9 by decide), if_pos rfl]
      obtain ⟨τ1, b1, b2⟩ := k_add C0 (by decide) 1 (sh 77)
      obtain ⟨τ2, c1, c2⟩ := k_add b2 (show 1 < 4 by decide) 10 (hbZ sh q.1)
      rw [q_legCount R (a14 T [] C0), obs]
      dsimp only
      rw [b1, obs, e_harbourSquare (s := q.1) R (a14 τ1 _ b2) (by rw [a8 τ1 _ b2, h4]) (by rw [a8 τ1 _ b2, h5]), obs]
      dsimp only
      rw [c1, obs]
      exact ⟨τ2, rfl, c2⟩
  · have he' := he.resolve_left e1
    obtain ⟨hg, he2⟩ := he'
    have en : enZ sh q = q.2.2.1 := by unfold enZ; rw [if_neg e1]
    rw [if_neg e1] at h6
    have h6' : T 8 6 - iI 1 = iI q.2.1 := by rw [T8, h6, iI_sub, show ((q.2.1 : Int) + 1 - 1) = q.2.1 by omega]
    obtain ⟨τ1, b1, b2⟩ := k_add C0 (by decide) 1 q.2.1
    rw [en]
    rw [T8] at h6'
    rcases he2 with e | ⟨e, hm⟩
    · obtain ⟨τ2, c1, c2⟩ := k_add b2 (show 1 < 4 by decide) 9 (mistZ sh q.2.1)
      rw [e, if_neg (show ¬ iI 9 = iI 0 by decide), if_pos rfl, h6', b1, obs, a8 τ1 _ b2, h9 e, c1, obs]
      exact ⟨τ2, rfl, c2⟩
    · obtain ⟨τ2, c1, c2⟩ := k_add b2 (show 1 < 4 by decide) 2 q.1.1
      rw [if_neg (show ¬ iI q.2.2.1 = iI 0 by rw [iI_eq (by omega) (by omega) (by omega) (by omega)]; omega), if_neg (show ¬ iI q.2.2.1 = iI 9 by rw [iI_eq (by omega) (by omega) (by omega) (by omega)]; omega), if_neg (show ¬ iI q.2.2.1 = iI 10 by rw [iI_eq (by omega) (by omega) (by omega) (by omega)]; omega), h6', b1, obs, a8 τ1 _ b2, h3, c1, obs]
      have g8 := a8 τ2 _ c2
      have g14 := a14 τ2 _ c2
      have tb := (tide_rng V (m := t + (q.1.1 : Int)) (by omega) (by omega)).2
      have hw' := hw
      unfold VW at hw'
      suffices H : ∃ τ', f_X0_findCausesInLeg τ2 = some τ' ∧ CA τ' τ (caL sh t dr o q.2.2.1 q.2.1 q.1) by
        obtain ⟨τ', d1, d2⟩ := H
        rw [d1, obs]
        exact ⟨τ', rfl, d2⟩
      unfold f_X0_findCausesInLeg
      simp only [iI_lit, iI_neg]
      rw [g8, h1, h3, iI_add, q_heightAt R V g14 (by omega) (by omega), obs]
      have G88 : τ2 8 8 = iI q.2.2.1 := by rw [g8, h8, en]
      have G84 : τ2 8 4 = iI (q.1.2.1 q.1.1) := by rw [g8, h4]
      have G85 : τ2 8 5 = iI (q.1.2.2.1 q.1.1) := by rw [g8, h5]
      simp only [G88, G84, G85]
      rcases e with e | e | e
      · rw [e, if_pos rfl]
        obtain ⟨τ3, d1, d2⟩ := k_add c2 (show 2 < 4 by decide) 3 (sdZ (q.1.2.1 q.1.1) (q.1.2.2.1 q.1.1))
        have sd : f_X0_sideOff τ2 = some (iI (sdZ (q.1.2.1 q.1.1) (q.1.2.2.1 q.1.1)), τ2) := by
          unfold f_X0_sideOff sdZ
          rw [g8, h4, h5]
          simp (disch := omega) only [obs, iI_lit, iI_add, iI_sub, iI_mul, iI_neg, iI_lt, iI_le, iI_eq, iI_divp, iI_toInt, iI_clamp, bI_0, bI_1, b_tf, Int.toNat_natCast, Int.reduceToNat, Int.toNat_zero, Int.toNat_one, modf, if_pos, if_neg, reduceIte, reduceCtorEq]
          split
          · split
            · split <;> rfl
            · rfl
          · rfl
        rw [sd, obs]
        dsimp only
        rw [d1, obs]
        exact ⟨τ3, rfl, d2⟩
      · rw [e, if_neg (show ¬ iI 4 = iI 3 by decide), if_pos rfl]
        have db := dep_b V (q.1.2.1 q.1.1) (q.1.2.2.1 q.1.1)
        have gb := gh_b V (sh 75).toNat (by omega)
        have gh : ghZ sh = ghF sh (sh 75).toNat := rfl
        obtain ⟨τ3, d1, d2⟩ := k_add c2 (show 2 < 4 by decide) 4 (shoZ sh (q.1.2.1 q.1.1) (q.1.2.2.1 q.1.1))
        obtain ⟨τ4, f1, f2⟩ := k_add d2 (show 3 < 4 by decide) (lkZ sh t dr q.1).1 (lkZ sh t dr q.1).2
        have k8 := a8 τ3 _ d2
        have k14 := a14 τ3 _ d2
        have lk : f_X0_addLackOfWater τ3 (iI (tideZ sh (t + q.1.1))) = some τ4 := by
          unfold f_X0_addLackOfWater
          simp only [iI_lit]
          rw [k8, h4, h5, h2, q_depthAt R V k14 (by omega) (by omega) (by omega) (by omega), obs, obs]
          dsimp only
          rw [e_greatestHeight (by rw [k14]; exact R) V, obs, obs]
          dsimp only
          simp only [iI_sub]
          unfold lkZ at f1
          by_cases p : depZ sh (q.1.2.1 q.1.1) (q.1.2.2.1 q.1.1) + ghZ sh - dr < 0
          · rw [if_pos p] at f1
            dsimp only at f1
            rw [show -(depZ sh (q.1.2.1 q.1.1) (q.1.2.2.1 q.1.1) + ghZ sh - dr) = dr - depZ sh (q.1.2.1 q.1.1) (q.1.2.2.1 q.1.1) - ghZ sh by omega] at f1
            rw [if_pos (show iI 0 < iI (dr - depZ sh (q.1.2.1 q.1.1) (q.1.2.2.1 q.1.1) - ghZ sh) by rw [iI_lt (by omega) (by omega) (by omega) (by omega)]; omega), f1, obs]
          · rw [if_neg p] at f1
            dsimp only at f1
            rw [show -(depZ sh (q.1.2.1 q.1.1) (q.1.2.2.1 q.1.1) + tideZ sh (t + q.1.1) - dr) = dr - depZ sh (q.1.2.1 q.1.1) (q.1.2.2.1 q.1.1) - tideZ sh (t + q.1.1) by omega] at f1
            rw [if_neg (show ¬ iI 0 < iI (dr - depZ sh (q.1.2.1 q.1.1) (q.1.2.2.1 q.1.1) - ghZ sh) by rw [iI_lt (by omega) (by omega) (by omega) (by omega)]; omega), f1, obs]
        rw [e_firstShoalAt (by rw [g14]; exact R) V ⟨by omega, by omega⟩ ⟨by omega, by omega⟩, obs]
        dsimp only
        rw [d1, obs, lk, obs]
        exact ⟨τ4, rfl, f2⟩
      · rw [e, if_neg (show ¬ iI 5 = iI 3 by decide), if_neg (show ¬ iI 5 = iI 4 by decide)]
        obtain ⟨w2, w3, w4, w5⟩ := hW e1
        obtain ⟨τ3, d1, d2⟩ := k_add c2 (show 2 < 4 by decide) 5 (tL sh q.2.1 1)
        have k8 := a8 τ3 _ d2
        have k14 := a14 τ3 _ d2
        have k12 := a12 τ3 _ d2
        obtain ⟨m1, m2⟩ := mist_ok hm V hg
        obtain ⟨cc, ⟨u1, u2⟩, u3, u4, u5, u6, u7⟩ := V.2.2.2.2.2.2.2 q.2.1 hg
        unfold f_X9_untilSort
        rw [obs]
        dsimp only
        rw [a12 τ2 _ c2, w3, d1, obs, k8, h4, h5]
        have ce : caL sh t dr o 5 q.2.1 q.1 = [] ++ [(1, (q.2.1 : Int))] ++ [(2, (q.1.1 : Int))] ++ [(5, tL sh q.2.1 1)] ++ odL sh o q.2.1 (q.1.2.1 q.1.1) (q.1.2.2.1 q.1.1) (tideZ sh (t + q.1.1)) := rfl
        rw [ce]
        -- what is unseen
        have fin : ∀ z : Int, (-1000000 < z ∧ z ≤ 100) → f_X9_firstUnseen τ3 (iI (q.1.2.1 q.1.1)) (iI (q.1.2.2.1 q.1.1)) (iI (tideZ sh (t + q.1.1))) = some (iI z, τ3) → odL sh o q.2.1 (q.1.2.1 q.1.1) (q.1.2.2.1 q.1.1) (tideZ sh (t + q.1.1)) = [(8, z)] → ∃ τ', (Option.bind (f_X9_firstUnseen τ3 (iI (q.1.2.1 q.1.1)) (iI (q.1.2.2.1 q.1.1)) (iI (tideZ sh (t + q.1.1)))) fun q32 => if q32.1 = iI (-1000000) then some q32.2 else (Option.bind (f_X0_addCause q32.2 (iI 8) q32.1) fun q35 => some q35)) = some τ' ∧ CA τ' τ ([] ++ [(1, (q.2.1 : Int))] ++ [(2, (q.1.1 : Int))] ++ [(5, tL sh q.2.1 1)] ++ odL sh o q.2.1 (q.1.2.1 q.1.1) (q.1.2.2.1 q.1.1) (tideZ sh (t + q.1.1))) := by
          intro z hz e1 e2
          obtain ⟨τ4, f1, f2⟩ := k_add d2 (show 3 < 4 by decide) 8 z
          refine ⟨τ4, ?_, ?_⟩
          · rw [e1, obs]
            dsimp only
            rw [if_neg (show ¬ iI z = iI (-1000000) by rw [iI_eq (by omega) (by omega) (by omega) (by omega)]; omega), f1, obs]
          · rw [e2]; exact f2
        have fin0 : f_X9_firstUnseen τ3 (iI (q.1.2.1 q.1.1)) (iI (q.1.2.2.1 q.1.1)) (iI (tideZ sh (t + q.1.1))) = some (iI (-1000000), τ3) → odL sh o q.2.1 (q.1.2.1 q.1.1) (q.1.2.2.1 q.1.1) (tideZ sh (t + q.1.1)) = [] → ∃ τ', (Option.bind (f_X9_firstUnseen τ3 (iI (q.1.2.1 q.1.1)) (iI (q.1.2.2.1 q.1.1)) (iI (tideZ sh (t + q.1.1)))) fun q32 => if q32.1 = iI (-1000000) then some q32.2 else (Option.bind (f_X0_addCause q32.2 (iI 8) q32.1) fun q35 => some q35)) = some τ' ∧ CA τ' τ ([] ++ [(1, (q.2.1 : Int))] ++ [(2, (q.1.1 : Int))] ++ [(5, tL sh q.2.1 1)] ++ odL sh o q.2.1 (q.1.2.1 q.1.1) (q.1.2.2.1 q.1.1) (tideZ sh (t + q.1.1))) := by
          intro e1 e2
          refine ⟨τ3, ?_, ?_⟩
          · rw [e1, obs]; exact if_pos rfl
          · rw [e2, List.append_nil]; exact d2
        have sn : ∀ a : Int, isMk sh a = true → f_X1_isInSight τ3 (iI a) (iI (q.1.2.1 q.1.1)) (iI (q.1.2.2.1 q.1.1)) (iI (tideZ sh (t + q.1.1))) ob = some (bI (seenZ sh o a.toNat (q.1.2.1 q.1.1) (q.1.2.2.1 q.1.1) (tideZ sh (t + q.1.1))), τ3) := fun a ha => q_isInSight R V hO k14 ha (by omega) (by omega) (by omega) (by omega) (by omega) (by omega)
        by_cases p1 : tL sh q.2.1 1 = 1 ∨ tL sh q.2.1 1 = 2
        · have ma := m1 (by omega) (by omega)
          have ia := isMk_t ma
          have v8 := V.2.2.1
          have un : f_X9_firstUnseen τ3 (iI (q.1.2.1 q.1.1)) (iI (q.1.2.2.1 q.1.1)) (iI (tideZ sh (t + q.1.1))) = f_X9_firstUnseen_p19 τ3 (iI (q.1.2.1 q.1.1)) (iI (q.1.2.2.1 q.1.1)) (iI (tideZ sh (t + q.1.1))) := by
            unfold f_X9_firstUnseen
            rw [k12, w3]
            rcases p1 with p | p
            · rw [p, if_pos (by decide)]
            · rw [p, if_neg (by decide), if_pos (by decide)]
          have un2 : f_X9_firstUnseen_p19 τ3 (iI (q.1.2.1 q.1.1)) (iI (q.1.2.2.1 q.1.1)) (iI (tideZ sh (t + q.1.1))) = if seenZ sh o (tL sh q.2.1 2).toNat (q.1.2.1 q.1.1) (q.1.2.2.1 q.1.1) (tideZ sh (t + q.1.1)) = false then some (iI (tL sh q.2.1 2), τ3) else if tL sh q.2.1 1 = 2 then (Option.bind (f_X1_isInSight τ3 (iI (tL sh q.2.1 3)) (iI (q.1.2.1 q.1.1)) (iI (q.1.2.2.1 q.1.1)) (iI (tideZ sh (t + q.1.1))) ob) fun q14 => if q14.1 = iI 0 then some (q14.2 12 5, q14.2) else some (iI (-1000000), q14.2)) else some (iI (-1000000), τ3) := by
            unfold f_X9_firstUnseen_p19
            simp only [iI_lit, iI_neg]
            rw [k12, w4, w2, sn _ ma, obs]
            have K2 : τ3 12 2 = ob := by rw [k12, w2]
            have K3 : τ3 12 3 = iI (tL sh q.2.1 1) := by rw [k12, w3]
            have K4 : τ3 12 4 = iI (tL sh q.2.1 2) := by rw [k12, w4]
            have K5 : τ3 12 5 = iI (tL sh q.2.1 3) := by rw [k12, w5]
            simp only [K2, K3, K4, K5, bI_0]
            by_cases z : tL sh q.2.1 1 = 2
            · rw [if_pos z, if_pos (show iI (tL sh q.2.1 1) = iI 2 by rw [z])]
            · rw [if_neg z, if_neg (show ¬ iI (tL sh q.2.1 1) = iI 2 by rw [iI_eq (by omega) (by omega) (by omega) (by omega)]; exact z)]
          cases s1 : seenZ sh o (tL sh q.2.1 2).toNat (q.1.2.1 q.1.1) (q.1.2.2.1 q.1.1) (tideZ sh (t + q.1.1))
          · refine fin (tL sh q.2.1 2) (by omega) ?_ ?_
            · rw [un, un2, s1, if_pos rfl]
            · unfold odL
              rw [s1]
              rcases p1 with p | p
              · rw [if_pos p, if_pos rfl]
              · rw [if_neg (by omega), if_pos p, if_pos rfl]
          · rcases p1 with p | p
            · refine fin0 ?_ ?_
              · rw [un, un2, s1, if_neg (by decide), if_neg (by omega)]
              · unfold odL
                rw [s1, if_pos p, if_neg (by decide)]
            · have mb := m2 p
              have ib := isMk_t mb
              cases s2 : seenZ sh o (tL sh q.2.1 3).toNat (q.1.2.1 q.1.1) (q.1.2.2.1 q.1.1) (tideZ sh (t + q.1.1))
              · refine fin (tL sh q.2.1 3) (by omega) ?_ ?_
                · rw [un, un2, s1, if_neg (by decide), if_pos p, sn _ mb, obs, s2]
                  dsimp only
                  rw [if_pos (by decide), k12, w5]
                · unfold odL
                  rw [s1, s2, if_neg (by omega), if_pos p, if_neg (by decide), if_pos rfl]
              · refine fin0 ?_ ?_
                · rw [un, un2, s1, if_neg (by decide), if_pos p, sn _ mb, obs, s2]
                  exact if_neg (show ¬ bI true = iI 0 by decide)
                · unfold odL
                  rw [s1, s2, if_neg (by omega), if_pos p, if_neg (by decide), if_neg (by decide)]
        · refine fin0 ?_ ?_
          · unfold f_X9_firstUnseen
            simp only [iI_lit, iI_neg]
            rw [k12, w3, if_neg (show ¬ iI (tL sh q.2.1 1) = iI 1 by rw [iI_eq (by omega) (by omega) (by omega) (by omega)]; omega), if_neg (show ¬ iI (tL sh q.2.1 1) = iI 2 by rw [iI_eq (by omega) (by omega) (by omega) (by omega)]; omega)]
          · unfold odL
            rw [if_neg (by omega), if_neg (by omega)]
end WZ
