section PW
variable {σ π τ ρ ρ1 : St} {sh : Nat → Int} {n : Nat} {b : Nat → Int}
theorem bas {α β γ : Type} (x : Option α) (f : α → Option β) (g : β → Option γ) : Option.bind (Option.bind x f) g = Option.bind x fun q => Option.bind (f q) g := by cases x <;> rfl
theorem RC_up17 (R : RC (τ 17) sh) (j : Nat) (v : Int) : RC (g_u2 τ 17 j (iI v) 17) (fu sh j v) := by
  intro i hi
  by_cases e : i = j
  · rw [e, g_u2_e, fu_e]
  · rw [g_u2_n2 e, fu_n e]; exact R i hi
theorem d_putUntil (R : RC (τ 17) sh) {g : Nat} (hg : g < 6) (s a b : Int) (hs : 0 ≤ s ∧ s ≤ 4) : ∃ x, f_X6_putUntil 17 τ (iI g) (iI s) (iI a) (iI b) = some (x, g_u2 (g_u2 (g_u2 τ 17 (51 + 4 * g + 2) (iI a)) 17 (51 + 4 * g + 3) (iI (if s = 2 then b else -1000000))) 17 (51 + 4 * g + 1) (iI s)) := by
  have R2 := RC_up17 R (51 + 4 * g + 2) a
  have R3 := RC_up17 R2 (51 + 4 * g + 3) (if s = 2 then b else -1000000)
  have p2 := d_putLeg R (k := g) (w := 2) hg (by omega) (iI a)
  have p3 := d_putLeg R2 (k := g) (w := 3) hg (by omega) (iI (if s = 2 then b else -1000000))
  have p1 := d_putLeg R3 (k := g) (w := 1) hg (by omega) (iI s)
  have st : f_X6_putUntil 17 τ (iI g) (iI s) (iI a) (iI b) = f_X6_putUntil_p23 17 (g_u2 τ 17 (51 + 4 * g + 2) (iI a)) (iI g) (iI s) (iI (if s = 2 then b else -1000000)) (iI 3) (iI g) := by
    unfold f_X6_putUntil
    rw [show (2 : Int32) = iI ((2 : Nat) : Int) by decide, p2, obs]
    dsimp only
    by_cases e : s = 2
    · rw [if_pos e, if_pos (show iI s = iI ((2 : Nat) : Int) by rw [e]; rfl)]; rfl
    · rw [if_neg e, if_neg (show ¬ iI s = iI ((2 : Nat) : Int) by rw [iI_eq (by omega) (by omega) (by omega) (by omega)]; exact e)]; rfl
  refine ⟨iI (fu (fu sh (51 + 4 * g + 2) a) (51 + 4 * g + 3) (if s = 2 then b else -1000000) (51 + 4 * g + 1)), st.trans ?_⟩
  unfold f_X6_putUntil_p23
  rw [show iI 3 = iI ((3 : Nat) : Int) from rfl, p3, obs]
  dsimp only
  rw [show (1 : Int32) = iI ((1 : Nat) : Int) by decide, p1, obs]
/-- the leg's end -/
theorem until_end (hX : Ctx σ π n b) {H t hc tc k p : Nat} (hk : k < 6) (hp : p ≤ n) (hC : CS τ σ p sh) (hR : RS ρ π n b p) (hF : FR (ρ 32) sh (dD 5 H t (4 * k + 1))) (hN : CN (ρ 32) sh (4 * k + 1) hc tc k) {u v w : Int} (hu : 0 ≤ u ∧ u ≤ 4) (h1 : ρ 32 (56 + 4 * k) = iI u) (h2 : ρ 32 (57 + 4 * k) = iI v) (h3 : ρ 32 (58 + 4 * k) = iI (if u = 2 then w else -1000000)) (h35 : τ 3 5 = iI w) (hV : ValU u v (if u = 2 then w else -1000000)) : Lk σ π (f_X5_readLeg_p101 τ (iI k) (iI u) (iI v)) (Option.bind (f_X11_reads ρ 59) fun q34 => Option.bind (some (g_u2 q34 32 54 ((q34 32 54) + 1))) fun σ36 => some σ36) (fun τ' ρ' => QS σ π n b 5 H t (4 * (k + 1)) hc tc (k + 1) (g_u2 τ' 17 77 (iI ((k + 1 : Nat) : Int))) ρ') := by
  obtain ⟨x, hx⟩ := d_putUntil hC.2.2 hk u v w hu
  unfold f_X5_readLeg_p101
  rw [h35, hx, obs]
  dsimp only
  have hq : QS σ π n b 5 H t (4 * (k + 1)) hc tc k (g_u2 (g_u2 (g_u2 τ 17 (51 + 4 * k + 2) (iI v)) 17 (51 + 4 * k + 3) (iI (if u = 2 then w else -1000000))) 17 (51 + 4 * k + 1) (iI u)) ρ := by
    refine ⟨p, fu (fu (fu sh (51 + 4 * k + 2) v) (51 + 4 * k + 3) (if u = 2 then w else -1000000)) (51 + 4 * k + 1) u, hp, CS_put (CS_put (CS_put hC _ _) _ _) _ _, hR, fun j2 A2 r1 r2 => ?_, ?_⟩
    · by_cases e1 : j2 = 51 + 4 * k + 1
      · have : A2 = 56 + 4 * k := by unfold rel at r1; omega
        rw [this, e1, fu_e]
        exact ⟨h1, Or.inr (by omega)⟩
      · rw [fu_n e1]
        by_cases e3 : j2 = 51 + 4 * k + 3
        · have : A2 = 58 + 4 * k := by unfold rel at r1; omega
          rw [this, e3, fu_e]
          exact ⟨h3, Or.inr (by omega)⟩
        · rw [fu_n e3]
          by_cases e2 : j2 = 51 + 4 * k + 2
          · have : A2 = 57 + 4 * k := by unfold rel at r1; omega
            rw [this, e2, fu_e]
            exact ⟨h2, Or.inr (by omega)⟩
          · rw [fu_n e2]
            exact hF j2 A2 r1 (by unfold dD at *; omega)
    · unfold CN at *
      refine ⟨⟨by rw [fu_n (by omega), fu_n (by omega), fu_n (by omega)]; exact hN.1.1, hN.1.2⟩, ⟨by rw [fu_n (by omega), fu_n (by omega), fu_n (by omega)]; exact hN.2.1.1, hN.2.1.2⟩, ⟨by rw [fu_n (by omega), fu_n (by omega), fu_n (by omega)]; exact hN.2.2.1.1, hN.2.2.1.2⟩, fun g hg => ?_⟩
      unfold tL
      by_cases e : g = k
      · subst e
        rw [fu_e, fu_n (show 51 + 4 * g + 2 ≠ 51 + 4 * g + 1 by omega), fu_n (show 51 + 4 * g + 2 ≠ 51 + 4 * g + 3 by omega), fu_e, fu_n (show 51 + 4 * g + 3 ≠ 51 + 4 * g + 1 by omega), fu_e]
        exact hV
      · have := hN.2.2.2 g (by omega)
        unfold tL at this
        rw [fu_n (by omega), fu_n (by omega), fu_n (by omega), fu_n (by omega), fu_n (by omega), fu_n (by omega), fu_n (by omega), fu_n (by omega), fu_n (by omega)]
        exact this
  refine Lk_end2 (q_byte hX hq (c := 59) (by decide)) (fun τ8 ρ8 h8 => ⟨g_u2 ρ8 32 54 (ρ8 32 54 + 1), rfl, ?_⟩) (BOk_32 54 (fun q => q 32 54 + 1) BOk_some)
  rw [(QS_6 h8).2.2, show iI (k : Int) + 1 = iI ((k + 1 : Nat) : Int) by rw [show (1 : Int32) = iI 1 by decide, iI_add]; rfl]
  exact QS_cnt (hc' := hc) (tc' := tc) (lc' := k + 1) (m := k + 1) h8 (Or.inr (Or.inr ⟨rfl, rfl, rfl, rfl, rfl⟩)) (by omega)
def loU (u : Int) : Int := if u = 0 then 1 else 0
def hiU (u : Int) : Int := if u = 0 ∨ u = 4 then 60 else 7
/-- what a leg lasts until, its course read -/
theorem l_until (hX : Ctx σ π n b) {H t hc tc k : Nat} (hk : k < 6) (hH : H ≤ 6) (ht : t ≤ 40) (h : QS σ π n b 5 H t (4 * k + 1) hc tc k τ ρ) : Lk σ π (Option.bind (f_X5_rankOf τ 17) fun q43 => if 0 ≤ q43.1 then (Option.bind (some (g_u2 q43.2 3 4 ((q43.2 3 4) + 1))) fun σ46 => Option.bind (f_X6_untilLeast σ46 (q43.1)) fun q48 => Option.bind (f_X6_untilMost q48.2 (q43.1)) fun q50 => Option.bind (f_X5_readNumber q50.2 (q48.1) (q50.1)) fun q52 => if q52.1 = 0 then some (0, q52.2) else (Option.bind (some (q52.2 3 5)) fun y55 => if q43.1 = 2 then (Option.bind (f_X5_readByte q52.2 44) fun q58 => if q58.1 = 0 then some (0, q58.2) else (Option.bind (f_X5_readNumber q58.2 0 7) fun q61 => if q61.1 = 0 then some (0, q61.2) else f_X5_readLeg_p101 q61.2 (iI k) (q43.1) y55)) else f_X5_readLeg_p101 q52.2 (iI k) (q43.1) y55)) else (Option.bind (f_X5_faultHere q43.2 1) fun q64 => if q64.1 = 0 ∨ q64.1 = 1 then some (q64.1, q64.2) else none)) (Option.bind (f_X11_readsUntil ρ (iI ((55 + 4 * k : Nat) : Int))) fun q32 => Option.bind (f_X11_reads q32 59) fun q34 => Option.bind (some (g_u2 q34 32 54 ((q34 32 54) + 1))) fun σ36 => some σ36) (fun τ' ρ' => QS σ π n b 5 H t (4 * (k + 1)) hc tc (k + 1) (g_u2 τ' 17 77 (iI ((k + 1 : Nat) : Int))) ρ') := by
  obtain ⟨p, sh, g1, g2, g3, g4, g5⟩ := id h
  have Tτ : Tp τ n b := ⟨hX.1.1, by rw [g2.1 1 (by decide) (by decide)]; exact hX.1.2.1, fun j hj => by rw [g2.1 13 (by decide) (by decide)]; exact hX.1.2.2 j hj⟩
  have kb := tk_b hX.1.bytes p
  have t1 := hX.1.1
  have ub := unt_b (tk n b p)
  have r11 := g3.2.2.2.2.1
  have bFin : BOk σ π (fun q32 => Option.bind (f_X11_reads q32 59) fun q34 => Option.bind (some (g_u2 q34 32 54 ((q34 32 54) + 1))) fun σ36 => some σ36) := BOk_bind (BOk_reads 59) (BOk_32 54 (fun q => q 32 54 + 1) BOk_some)
  rw [c_rank17 Tτ g1 g2.2.1, obs]
  dsimp only
  by_cases e : unt (tk n b p) = -1
  · -- no such letter
    rw [e, if_neg (show ¬ (0 : Int32) ≤ iI (-1) by decide)]
    have bd : Bad σ π (g_u2 (g_u2 τ 3 1 (iI 1)) 3 2 (iI p)) (g_u2 ρ 26 12 (iI 1)) := ⟨1, p, by omega, by omega, ⟨fun c d1 d2 => by rw [g_u2_n1 d1, g_u2_n1 d1]; exact g2.1 c d1 d2, by rw [g_u2_n2 (by decide), g_u2_e], g_u2_e _ _ _ _⟩, RS_bad g3 1⟩
    have m1 : f_X11_readsUntil ρ (iI ((55 + 4 * k : Nat) : Int)) = some (g_u2 ρ 26 12 (iI 1)) := by
      unfold f_X11_readsUntil
      rw [RS_well g3, obs]
      refine (if_neg (show ¬ iI 1 = 0 by decide)).trans ?_
      dsimp only
      rw [r11, m_untilOf (by omega) (by omega), obs, if_pos e]
      refine (if_pos (show iI (-1000000) = -1000000 by decide)).trans ?_
      unfold f_X11_readsUntil_p25 f_X11_readsUntil_p29
      dsimp only
      rw [wants_f g3, obs]
      have := bad_well bd
      rw [show (1 : Int32) = iI 1 by decide, this, obs]
      exact if_pos (show iI 0 = 0 by decide)
    rw [m1, obs]
    obtain ⟨ρ', r1, r2⟩ := bFin _ _ bd
    refine ⟨g_u2 (g_u2 τ 3 1 (iI 1)) 3 2 (iI p), ρ', r1, Or.inr ⟨?_, r2⟩⟩
    unfold f_X5_faultHere
    rw [obs, obs, obs, g_u2_n2 (by decide), g2.2.1]
    exact if_pos (Or.inl rfl)
  · obtain ⟨u, hu⟩ : ∃ u, u = unt (tk n b p) := ⟨_, rfl⟩
    rw [← hu] at e ub ⊢
    have hl := unt_l (z := tk n b p) (by rw [← hu]; exact e)
    rw [if_pos (show (0 : Int32) ≤ iI u by rw [J0, iI_le (by omega) (by omega) (by omega) (by omega)]; omega), obs]
    have lo1 : ∀ s : St, f_X6_untilLeast s (iI u) = some (iI (loU u), s) := by
      intro s
      unfold f_X6_untilLeast loU
      by_cases q : u = 0
      · rw [if_pos q, if_pos (by rw [q]; decide)]; rfl
      · rw [if_neg q, if_neg (by rw [J0, iI_eq (by omega) (by omega) (by omega) (by omega)]; exact q)]; rfl
    have hi1 : ∀ s : St, f_X6_untilMost s (iI u) = some (iI (hiU u), s) := by
      intro s
      unfold f_X6_untilMost hiU
      have : u = 0 ∨ u = 1 ∨ u = 2 ∨ u = 3 ∨ u = 4 := by omega
      rcases this with h | h | h | h | h <;> rw [h] <;> rfl
    rw [lo1, obs]
    dsimp only
    rw [hi1, obs]
    dsimp only
    -- the reference, up to the number
    rcases q_look hX h hl with ⟨x, x1, x2, x3⟩ | ⟨x1, x2, x3⟩
    · exact absurd r11 x3
    obtain ⟨ρ', y1, y2, -, p', sh', a1, a2, a3, a4, a5, a6⟩ := x3 (g_u2 (g_u2 ρ 32 (56 + 4 * k) (iI u)) 32 (58 + 4 * k) (iI (-1000000))) (fun j hj => by rw [g_u2_n1 hj, g_u2_n1 hj])
    have w1 : ρ' 32 (56 + 4 * k) = iI u := by rw [y2, g_u2_n2 (by omega), g_u2_e]
    have w3 : ρ' 32 (58 + 4 * k) = iI (-1000000) := by rw [y2, g_u2_e]
    have a5' : FR (ρ' 32) sh' (dD 5 H t (4 * k + 1)) := by
      intro j2 A2 r1 r2
      have : A2 ≠ 56 + 4 * k ∧ A2 ≠ 58 + 4 * k := by unfold rel at r1; unfold dD at r2; omega
      rw [y2, g_u2_n2 this.2, g_u2_n2 this.1]
      exact a5 j2 A2 r1 r2
    have a6' : CN (ρ' 32) sh' (4 * k + 1) hc tc k := by
      unfold CN at *
      rw [y2]
      simp (disch := omega) only [g_u2_n2]
      exact a6
    have ix : ∀ j : Nat, j ≤ 3 → iI ((55 + 4 * k : Nat) : Int) + iI j = iI ((55 + j + 4 * k : Nat) : Int) := fun j hj => by rw [iI_add]; congr 1; omega
    have i1 := ix 1 (by omega)
    have i2 := ix 2 (by omega)
    have i3 := ix 3 (by omega)
    rw [show iI ((1 : Nat) : Int) = 1 by decide] at i1
    rw [show iI ((2 : Nat) : Int) = 2 by decide] at i2
    rw [show iI ((3 : Nat) : Int) = 3 by decide] at i3
    have n79 : ∀ j : Nat, j < 79 → 0 ≤ (iI (j : Int)).toInt ∧ (iI (j : Int)).toInt < 79 := fun j hj => by rw [iI_toInt (by omega) (by omega)]; omega
    have ncl : ∀ j : Nat, j < 79 → (iI (j : Int)).toNatClampNeg = j := fun j hj => by rw [iI_clamp (by omega) (by omega), Int.toNat_natCast]
    have mU : f_X11_readsUntil ρ (iI ((55 + 4 * k : Nat) : Int)) = Option.bind (f_X11_number ρ' (iI ((57 + 4 * k : Nat) : Int)) (iI (loU u)) (iI (hiU u))) fun q32 => if iI u = 2 then (Option.bind (f_X11_reads q32 44) fun q35 => Option.bind (f_X11_number q35 (iI ((58 + 4 * k : Nat) : Int)) 0 7) fun q37 => some q37) else some q32 := by
      unfold f_X11_readsUntil
      rw [RS_well g3, obs]
      refine (if_neg (show ¬ iI 1 = 0 by decide)).trans ?_
      dsimp only
      rw [r11, m_untilOf (by omega) (by omega), obs, ← hu, if_neg e]
      refine (if_neg (show ¬ iI u = -1000000 by rw [show (-1000000 : Int32) = iI (-1000000) by decide, iI_eq (by omega) (by omega) (by omega) (by omega)]; omega)).trans ?_
      unfold f_X11_readsUntil_p25 f_X11_readsUntil_p29
      dsimp only
      rw [wants_t g3 (by decide), obs, RS_well g3, obs]
      refine (if_neg (show ¬ iI 1 = 0 by decide)).trans ?_
      dsimp only
      rw [r11, m_untilOf (by omega) (by omega), obs, ← hu, if_neg e, i1, i2, i3, if_pos (n79 _ (by omega)), ncl _ (by omega), obs, if_pos (n79 _ (by omega)), ncl _ (by omega), obs]
      dsimp only
      rw [show (-1000000 : Int32) = iI (-1000000) by decide, show (55 + 1 + 4 * k) = 56 + 4 * k by omega, show (55 + 3 + 4 * k) = 58 + 4 * k by omega, y1, obs]
      unfold f_X11_readsUntil_p80 f_X11_readsUntil_p89 f_X11_readsUntil_p96
      rw [i3]
      have : u = 0 ∨ u = 1 ∨ u = 2 ∨ u = 3 ∨ u = 4 := by omega
      rcases this with h | h | h | h | h <;> rw [h] <;> rfl
    rw [mU, bas]
    have lb : 0 ≤ loU u ∧ loU u ≤ 1 ∧ (u = 0 → loU u = 1) := by unfold loU; split <;> omega
    have hb : 0 ≤ hiU u ∧ hiU u ≤ 60 ∧ (1 ≤ u → u ≤ 3 → hiU u = 7) := by unfold hiU; split <;> omega
    by_cases q2 : u = 2
    · have e2 : (fun q32 => Option.bind (if iI u = 2 then (Option.bind (f_X11_reads q32 44) fun q35 => Option.bind (f_X11_number q35 (iI ((58 + 4 * k : Nat) : Int)) 0 7) fun q37 => some q37) else some q32) fun q32 => Option.bind (f_X11_reads q32 59) fun q34 => Option.bind (some (g_u2 q34 32 54 ((q34 32 54) + 1))) fun σ36 => some σ36) = fun q32 => Option.bind (f_X11_reads q32 44) fun q35 => Option.bind (f_X11_number q35 (iI ((58 + 4 * k : Nat) : Int)) 0 7) fun q32 => Option.bind (f_X11_reads q32 59) fun q34 => Option.bind (some (g_u2 q34 32 54 ((q34 32 54) + 1))) fun σ36 => some σ36 := by
        funext q
        rw [if_pos (show iI u = 2 by rw [q2]; decide), bas]
        congr 1
        funext q35
        rw [bas]
        rfl
      rw [e2]
      refine Lk_seq (ls_num hX.1 hX.2.1 hX.2.2 a1 a3 a4 (lo := loU u) (hi := hiU u) (by omega) (by omega) (A := 57 + 4 * k) (by omega)) (fun τ1 ρ1 hn => ?_) (BOk_bind (BOk_reads 44) (BOk_bind (BOk_num (fun _ => iI ((58 + 4 * k : Nat) : Int)) 0 7) bFin))
      obtain ⟨v, p2, v1, v2, v3, v4, v5, v6, v7⟩ := hn
      dsimp only
      rw [obs, if_pos (show iI u = 2 by rw [q2]; decide), v2]
      refine Lk_seq (ls_byte hX.1 hX.2.1 hX.2.2 v3 v4 v5 (c := 44) (by decide)) (fun τ2 ρ2 hn => ?_) (BOk_bind (BOk_num (fun _ => iI ((58 + 4 * k : Nat) : Int)) 0 7) bFin)
      obtain ⟨z1, z2, z3, z4⟩ := hn
      refine Lk_seq (ls_num hX.1 hX.2.1 hX.2.2 z1 z2 z3 (lo := 0) (hi := 7) (by omega) (by omega) (A := 58 + 4 * k) (by omega)) (fun τ3 ρ3 hn => ?_) bFin
      obtain ⟨w, p3, s1, s2, s3, s4, s5, s6, s7⟩ := hn
      have k3 : ∀ i, i ≠ 57 + 4 * k → i ≠ 58 + 4 * k → ρ3 32 i = ρ' 32 i := fun i h1 h2 => by rw [s7 i h2, z4, v7 i h1]
      have f3 : FR (ρ3 32) sh' (dD 5 H t (4 * k + 1)) := by
        intro j2 A2 r1 r2
        have : A2 ≠ 57 + 4 * k ∧ A2 ≠ 58 + 4 * k := by unfold rel at r1; unfold dD at r2; omega
        rw [k3 A2 this.1 this.2]
        exact a5' j2 A2 r1 r2
      have c3 : CN (ρ3 32) sh' (4 * k + 1) hc tc k := by
        unfold CN
        rw [k3 6 (by omega) (by omega), k3 13 (by omega) (by omega), k3 54 (by omega) (by omega)]
        exact a6'
      exact until_end hX hk s3 s4 s5 f3 c3 (u := u) (v := v) (w := w) (by omega) (by rw [k3 _ (by omega) (by omega)]; exact w1) (by rw [s7 _ (by omega), z4]; exact v6) (by rw [if_pos q2]; exact s6) s2 (by rw [if_pos q2]; unfold ValU; omega)
    · have e2 : (fun q32 => Option.bind (if iI u = 2 then (Option.bind (f_X11_reads q32 44) fun q35 => Option.bind (f_X11_number q35 (iI ((58 + 4 * k : Nat) : Int)) 0 7) fun q37 => some q37) else some q32) fun q32 => Option.bind (f_X11_reads q32 59) fun q34 => Option.bind (some (g_u2 q34 32 54 ((q34 32 54) + 1))) fun σ36 => some σ36) = fun q32 => Option.bind (f_X11_reads q32 59) fun q34 => Option.bind (some (g_u2 q34 32 54 ((q34 32 54) + 1))) fun σ36 => some σ36 := by
        funext q
        rw [if_neg (show ¬ iI u = 2 by rw [J2, iI_eq (by omega) (by omega) (by omega) (by omega)]; exact q2)]
        rfl
      rw [e2]
      refine Lk_seq (ls_num hX.1 hX.2.1 hX.2.2 a1 a3 a4 (lo := loU u) (hi := hiU u) (by omega) (by omega) (A := 57 + 4 * k) (by omega)) (fun τ1 ρ1 hn => ?_) bFin
      obtain ⟨v, p2, v1, v2, v3, v4, v5, v6, v7⟩ := hn
      dsimp only
      rw [obs, if_neg (show ¬ iI u = 2 by rw [J2, iI_eq (by omega) (by omega) (by omega) (by omega)]; exact q2), v2]
      have f3 : FR (ρ1 32) sh' (dD 5 H t (4 * k + 1)) := by
        intro j2 A2 r1 r2
        have : A2 ≠ 57 + 4 * k := by unfold rel at r1; unfold dD at r2; omega
        rw [v7 A2 this]
        exact a5' j2 A2 r1 r2
      have c3 : CN (ρ1 32) sh' (4 * k + 1) hc tc k := by
        unfold CN
        rw [v7 6 (by omega), v7 13 (by omega), v7 54 (by omega)]
        exact a6'
      exact until_end hX hk v3 v4 v5 f3 c3 (u := u) (v := v) (w := v) (by omega) (by rw [v7 _ (by omega)]; exact w1) v6 (by rw [if_neg q2, v7 _ (by omega)]; exact w3) v2 (by rw [if_neg q2]; unfold ValU; omega)
end PW
