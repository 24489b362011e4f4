section PT
variable {σ π τ ρ ρ1 : St} {sh : Nat → Int} {n : Nat} {b : Nat → Int}
theorem d_count {c m : Nat} (h : m ≤ c) (hc : 1 ≤ m ∧ c ≤ 8) (X : Int32) (hX : X = iI c) : (if 0 < (if X < iI m then X else iI m) then (if X < iI m then X else iI m) else (0 : Int32)) = iI m := by
  have a : ¬ iI (c : Int) < iI m := by rw [iI_lt (by omega) (by omega) (by omega) (by omega)]; omega
  have e : (0 : Int32) < iI m := by rw [J0, iI_lt (by omega) (by omega) (by omega) (by omega)]; omega
  rw [hX, if_neg a, if_pos e]
theorem d_countH {m : Nat} (h : 1 ≤ m ∧ m ≤ 6) : f_X6_countHeights 17 τ (iI m) = some (g_u2 τ 17 75 (iI m)) := by
  unfold f_X6_countHeights
  rw [d_count (c := 6) h.2 (by omega) 6 (by decide), obs]
theorem d_countT {m : Nat} (h : 1 ≤ m ∧ m ≤ 8) : f_X6_countThings 17 τ (iI m) = some (g_u2 τ 17 76 (iI m)) := by
  unfold f_X6_countThings
  rw [d_count (c := 8) h.2 (by omega) 8 (by decide), obs]
theorem d_countL {m : Nat} (h : 1 ≤ m ∧ m ≤ 6) : f_X6_countLegs 17 τ (iI m) = some (g_u2 τ 17 77 (iI m)) := by
  unfold f_X6_countLegs
  rw [d_count (c := 6) h.2 (by omega) 6 (by decide), obs]
theorem RS_32 {p : Nat} (h : RS ρ π n b p) (i : Nat) (v : Int32) : RS (g_u2 ρ 32 i v) π n b p := by
  obtain ⟨h1, h2, h3, h4, h5, h6⟩ := h
  refine ⟨fun c c1 c2 => by rw [g_u2_n1 c2]; exact h1 c c1 c2, fun j hj => by rw [g_u2_n1 (by decide)]; exact h2 j hj, by rw [g_u2_n1 (by decide)]; exact h3, by rw [g_u2_n1 (by decide)]; exact h4, by rw [g_u2_n1 (by decide)]; exact h5, fun hk => by rw [g_u2_n1 (by decide)]; exact h6 hk⟩
/-- a count is put on both sides -/
theorem QS_cnt {a H t l hc tc lc hc' tc' lc' : Nat} (h : QS σ π n b a H t l hc tc lc τ ρ) {j i : Nat} {m : Nat} (hj : (j = 75 ∧ i = 6 ∧ m = hc' ∧ tc' = tc ∧ lc' = lc) ∨ (j = 76 ∧ i = 13 ∧ m = tc' ∧ hc' = hc ∧ lc' = lc) ∨ (j = 77 ∧ i = 54 ∧ m = lc' ∧ hc' = hc ∧ tc' = tc)) (hl : l ≤ 24) : QS σ π n b a H t l hc' tc' lc' (g_u2 τ 17 j (iI m)) (g_u2 ρ 32 i (iI m)) := by
  obtain ⟨p, sh, h1, h2, h3, h4, h5⟩ := h
  refine ⟨p, fu sh j m, h1, CS_put h2 j m, RS_32 h3 i _, fun j2 A2 g1 g2 => ?_, ?_⟩
  · have := rel_c g1
    rw [g_u2_n2 (by omega), fu_n (by omega)]
    exact h4 j2 A2 g1 g2
  · obtain ⟨k1, k2, k3, k4⟩ := h5
    have vu : ∀ g : Nat, 4 * g + 4 ≤ l → ValU (tL (fu sh j m) g 1) (tL (fu sh j m) g 2) (tL (fu sh j m) g 3) := by
      intro g hg
      have := k4 g hg
      unfold tL at *
      rw [fu_n (by omega), fu_n (by omega), fu_n (by omega)]
      exact this
    rcases hj with ⟨rfl, rfl, rfl, rfl, rfl⟩ | ⟨rfl, rfl, rfl, rfl, rfl⟩ | ⟨rfl, rfl, rfl, rfl, rfl⟩
    · exact ⟨⟨fu_e _ _ _, g_u2_e _ _ _ _⟩, ⟨by rw [fu_n (by decide)]; exact k2.1, by rw [g_u2_n2 (by decide)]; exact k2.2⟩, ⟨by rw [fu_n (by decide)]; exact k3.1, by rw [g_u2_n2 (by decide)]; exact k3.2⟩, vu⟩
    · exact ⟨⟨by rw [fu_n (by decide)]; exact k1.1, by rw [g_u2_n2 (by decide)]; exact k1.2⟩, ⟨fu_e _ _ _, g_u2_e _ _ _ _⟩, ⟨by rw [fu_n (by decide)]; exact k3.1, by rw [g_u2_n2 (by decide)]; exact k3.2⟩, vu⟩
    · exact ⟨⟨by rw [fu_n (by decide)]; exact k1.1, by rw [g_u2_n2 (by decide)]; exact k1.2⟩, ⟨by rw [fu_n (by decide)]; exact k2.1, by rw [g_u2_n2 (by decide)]; exact k2.2⟩, ⟨fu_e _ _ _, g_u2_e _ _ _ _⟩, vu⟩
theorem BOk_tide (f : Nat) (hf : 0 < f) : BOk σ π (fx F_X11_readsTide_h23 z_X11_readsTide_h23 f) := by
  intro τ ρ h
  obtain ⟨f, rfl⟩ : ∃ j, f = j + 1 := ⟨f - 1, by omega⟩
  obtain ⟨ρ', r1, r2⟩ := BOk_reads (σ := σ) (π := π) 59 τ ρ h
  refine ⟨ρ', ?_, r2⟩
  rw [fx_s]
  unfold F_X11_readsTide_h23 f_X11_readsTide_p86
  rw [bad_well h, obs]
  refine (if_pos (show iI 0 = 0 by decide)).trans ?_
  dsimp only at *
  rw [r1, obs]
/-- the byte ahead is a letter or sign, or not -/
theorem q_look (hX : Ctx σ π n b) {a H t l hc tc lc : Nat} (h : QS σ π n b a H t l hc tc lc τ ρ) {c : Int} (hc' : isL c = true) : (∃ x : Int32, f_X7_byteAt τ (τ 3 4) = some (x, τ) ∧ ¬ x = iI c ∧ ¬ ρ 26 11 = iI c) ∨ (f_X7_byteAt τ (τ 3 4) = some (iI c, τ) ∧ ρ 26 11 = iI c ∧ (∀ ρ0 : St, (∀ k, k ≠ 32 → ρ0 k = ρ k) → ∃ ρ', f_X11_take ρ0 = some ρ' ∧ ρ' 32 = ρ0 32 ∧ (ρ0 32 = ρ 32 → QS σ π n b a H t l hc tc lc (g_u2 τ 3 4 (τ 3 4 + 1)) ρ') ∧ ∃ (p : Nat) (sh : Nat → Int), p + 1 ≤ n ∧ CS τ σ p sh ∧ CS (g_u2 τ 3 4 (τ 3 4 + 1)) σ (p + 1) sh ∧ RS ρ' π n b (p + 1) ∧ FR (ρ 32) sh (dD a H t l) ∧ CN (ρ 32) sh l hc tc lc)) := by
  obtain ⟨p, sh, h1, h2, h3, h4, h5⟩ := h
  obtain ⟨c1, c2, c3⟩ := id h2
  have Tσ := hX.1
  have t1 := Tσ.1
  have hcc : (97 ≤ c ∧ c ≤ 122) ∨ c = 44 ∨ c = 59 := of_decide_eq_true hc'
  have Tτ : Tp τ n b := ⟨Tσ.1, by rw [c1 1 (by decide) (by decide)]; exact Tσ.2.1, fun j hj => by rw [c1 13 (by decide) (by decide)]; exact Tσ.2.2 j hj⟩
  obtain ⟨k1, k2⟩ := tk_bb Tσ.bytes hc' p
  have kb := tk_b Tσ.bytes p
  have bbb : -1 ≤ bb n b p ∧ bb n b p ≤ 255 := by
    by_cases q : p < n
    · rw [bb_lt q]; have := Tσ.bytes p q; omega
    · rw [bb_ge q]; omega
  rw [c2, e_bb Tτ (by omega), h3.2.2.2.2.1]
  by_cases q : tk n b p = c
  · refine Or.inr ⟨by rw [k1.mpr q], by rw [q], fun ρ0 e0 => ?_⟩
    obtain ⟨ρ', r1, r2, r3⟩ := RS_take hX.2.1 hX.2.2 h1 h3 (by omega) e0
    have le := tl_le (n := n) (b := b) h1
    rw [k2 q] at r2 le
    have cs : CS (g_u2 τ 3 4 (iI p + 1)) σ (p + 1) sh := by
      rw [show iI (p : Int) + 1 = iI ((p + 1 : Nat) : Int) by rw [show (1 : Int32) = iI 1 by decide, iI_add]; rfl]
      exact ⟨fun k k3 k4 => by rw [g_u2_n1 k3]; exact c1 k k3 k4, g_u2_e _ _ _ _, by rw [g_u2_n1 (by decide)]; exact c3⟩
    exact ⟨ρ', r1, r3, fun e => ⟨p + 1, sh, le, cs, r2, by rw [r3, e]; exact h4, by rw [r3, e]; exact h5⟩, p, sh, le, h2, cs, r2, h4, h5⟩
  · refine Or.inl ⟨_, rfl, fun h => q (k1.mp ((iI_eq (by omega) (by omega) (by omega) (by omega)).mp h)), fun h => q ((iI_eq (by omega) (by omega) (by omega) (by omega)).mp h)⟩
theorem tide_end (hX : Ctx σ π n b) {H : Nat} (hH : 1 ≤ H ∧ H ≤ 6) (h : QS σ π n b 3 H 0 0 H 0 0 τ ρ) : Lk σ π (f_X5_readTide_p110 τ) (f_X11_readsTide_p86 ρ) (fun τ' ρ' => ∃ H, (1 ≤ H ∧ H ≤ 6) ∧ QS σ π n b 3 H 0 0 H 0 0 τ' ρ') := by
  unfold f_X5_readTide_p110 f_X11_readsTide_p86
  exact Lk_end2 (q_byte hX h (c := 59) (by decide)) (fun τ7 ρ7 h7 => ⟨ρ7, rfl, H, hH, h7⟩) BOk_some
theorem QS_well {a H t l hc tc lc : Nat} (h : QS σ π n b a H t l hc tc lc τ ρ) : f_X11_isWell ρ = some (iI 1, ρ) := by
  obtain ⟨p, sh, h1, h2, h3, h4, h5⟩ := h
  exact RS_well h3
theorem QS_6 {a H t l hc tc lc : Nat} (h : QS σ π n b a H t l hc tc lc τ ρ) : ρ 32 6 = iI hc ∧ ρ 32 13 = iI tc ∧ ρ 32 54 = iI lc := by
  obtain ⟨p, sh, h1, h2, h3, h4, h5⟩ := h
  exact ⟨h5.1.2, h5.2.1.2, h5.2.2.1.2⟩
theorem tide_loop (hX : Ctx σ π n b) : ∀ (d k f1 f2 : Nat) (τ ρ : St) (X : St → Int32), k + d = 6 → 1 ≤ d → d < f1 → d < f2 → (∀ ρ, ρ 32 6 = iI k → X ρ = iI ((k + 1 : Nat) : Int)) → QS σ π n b 3 k 0 0 k 0 0 τ ρ → Lk σ π (fx F_X5_readTide_h15 z_X5_readTide_h15 f1 τ 1 (iI k)) (Option.bind (f_X11_number ρ (iI ((7 + k : Nat) : Int)) 0 20) fun q => Option.bind (some (g_u2 q 32 6 (X q))) (fx F_X11_readsTide_h23 z_X11_readsTide_h23 f2)) (fun τ' ρ' => ∃ H, (1 ≤ H ∧ H ≤ 6) ∧ QS σ π n b 3 H 0 0 H 0 0 τ' ρ') := by
  intro d
  induction d with
  | zero => intro k f1 f2 τ ρ X _ h; omega
  | succ d ih =>
    intro k f1 f2 τ ρ X h1 h2 h3 h4 hXX h
    obtain ⟨f1, rfl⟩ : ∃ j, f1 = j + 1 := ⟨f1 - 1, by omega⟩
    obtain ⟨f2, rfl⟩ : ∃ j, f2 = j + 1 := ⟨f2 - 1, by omega⟩
    rw [fx_s]
    have ku : F_X5_readTide_h15 (fx F_X5_readTide_h15 z_X5_readTide_h15 f1) τ 1 (iI k) = Option.bind (f_X5_readNumber τ 0 20) fun q35 => if q35.1 = 0 then some (0, q35.2) else (Option.bind (f_X6_putHeightCell 17 q35.2 (iI k) (q35.2 3 5)) fun q38 => Option.bind (f_X6_countHeights 17 q38.2 (iI k + 1)) fun q40 => if 6 ≤ (iI k + 1) then f_X5_readTide_p88 (fx F_X5_readTide_h15 z_X5_readTide_h15 f1) q40 (iI k) else (Option.bind (f_X7_byteAt q40 (q40 3 4)) fun q43 => if q43.1 = 44 then f_X5_readTide_p89 (fx F_X5_readTide_h15 z_X5_readTide_h15 f1) q43.2 (iI k) 1 else f_X5_readTide_p88 (fx F_X5_readTide_h15 z_X5_readTide_h15 f1) q43.2 (iI k))) := by
      generalize fx F_X5_readTide_h15 z_X5_readTide_h15 f1 = K
      unfold F_X5_readTide_h15
      rw [J6, if_neg (fun h => absurd ((iI_le (by omega) (by omega) (by omega) (by omega)).mp h) (by omega)), if_neg (show ¬ (1 : Int32) = 0 by decide)]
    rw [ku]
    have hr : rel (5 + k) (7 + k) := by unfold rel; omega
    refine Lk_seq (q_num hX h (lo := 0) (hi := 20) (by omega) (by omega) hr) (fun τ1 ρ1 hn => ?_) (BOk_32 6 X (BOk_tide (f2 + 1) (by omega)))
    have hput := NS_put (a' := 3) (H' := k + 1) (t' := 0) hn hr (fun v h1 h2 => Or.inl (by unfold okv; omega)) (fun j hj => by unfold dD at *; omega) (by omega)
    have R1 : ∃ sh, RC (τ1 17) sh := by obtain ⟨v, p, sh, -, -, -, g4, -⟩ := hn; exact ⟨sh, g4.2.2⟩
    obtain ⟨sh1, R1⟩ := R1
    have e1 : iI (k : Int) + 1 = iI ((k + 1 : Nat) : Int) := by rw [show (1 : Int32) = iI 1 by decide, iI_add]; rfl
    have hq := QS_cnt (hc' := k + 1) (tc' := 0) (lc' := 0) (m := k + 1) hput (Or.inl ⟨rfl, rfl, rfl, rfl, rfl⟩) (by omega)
    rw [← hXX ρ1 (QS_6 hput).1] at hq
    dsimp only
    rw [d_putHeight R1 (by omega), obs]
    dsimp only
    rw [e1, d_countH (by omega), obs, obs]
    rw [hXX ρ1 (QS_6 hput).1] at hq ⊢
    generalize hτ2 : g_u2 (g_u2 τ1 17 (5 + k) (τ1 3 5)) 17 75 (iI ((k + 1 : Nat) : Int)) = τ2 at *
    generalize hρ2 : g_u2 ρ1 32 6 (iI ((k + 1 : Nat) : Int)) = ρ2 at *
    have w6 := (QS_6 hq).1
    have m110 : ∀ m : Nat, (fx F_X5_readTide_h15 z_X5_readTide_h15 f1) τ2 0 (iI m) = f_X5_readTide_p110 τ2 := by
      intro m
      obtain ⟨f1, rfl⟩ : ∃ j, f1 = j + 1 := ⟨f1 - 1, by omega⟩
      rw [fx_s]
      unfold F_X5_readTide_h15
      split
      · rfl
      · exact if_pos rfl
    have p88 : f_X5_readTide_p88 (fx F_X5_readTide_h15 z_X5_readTide_h15 f1) τ2 (iI k) = f_X5_readTide_p110 τ2 := by
      unfold f_X5_readTide_p88 f_X5_readTide_p89 f_X5_readTide_p104
      rw [if_pos (show (0 : Int32) = 0 from rfl), obs, e1]
      exact m110 _
    have r23 : ∀ K : St → Option St, F_X11_readsTide_h23 K ρ2 = if ρ2 26 11 = 44 then (if 6 ≤ (ρ2 32 6) then f_X11_readsTide_p86 ρ2 else (Option.bind (f_X11_take ρ2) fun q27 => Option.bind (f_X11_number q27 (7 + (q27 32 6)) (0) (20)) fun q29 => Option.bind (some (g_u2 q29 32 6 ((q29 32 6) + 1))) fun σ31 => K σ31)) else f_X11_readsTide_p86 ρ2 := by
      intro K
      unfold F_X11_readsTide_h23
      rw [QS_well hq, obs]
      exact if_neg (show ¬ iI 1 = 0 by decide)
    rw [fx_s, r23]
    by_cases q6 : 6 ≤ k + 1
    · rw [if_pos (show (6 : Int32) ≤ iI ((k + 1 : Nat) : Int) by rw [J6, iI_le (by omega) (by omega) (by omega) (by omega)]; omega), p88, w6, if_pos (show (6 : Int32) ≤ iI ((k + 1 : Nat) : Int) by rw [J6, iI_le (by omega) (by omega) (by omega) (by omega)]; omega)]
      have : (if ρ2 26 11 = 44 then f_X11_readsTide_p86 ρ2 else f_X11_readsTide_p86 ρ2) = f_X11_readsTide_p86 ρ2 := by split <;> rfl
      rw [this]
      exact tide_end hX (by omega) hq
    · rw [if_neg (show ¬ (6 : Int32) ≤ iI ((k + 1 : Nat) : Int) by rw [J6, iI_le (by omega) (by omega) (by omega) (by omega)]; omega), w6, if_neg (show ¬ (6 : Int32) ≤ iI ((k + 1 : Nat) : Int) by rw [J6, iI_le (by omega) (by omega) (by omega) (by omega)]; omega)]
      rcases q_look hX hq (c := 44) (by decide) with ⟨x, x1, x2, x3⟩ | ⟨x1, x2, x3⟩
      · rw [x1, obs]
        have e2 : (if (x, τ2).1 = 44 then f_X5_readTide_p89 (fx F_X5_readTide_h15 z_X5_readTide_h15 f1) (x, τ2).2 (iI k) 1 else f_X5_readTide_p88 (fx F_X5_readTide_h15 z_X5_readTide_h15 f1) (x, τ2).2 (iI k)) = f_X5_readTide_p110 τ2 := (if_neg x2).trans p88
        rw [e2, if_neg (show ¬ ρ2 26 11 = 44 from x3)]
        exact tide_end hX (by omega) hq
      · obtain ⟨ρ3, y1, y2, y3, -⟩ := x3 ρ2 (fun _ _ => rfl)
        have hq3 := y3 rfl
        rw [x1, obs]
        have e2 : (if (iI 44, τ2).1 = 44 then f_X5_readTide_p89 (fx F_X5_readTide_h15 z_X5_readTide_h15 f1) (iI 44, τ2).2 (iI k) 1 else f_X5_readTide_p88 (fx F_X5_readTide_h15 z_X5_readTide_h15 f1) (iI 44, τ2).2 (iI k)) = (fx F_X5_readTide_h15 z_X5_readTide_h15 f1) (g_u2 τ2 3 4 (τ2 3 4 + 1)) 1 (iI ((k + 1 : Nat) : Int)) := by
          refine (if_pos (show iI 44 = 44 by decide)).trans ?_
          unfold f_X5_readTide_p89 f_X5_readTide_p104
          rw [if_neg (show ¬ (1 : Int32) = 0 by decide), obs, obs, e1]
        rw [e2, if_pos (show ρ2 26 11 = 44 from x2), y1, obs, (QS_6 hq3).1, show (7 : Int32) + iI ((k + 1 : Nat) : Int) = iI ((7 + (k + 1) : Nat) : Int) by rw [show (7 : Int32) = iI 7 by decide, iI_add]; congr 1]
        exact ih (k + 1) f1 f2 _ ρ3 (fun q => q 32 6 + 1) (by omega) (by omega) (by omega) (by omega) (fun ρ hρ => by rw [hρ, show (1 : Int32) = iI 1 by decide, iI_add]; rfl) hq3
theorem l_tide (hX : Ctx σ π n b) (h : QS σ π n b 3 0 0 0 0 0 0 τ ρ) : Lk σ π (f_X5_readTide τ) (f_X11_readsTide ρ) (fun τ' ρ' => ∃ H, (1 ≤ H ∧ H ≤ 6) ∧ QS σ π n b 3 H 0 0 H 0 0 τ' ρ') := by
  unfold f_X5_readTide f_X11_readsTide
  refine Lk_seq (q_byte hX h (c := 116) (by decide)) (fun τ1 ρ1 h1 => ?_) (BOk_bind (BOk_num (fun _ => 7) 0 20) (BOk_32 6 (fun _ => 1) (BOk_tide FU (by rw [FU_val]; omega))))
  exact tide_loop hX 6 0 FU FU τ1 ρ1 (fun _ => 1) (by omega) (by omega) (by rw [FU_val]; omega) (by rw [FU_val]; omega) (fun _ _ => rfl) h1
theorem l_harbour (hX : Ctx σ π n b) {H t l hc tc lc : Nat} (h : QS σ π n b 3 H t l hc tc lc τ ρ) {B : St → Option St} (hB : BOk σ π B) {Q : St → St → Prop} (hQ : ∀ τ ρ, QS σ π n b 5 H t l hc tc lc τ ρ → ∃ ρ', B ρ = some ρ' ∧ Q τ ρ') : Lk σ π (f_X5_readHarbour τ) (Option.bind (f_X11_reads ρ 122) fun q70 => Option.bind (f_X11_number q70 4 0 60) fun q72 => Option.bind (f_X11_reads q72 44) fun q74 => Option.bind (f_X11_number q74 5 0 60) fun q76 => Option.bind (f_X11_reads q76 59) B) Q := by
  unfold f_X5_readHarbour
  refine Lk_seq (q_byte hX h (c := 122) (by decide)) (fun τ1 ρ1 h1 => ?_) (BOk_bind (BOk_num (fun _ => 4) 0 60) (BOk_bind (BOk_reads 44) (BOk_bind (BOk_num (fun _ => 5) 0 60) (BOk_bind (BOk_reads 59) hB))))
  refine Lk_seq (q_ship hX (by omega) h1 (hi := 60) rfl) (fun τ2 ρ2 h2 => ?_) (BOk_bind (BOk_reads 44) (BOk_bind (BOk_num (fun _ => 5) 0 60) (BOk_bind (BOk_reads 59) hB)))
  refine Lk_seq (q_byte hX h2 (c := 44) (by decide)) (fun τ3 ρ3 h3 => ?_) (BOk_bind (BOk_num (fun _ => 5) 0 60) (BOk_bind (BOk_reads 59) hB))
  refine Lk_seq (q_ship hX (by omega) h3 (hi := 60) rfl) (fun τ4 ρ4 h4 => ?_) (BOk_bind (BOk_reads 59) hB)
  exact Lk_end1 (q_byte hX h4 (c := 59) (by decide)) hQ hB
end PT
