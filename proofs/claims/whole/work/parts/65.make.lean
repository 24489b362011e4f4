/-- the legs one behind the other: what came of it, the leg at which it ended (how many there are, if all are done), the end (1: all done), minutes of the legs -/
def vlegs (sh : Nat → Int) (cf : Nat → Int) (t dr : Int) (o : Nat → Bool) : Nat → Nat → VS → (Nat → Int) → VS × Nat × Int × (Nat → Int)
  | 0, g, s, lm => (s, g, 1, lm)
  | n + 1, g, s, lm =>
    if mistZ sh g = -1000000 then
      (let q := vleg sh t dr o g (cf g) s.1 (wasZ sh o g (s.2.1 s.1) (s.2.2.1 s.1) (tideZ sh (t + s.1))) (lwZ sh g (s.2.1 s.1) (s.2.2.1 s.1) (tideZ sh (t + s.1))) 60 s
      if q.2 = 1 then vlegs sh cf t dr o n (g + 1) q.1 (fu lm g ((q.1.1 - s.1 : Nat) : Int)) else (q.1, g, q.2, fu lm g ((q.1.1 - s.1 : Nat) : Int)))
    else (s, g, 9, fu lm g 0)
section QM
variable {σ τ : St} {sh : Nat → Int}
/-- the class's voyage ahead of leg g -/
def CH (τ σ : St) (t dr : Int) (g : Nat) (lm : Nat → Int) (s : VS) : Prop :=
  (∀ k, k ≠ 8 → k ≠ 12 → k ≠ 19 → k ≠ 20 → k ≠ 21 → k ≠ 22 → τ k = σ k) ∧
  (τ 8 1 = iI t ∧ τ 8 2 = iI dr ∧ τ 8 3 = iI s.1 ∧ τ 8 4 = iI (s.2.1 s.1) ∧ τ 8 5 = iI (s.2.2.1 s.1) ∧ τ 8 6 = iI g ∧ τ 8 7 = iI g ∧ τ 8 8 = iI (-1) ∧ τ 8 10 = iI s.2.2.2.2.1 ∧ τ 8 11 = iI s.2.2.2.2.2) ∧
  (∀ j, j ≤ s.1 → τ 19 j = iI (s.2.1 j) ∧ τ 20 j = iI (s.2.2.1 j) ∧ τ 21 j = iI (s.2.2.2.1 j)) ∧ (∀ j, j < g → τ 22 j = iI (lm j))
/-- the class's voyage at its end: at leg g, with an end, before the harbour is looked at -/
def CE (τ σ : St) (sh : Nat → Int) (t dr : Int) (ob : Int32) (g : Nat) (e : Int) (lm : Nat → Int) (s : VS) : Prop :=
  (∀ k, k ≠ 8 → k ≠ 12 → k ≠ 19 → k ≠ 20 → k ≠ 21 → k ≠ 22 → τ k = σ k) ∧
  (τ 8 1 = iI t ∧ τ 8 2 = iI dr ∧ τ 8 3 = iI s.1 ∧ τ 8 4 = iI (s.2.1 s.1) ∧ τ 8 5 = iI (s.2.2.1 s.1) ∧ τ 8 6 = iI (if e = 1 then (g : Int) else g + 1) ∧ τ 8 7 = iI g ∧ τ 8 8 = iI (if e = 1 then -1 else e) ∧ τ 8 10 = iI s.2.2.2.2.1 ∧ τ 8 11 = iI s.2.2.2.2.2 ∧ (e = 9 → τ 8 9 = iI (mistZ sh g))) ∧
  (∀ j, j ≤ s.1 → τ 19 j = iI (s.2.1 j) ∧ τ 20 j = iI (s.2.2.1 j) ∧ τ 21 j = iI (s.2.2.2.1 j)) ∧ (∀ j : Nat, (j : Int) < (if e = 1 then (g : Int) else g + 1) → τ 22 j = iI (lm j)) ∧
  (e ≠ 1 → τ 12 2 = ob ∧ τ 12 3 = iI (tL sh g 1) ∧ τ 12 4 = iI (tL sh g 2) ∧ τ 12 5 = iI (tL sh g 3))
theorem lw_b (V : Val sh) {g : Nat} (hg : (g : Int) < sh 77) (hm : mistZ sh g = -1000000) {x y h : Int} (h0 : 0 ≤ h) (h1 : h ≤ 100) (h3 : -100 ≤ x) (h4 : x ≤ 100) (h5 : -100 ≤ y) (h6 : y ≤ 100) : -100000 ≤ lwZ sh g x y h ∧ lwZ sh g x y h ≤ 100000 := by
  obtain ⟨m1, m2⟩ := mist_ok hm V hg
  unfold lwZ
  split
  · have := line_b V (m1 (by omega) (by omega)) (m2 (by assumption)) h0 h1 h3 h4 h5 h6
    omega
  · omega
theorem c_goLeg (R : RC (σ 14) sh) (V : Val sh) {o : Nat → Bool} {ob : Int32} (hO : OutB ob o) {t dr : Int} (ht : 0 ≤ t ∧ t ≤ 99) (hdr : 0 ≤ dr ∧ dr ≤ 20) {g : Nat} (hg : (g : Int) < sh 77) (hm : mistZ sh g = -1000000) {c : Int} (hc1 : 0 ≤ c) (hc2 : c < 16) {lm : Nat → Int} {s : VS} (hI : VI s) (hp : VP s) (hs : s.1 ≤ 300) (h : CV τ σ t dr g lm 0 g (-1) s) (r2 : τ 12 2 = ob) (r3 : τ 12 3 = iI (tL sh g 1)) (r4 : τ 12 4 = iI (tL sh g 2)) (r5 : τ 12 5 = iI (tL sh g 3)) (r6 : τ 12 6 = iI c)
    {q : VS × Int} (hq : q = vleg sh t dr o g c s.1 (wasZ sh o g (s.2.1 s.1) (s.2.2.1 s.1) (tideZ sh (t + s.1))) (lwZ sh g (s.2.1 s.1) (s.2.2.1 s.1) (tideZ sh (t + s.1))) 60 s) :
    ∃ τ', (τ' 12 2 = ob ∧ τ' 12 3 = iI (tL sh g 1) ∧ τ' 12 4 = iI (tL sh g 2) ∧ τ' 12 5 = iI (tL sh g 3)) ∧ f_X8_goLeg τ (iI g) (iI c) = some τ' ∧ CV τ' σ t dr g lm ((q.1.1 - s.1 : Nat) : Int) (if q.2 = 1 then (g : Int) + 1 else g) (if q.2 = 1 then -1 else q.2) q.1 := by
  have tb := (tide_rng V (m := t + (s.1 : Int)) (by omega) (by omega)).2
  unfold VP at hp
  obtain ⟨hF, ⟨h1, h2, h3, h4, h5, h6, h7, h8, h10, h11⟩, hT, hL, hG⟩ := id h
  have h14 : τ 14 = σ 14 := hF 14 (by decide) (by decide) (by decide) (by decide) (by decide) (by decide)
  have bg := e_begin (τ := τ) (r := σ 14) R V h14 hO hg hm r2 r3 r4 r5 (x := s.2.1 s.1) (y := s.2.2.1 s.1) (h := tideZ sh (t + s.1)) (by omega) (by omega) (by omega) (by omega) (by omega) (by omega)
  have lb := lw_b V hg hm (x := s.2.1 s.1) (y := s.2.2.1 s.1) (h := tideZ sh (t + s.1)) (by omega) (by omega) (by omega) (by omega) (by omega) (by omega)
  generalize wasZ sh o g (s.2.1 s.1) (s.2.2.1 s.1) (tideZ sh (t + s.1)) = was at *
  generalize lwZ sh g (s.2.1 s.1) (s.2.2.1 s.1) (tideZ sh (t + s.1)) = l0 at *
  have hW : CW (bgS τ was l0) sh ob g c was l0 := by
    unfold CW bgS
    simp (disch := omega) only [g_u2_n2, g_u2_e]
    exact ⟨r2, r3, r4, r5, r6, trivial, trivial⟩
  have hb12 : ∀ k, k ≠ 12 → bgS τ was l0 k = τ k := fun k hk => by unfold bgS; rw [g_u2_n1 hk, g_u2_n1 hk]
  have hCV : CV (bgS τ was l0) σ t dr g lm ((s.1 - s.1 : Nat) : Int) g (-1) s := by
    rw [Nat.sub_self]
    refine ⟨fun k k1 k2 k3 k4 k5 k6 => by rw [hb12 k k2]; exact hF k k1 k2 k3 k4 k5 k6, ?_, fun j hj => ?_, fun j hj => ?_, ?_⟩
    · rw [hb12 8 (by decide)]; exact ⟨h1, h2, h3, h4, h5, h6, h7, h8, h10, h11⟩
    · rw [hb12 19 (by decide), hb12 20 (by decide), hb12 21 (by decide)]; exact hT j hj
    · rw [hb12 22 (by decide)]; exact hL j hj
    · rw [hb12 22 (by decide)]; exact hG
  obtain ⟨τ', w1, w2, w3⟩ := c_leg R V hO ht hdr hg hm hc1 hc2 lb.1 lb.2 (f := s.1) hs 60 FU s (bgS τ was l0) (by rw [FU_val]; omega) hI hp (Nat.le_refl _) (by omega) hCV hW
  rw [← hq] at w3
  refine ⟨τ', ⟨w1.1, w1.2.1, w1.2.2.1, w1.2.2.2.1⟩, ?_, w3⟩
  rw [Nat.sub_self, Nat.zero_add] at w2
  unfold f_X8_goLeg
  generalize fx F_X8_goLeg_h33 z_X8_goLeg_h33 FU = K at w2 ⊢
  rw [h1, h3, iI_add, q_heightAt R V h14 (by omega) (by omega), obs]
  simp only [h4, h5]
  rw [bg, obs, iI_lit 1]
  exact w2
end QM
