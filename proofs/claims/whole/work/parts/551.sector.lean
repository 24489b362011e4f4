section SEC
theorem dt_fm (e n : Int) : ∀ c, c < 16 → dt e n c = fm e n ((c + 12) % 16) := by
  intro c hc
  rcases (show c = 0 ∨ c = 1 ∨ c = 2 ∨ c = 3 ∨ c = 4 ∨ c = 5 ∨ c = 6 ∨ c = 7 ∨ c = 8 ∨ c = 9 ∨ c = 10 ∨ c = 11 ∨ c = 12 ∨ c = 13 ∨ c = 14 ∨ c = 15 by omega) with rfl | rfl | rfl | rfl | rfl | rfl | rfl | rfl | rfl | rfl | rfl | rfl | rfl | rfl | rfl | rfl <;> (simp [dt, fm, eZ, nZ]; try omega)
def sC (a b : Nat) (v : Nat → Int) : Bool :=
  let w := ((b : Int) - a) % 16
  if w = 0 then true else
  let f := (if w ≤ 8 then a else b) % 16
  let g := (if w ≤ 8 then b else a) % 16
  let nar : Bool := (decide (v f = 0) && decide (v ((f + 12) % 16) = 1)) || (decide (v f = 1) && decide (v g = -1))
  if w ≤ 8 then nar else !nar
def tV (v : Nat → Int) : Nat → Int
  | 0 => 0
  | c + 1 => if v ((c + 12) % 16) = 1 ∧ v c = 0 then 2 * (c : Int) else if v ((c + 12) % 16) = 1 ∧ v c = 1 ∧ v ((c + 1) % 16) = -1 then 2 * (c : Int) + 1 else tV v c
def sM (a b : Nat) (v : Nat → Int) : Bool := if a = b % 16 then true else decide ((tV v 16 - 2 * a + 32) % 32 < (2 * ((b % 16 : Nat) : Int) - 2 * a + 32) % 32)
def vd (d : Nat) : Nat → Int := fun c => (sgT.getD d []).getD c 0
set_option maxRecDepth 100000 in
theorem sCM : ∀ d, d < 32 → ∀ a, a < 16 → ∀ b, b < 21 → sC a b (vd d) = sM a b (vd d) := by decide +kernel
theorem tV_c {v u : Nat → Int} (h : ∀ c, c < 16 → v c = u c) : ∀ n, n ≤ 16 → tV v n = tV u n := by
  intro n
  induction n with
  | zero => intro _; rfl
  | succ n ih =>
    intro hn
    unfold tV
    rw [h n (by omega), h ((n + 12) % 16) (Nat.mod_lt _ (by omega)), h ((n + 1) % 16) (Nat.mod_lt _ (by omega)), ih (by omega)]
theorem sC_c {v u : Nat → Int} (h : ∀ c, c < 16 → v c = u c) (a b : Nat) : sC a b v = sC a b u := by
  unfold sC
  simp only [h _ (Nat.mod_lt _ (show 0 < 16 by omega))]
theorem sM_c {v u : Nat → Int} (h : ∀ c, c < 16 → v c = u c) (a b : Nat) : sM a b v = sM a b u := by
  unfold sM
  rw [tV_c h 16 (by omega)]
theorem tV_t (e n : Int) : ∀ k, k ≤ 16 → tV (fun c => sg (fm e n c)) k = turnF e n k := by
  intro k
  induction k with
  | zero => intro _; rfl
  | succ k ih =>
    intro hk
    unfold tV turnF
    rw [ih (by omega), dt_fm e n k (by omega)]
    simp only [sg_c.1, sg_c.2.1, sg_c.2.2]
theorem secC_s {a b : Nat} {e n : Int} (hn : ¬ (e = 0 ∧ n = 0)) : secC a b e n = sC a b (fun c => sg (fm e n c)) := by
  unfold secC sC
  simp only [if_neg hn, dt_fm e n _ (Nat.mod_lt _ (show 0 < 16 by omega)), sg_c.1, sg_c.2.1, sg_c.2.2, Int.neg_pos]
theorem secM_s {a b : Nat} {e n : Int} (hn : ¬ (e = 0 ∧ n = 0)) : secM a b e n = sM a b (fun c => sg (fm e n c)) := by
  unfold secM sM
  rw [if_neg hn, tV_t e n 16 (by omega)]
theorem sg_neg (z : Int) : sg (-z) = -sg z := by
  unfold sg
  split <;> split <;> (try split) <;> omega
theorem fm_v {e n : Int} {d : Nat} (hd : d < 32) (h : inR e n d) : ∀ c, c < 16 → sg (fm e n c) = vd d c := by
  obtain ⟨h0, h1, h2, h3, h4, h5, h6, h7⟩ := h
  have key : ∀ d, d < 32 → (vd d 0 = (vT.getD d []).getD 0 0 ∧ vd d 4 = -(vT.getD d []).getD 1 0 ∧ vd d 1 = (vT.getD d []).getD 2 0 ∧ vd d 2 = (vT.getD d []).getD 3 0 ∧ vd d 3 = (vT.getD d []).getD 4 0 ∧ vd d 5 = -(vT.getD d []).getD 5 0 ∧ vd d 6 = -(vT.getD d []).getD 6 0 ∧ vd d 7 = -(vT.getD d []).getD 7 0 ∧ ∀ c, c < 8 → vd d (c + 8) = -vd d c) := by decide +kernel
  obtain ⟨k0, k4, k1, k2, k3, k5, k6, k7, k8⟩ := key d hd
  have f0 : sg (fm e n 0) = vd d 0 := by rw [k0, ← h0]; congr 1; simp [fm, eZ, nZ]
  have f1 : sg (fm e n 1) = vd d 1 := by rw [k1, ← h2]; congr 1; simp [fm, eZ, nZ]
  have f2 : sg (fm e n 2) = vd d 2 := by rw [k2, ← h3]; congr 1; simp [fm, eZ, nZ]
  have f3 : sg (fm e n 3) = vd d 3 := by rw [k3, ← h4]; congr 1; simp [fm, eZ, nZ]
  have f4 : sg (fm e n 4) = vd d 4 := by rw [k4, ← h1, ← sg_neg]; congr 1; simp [fm, eZ, nZ]
  have f5 : sg (fm e n 5) = vd d 5 := by rw [k5, ← h5, ← sg_neg]; congr 1; simp [fm, eZ, nZ]; omega
  have f6 : sg (fm e n 6) = vd d 6 := by rw [k6, ← h6, ← sg_neg]; congr 1; simp [fm, eZ, nZ]; omega
  have f7 : sg (fm e n 7) = vd d 7 := by rw [k7, ← h7, ← sg_neg]; congr 1; simp [fm, eZ, nZ]; omega
  have neg : ∀ c, c < 8 → fm e n (c + 8) = -fm e n c := by
    intro c hc
    rcases (show c = 0 ∨ c = 1 ∨ c = 2 ∨ c = 3 ∨ c = 4 ∨ c = 5 ∨ c = 6 ∨ c = 7 by omega) with rfl | rfl | rfl | rfl | rfl | rfl | rfl | rfl <;> (simp [fm, eZ, nZ]; try omega)
  have lo : ∀ c, c < 8 → sg (fm e n c) = vd d c := by
    intro c hc
    rcases (show c = 0 ∨ c = 1 ∨ c = 2 ∨ c = 3 ∨ c = 4 ∨ c = 5 ∨ c = 6 ∨ c = 7 by omega) with rfl | rfl | rfl | rfl | rfl | rfl | rfl | rfl
    · exact f0
    · exact f1
    · exact f2
    · exact f3
    · exact f4
    · exact f5
    · exact f6
    · exact f7
  intro c hc
  by_cases p : c < 8
  · exact lo c p
  · obtain ⟨c, rfl⟩ : ∃ k, c = k + 8 := ⟨c - 8, by omega⟩
    rw [neg c (by omega), sg_neg, k8 c (by omega), lo c (by omega)]
/-- the class's sector is the reference's -/
theorem sec_eq {a b : Nat} (ha : a < 16) (hb : b < 21) (e n : Int) : secC a b e n = secM a b e n := by
  by_cases hn : e = 0 ∧ n = 0
  · unfold secC secM
    simp only [if_pos hn]
    split <;> split <;> rfl
  · obtain ⟨d, hd, hr⟩ := inR_all e n hn
    have hv := fm_v hd hr
    rw [secC_s hn, secM_s hn, sC_c hv, sM_c hv]
    exact sCM d hd a ha b hb
end SEC
