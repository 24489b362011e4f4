def eZ : List Int := [0, 1, 1, 2, 1, 2, 1, 1, 0, -1, -1, -2, -1, -2, -1, -1]
def nZ : List Int := [1, 2, 1, 1, 0, -1, -1, -2, -1, -2, -1, -1, 0, 1, 1, 2]
theorem g_east_i : ∀ i, i < 16 → g_east.getD i 0 = iI (eZ.getD i 0) := by decide
theorem g_north_i : ∀ i, i < 16 → g_north.getD i 0 = iI (nZ.getD i 0) := by decide
theorem eZ_b : ∀ i, i < 16 → -2 ≤ eZ.getD i 0 ∧ eZ.getD i 0 ≤ 2 ∧ -2 ≤ nZ.getD i 0 ∧ nZ.getD i 0 ≤ 2 := by decide
theorem iI_and15 (z : Int) : iI z &&& iI 15 = iI (z % 16) := by
  rw [pk_and (iI z) (m := iI 15) 4 (by decide), iI_nI]
  congr 1
  have h : (iI z).toBitVec.toNat = (z % 4294967296).toNat := by
    show (BitVec.ofInt 32 z).toNat = _
    rw [BitVec.toNat_ofInt]
    rfl
  rw [h]
  omega
/-- the signs of the eight forms -/
def sg (z : Int) : Int := if z < 0 then -1 else if 0 < z then 1 else 0
def fm (e n : Int) (c : Nat) : Int := nZ.getD c 0 * e - eZ.getD c 0 * n
def dt (e n : Int) (c : Nat) : Int := eZ.getD c 0 * e + nZ.getD c 0 * n
/-- the class's test of a sector -/
def secC (a b : Nat) (e n : Int) : Bool :=
  let w := ((b : Int) - a) % 16
  if w = 0 then true else if e = 0 ∧ n = 0 then true else
  let f := (if w ≤ 8 then a else b) % 16
  let g := (if w ≤ 8 then b else a) % 16
  let nar : Bool := (decide (fm e n f = 0) && decide (0 < dt e n f)) || (decide (0 < fm e n f) && decide (0 < -fm e n g))
  if w ≤ 8 then nar else !nar
/-- the reference's turn and sector -/
def turnF (e n : Int) : Nat → Int
  | 0 => 0
  | c + 1 => if 0 < dt e n c ∧ fm e n c = 0 then 2 * (c : Int) else if 0 < dt e n c ∧ 0 < fm e n c ∧ fm e n ((c + 1) % 16) < 0 then 2 * (c : Int) + 1 else turnF e n c
def secM (a b : Nat) (e n : Int) : Bool :=
  if a = b % 16 then true else if e = 0 ∧ n = 0 then true else decide ((turnF e n 16 - 2 * a + 32) % 32 < (2 * ((b % 16 : Nat) : Int) - 2 * a + 32) % 32)
/-- the signs of the forms in each of the 32 directions -/
def sgT : List (List Int) := [[0, -1, -1, -1, -1, -1, -1, -1, 0, 1, 1, 1, 1, 1, 1, 1], [1, -1, -1, -1, -1, -1, -1, -1, -1, 1, 1, 1, 1, 1, 1, 1], [1, 0, -1, -1, -1, -1, -1, -1, -1, 0, 1, 1, 1, 1, 1, 1], [1, 1, -1, -1, -1, -1, -1, -1, -1, -1, 1, 1, 1, 1, 1, 1], [1, 1, 0, -1, -1, -1, -1, -1, -1, -1, 0, 1, 1, 1, 1, 1], [1, 1, 1, -1, -1, -1, -1, -1, -1, -1, -1, 1, 1, 1, 1, 1], [1, 1, 1, 0, -1, -1, -1, -1, -1, -1, -1, 0, 1, 1, 1, 1], [1, 1, 1, 1, -1, -1, -1, -1, -1, -1, -1, -1, 1, 1, 1, 1], [1, 1, 1, 1, 0, -1, -1, -1, -1, -1, -1, -1, 0, 1, 1, 1], [1, 1, 1, 1, 1, -1, -1, -1, -1, -1, -1, -1, -1, 1, 1, 1], [1, 1, 1, 1, 1, 0, -1, -1, -1, -1, -1, -1, -1, 0, 1, 1], [1, 1, 1, 1, 1, 1, -1, -1, -1, -1, -1, -1, -1, -1, 1, 1], [1, 1, 1, 1, 1, 1, 0, -1, -1, -1, -1, -1, -1, -1, 0, 1], [1, 1, 1, 1, 1, 1, 1, -1, -1, -1, -1, -1, -1, -1, -1, 1], [1, 1, 1, 1, 1, 1, 1, 0, -1, -1, -1, -1, -1, -1, -1, 0], [1, 1, 1, 1, 1, 1, 1, 1, -1, -1, -1, -1, -1, -1, -1, -1], [0, 1, 1, 1, 1, 1, 1, 1, 0, -1, -1, -1, -1, -1, -1, -1], [-1, 1, 1, 1, 1, 1, 1, 1, 1, -1, -1, -1, -1, -1, -1, -1], [-1, 0, 1, 1, 1, 1, 1, 1, 1, 0, -1, -1, -1, -1, -1, -1], [-1, -1, 1, 1, 1, 1, 1, 1, 1, 1, -1, -1, -1, -1, -1, -1], [-1, -1, 0, 1, 1, 1, 1, 1, 1, 1, 0, -1, -1, -1, -1, -1], [-1, -1, -1, 1, 1, 1, 1, 1, 1, 1, 1, -1, -1, -1, -1, -1], [-1, -1, -1, 0, 1, 1, 1, 1, 1, 1, 1, 0, -1, -1, -1, -1], [-1, -1, -1, -1, 1, 1, 1, 1, 1, 1, 1, 1, -1, -1, -1, -1], [-1, -1, -1, -1, 0, 1, 1, 1, 1, 1, 1, 1, 0, -1, -1, -1], [-1, -1, -1, -1, -1, 1, 1, 1, 1, 1, 1, 1, 1, -1, -1, -1], [-1, -1, -1, -1, -1, 0, 1, 1, 1, 1, 1, 1, 1, 0, -1, -1], [-1, -1, -1, -1, -1, -1, 1, 1, 1, 1, 1, 1, 1, 1, -1, -1], [-1, -1, -1, -1, -1, -1, 0, 1, 1, 1, 1, 1, 1, 1, 0, -1], [-1, -1, -1, -1, -1, -1, -1, 1, 1, 1, 1, 1, 1, 1, 1, -1], [-1, -1, -1, -1, -1, -1, -1, 0, 1, 1, 1, 1, 1, 1, 1, 0], [-1, -1, -1, -1, -1, -1, -1, -1, 1, 1, 1, 1, 1, 1, 1, 1]]
theorem sgT_16 : ∀ d, d < 32 → ∀ c, c < 16 → (sgT.getD d []).getD c 0 = (sgT.getD d []).getD c 0 := fun _ _ _ _ => rfl
/-- the direction of a way, by the signs of eight forms -/
def vT : List (List Int) := [[0, 1, -1, -1, -1, 1, 1, 1], [1, 1, -1, -1, -1, 1, 1, 1], [1, 1, 0, -1, -1, 1, 1, 1], [1, 1, 1, -1, -1, 1, 1, 1], [1, 1, 1, 0, -1, 1, 1, 1], [1, 1, 1, 1, -1, 1, 1, 1], [1, 1, 1, 1, 0, 1, 1, 1], [1, 1, 1, 1, 1, 1, 1, 1], [1, 0, 1, 1, 1, 1, 1, 1], [1, -1, 1, 1, 1, 1, 1, 1], [1, -1, 1, 1, 1, 0, 1, 1], [1, -1, 1, 1, 1, -1, 1, 1], [1, -1, 1, 1, 1, -1, 0, 1], [1, -1, 1, 1, 1, -1, -1, 1], [1, -1, 1, 1, 1, -1, -1, 0], [1, -1, 1, 1, 1, -1, -1, -1], [0, -1, 1, 1, 1, -1, -1, -1], [-1, -1, 1, 1, 1, -1, -1, -1], [-1, -1, 0, 1, 1, -1, -1, -1], [-1, -1, -1, 1, 1, -1, -1, -1], [-1, -1, -1, 0, 1, -1, -1, -1], [-1, -1, -1, -1, 1, -1, -1, -1], [-1, -1, -1, -1, 0, -1, -1, -1], [-1, -1, -1, -1, -1, -1, -1, -1], [-1, 0, -1, -1, -1, -1, -1, -1], [-1, 1, -1, -1, -1, -1, -1, -1], [-1, 1, -1, -1, -1, 0, -1, -1], [-1, 1, -1, -1, -1, 1, -1, -1], [-1, 1, -1, -1, -1, 1, 0, -1], [-1, 1, -1, -1, -1, 1, 1, -1], [-1, 1, -1, -1, -1, 1, 1, 0], [-1, 1, -1, -1, -1, 1, 1, 1]]
def inR (e n : Int) (d : Nat) : Prop := sg e = (vT.getD d []).getD 0 0 ∧ sg n = (vT.getD d []).getD 1 0 ∧ sg (2 * e - n) = (vT.getD d []).getD 2 0 ∧ sg (e - n) = (vT.getD d []).getD 3 0 ∧ sg (e - 2 * n) = (vT.getD d []).getD 4 0 ∧ sg (e + 2 * n) = (vT.getD d []).getD 5 0 ∧ sg (e + n) = (vT.getD d []).getD 6 0 ∧ sg (2 * e + n) = (vT.getD d []).getD 7 0
theorem sg_c {z : Int} : (sg z = 1 ↔ 0 < z) ∧ (sg z = 0 ↔ z = 0) ∧ (sg z = -1 ↔ z < 0) := by
  unfold sg
  split
  · omega
  · split <;> omega
theorem inR_all (e n : Int) (h : ¬ (e = 0 ∧ n = 0)) : ∃ d, d < 32 ∧ inR e n d := by
  rcases Int.lt_trichotomy e 0 with t | t | t
  · rcases Int.lt_trichotomy n 0 with t | t | t
    · rcases Int.lt_trichotomy (e - n) 0 with t | t | t
      · rcases Int.lt_trichotomy (e - 2 * n) 0 with t | t | t
        · exact ⟨23, by omega, sg_c.2.2.mpr (by omega), sg_c.2.2.mpr (by omega), sg_c.2.2.mpr (by omega), sg_c.2.2.mpr (by omega), sg_c.2.2.mpr (by omega), sg_c.2.2.mpr (by omega), sg_c.2.2.mpr (by omega), sg_c.2.2.mpr (by omega)⟩
        · exact ⟨22, by omega, sg_c.2.2.mpr (by omega), sg_c.2.2.mpr (by omega), sg_c.2.2.mpr (by omega), sg_c.2.2.mpr (by omega), sg_c.2.1.mpr (by omega), sg_c.2.2.mpr (by omega), sg_c.2.2.mpr (by omega), sg_c.2.2.mpr (by omega)⟩
        · exact ⟨21, by omega, sg_c.2.2.mpr (by omega), sg_c.2.2.mpr (by omega), sg_c.2.2.mpr (by omega), sg_c.2.2.mpr (by omega), sg_c.1.mpr (by omega), sg_c.2.2.mpr (by omega), sg_c.2.2.mpr (by omega), sg_c.2.2.mpr (by omega)⟩
      · exact ⟨20, by omega, sg_c.2.2.mpr (by omega), sg_c.2.2.mpr (by omega), sg_c.2.2.mpr (by omega), sg_c.2.1.mpr (by omega), sg_c.1.mpr (by omega), sg_c.2.2.mpr (by omega), sg_c.2.2.mpr (by omega), sg_c.2.2.mpr (by omega)⟩
      · rcases Int.lt_trichotomy (2 * e - n) 0 with t | t | t
        · exact ⟨19, by omega, sg_c.2.2.mpr (by omega), sg_c.2.2.mpr (by omega), sg_c.2.2.mpr (by omega), sg_c.1.mpr (by omega), sg_c.1.mpr (by omega), sg_c.2.2.mpr (by omega), sg_c.2.2.mpr (by omega), sg_c.2.2.mpr (by omega)⟩
        · exact ⟨18, by omega, sg_c.2.2.mpr (by omega), sg_c.2.2.mpr (by omega), sg_c.2.1.mpr (by omega), sg_c.1.mpr (by omega), sg_c.1.mpr (by omega), sg_c.2.2.mpr (by omega), sg_c.2.2.mpr (by omega), sg_c.2.2.mpr (by omega)⟩
        · exact ⟨17, by omega, sg_c.2.2.mpr (by omega), sg_c.2.2.mpr (by omega), sg_c.1.mpr (by omega), sg_c.1.mpr (by omega), sg_c.1.mpr (by omega), sg_c.2.2.mpr (by omega), sg_c.2.2.mpr (by omega), sg_c.2.2.mpr (by omega)⟩
    · exact ⟨24, by omega, sg_c.2.2.mpr (by omega), sg_c.2.1.mpr (by omega), sg_c.2.2.mpr (by omega), sg_c.2.2.mpr (by omega), sg_c.2.2.mpr (by omega), sg_c.2.2.mpr (by omega), sg_c.2.2.mpr (by omega), sg_c.2.2.mpr (by omega)⟩
    · rcases Int.lt_trichotomy (e + n) 0 with t | t | t
      · rcases Int.lt_trichotomy (e + 2 * n) 0 with t | t | t
        · exact ⟨25, by omega, sg_c.2.2.mpr (by omega), sg_c.1.mpr (by omega), sg_c.2.2.mpr (by omega), sg_c.2.2.mpr (by omega), sg_c.2.2.mpr (by omega), sg_c.2.2.mpr (by omega), sg_c.2.2.mpr (by omega), sg_c.2.2.mpr (by omega)⟩
        · exact ⟨26, by omega, sg_c.2.2.mpr (by omega), sg_c.1.mpr (by omega), sg_c.2.2.mpr (by omega), sg_c.2.2.mpr (by omega), sg_c.2.2.mpr (by omega), sg_c.2.1.mpr (by omega), sg_c.2.2.mpr (by omega), sg_c.2.2.mpr (by omega)⟩
        · exact ⟨27, by omega, sg_c.2.2.mpr (by omega), sg_c.1.mpr (by omega), sg_c.2.2.mpr (by omega), sg_c.2.2.mpr (by omega), sg_c.2.2.mpr (by omega), sg_c.1.mpr (by omega), sg_c.2.2.mpr (by omega), sg_c.2.2.mpr (by omega)⟩
      · exact ⟨28, by omega, sg_c.2.2.mpr (by omega), sg_c.1.mpr (by omega), sg_c.2.2.mpr (by omega), sg_c.2.2.mpr (by omega), sg_c.2.2.mpr (by omega), sg_c.1.mpr (by omega), sg_c.2.1.mpr (by omega), sg_c.2.2.mpr (by omega)⟩
      · rcases Int.lt_trichotomy (2 * e + n) 0 with t | t | t
        · exact ⟨29, by omega, sg_c.2.2.mpr (by omega), sg_c.1.mpr (by omega), sg_c.2.2.mpr (by omega), sg_c.2.2.mpr (by omega), sg_c.2.2.mpr (by omega), sg_c.1.mpr (by omega), sg_c.1.mpr (by omega), sg_c.2.2.mpr (by omega)⟩
        · exact ⟨30, by omega, sg_c.2.2.mpr (by omega), sg_c.1.mpr (by omega), sg_c.2.2.mpr (by omega), sg_c.2.2.mpr (by omega), sg_c.2.2.mpr (by omega), sg_c.1.mpr (by omega), sg_c.1.mpr (by omega), sg_c.2.1.mpr (by omega)⟩
        · exact ⟨31, by omega, sg_c.2.2.mpr (by omega), sg_c.1.mpr (by omega), sg_c.2.2.mpr (by omega), sg_c.2.2.mpr (by omega), sg_c.2.2.mpr (by omega), sg_c.1.mpr (by omega), sg_c.1.mpr (by omega), sg_c.1.mpr (by omega)⟩
  · rcases Int.lt_trichotomy n 0 with t | t | t
    · exact ⟨16, by omega, sg_c.2.1.mpr (by omega), sg_c.2.2.mpr (by omega), sg_c.1.mpr (by omega), sg_c.1.mpr (by omega), sg_c.1.mpr (by omega), sg_c.2.2.mpr (by omega), sg_c.2.2.mpr (by omega), sg_c.2.2.mpr (by omega)⟩
    · exfalso; omega
    · exact ⟨0, by omega, sg_c.2.1.mpr (by omega), sg_c.1.mpr (by omega), sg_c.2.2.mpr (by omega), sg_c.2.2.mpr (by omega), sg_c.2.2.mpr (by omega), sg_c.1.mpr (by omega), sg_c.1.mpr (by omega), sg_c.1.mpr (by omega)⟩
  · rcases Int.lt_trichotomy n 0 with t | t | t
    · rcases Int.lt_trichotomy (e + n) 0 with t | t | t
      · rcases Int.lt_trichotomy (2 * e + n) 0 with t | t | t
        · exact ⟨15, by omega, sg_c.1.mpr (by omega), sg_c.2.2.mpr (by omega), sg_c.1.mpr (by omega), sg_c.1.mpr (by omega), sg_c.1.mpr (by omega), sg_c.2.2.mpr (by omega), sg_c.2.2.mpr (by omega), sg_c.2.2.mpr (by omega)⟩
        · exact ⟨14, by omega, sg_c.1.mpr (by omega), sg_c.2.2.mpr (by omega), sg_c.1.mpr (by omega), sg_c.1.mpr (by omega), sg_c.1.mpr (by omega), sg_c.2.2.mpr (by omega), sg_c.2.2.mpr (by omega), sg_c.2.1.mpr (by omega)⟩
        · exact ⟨13, by omega, sg_c.1.mpr (by omega), sg_c.2.2.mpr (by omega), sg_c.1.mpr (by omega), sg_c.1.mpr (by omega), sg_c.1.mpr (by omega), sg_c.2.2.mpr (by omega), sg_c.2.2.mpr (by omega), sg_c.1.mpr (by omega)⟩
      · exact ⟨12, by omega, sg_c.1.mpr (by omega), sg_c.2.2.mpr (by omega), sg_c.1.mpr (by omega), sg_c.1.mpr (by omega), sg_c.1.mpr (by omega), sg_c.2.2.mpr (by omega), sg_c.2.1.mpr (by omega), sg_c.1.mpr (by omega)⟩
      · rcases Int.lt_trichotomy (e + 2 * n) 0 with t | t | t
        · exact ⟨11, by omega, sg_c.1.mpr (by omega), sg_c.2.2.mpr (by omega), sg_c.1.mpr (by omega), sg_c.1.mpr (by omega), sg_c.1.mpr (by omega), sg_c.2.2.mpr (by omega), sg_c.1.mpr (by omega), sg_c.1.mpr (by omega)⟩
        · exact ⟨10, by omega, sg_c.1.mpr (by omega), sg_c.2.2.mpr (by omega), sg_c.1.mpr (by omega), sg_c.1.mpr (by omega), sg_c.1.mpr (by omega), sg_c.2.1.mpr (by omega), sg_c.1.mpr (by omega), sg_c.1.mpr (by omega)⟩
        · exact ⟨9, by omega, sg_c.1.mpr (by omega), sg_c.2.2.mpr (by omega), sg_c.1.mpr (by omega), sg_c.1.mpr (by omega), sg_c.1.mpr (by omega), sg_c.1.mpr (by omega), sg_c.1.mpr (by omega), sg_c.1.mpr (by omega)⟩
    · exact ⟨8, by omega, sg_c.1.mpr (by omega), sg_c.2.1.mpr (by omega), sg_c.1.mpr (by omega), sg_c.1.mpr (by omega), sg_c.1.mpr (by omega), sg_c.1.mpr (by omega), sg_c.1.mpr (by omega), sg_c.1.mpr (by omega)⟩
    · rcases Int.lt_trichotomy (e - n) 0 with t | t | t
      · rcases Int.lt_trichotomy (2 * e - n) 0 with t | t | t
        · exact ⟨1, by omega, sg_c.1.mpr (by omega), sg_c.1.mpr (by omega), sg_c.2.2.mpr (by omega), sg_c.2.2.mpr (by omega), sg_c.2.2.mpr (by omega), sg_c.1.mpr (by omega), sg_c.1.mpr (by omega), sg_c.1.mpr (by omega)⟩
        · exact ⟨2, by omega, sg_c.1.mpr (by omega), sg_c.1.mpr (by omega), sg_c.2.1.mpr (by omega), sg_c.2.2.mpr (by omega), sg_c.2.2.mpr (by omega), sg_c.1.mpr (by omega), sg_c.1.mpr (by omega), sg_c.1.mpr (by omega)⟩
        · exact ⟨3, by omega, sg_c.1.mpr (by omega), sg_c.1.mpr (by omega), sg_c.1.mpr (by omega), sg_c.2.2.mpr (by omega), sg_c.2.2.mpr (by omega), sg_c.1.mpr (by omega), sg_c.1.mpr (by omega), sg_c.1.mpr (by omega)⟩
      · exact ⟨4, by omega, sg_c.1.mpr (by omega), sg_c.1.mpr (by omega), sg_c.1.mpr (by omega), sg_c.2.1.mpr (by omega), sg_c.2.2.mpr (by omega), sg_c.1.mpr (by omega), sg_c.1.mpr (by omega), sg_c.1.mpr (by omega)⟩
      · rcases Int.lt_trichotomy (e - 2 * n) 0 with t | t | t
        · exact ⟨5, by omega, sg_c.1.mpr (by omega), sg_c.1.mpr (by omega), sg_c.1.mpr (by omega), sg_c.1.mpr (by omega), sg_c.2.2.mpr (by omega), sg_c.1.mpr (by omega), sg_c.1.mpr (by omega), sg_c.1.mpr (by omega)⟩
        · exact ⟨6, by omega, sg_c.1.mpr (by omega), sg_c.1.mpr (by omega), sg_c.1.mpr (by omega), sg_c.1.mpr (by omega), sg_c.2.1.mpr (by omega), sg_c.1.mpr (by omega), sg_c.1.mpr (by omega), sg_c.1.mpr (by omega)⟩
        · exact ⟨7, by omega, sg_c.1.mpr (by omega), sg_c.1.mpr (by omega), sg_c.1.mpr (by omega), sg_c.1.mpr (by omega), sg_c.1.mpr (by omega), sg_c.1.mpr (by omega), sg_c.1.mpr (by omega), sg_c.1.mpr (by omega)⟩
