/-! What a sheet says, as a function of 78 whole numbers: 0 draught, 1, 2 ship, 3, 4 harbour, 5 .. heights, 11 .. things, 51 .. legs, 75 heights, 76 things, 77 legs. -/
def tT (sh : Nat → Int) (k w : Nat) : Int := sh (11 + 5 * k + w)
def tL (sh : Nat → Int) (g w : Nat) : Int := sh (51 + 4 * g + w)
def ValT (sh : Nat → Int) (k : Nat) : Prop := (1 ≤ tT sh k 0 ∧ tT sh k 0 ≤ 6) ∧ (0 ≤ tT sh k 1 ∧ tT sh k 1 ≤ 60) ∧ (0 ≤ tT sh k 2 ∧ tT sh k 2 ≤ 60) ∧ (0 ≤ tT sh k 3 ∧ tT sh k 3 ≤ 15) ∧ (0 ≤ tT sh k 4 ∧ tT sh k 4 ≤ 20)
def ValU (s a b : Int) : Prop := (0 ≤ s ∧ s ≤ 4) ∧ (s = 0 → 1 ≤ a ∧ a ≤ 60) ∧ (s = 4 → 0 ≤ a ∧ a ≤ 60) ∧ (1 ≤ s → s ≤ 3 → 0 ≤ a ∧ a ≤ 7) ∧ (s = 2 → 0 ≤ b ∧ b ≤ 7) ∧ (s ≠ 2 → b = -1000000)
def ValL (sh : Nat → Int) (g : Nat) : Prop := (0 ≤ tL sh g 0 ∧ tL sh g 0 ≤ 15) ∧ ValU (tL sh g 1) (tL sh g 2) (tL sh g 3)
def Val (sh : Nat → Int) : Prop := (1 ≤ sh 77 ∧ sh 77 ≤ 6) ∧ (1 ≤ sh 75 ∧ sh 75 ≤ 6) ∧ (0 ≤ sh 76 ∧ sh 76 ≤ 8) ∧ (0 ≤ sh 0 ∧ sh 0 ≤ 20) ∧ ((0 ≤ sh 1 ∧ sh 1 ≤ 60) ∧ (0 ≤ sh 2 ∧ sh 2 ≤ 60) ∧ (0 ≤ sh 3 ∧ sh 3 ≤ 60) ∧ (0 ≤ sh 4 ∧ sh 4 ≤ 60)) ∧
  (∀ k : Nat, (k : Int) < sh 75 → 0 ≤ sh (5 + k) ∧ sh (5 + k) ≤ 20) ∧ (∀ k : Nat, (k : Int) < sh 76 → ValT sh k) ∧ (∀ g : Nat, (g : Int) < sh 77 → ValL sh g)
/-- the class's row, the reference's row from a place on -/
def RC (r : Nat → Int32) (sh : Nat → Int) : Prop := ∀ j, j < 78 → r j = iI (sh j)
def RM (w : Nat → Int32) (o : Nat) (sh : Nat → Int) : Prop := (∀ j, j < 5 → w (o + 1 + j) = iI (sh j)) ∧ w (o + 6) = iI (sh 75) ∧ w (o + 13) = iI (sh 76) ∧ w (o + 54) = iI (sh 77) ∧ w (o + 0) = iI 1 ∧
  (∀ k : Nat, (k : Int) < sh 75 → w (o + 7 + k) = iI (sh (5 + k))) ∧ (∀ k : Nat, (k : Int) < sh 76 → ∀ j, j < 5 → w (o + 14 + 5 * k + j) = iI (tT sh k j)) ∧ (∀ g : Nat, (g : Int) < sh 77 → ∀ j, j < 4 → w (o + 55 + 4 * g + j) = iI (tL sh g j))
-- the tide
def tideZ (sh : Nat → Int) (m : Int) : Int :=
  let k := m / 10 % sh 75
  let c := sh (5 + k.toNat)
  let d := sh (5 + (if k + 1 < sh 75 then k + 1 else 0).toNat)
  c + ((d - c) * (m % 10)).tdiv 10
-- shoals
def lies (sh : Nat → Int) (k : Nat) (x y : Int) : Bool := decide (4 ≤ tT sh k 0) && (if tT sh k 0 = 6 then decide (-(tT sh k 3) ≤ x - tT sh k 1 ∧ x - tT sh k 1 ≤ tT sh k 3) && decide (-(tT sh k 3) ≤ y - tT sh k 2 ∧ y - tT sh k 2 ≤ tT sh k 3) else decide ((x - tT sh k 1) * (x - tT sh k 1) + (y - tT sh k 2) * (y - tT sh k 2) ≤ tT sh k 3 * tT sh k 3))
def dOf (sh : Nat → Int) (k : Nat) : Int := if tT sh k 0 = 5 then -(tT sh k 4) else tT sh k 4
def depF (sh : Nat → Int) (x y : Int) : Nat → Int
  | 0 => 40
  | n + 1 => if lies sh n x y = true ∧ dOf sh n < depF sh x y n then dOf sh n else depF sh x y n
def depZ (sh : Nat → Int) (x y : Int) : Int := depF sh x y (sh 76).toNat
def isMk (sh : Nat → Int) (a : Int) : Bool := decide (0 ≤ a) && decide (a < sh 76) && decide (tT sh a.toNat 0 ≤ 3)
