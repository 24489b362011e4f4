/-! The world of both systems: forty cells at fixed places, a state is what their ints are. -/
abbrev St : Type := Nat → Nat → Int32
abbrev Lm : Type := Nat → Int64
abbrev GT : Type := va_G × (Nat → ClassId) × (Nat → Nat)
def g_D (G : GT) : va_G := G.1
def g_cy (G : GT) (k : Nat) : ClassId := G.2.1 k
def g_ad (G : GT) (k : Nat) : Nat := G.2.2 k
/-- the array classes, a cell each (a cell that is no array: any array of ints) -/
def g_ty (G : GT) : List (ClassId × FieldType) := (List.range 40).map (fun k => (g_cy G k, if k = 28 then FieldType.boolean else .int))
theorem g_ty_at {G : GT} {k : Nat} (hk : k < 40) : (g_ty G)[k]? = some (g_cy G k, if k = 28 then FieldType.boolean else .int) := by
  simp [g_ty, List.getElem?_map, List.getElem?_range hk]
theorem g_ty_i {G : GT} {k : Nat} (hk : k < 40) (h : k ≠ 28) : (g_ty G)[k]? = some (g_cy G k, .int) := by
  rw [g_ty_at hk, if_neg h]
def g_A (G : GT) : Nat → Prop := fun q => ∃ k, k < 40 ∧ q = g_ad G k
def g_up (σ : St) (k : Nat) (f : Nat → Int32) : St := fun c => if c = k then f else σ c
def g_u2 (σ : St) (k j : Nat) (v : Int32) : St := g_up σ k (upd (σ k) j v)
theorem g_up_ne {σ : St} {k c : Nat} {f : Nat → Int32} (h : c ≠ k) : g_up σ k f c = σ c := if_neg h
theorem g_up_eq {σ : St} {k : Nat} {f : Nat → Int32} : g_up σ k f k = f := if_pos rfl
/-- a cell's contents, by its place and its ints -/
def g_ce (G : GT) (lam : Lm) (i : Nat) (r : Nat → Int32) : va_E := match i with
  | 0 => .inr (9, [.ref (g_ad G 1), .ref (g_ad G 2), .ref (g_ad G 3), .ref (g_ad G 4), .ref (g_ad G 5), .ref (g_ad G 6), .ref (g_ad G 7), .ref (g_ad G 8), .ref (g_ad G 9), .ref (g_ad G 10), .int (r 10)])
  | 1 => .inr (6, [.ref (g_ad G 13), .int (r 1)])
  | 2 => .inr (5, [.ref (g_ad G 14)])
  | 3 => .inr (4, [.ref (g_ad G 11), .int (r 1), .int (r 2), .ref (g_ad G 1), .int (r 4), .int (r 5)])
  | 4 => .inr (3, [.ref (g_ad G 18), .int (r 1), .int (r 2)])
  | 5 => .inr (5, [.ref (g_ad G 15)])
  | 6 => .inr (5, [.ref (g_ad G 16)])
  | 7 => .inr (1, [.ref (g_ad G 2)])
  | 8 => .inr (7, [.ref (g_ad G 12), .int (r 1), .int (r 2), .int (r 3), .int (r 4), .int (r 5), .int (r 6), .int (r 7), .int (r 8), .int (r 9), .int (r 10), .int (r 11), .ref (g_ad G 2), .ref (g_ad G 7), .ref (g_ad G 19), .ref (g_ad G 20), .ref (g_ad G 21), .ref (g_ad G 22)])
  | 9 => .inr (0, [.ref (g_ad G 2), .ref (g_ad G 7), .ref (g_ad G 8), .ref (g_ad G 23), .ref (g_ad G 24), .ref (g_ad G 25), .int (r 6), .int (r 7)])
  | 10 => .inr (2, [.long (lam 0), .long (lam 1), .int (r 2), .int (r 3), .ref (g_ad G 2), .ref (g_ad G 7), .ref (g_ad G 8)])
  | 11 => .inr (5, [.ref (g_ad G 17)])
  | 12 => .inr (8, [.ref (g_ad G 2), .ref (g_ad G 7), .int (r 2), .int (r 3), .int (r 4), .int (r 5), .int (r 6), .int (r 7), .int (r 8)])
  | 13 => .inl (g_cy G 13, 160, .inl r)
  | 14 => .inl (g_cy G 14, 78, .inl r)
  | 15 => .inl (g_cy G 15, 78, .inl r)
  | 16 => .inl (g_cy G 16, 78, .inl r)
  | 17 => .inl (g_cy G 17, 78, .inl r)
  | 18 => .inl (g_cy G 18, 1560, .inl r)
  | 19 => .inl (g_cy G 19, 361, .inl r)
  | 20 => .inl (g_cy G 20, 361, .inl r)
  | 21 => .inl (g_cy G 21, 361, .inl r)
  | 22 => .inl (g_cy G 22, 6, .inl r)
  | 23 => .inl (g_cy G 23, 4, .inl r)
  | 24 => .inl (g_cy G 24, 4, .inl r)
  | 25 => .inl (g_cy G 25, 64, .inl r)
  | 26 => .inr (10, [.ref (g_ad G 27), .ref (g_ad G 28), .int (r 2), .ref (g_ad G 29), .int (r 4), .int (r 5), .ref (g_ad G 30), .ref (g_ad G 31), .ref (g_ad G 32), .int (r 9), .int (r 10), .int (r 11), .int (r 12), .int (r 13), .ref (g_ad G 33), .ref (g_ad G 34), .ref (g_ad G 35), .ref (g_ad G 36), .int (r 18), .int (r 19), .int (r 20), .int (r 21), .int (r 22), .int (r 23), .ref (g_ad G 37), .ref (g_ad G 38), .ref (g_ad G 39), .int (r 27)])
  | 27 => .inl (g_cy G 27, 1817, .inl r)
  | 28 => .inl (g_cy G 28, 2, .inl r)
  | 29 => .inl (g_cy G 29, 160, .inl r)
  | 30 => .inl (g_cy G 30, 16, .inl r)
  | 31 => .inl (g_cy G 31, 16, .inl r)
  | 32 => .inl (g_cy G 32, 79, .inl r)
  | 33 => .inl (g_cy G 33, 361, .inl r)
  | 34 => .inl (g_cy G 34, 361, .inl r)
  | 35 => .inl (g_cy G 35, 361, .inl r)
  | 36 => .inl (g_cy G 36, 6, .inl r)
  | 37 => .inl (g_cy G 37, 4, .inl r)
  | 38 => .inl (g_cy G 38, 4, .inl r)
  | _ => .inl (g_cy G 39, 64, .inl r)
def allW (G : GT) (lam : Lm) (σ : St) : va_W := (List.range 40).map (fun i => (g_ad G i, g_ce G lam i (σ i)))
theorem allW_at {G : GT} {lam : Lm} {σ : St} {k : Nat} (hk : k < 40) : (allW G lam σ)[k]? = some (g_ad G k, g_ce G lam k (σ k)) := by
  simp [allW, List.getElem?_map, List.getElem?_range hk]
theorem allW_of {G : GT} {lam : Lm} {σ : St} {k : Nat} {q : Nat × va_E} (h : (allW G lam σ)[k]? = some q) : k < 40 ∧ q.1 = g_ad G k := by
  by_cases hk : k < 40
  · rw [allW_at hk] at h
    cases h
    exact ⟨hk, rfl⟩
  · have : (allW G lam σ)[k]? = none := by
      apply List.getElem?_eq_none
      simp [allW]
      omega
    rw [this] at h
    cases h
theorem allW_set {G : GT} {lam : Lm} {σ : St} {k : Nat} (hk : k < 40) (f : Nat → Int32) : (allW G lam σ).set k (g_ad G k, g_ce G lam k f) = allW G lam (g_up σ k f) := by
  apply List.ext_getElem?
  intro i
  by_cases hi : i < 40
  · rw [allW_at hi]
    by_cases e : i = k
    · subst e
      rw [g_up_eq]
      simp [allW, hi]
    · rw [g_up_ne e, List.getElem?_set_ne (Ne.symm e), allW_at hi]
  · rw [List.getElem?_eq_none (by simp [allW]; omega), List.getElem?_eq_none (by simp [allW]; omega)]
def g_east : List Int32 := [0, 1, 1, 2, 1, 2, 1, 1, 0, -1, -1, -2, -1, -2, -1, -1]
def g_north : List Int32 := [1, 2, 1, 1, 0, -1, -1, -2, -1, -2, -1, -1, 0, 1, 1, 2]
def g_txt : List String := ["n", "nne", "ne", "ene", "e", "ese", "se", "sse", "s", "ssw", "sw", "wsw", "w", "wnw", "nw", "nnw", "blusrk", "maied"]
def g_len : List Nat := [1, 3, 2, 3, 1, 3, 2, 3, 1, 3, 2, 3, 1, 3, 2, 3, 6, 5]
def g_byt : List (List Int32) := [[110], [110, 110, 101], [110, 101], [101, 110, 101], [101], [101, 115, 101], [115, 101], [115, 115, 101], [115], [115, 115, 119], [115, 119], [119, 115, 119], [119], [119, 110, 119], [110, 119], [110, 110, 119], [98, 108, 117, 115, 114, 107], [109, 97, 105, 101, 100]]
def g_sk (G : GT) (i : Nat) : Nat := g_ad G (200 + i)
def g_sv (G : GT) (i : Nat) : Nat := g_ad G (300 + i)
/-- what is the same at all times: the cells are apart, the statics, the texts -/
def g_In (G : GT) (U : State) (H : Heap) : Prop :=
  (∀ i j, i < 40 → j < 40 → g_ad G i = g_ad G j → i = j) ∧
  va_Z "SailingDirections$Compass" "EAST" "[I" (.ref (g_ad G 100)) (g_A G) U H ∧ va_T .int (g_ad G 100) 16 (fun j => .int (g_east.getD j 0)) (g_A G) U H ∧
  va_Z "SailingDirections$Compass" "NORTH" "[I" (.ref (g_ad G 101)) (g_A G) U H ∧ va_T .int (g_ad G 101) 16 (fun j => .int (g_north.getD j 0)) (g_A G) U H ∧
  va_Z "java/lang/String" "COMPACT_STRINGS" "Z" (.int 1) (g_A G) U H ∧
  vk_S 18 g_len g_byt (g_sk G) (g_sv G) (g_A G) U H ∧
  (∀ i, i < 16 → vk_R "SailingDirections$Compass" (16 + 2 * i) (g_txt.getD i "") (g_sk G i) U) ∧
  vk_R "SailingDirections$Reader" 80 "blusrk" (g_sk G 16) U ∧ vk_R "SailingDirections$Reader" 108 "maied" (g_sk G 17) U ∧
  va_Zq "jdk/internal/util/Preconditions" "SIOOBE_FORMATTER" "Ljava/util/function/BiFunction;" (g_A G) U H
theorem g_In.warm {G : GT} {s U : State} {H : Heap} {locs : List Loc} (h : g_In G s s.heap) (hS : va_S (g_A G) s.heap H locs) (hW : s.WarmedH U.vm) : g_In G U H := by
  obtain ⟨h1, h2, h3, h4, h5, h6, h7, h8, h9, h10, h11⟩ := h
  have kp : ∀ a : Nat, a < s.heap.size → ¬ g_A G a → H[a]? = s.heap[a]? := hS.2.1
  exact ⟨h1, (h2.kept kp).moved hW.alike, (h3.kept kp).moved hW.alike, (h4.kept kp).moved hW.alike, (h5.kept kp).moved hW.alike, (h6.kept kp).moved hW.alike, (h7.kept kp).moved hW.alike, fun i hi => (h8 i hi).warm hW, h9.warm hW, h10.warm hW, (h11.kept kp).moved hW.alike⟩
def GW (G : GT) (lam : Lm) (σ : St) (U : State) : Prop := va_P (g_D G) vwCl (allW G lam σ) U.heap ∧ va_K (g_D G) vwCl (g_ty G) U ∧ g_In G U U.heap
def GB (G : GT) (lam : Lm) (σ : St) (U : State) : Prop := va_P (g_D G) vwCl (allW G lam σ) U.heap
theorem GW.blind {G : GT} {lam : Lm} {σ : St} (av : List Value) : FrameBlind (va_Pc av (GW G lam σ)) := by
  intro a U g mk q
  obtain ⟨q0, qP, qK, h1, h2, h3, h4, h5, h6, h7, h8, h9, h10, h11⟩ := q
  have al : U.vm.Alike (U.calling g mk a).vm := Vm.Alike.refl U.vm
  exact ⟨q0, qP, va_K.moved al qK, h1, h2.moved al, h3.moved al, h4.moved al, h5.moved al, h6.moved al, h7.moved al, fun i hi => (h8 i hi).same rfl, h9.same rfl, h10.same rfl, h11.moved al⟩
theorem g_Dd {G : GT} {lam : Lm} {σ : St} (h : ∀ i j, i < 40 → j < 40 → g_ad G i = g_ad G j → i = j) : va_D (g_A G) (allW G lam σ) := by
  refine ⟨fun i j p q hi hj e => ?_, fun k q hk => ?_⟩
  · obtain ⟨a1, a2⟩ := allW_of hi
    obtain ⟨b1, b2⟩ := allW_of hj
    exact h i j a1 b1 (by rw [← a2, ← b2, e])
  · obtain ⟨a1, a2⟩ := allW_of hk
    exact ⟨k, a1, a2⟩
/-- what a method's walk stands on -/
def Cx (p : Program) (s : State) (m : MethodId) (c : Code) (args : Array Value) (cc : ByteArray) (nL : Nat) (own : String) (G : GT) : Prop :=
  p.tables.exec = Jvm.exec ∧ c.code = cc ∧ c.maxLocals = nL ∧ s.vm.findClass own = some m.cls ∧ (∀ w ∈ TB, w.before args s = true) ∧ va_K (g_D G) vwCl (g_ty G) s ∧ g_In G s s.heap
abbrev Ri (q : Int32 × St) (G : GT) (lam : Lm) : Array Value → State → Outcome → State → Prop := va_Qi (fun r (u : St) => r = q.1 ∧ u = q.2) (GB G lam) (g_A G)
abbrev Rl (q : Int64 × St) (G : GT) (lam : Lm) : Array Value → State → Outcome → State → Prop := va_Ql (fun r (u : St) => r = q.1 ∧ u = q.2) (GB G lam) (g_A G)
abbrev Rv (q : St) (G : GT) (lam : Lm) : Array Value → State → Outcome → State → Prop := va_Qv (fun (u : St) => u = q) (GB G lam) (g_A G)
abbrev Rs (q : Nat × St) (G : GT) (lam : Lm) : Array Value → State → Outcome → State → Prop := va_Qr (fun (u : St) => u = q.2) (fun u a t => GB G lam u t ∧ a = g_sk G q.1) (g_A G)
abbrev Ro (q : Nat × St) (G : GT) (lam : Lm) : Array Value → State → Outcome → State → Prop := va_Qr (fun (u : St) => u = q.2) (fun u a t => GB G lam u t ∧ a = g_ad G q.1) (g_A G)
abbrev Qi (q : Int32 × St) (below : List Frame) (args : Array Value) (s : State) (G : GT) (lam : Lm) : State → Prop := MQ below (Ri q G lam) args s 0 0 (g_A G)
abbrev Ql (q : Int64 × St) (below : List Frame) (args : Array Value) (s : State) (G : GT) (lam : Lm) : State → Prop := MQ below (Rl q G lam) args s 0 0 (g_A G)
abbrev Qv (q : St) (below : List Frame) (args : Array Value) (s : State) (G : GT) (lam : Lm) : State → Prop := MQ below (Rv q G lam) args s 0 0 (g_A G)
abbrev Qs (q : Nat × St) (below : List Frame) (args : Array Value) (s : State) (G : GT) (lam : Lm) : State → Prop := MQ below (Rs q G lam) args s 0 0 (g_A G)
abbrev Qo (q : Nat × St) (below : List Frame) (args : Array Value) (s : State) (G : GT) (lam : Lm) : State → Prop := MQ below (Ro q G lam) args s 0 0 (g_A G)
section R1
variable {p : Program} {l : Launch} {e : Env} {R : Room} {s : State} {m : MethodId} {args : Array Value} {below : List Frame} {meth : Method} {c : Code} {H : Heap} {locs : List Loc} {Q : State → Prop}
variable {cc : ByteArray} {pc nL : Nat} {ls : Array Slot} {rest : List Value} {own : String} {G : GT} {lam : Lm} {σ : St}
theorem r_get (C : Cx p s m c args cc nL own G) (hP : va_P (g_D G) vwCl (allW G lam σ) H) (k : Nat) (hk : k < 40) {ci : Nat} {fs : List Value} (he : g_ce G lam k (σ k) = .inr (ci, fs)) {Cn : String} {T : u_T} {N : Nat} (hc : vwCl[ci]? = some (Cn, T, N)) (hin : ∀ w ∈ u_ws Cn T N, w ∈ TB) (j : Nat) (hj : j < N) {index : Nat} (hlink : Cond.fieldLink own index (T j).1 (T j).2.1 (T j).2.2.1 ∈ TB) {v : Value} (hv : fs[j]? = some v) (hdg : decode cc pc = .ok (.getfield index, 3))
    (kk : W p l e R s m args below meth c H locs 0 0 Q (F0 m (pc + 3) ls (v :: rest))) : W p l e R s m args below meth c H locs 0 0 Q (F0 m pc ls (.ref (g_ad G k) :: rest)) :=
  va_get (D := g_D G) (ci := ci) (C := Cn) (T := T) (N := N) C.1 C.2.1 C.2.2.2.2.1 hin C.2.2.2.1 C.2.2.2.2.2.1 hP k (by rw [allW_at hk, he]) hc j hj (C.2.2.2.2.1 _ hlink) (fun _ h9 => h9) hv hdg kk
theorem r_put (C : Cx p s m c args cc nL own G) (hP : va_P (g_D G) vwCl (allW G lam σ) H) (hS : va_S (g_A G) s.heap H locs) (k : Nat) (hk : k < 40) {ci : Nat} {fs : List Value} (he : g_ce G lam k (σ k) = .inr (ci, fs)) {Cn : String} {T : u_T} {N : Nat} (hc : vwCl[ci]? = some (Cn, T, N)) (hin : ∀ w ∈ u_ws Cn T N, w ∈ TB) (ty0 : Nat → FieldType) (hty : ∀ k, k < N → parseFieldDescriptor (T k).2.2.1 = some (ty0 k)) (hnm : ∀ a, a < N → ∀ b, b < N → a ≠ b → (T a).2.1 ≠ (T b).2.1) (j : Nat) (hj : j < N) {index : Nat} (hlink : Cond.fieldLink own index (T j).1 (T j).2.1 (T j).2.2.1 ∈ TB) (hfin : (T j).2.2.2 = false) {v : Int32} (hn : narrow (ty0 j) (.int v) = .int v) (hfit : fits (ty0 j) (.int v) = true) (hl : j < fs.length) (hset : (.inr (ci, fs.set j (.int v)) : va_E) = g_ce G lam k (upd (σ k) j v)) (hdg : decode cc pc = .ok (.putfield index, 3))
    (kk : ∀ (H : Heap) (locs : List Loc), va_P (g_D G) vwCl (allW G lam (g_u2 σ k j v)) H → va_S (g_A G) s.heap H locs → W p l e R s m args below meth c H locs 0 0 Q (F0 m (pc + 3) ls rest)) : W p l e R s m args below meth c H locs 0 0 Q (F0 m pc ls (.int v :: .ref (g_ad G k) :: rest)) :=
  va_put (D := g_D G) (ci := ci) (C := Cn) (T := T) (N := N) C.1 C.2.1 C.2.2.2.2.1 hin ty0 hty hnm C.2.2.2.1 C.2.2.2.2.2.1 hP (g_Dd C.2.2.2.2.2.2.1) hS k (by rw [allW_at hk, he]) hc j hj (C.2.2.2.2.1 _ hlink) (fun _ h9 => h9) hfin (hty j hj) hn hfit hl hdg
    (fun H1 locs1 hP1 _ hS1 => kk H1 locs1 (by rw [hset, allW_set hk] at hP1; exact hP1) hS1)
theorem r_ald (C : Cx p s m c args cc nL own G) (hP : va_P (g_D G) vwCl (allW G lam σ) H) (k : Nat) (hk : k < 40) {n : Nat} (he : g_ce G lam k (σ k) = .inl (g_cy G k, n, .inl (σ k))) {i : Int32} (hin : vp_in i n) (hdg : decode cc pc = .ok (.iaload, 1))
    (kk : W p l e R s m args below meth c H locs 0 0 Q (F0 m (pc + 1) ls (.int (σ k i.toNatClampNeg) :: rest))) (h28 : k ≠ 28 := by decide) : W p l e R s m args below meth c H locs 0 0 Q (F0 m pc ls (.int i :: .ref (g_ad G k) :: rest)) :=
  va_iald (D := g_D G) C.1 C.2.1 C.2.2.2.2.2.1 hP k k (by rw [allW_at hk, he]) (g_ty_i hk h28) hin hdg kk
theorem r_ast (C : Cx p s m c args cc nL own G) (hP : va_P (g_D G) vwCl (allW G lam σ) H) (hS : va_S (g_A G) s.heap H locs) (k : Nat) (hk : k < 40) {n : Nat} (he : ∀ r, g_ce G lam k r = .inl (g_cy G k, n, .inl r)) {i x : Int32} (hin : vp_in i n) (hdg : decode cc pc = .ok (.iastore, 1))
    (kk : ∀ (H : Heap) (locs : List Loc), va_P (g_D G) vwCl (allW G lam (g_u2 σ k i.toNatClampNeg x)) H → va_S (g_A G) s.heap H locs → W p l e R s m args below meth c H locs 0 0 Q (F0 m (pc + 1) ls rest)) (h28 : k ≠ 28 := by decide) : W p l e R s m args below meth c H locs 0 0 Q (F0 m pc ls (.int x :: .int i :: .ref (g_ad G k) :: rest)) :=
  va_iast (D := g_D G) C.1 C.2.1 C.2.2.2.2.2.1 hP (g_Dd C.2.2.2.2.2.2.1) hS k k (by rw [allW_at hk, he]) (g_ty_i hk h28) hin hdg
    (fun H1 locs1 hP1 _ hS1 => kk H1 locs1 (by rw [← he, allW_set hk] at hP1; exact hP1) hS1)
theorem r_aldc (C : Cx p s m c args cc nL own G) (hP : va_P (g_D G) vwCl (allW G lam σ) H) (k : Nat) (hk : k < 40) {n : Nat} (he : g_ce G lam k (σ k) = .inl (g_cy G k, n, .inl (σ k))) {i : Int32} {j : Nat} (hj : i.toNatClampNeg = j) (hin : vp_in i n) (hdg : decode cc pc = .ok (.iaload, 1))
    (kk : W p l e R s m args below meth c H locs 0 0 Q (F0 m (pc + 1) ls (.int (σ k j) :: rest))) (h28 : k ≠ 28 := by decide) : W p l e R s m args below meth c H locs 0 0 Q (F0 m pc ls (.int i :: .ref (g_ad G k) :: rest)) := by
  subst hj
  exact r_ald C hP k hk he hin hdg kk h28
theorem r_astc (C : Cx p s m c args cc nL own G) (hP : va_P (g_D G) vwCl (allW G lam σ) H) (hS : va_S (g_A G) s.heap H locs) (k : Nat) (hk : k < 40) {n : Nat} (he : ∀ r, g_ce G lam k r = .inl (g_cy G k, n, .inl r)) {i x : Int32} {j : Nat} (hj : i.toNatClampNeg = j) (hin : vp_in i n) (hdg : decode cc pc = .ok (.iastore, 1))
    (kk : ∀ (H : Heap) (locs : List Loc), va_P (g_D G) vwCl (allW G lam (g_u2 σ k j x)) H → va_S (g_A G) s.heap H locs → W p l e R s m args below meth c H locs 0 0 Q (F0 m (pc + 1) ls rest)) (h28 : k ≠ 28 := by decide) : W p l e R s m args below meth c H locs 0 0 Q (F0 m pc ls (.int x :: .int i :: .ref (g_ad G k) :: rest)) := by
  subst hj
  exact r_ast C hP hS k hk he hin hdg kk h28
theorem r_copy (C : Cx p s m c args cc nL own G) (hP : va_P (g_D G) vwCl (allW G lam σ) H) (hS : va_S (g_A G) s.heap H locs) (hsz : ls.size = nL) {index : Nat} (hlink : Cond.methodLink own index arraycopyName ∈ TB) (hnat : Cond.native arraycopyName ∈ TB) (hstat : Cond.static arraycopyName ∈ TB) (hini : Cond.initialized "java/lang/System" ∈ TB) (k0 k1 : Nat) (h0 : k0 < 40) (h1 : k1 < 40) {n0 n1 : Nat} (he0 : ∀ r, g_ce G lam k0 r = .inl (g_cy G k0, n0, .inl r)) (he1 : ∀ r, g_ce G lam k1 r = .inl (g_cy G k1, n1, .inl r)) {sp dp n : Int32}
    (hg : 0 ≤ sp.toInt ∧ 0 ≤ dp.toInt ∧ 0 ≤ n.toInt ∧ sp.toInt + n.toInt ≤ n0 ∧ dp.toInt + n.toInt ≤ n1) (hframes : 1 ≤ R.frames) (hlocals : (rest.map fun v => v.category).sum + 18 ≤ R.locals) (hdg : decode cc pc = .ok (.invokestatic index, 3))
    (kk : ∀ (H : Heap) (locs : List Loc), va_P (g_D G) vwCl (allW G lam (g_up σ k1 (va_cpy (σ k0) (σ k1) sp.toNatClampNeg dp.toNatClampNeg n.toNatClampNeg))) H → va_S (g_A G) s.heap H locs → W p l e R s m args below meth c H locs 0 0 Q (F0 m (pc + 3) ls rest)) (h280 : k0 ≠ 28 := by decide) (h281 : k1 ≠ 28 := by decide) : W p l e R s m args below meth c H locs 0 0 Q (F0 m pc ls (.int n :: .int dp :: .ref (g_ad G k1) :: .int sp :: .ref (g_ad G k0) :: rest)) := by
  have tn : ∀ x : Int32, 0 ≤ x.toInt → ¬ x < 0 ∧ (x.toNatClampNeg : Int) = x.toInt := fun x hx => by
    obtain ⟨j, hj, e⟩ := nI_of (x := x) (fun h => by have := Int32.lt_iff_toInt_lt.mp h; simp at this; omega)
    subst e
    rw [nI_clamp hj, nI_toInt hj]
    exact ⟨nI_pos hj, rfl⟩
  obtain ⟨g1, g2, g3, g4, g5⟩ := hg
  have e1 := tn sp g1
  have e2 := tn dp g2
  have e3 := tn n g3
  exact va_copyi (D := g_D G) C.1 C.2.1 (by rw [C.2.2.1, hsz]) C.2.2.2.1 (C.2.2.2.2.1 _ hlink) (C.2.2.2.2.1 _ hnat) (C.2.2.2.2.1 _ hstat) (C.2.2.2.2.1 _ hini) C.2.2.2.2.2.1 hP (g_Dd C.2.2.2.2.2.2.1) hS k0 k1 k0 k1 (by rw [allW_at h0, he0]) (by rw [allW_at h1, he1]) (ty := .int) (g_ty_i h0 h280) (g_ty_i h1 h281) rfl e1.1 e2.1 e3.1 (by omega) (by omega) (fun _ _ => rfl) hframes hlocals hdg
    (fun H1 locs1 hP1 _ hS1 => kk H1 locs1 (by rw [← he1, allW_set h1] at hP1; exact hP1) hS1)
theorem r_alen (C : Cx p s m c args cc nL own G) (hP : va_P (g_D G) vwCl (allW G lam σ) H) (k : Nat) (hk : k < 40) {n : Nat} (he : g_ce G lam k (σ k) = .inl (g_cy G k, n, .inl (σ k))) {v : Int32} (hv : Int32.ofNat n = v) (hdg : decode cc pc = .ok (.arraylength, 1))
    (kk : W p l e R s m args below meth c H locs 0 0 Q (F0 m (pc + 1) ls (.int v :: rest))) (h28 : k ≠ 28 := by decide) : W p l e R s m args below meth c H locs 0 0 Q (F0 m pc ls (.ref (g_ad G k) :: rest)) :=
  va_alen (D := g_D G) C.1 C.2.1 C.2.2.2.2.2.1 hP k k (by rw [allW_at hk, he]) (ty := .int) (g_ty_i hk h28) hv hdg kk
theorem r_zld (C : Cx p s m c args cc nL own G) (hP : va_P (g_D G) vwCl (allW G lam σ) H) {i : Int32} (hin : vp_in i 2) (hdg : decode cc pc = .ok (.baload, 1))
    (kk : W p l e R s m args below meth c H locs 0 0 Q (F0 m (pc + 1) ls (.int (σ 28 i.toNatClampNeg) :: rest))) : W p l e R s m args below meth c H locs 0 0 Q (F0 m pc ls (.int i :: .ref (g_ad G 28) :: rest)) :=
  va_zald (D := g_D G) C.1 C.2.1 C.2.2.2.2.2.1 hP 28 28 (by rw [allW_at (by decide)]; rfl) (g_ty_at (by decide)) hin hdg kk
theorem r_zst (C : Cx p s m c args cc nL own G) (hP : va_P (g_D G) vwCl (allW G lam σ) H) (hS : va_S (g_A G) s.heap H locs) {i x : Int32} (hin : vp_in i 2) (hx : vp_nar .boolean x = x) (hdg : decode cc pc = .ok (.bastore, 1))
    (kk : ∀ (H : Heap) (locs : List Loc), va_P (g_D G) vwCl (allW G lam (g_u2 σ 28 i.toNatClampNeg x)) H → va_S (g_A G) s.heap H locs → W p l e R s m args below meth c H locs 0 0 Q (F0 m (pc + 1) ls rest)) : W p l e R s m args below meth c H locs 0 0 Q (F0 m pc ls (.int x :: .int i :: .ref (g_ad G 28) :: rest)) :=
  va_zast (D := g_D G) C.1 C.2.1 C.2.2.2.2.2.1 hP (g_Dd C.2.2.2.2.2.2.1) hS 28 28 (by rw [allW_at (by decide)]; rfl) (g_ty_at (by decide)) hin hdg
    (fun H1 locs1 hP1 _ hS1 => kk H1 locs1 (by rw [hx] at hP1; have q := allW_set (G := G) (lam := lam) (σ := σ) (k := 28) (by decide) (upd (σ 28) i.toNatClampNeg x); exact q ▸ hP1) hS1)
/-- the ends -/
theorem ret_i {v : Int32} {q : Int32 × St} (C : Cx p s m c args cc nL own G) (hr : meth.sig.returnType = some .int) (hlocks : meth.locks = false) (hP : va_P (g_D G) vwCl (allW G lam σ) H) (hS : va_S (g_A G) s.heap H locs) (h : some (v, σ) = some q) (hdg : decode cc pc = .ok (.ireturn, 1)) : W p l e R s m args below meth c H locs 0 0 (Qi q below args s G lam) (F0 m pc ls [.int v]) := by
  cases h
  exact W.iret (v := v) C.1 C.2.1 hr (fun t ht _ => ⟨⟨v, σ, rfl, ⟨rfl, rfl⟩, by unfold GB; rw [ht]; exact hP⟩, hS.F ht⟩) hS.2.2 hdg hlocks
theorem ret_z {v : Int32} {q : Int32 × St} (C : Cx p s m c args cc nL own G) (hr : meth.sig.returnType = some .boolean) (hlocks : meth.locks = false) (hP : va_P (g_D G) vwCl (allW G lam σ) H) (hS : va_S (g_A G) s.heap H locs) (h : some (v, σ) = some q) (hv : v = 0 ∨ v = 1) (hdg : decode cc pc = .ok (.ireturn, 1)) : W p l e R s m args below meth c H locs 0 0 (Qi q below args s G lam) (F0 m pc ls [.int v]) := by
  cases h
  exact W.zret (v := v) (ty := .boolean) C.1 C.2.1 hr (by rcases hv with rfl | rfl <;> rfl) (fun t ht _ => ⟨⟨v, σ, rfl, ⟨rfl, rfl⟩, by unfold GB; rw [ht]; exact hP⟩, hS.F ht⟩) hS.2.2 hdg hlocks
theorem narrow_c {v : Int32} (h : 0 ≤ v.toInt ∧ v.toInt < 65536) : narrow .char (.int v) = .int v := by
  obtain ⟨j, hj, e⟩ := nI_of (x := v) (fun h9 => by have := Int32.lt_iff_toInt_lt.mp h9; simp at this; omega)
  subst e
  rw [nI_toInt hj] at h
  exact (pk_charN (by omega)).1
theorem ret_c {v : Int32} {q : Int32 × St} (C : Cx p s m c args cc nL own G) (hr : meth.sig.returnType = some .char) (hlocks : meth.locks = false) (hP : va_P (g_D G) vwCl (allW G lam σ) H) (hS : va_S (g_A G) s.heap H locs) (h : some (v, σ) = some q) (hv : 0 ≤ v.toInt ∧ v.toInt < 65536) (hdg : decode cc pc = .ok (.ireturn, 1)) : W p l e R s m args below meth c H locs 0 0 (Qi q below args s G lam) (F0 m pc ls [.int v]) := by
  cases h
  exact W.zret (v := v) (ty := .char) C.1 C.2.1 hr (narrow_c hv) (fun t ht _ => ⟨⟨v, σ, rfl, ⟨rfl, rfl⟩, by unfold GB; rw [ht]; exact hP⟩, hS.F ht⟩) hS.2.2 hdg hlocks
theorem ret_b {v : Int32} {q : Int32 × St} (C : Cx p s m c args cc nL own G) (hr : meth.sig.returnType = some .byte) (hlocks : meth.locks = false) (hP : va_P (g_D G) vwCl (allW G lam σ) H) (hS : va_S (g_A G) s.heap H locs) (h : some (v, σ) = some q) (hv : narrow .byte (.int v) = .int v) (hdg : decode cc pc = .ok (.ireturn, 1)) : W p l e R s m args below meth c H locs 0 0 (Qi q below args s G lam) (F0 m pc ls [.int v]) := by
  cases h
  exact W.zret (v := v) (ty := .byte) C.1 C.2.1 hr hv (fun t ht _ => ⟨⟨v, σ, rfl, ⟨rfl, rfl⟩, by unfold GB; rw [ht]; exact hP⟩, hS.F ht⟩) hS.2.2 hdg hlocks
theorem ret_v {q : St} (C : Cx p s m c args cc nL own G) (hr : meth.sig.returnType = none) (hlocks : meth.locks = false) (hP : va_P (g_D G) vwCl (allW G lam σ) H) (hS : va_S (g_A G) s.heap H locs) (h : some σ = some q) (hdg : decode cc pc = .ok (.return_, 1)) : W p l e R s m args below meth c H locs 0 0 (Qv q below args s G lam) (F0 m pc ls []) := by
  cases h
  exact W.vret C.1 C.2.1 hr (fun t ht _ => ⟨⟨σ, rfl, rfl, by unfold GB; rw [ht]; exact hP⟩, hS.F ht⟩) hS.2.2 hdg hlocks
theorem ret_l {v : Int64} {q : Int64 × St} (C : Cx p s m c args cc nL own G) (hr : meth.sig.returnType = some .long) (hlocks : meth.locks = false) (hP : va_P (g_D G) vwCl (allW G lam σ) H) (hS : va_S (g_A G) s.heap H locs) (h : some (v, σ) = some q) (hdg : decode cc pc = .ok (.lreturn, 1)) : W p l e R s m args below meth c H locs 0 0 (Ql q below args s G lam) (F0 m pc ls [.long v]) := by
  cases h
  exact W.lret (v := v) C.1 C.2.1 hr (fun t ht _ => ⟨⟨v, σ, rfl, ⟨rfl, rfl⟩, by unfold GB; rw [ht]; exact hP⟩, hS.F ht⟩) hS.2.2 hdg hlocks
/-- a number under another name -/
theorem r_nm {x y : Int32} (h : some x = some y) (k : W p l e R s m args below meth c H locs 0 0 Q (F0 m pc ls (.int y :: rest))) : W p l e R s m args below meth c H locs 0 0 Q (F0 m pc ls (.int x :: rest)) := by
  cases h; exact k
theorem r_nml {x y : Int64} (h : some x = some y) (k : W p l e R s m args below meth c H locs 0 0 Q (F0 m pc ls (.long y :: rest))) : W p l e R s m args below meth c H locs 0 0 Q (F0 m pc ls (.long x :: rest)) := by
  cases h; exact k
theorem ret_s {v : Nat} {rt : FieldType} {q : Nat × St} (C : Cx p s m c args cc nL own G) (hr : meth.sig.returnType = some rt) (hlocks : meth.locks = false) (hrt : (∃ n, rt = .object n) ∨ ∃ t, rt = .array t) (hP : va_P (g_D G) vwCl (allW G lam σ) H) (hS : va_S (g_A G) s.heap H locs) (h : some (v, σ) = some q) (hdg : decode cc pc = .ok (.areturn, 1)) : W p l e R s m args below meth c H locs 0 0 (Qs q below args s G lam) (F0 m pc ls [.ref (g_sk G v)]) := by
  cases h
  exact W.aret C.1 C.2.1 hr hrt (Or.inr ⟨_, rfl⟩) (fun t ht _ => ⟨⟨σ, g_sk G v, rfl, rfl, by unfold GB; rw [ht]; exact hP, rfl⟩, hS.F ht⟩) hS.2.2 hdg hlocks
theorem ret_o {v : Nat} {rt : FieldType} {q : Nat × St} (C : Cx p s m c args cc nL own G) (hr : meth.sig.returnType = some rt) (hlocks : meth.locks = false) (hrt : (∃ n, rt = .object n) ∨ ∃ t, rt = .array t) (hP : va_P (g_D G) vwCl (allW G lam σ) H) (hS : va_S (g_A G) s.heap H locs) (h : some (v, σ) = some q) (hdg : decode cc pc = .ok (.areturn, 1)) : W p l e R s m args below meth c H locs 0 0 (Qo q below args s G lam) (F0 m pc ls [.ref (g_ad G v)]) := by
  cases h
  exact W.aret C.1 C.2.1 hr hrt (Or.inr ⟨_, rfl⟩) (fun t ht _ => ⟨⟨σ, g_ad G v, rfl, rfl, by unfold GB; rw [ht]; exact hP, rfl⟩, hS.F ht⟩) hS.2.2 hdg hlocks
theorem r_eq {x y : Int32} (h : x = y) (k : W p l e R s m args below meth c H locs 0 0 Q (F0 m pc ls (.int y :: rest))) : W p l e R s m args below meth c H locs 0 0 Q (F0 m pc ls (.int x :: rest)) := by
  subst h; exact k
theorem hPn {σ1 σ2 : St} (h : some σ1 = some σ2) (hP : va_P (g_D G) vwCl (allW G lam σ1) H) : va_P (g_D G) vwCl (allW G lam σ2) H := by
  cases h; exact hP
end R1
theorem bnd {α β : Type} {x : Option α} {f : α → Option β} {b : β} (h : Option.bind x f = some b) : ∃ a, x = some a ∧ f a = some b := Option.bind_eq_some_iff.mp h
theorem h_t {α : Type} {c : Prop} [inst : Decidable c] {a b x : α} (hc : c) (h : (if c then a else b) = x) : a = x := by
  rw [if_pos hc] at h; exact h
theorem h_f {α : Type} {c : Prop} [inst : Decidable c] {a b x : α} (hc : ¬ c) (h : (if c then a else b) = x) : b = x := by
  rw [if_neg hc] at h; exact h
theorem h_g {α : Type} {c : Prop} [inst : Decidable c] {a : Option α} {x : α} (h : (if c then a else none) = some x) : c ∧ a = some x := by
  by_cases hc : c
  · rw [if_pos hc] at h; exact ⟨hc, h⟩
  · rw [if_neg hc] at h; cases h
theorem h_nz {α : Type} {c : Prop} [inst : Decidable c] {a : Option α} {x : α} (h : (if c then none else a) = some x) : ¬ c ∧ a = some x := by
  by_cases hc : c
  · rw [if_pos hc] at h; cases h
  · rw [if_neg hc] at h; exact ⟨hc, h⟩
def fx {α : Type} (F : α → α) (z : α) : Nat → α
  | 0 => z
  | n + 1 => F (fx F z n)
def FU : Nat := 2000
theorem ne_i {x k : Int32} {z : Int} (hz : k.toInt = z) (h : ¬ x = k) : ¬ x.toInt = z := fun e => h (Int32.toInt_inj.mp (by rw [e, hz]))
/-- the words of a method that is called -/
def MI (y : MethodName) (bytes : ByteArray) (maxL : Nat) (ret : Option FieldType) (Cn : String) (n : Nat) : Prop := Cond.code y bytes maxL ret ∈ TB ∧ Cond.instanceMethod y ∈ TB ∧ Cond.selects Cn y y ∈ TB ∧ Cond.initialized Cn ∈ TB ∧ (y.cls = Cn ∧ y.cls ≠ "java/lang/invoke/MethodHandle" ∧ y.cls ≠ "java/lang/invoke/VarHandle" ∧ (parseMethodDescriptor y.desc).map (fun d => d.parameters.length) = some n)
def MS (y : MethodName) (bytes : ByteArray) (maxL : Nat) (ret : Option FieldType) (Cn : String) (n : Nat) : Prop := Cond.code y bytes maxL ret ∈ TB ∧ Cond.static y ∈ TB ∧ Cond.initialized Cn ∈ TB ∧ (y.cls = Cn ∧ y.cls ≠ "java/lang/invoke/MethodHandle" ∧ y.cls ≠ "java/lang/invoke/VarHandle" ∧ (parseMethodDescriptor y.desc).map (fun d => d.parameters.length) = some n)
theorem gdV {own C : String} {index : Nat} {y : MethodName} {bytes : ByteArray} {maxL n : Nat} {ret : Option FieldType} (h : MI y bytes maxL ret C n) (hl : Cond.methodLink own index y ∈ TB) : GoodIn TB (wsV own index C y (Cond.code y bytes maxL ret :: TB)) := by
  intro w hw
  have key : w ∈ TB := by
    unfold wsV at hw
    simp only [List.cons_append, List.nil_append, List.mem_cons] at hw
    rcases hw with rfl | rfl | rfl | rfl | rfl | hw
    · exact hl
    · exact h.2.1
    · exact h.2.2.1
    · exact h.2.2.2.1
    · exact h.1
    · exact hw
  exact ⟨key, tb_good key⟩
theorem gdS {own C : String} {index : Nat} {y : MethodName} {bytes : ByteArray} {maxL n : Nat} {ret : Option FieldType} (h : MS y bytes maxL ret C n) (hl : Cond.methodLink own index y ∈ TB) : GoodIn TB (va_wsS own index y (Cond.code y bytes maxL ret :: TB)) := by
  intro w hw
  have key : w ∈ TB := by
    unfold va_wsS at hw
    simp only [List.cons_append, List.nil_append, List.mem_cons] at hw
    rcases hw with rfl | rfl | rfl | rfl | hw
    · exact hl
    · exact h.2.1
    · rw [h.2.2.2.1]; exact h.2.2.1
    · exact h.1
    · exact hw
  exact ⟨key, tb_good key⟩
section R2
variable {p : Program} {l : Launch} {e : Env} {R : Room} {s : State} {m : MethodId} {args : Array Value} {below : List Frame} {meth : Method} {c : Code} {H : Heap} {locs : List Loc} {Q : State → Prop}
variable {cc : ByteArray} {pc nL : Nat} {ls : Array Slot} {rest st : List Value} {own : String} {G : GT} {lam : Lm} {σ : St}
variable {y : MethodName} {bytes : ByteArray} {maxL n index : Nat} {ret : Option FieldType} {Cn : String} {rm : Room} {As : List Value}
theorem call_i {q : Int32 × St} (C : Cx p s m c args cc nL own G) (hP : va_P (g_D G) vwCl (allW G lam σ) H) (hS : va_S (g_A G) s.heap H locs) {k : Nat} (hM : Met l y (Cond.code y bytes maxL ret :: TB) rm (va_Pc (.ref (g_ad G k) :: As) (GW G lam σ)) (Ri q G lam) 0 0 (g_A G)) (hI : MI y bytes maxL ret Cn n) (hlink : Cond.methodLink own index y ∈ TB) (k0 : Nat) (hk : k < 40) {ci : Nat} {fs : List Value} (he : g_ce G lam k (σ k) = .inr (ci, fs)) {T : u_T} {N : Nat} (hc : vwCl[ci]? = some (Cn, T, N)) (hR : rm.frames + 1 ≤ R.frames ∧ 8 + (maxL + 11) + rm.locals ≤ R.locals) (hn : As.length = n) (hsz : ls.size = nL) (hst : st = As.reverse ++ .ref (g_ad G k) :: rest) (hW : 2 * (F0 m pc ls rest).monitorRoom + (rest.map fun v => v.category).sum ≤ 8) (hdg : decode cc pc = .ok (.invokevirtual index, 3))
    (kk : ∀ (H : Heap) (locs : List Loc), va_P (g_D G) vwCl (allW G lam (q.2)) H → va_S (g_A G) s.heap H locs → W p l e R s m args below meth c H locs 0 0 Q (F0 m (pc + 3) ls (.int q.1 :: rest))) (hrc : rm.cells = 0 := by rfl) (hrs : rm.slots = 0 := by rfl) : W p l e R s m args below meth c H locs 0 0 Q (F0 m pc ls st) :=
  va_calli (va_runV (As := As) (rest := rest) (C := Cn) (b := g_ad G k) ⟨C.1, C.2.1, C.2.2.1, C.2.2.2.1, C.2.2.2.2.1⟩ hM (cwV n C.2.2.2.2.1 (gdV hI hlink) rfl hrc hrs hI.2.2.2.2 hR) ⟨GW.blind _, va_recv C.2.2.2.2.2.1 hP (q0 := k) hc (by rw [allW_at hk, he]), fun U hU hW => ⟨rfl, by rw [hU]; exact hP, va_K.moved hW.alike C.2.2.2.2.2.1, by rw [hU]; exact C.2.2.2.2.2.2.warm hS hW⟩⟩ rfl hn hsz hst hW hdg ⟨Nat.zero_le _, Nat.zero_le _⟩) hS (fun _ _ h => h) (fun _ h => h) (fun r u t H1 locs1 ht hvm hw hB hz hk1 hS1 => by obtain ⟨rfl, rfl⟩ := hw; exact kk H1 locs1 (by rw [← ht]; exact hB) hS1)
theorem scall_i {q : Int32 × St} (C : Cx p s m c args cc nL own G) (hP : va_P (g_D G) vwCl (allW G lam σ) H) (hS : va_S (g_A G) s.heap H locs) (hM : Met l y (Cond.code y bytes maxL ret :: TB) rm (va_Pc As (GW G lam σ)) (Ri q G lam) 0 0 (g_A G)) (hI : MS y bytes maxL ret Cn n) (hlink : Cond.methodLink own index y ∈ TB) (hR : rm.frames + 1 ≤ R.frames ∧ 8 + (maxL + 11) + rm.locals ≤ R.locals) (hn : As.length = n) (hsz : ls.size = nL) (hst : st = As.reverse ++ rest) (hW : 2 * (F0 m pc ls rest).monitorRoom + (rest.map fun v => v.category).sum ≤ 8) (hdg : decode cc pc = .ok (.invokestatic index, 3))
    (kk : ∀ (H : Heap) (locs : List Loc), va_P (g_D G) vwCl (allW G lam (q.2)) H → va_S (g_A G) s.heap H locs → W p l e R s m args below meth c H locs 0 0 Q (F0 m (pc + 3) ls (.int q.1 :: rest))) (hrc : rm.cells = 0 := by rfl) (hrs : rm.slots = 0 := by rfl) : W p l e R s m args below meth c H locs 0 0 Q (F0 m pc ls st) :=
  va_calli (va_runS (As := As) (rest := rest) ⟨C.1, C.2.1, C.2.2.1, C.2.2.2.1, C.2.2.2.2.1⟩ hM (va_cwS n C.2.2.2.2.1 (gdS hI hlink) rfl hrc hrs hI.2.2.2.2 hR) ⟨GW.blind _, fun U hU hW => ⟨rfl, by rw [hU]; exact hP, va_K.moved hW.alike C.2.2.2.2.2.1, by rw [hU]; exact C.2.2.2.2.2.2.warm hS hW⟩⟩ rfl hn hsz hst hW hdg ⟨Nat.zero_le _, Nat.zero_le _⟩) hS (fun _ _ h => h) (fun _ h => h) (fun r u t H1 locs1 ht hvm hw hB hz hk1 hS1 => by obtain ⟨rfl, rfl⟩ := hw; exact kk H1 locs1 (by rw [← ht]; exact hB) hS1)
theorem tcall_i {q : Int32 × St} (C : Cx p s m c args cc nL own G) (hP : va_P (g_D G) vwCl (allW G lam σ) H) (hS : va_S (g_A G) s.heap H locs) {i : Nat} (hM : Met l y (Cond.code y bytes maxL ret :: TB) rm (va_Pc (.ref (g_sk G i) :: As) (GW G lam σ)) (Ri q G lam) 0 0 (g_A G)) (hI : MI y bytes maxL ret "java/lang/String" n) (hlink : Cond.methodLink own index y ∈ TB) (hi : i < 18) (hR : rm.frames + 1 ≤ R.frames ∧ 8 + (maxL + 11) + rm.locals ≤ R.locals) (hn : As.length = n) (hsz : ls.size = nL) (hst : st = As.reverse ++ .ref (g_sk G i) :: rest) (hW : 2 * (F0 m pc ls rest).monitorRoom + (rest.map fun v => v.category).sum ≤ 8) (hdg : decode cc pc = .ok (.invokevirtual index, 3))
    (kk : ∀ (H : Heap) (locs : List Loc), va_P (g_D G) vwCl (allW G lam (q.2)) H → va_S (g_A G) s.heap H locs → W p l e R s m args below meth c H locs 0 0 Q (F0 m (pc + 3) ls (.int q.1 :: rest))) (hrc : rm.cells = 0 := by rfl) (hrs : rm.slots = 0 := by rfl) : W p l e R s m args below meth c H locs 0 0 Q (F0 m pc ls st) :=
  va_calli (va_runV (As := As) (rest := rest) (C := "java/lang/String") (b := g_sk G i) ⟨C.1, C.2.1, C.2.2.1, C.2.2.2.1, C.2.2.2.2.1⟩ hM (cwV n C.2.2.2.2.1 (gdV hI hlink) rfl hrc hrs hI.2.2.2.2 hR) ⟨GW.blind _, vk_recv C.2.2.2.2.2.2.2.2.2.2.2.2.1 hi hS, fun U hU hW => ⟨rfl, by rw [hU]; exact hP, va_K.moved hW.alike C.2.2.2.2.2.1, by rw [hU]; exact C.2.2.2.2.2.2.warm hS hW⟩⟩ rfl hn hsz hst hW hdg ⟨Nat.zero_le _, Nat.zero_le _⟩) hS (fun _ _ h => h) (fun _ h => h) (fun r u t H1 locs1 ht hvm hw hB hz hk1 hS1 => by obtain ⟨rfl, rfl⟩ := hw; exact kk H1 locs1 (by rw [← ht]; exact hB) hS1)
theorem call_l {q : Int64 × St} (C : Cx p s m c args cc nL own G) (hP : va_P (g_D G) vwCl (allW G lam σ) H) (hS : va_S (g_A G) s.heap H locs) {k : Nat} (hM : Met l y (Cond.code y bytes maxL ret :: TB) rm (va_Pc (.ref (g_ad G k) :: As) (GW G lam σ)) (Rl q G lam) 0 0 (g_A G)) (hI : MI y bytes maxL ret Cn n) (hlink : Cond.methodLink own index y ∈ TB) (k0 : Nat) (hk : k < 40) {ci : Nat} {fs : List Value} (he : g_ce G lam k (σ k) = .inr (ci, fs)) {T : u_T} {N : Nat} (hc : vwCl[ci]? = some (Cn, T, N)) (hR : rm.frames + 1 ≤ R.frames ∧ 8 + (maxL + 11) + rm.locals ≤ R.locals) (hn : As.length = n) (hsz : ls.size = nL) (hst : st = As.reverse ++ .ref (g_ad G k) :: rest) (hW : 2 * (F0 m pc ls rest).monitorRoom + (rest.map fun v => v.category).sum ≤ 8) (hdg : decode cc pc = .ok (.invokevirtual index, 3))
    (kk : ∀ (H : Heap) (locs : List Loc), va_P (g_D G) vwCl (allW G lam (q.2)) H → va_S (g_A G) s.heap H locs → W p l e R s m args below meth c H locs 0 0 Q (F0 m (pc + 3) ls (.long q.1 :: rest))) (hrc : rm.cells = 0 := by rfl) (hrs : rm.slots = 0 := by rfl) : W p l e R s m args below meth c H locs 0 0 Q (F0 m pc ls st) :=
  va_calll (va_runV (As := As) (rest := rest) (C := Cn) (b := g_ad G k) ⟨C.1, C.2.1, C.2.2.1, C.2.2.2.1, C.2.2.2.2.1⟩ hM (cwV n C.2.2.2.2.1 (gdV hI hlink) rfl hrc hrs hI.2.2.2.2 hR) ⟨GW.blind _, va_recv C.2.2.2.2.2.1 hP (q0 := k) hc (by rw [allW_at hk, he]), fun U hU hW => ⟨rfl, by rw [hU]; exact hP, va_K.moved hW.alike C.2.2.2.2.2.1, by rw [hU]; exact C.2.2.2.2.2.2.warm hS hW⟩⟩ rfl hn hsz hst hW hdg ⟨Nat.zero_le _, Nat.zero_le _⟩) hS (fun _ _ h => h) (fun _ h => h) (fun r u t H1 locs1 ht hvm hw hB hz hk1 hS1 => by obtain ⟨rfl, rfl⟩ := hw; exact kk H1 locs1 (by rw [← ht]; exact hB) hS1)
theorem scall_l {q : Int64 × St} (C : Cx p s m c args cc nL own G) (hP : va_P (g_D G) vwCl (allW G lam σ) H) (hS : va_S (g_A G) s.heap H locs) (hM : Met l y (Cond.code y bytes maxL ret :: TB) rm (va_Pc As (GW G lam σ)) (Rl q G lam) 0 0 (g_A G)) (hI : MS y bytes maxL ret Cn n) (hlink : Cond.methodLink own index y ∈ TB) (hR : rm.frames + 1 ≤ R.frames ∧ 8 + (maxL + 11) + rm.locals ≤ R.locals) (hn : As.length = n) (hsz : ls.size = nL) (hst : st = As.reverse ++ rest) (hW : 2 * (F0 m pc ls rest).monitorRoom + (rest.map fun v => v.category).sum ≤ 8) (hdg : decode cc pc = .ok (.invokestatic index, 3))
    (kk : ∀ (H : Heap) (locs : List Loc), va_P (g_D G) vwCl (allW G lam (q.2)) H → va_S (g_A G) s.heap H locs → W p l e R s m args below meth c H locs 0 0 Q (F0 m (pc + 3) ls (.long q.1 :: rest))) (hrc : rm.cells = 0 := by rfl) (hrs : rm.slots = 0 := by rfl) : W p l e R s m args below meth c H locs 0 0 Q (F0 m pc ls st) :=
  va_calll (va_runS (As := As) (rest := rest) ⟨C.1, C.2.1, C.2.2.1, C.2.2.2.1, C.2.2.2.2.1⟩ hM (va_cwS n C.2.2.2.2.1 (gdS hI hlink) rfl hrc hrs hI.2.2.2.2 hR) ⟨GW.blind _, fun U hU hW => ⟨rfl, by rw [hU]; exact hP, va_K.moved hW.alike C.2.2.2.2.2.1, by rw [hU]; exact C.2.2.2.2.2.2.warm hS hW⟩⟩ rfl hn hsz hst hW hdg ⟨Nat.zero_le _, Nat.zero_le _⟩) hS (fun _ _ h => h) (fun _ h => h) (fun r u t H1 locs1 ht hvm hw hB hz hk1 hS1 => by obtain ⟨rfl, rfl⟩ := hw; exact kk H1 locs1 (by rw [← ht]; exact hB) hS1)
theorem call_v {q : St} (C : Cx p s m c args cc nL own G) (hP : va_P (g_D G) vwCl (allW G lam σ) H) (hS : va_S (g_A G) s.heap H locs) {k : Nat} (hM : Met l y (Cond.code y bytes maxL ret :: TB) rm (va_Pc (.ref (g_ad G k) :: As) (GW G lam σ)) (Rv q G lam) 0 0 (g_A G)) (hI : MI y bytes maxL ret Cn n) (hlink : Cond.methodLink own index y ∈ TB) (k0 : Nat) (hk : k < 40) {ci : Nat} {fs : List Value} (he : g_ce G lam k (σ k) = .inr (ci, fs)) {T : u_T} {N : Nat} (hc : vwCl[ci]? = some (Cn, T, N)) (hR : rm.frames + 1 ≤ R.frames ∧ 8 + (maxL + 11) + rm.locals ≤ R.locals) (hn : As.length = n) (hsz : ls.size = nL) (hst : st = As.reverse ++ .ref (g_ad G k) :: rest) (hW : 2 * (F0 m pc ls rest).monitorRoom + (rest.map fun v => v.category).sum ≤ 8) (hdg : decode cc pc = .ok (.invokevirtual index, 3))
    (kk : ∀ (H : Heap) (locs : List Loc), va_P (g_D G) vwCl (allW G lam (q)) H → va_S (g_A G) s.heap H locs → W p l e R s m args below meth c H locs 0 0 Q (F0 m (pc + 3) ls (rest))) (hrc : rm.cells = 0 := by rfl) (hrs : rm.slots = 0 := by rfl) : W p l e R s m args below meth c H locs 0 0 Q (F0 m pc ls st) :=
  va_callv (va_runV (As := As) (rest := rest) (C := Cn) (b := g_ad G k) ⟨C.1, C.2.1, C.2.2.1, C.2.2.2.1, C.2.2.2.2.1⟩ hM (cwV n C.2.2.2.2.1 (gdV hI hlink) rfl hrc hrs hI.2.2.2.2 hR) ⟨GW.blind _, va_recv C.2.2.2.2.2.1 hP (q0 := k) hc (by rw [allW_at hk, he]), fun U hU hW => ⟨rfl, by rw [hU]; exact hP, va_K.moved hW.alike C.2.2.2.2.2.1, by rw [hU]; exact C.2.2.2.2.2.2.warm hS hW⟩⟩ rfl hn hsz hst hW hdg ⟨Nat.zero_le _, Nat.zero_le _⟩) hS (fun _ _ h => h) (fun _ h => h) (fun u t H1 locs1 ht hvm hw hB hz hk1 hS1 => by subst hw; exact kk H1 locs1 (by rw [← ht]; exact hB) hS1)
theorem scall_v {q : St} (C : Cx p s m c args cc nL own G) (hP : va_P (g_D G) vwCl (allW G lam σ) H) (hS : va_S (g_A G) s.heap H locs) (hM : Met l y (Cond.code y bytes maxL ret :: TB) rm (va_Pc As (GW G lam σ)) (Rv q G lam) 0 0 (g_A G)) (hI : MS y bytes maxL ret Cn n) (hlink : Cond.methodLink own index y ∈ TB) (hR : rm.frames + 1 ≤ R.frames ∧ 8 + (maxL + 11) + rm.locals ≤ R.locals) (hn : As.length = n) (hsz : ls.size = nL) (hst : st = As.reverse ++ rest) (hW : 2 * (F0 m pc ls rest).monitorRoom + (rest.map fun v => v.category).sum ≤ 8) (hdg : decode cc pc = .ok (.invokestatic index, 3))
    (kk : ∀ (H : Heap) (locs : List Loc), va_P (g_D G) vwCl (allW G lam (q)) H → va_S (g_A G) s.heap H locs → W p l e R s m args below meth c H locs 0 0 Q (F0 m (pc + 3) ls (rest))) (hrc : rm.cells = 0 := by rfl) (hrs : rm.slots = 0 := by rfl) : W p l e R s m args below meth c H locs 0 0 Q (F0 m pc ls st) :=
  va_callv (va_runS (As := As) (rest := rest) ⟨C.1, C.2.1, C.2.2.1, C.2.2.2.1, C.2.2.2.2.1⟩ hM (va_cwS n C.2.2.2.2.1 (gdS hI hlink) rfl hrc hrs hI.2.2.2.2 hR) ⟨GW.blind _, fun U hU hW => ⟨rfl, by rw [hU]; exact hP, va_K.moved hW.alike C.2.2.2.2.2.1, by rw [hU]; exact C.2.2.2.2.2.2.warm hS hW⟩⟩ rfl hn hsz hst hW hdg ⟨Nat.zero_le _, Nat.zero_le _⟩) hS (fun _ _ h => h) (fun _ h => h) (fun u t H1 locs1 ht hvm hw hB hz hk1 hS1 => by subst hw; exact kk H1 locs1 (by rw [← ht]; exact hB) hS1)
theorem tcall_v {q : St} (C : Cx p s m c args cc nL own G) (hP : va_P (g_D G) vwCl (allW G lam σ) H) (hS : va_S (g_A G) s.heap H locs) {i : Nat} (hM : Met l y (Cond.code y bytes maxL ret :: TB) rm (va_Pc (.ref (g_sk G i) :: As) (GW G lam σ)) (Rv q G lam) 0 0 (g_A G)) (hI : MI y bytes maxL ret "java/lang/String" n) (hlink : Cond.methodLink own index y ∈ TB) (hi : i < 18) (hR : rm.frames + 1 ≤ R.frames ∧ 8 + (maxL + 11) + rm.locals ≤ R.locals) (hn : As.length = n) (hsz : ls.size = nL) (hst : st = As.reverse ++ .ref (g_sk G i) :: rest) (hW : 2 * (F0 m pc ls rest).monitorRoom + (rest.map fun v => v.category).sum ≤ 8) (hdg : decode cc pc = .ok (.invokevirtual index, 3))
    (kk : ∀ (H : Heap) (locs : List Loc), va_P (g_D G) vwCl (allW G lam (q)) H → va_S (g_A G) s.heap H locs → W p l e R s m args below meth c H locs 0 0 Q (F0 m (pc + 3) ls (rest))) (hrc : rm.cells = 0 := by rfl) (hrs : rm.slots = 0 := by rfl) : W p l e R s m args below meth c H locs 0 0 Q (F0 m pc ls st) :=
  va_callv (va_runV (As := As) (rest := rest) (C := "java/lang/String") (b := g_sk G i) ⟨C.1, C.2.1, C.2.2.1, C.2.2.2.1, C.2.2.2.2.1⟩ hM (cwV n C.2.2.2.2.1 (gdV hI hlink) rfl hrc hrs hI.2.2.2.2 hR) ⟨GW.blind _, vk_recv C.2.2.2.2.2.2.2.2.2.2.2.2.1 hi hS, fun U hU hW => ⟨rfl, by rw [hU]; exact hP, va_K.moved hW.alike C.2.2.2.2.2.1, by rw [hU]; exact C.2.2.2.2.2.2.warm hS hW⟩⟩ rfl hn hsz hst hW hdg ⟨Nat.zero_le _, Nat.zero_le _⟩) hS (fun _ _ h => h) (fun _ h => h) (fun u t H1 locs1 ht hvm hw hB hz hk1 hS1 => by subst hw; exact kk H1 locs1 (by rw [← ht]; exact hB) hS1)
theorem call_s {q : Nat × St} (C : Cx p s m c args cc nL own G) (hP : va_P (g_D G) vwCl (allW G lam σ) H) (hS : va_S (g_A G) s.heap H locs) {k : Nat} (hM : Met l y (Cond.code y bytes maxL ret :: TB) rm (va_Pc (.ref (g_ad G k) :: As) (GW G lam σ)) (Rs q G lam) 0 0 (g_A G)) (hI : MI y bytes maxL ret Cn n) (hlink : Cond.methodLink own index y ∈ TB) (k0 : Nat) (hk : k < 40) {ci : Nat} {fs : List Value} (he : g_ce G lam k (σ k) = .inr (ci, fs)) {T : u_T} {N : Nat} (hc : vwCl[ci]? = some (Cn, T, N)) (hR : rm.frames + 1 ≤ R.frames ∧ 8 + (maxL + 11) + rm.locals ≤ R.locals) (hn : As.length = n) (hsz : ls.size = nL) (hst : st = As.reverse ++ .ref (g_ad G k) :: rest) (hW : 2 * (F0 m pc ls rest).monitorRoom + (rest.map fun v => v.category).sum ≤ 8) (hdg : decode cc pc = .ok (.invokevirtual index, 3))
    (kk : ∀ (H : Heap) (locs : List Loc), va_P (g_D G) vwCl (allW G lam (q.2)) H → va_S (g_A G) s.heap H locs → W p l e R s m args below meth c H locs 0 0 Q (F0 m (pc + 3) ls (.ref (g_sk G q.1) :: rest))) (hrc : rm.cells = 0 := by rfl) (hrs : rm.slots = 0 := by rfl) : W p l e R s m args below meth c H locs 0 0 Q (F0 m pc ls st) :=
  va_callr (va_runV (As := As) (rest := rest) (C := Cn) (b := g_ad G k) ⟨C.1, C.2.1, C.2.2.1, C.2.2.2.1, C.2.2.2.2.1⟩ hM (cwV n C.2.2.2.2.1 (gdV hI hlink) rfl hrc hrs hI.2.2.2.2 hR) ⟨GW.blind _, va_recv C.2.2.2.2.2.1 hP (q0 := k) hc (by rw [allW_at hk, he]), fun U hU hW => ⟨rfl, by rw [hU]; exact hP, va_K.moved hW.alike C.2.2.2.2.2.1, by rw [hU]; exact C.2.2.2.2.2.2.warm hS hW⟩⟩ rfl hn hsz hst hW hdg ⟨Nat.zero_le _, Nat.zero_le _⟩) hS (fun _ _ h => h) (fun _ h => h) (fun u ra t H1 locs1 ht hvm hw hB hz hk1 hS1 => by subst hw; obtain ⟨hB, rfl⟩ := hB; exact kk H1 locs1 (by rw [← ht]; exact hB) hS1)
theorem scall_s {q : Nat × St} (C : Cx p s m c args cc nL own G) (hP : va_P (g_D G) vwCl (allW G lam σ) H) (hS : va_S (g_A G) s.heap H locs) (hM : Met l y (Cond.code y bytes maxL ret :: TB) rm (va_Pc As (GW G lam σ)) (Rs q G lam) 0 0 (g_A G)) (hI : MS y bytes maxL ret Cn n) (hlink : Cond.methodLink own index y ∈ TB) (hR : rm.frames + 1 ≤ R.frames ∧ 8 + (maxL + 11) + rm.locals ≤ R.locals) (hn : As.length = n) (hsz : ls.size = nL) (hst : st = As.reverse ++ rest) (hW : 2 * (F0 m pc ls rest).monitorRoom + (rest.map fun v => v.category).sum ≤ 8) (hdg : decode cc pc = .ok (.invokestatic index, 3))
    (kk : ∀ (H : Heap) (locs : List Loc), va_P (g_D G) vwCl (allW G lam (q.2)) H → va_S (g_A G) s.heap H locs → W p l e R s m args below meth c H locs 0 0 Q (F0 m (pc + 3) ls (.ref (g_sk G q.1) :: rest))) (hrc : rm.cells = 0 := by rfl) (hrs : rm.slots = 0 := by rfl) : W p l e R s m args below meth c H locs 0 0 Q (F0 m pc ls st) :=
  va_callr (va_runS (As := As) (rest := rest) ⟨C.1, C.2.1, C.2.2.1, C.2.2.2.1, C.2.2.2.2.1⟩ hM (va_cwS n C.2.2.2.2.1 (gdS hI hlink) rfl hrc hrs hI.2.2.2.2 hR) ⟨GW.blind _, fun U hU hW => ⟨rfl, by rw [hU]; exact hP, va_K.moved hW.alike C.2.2.2.2.2.1, by rw [hU]; exact C.2.2.2.2.2.2.warm hS hW⟩⟩ rfl hn hsz hst hW hdg ⟨Nat.zero_le _, Nat.zero_le _⟩) hS (fun _ _ h => h) (fun _ h => h) (fun u ra t H1 locs1 ht hvm hw hB hz hk1 hS1 => by subst hw; obtain ⟨hB, rfl⟩ := hB; exact kk H1 locs1 (by rw [← ht]; exact hB) hS1)
theorem call_o {q : Nat × St} (C : Cx p s m c args cc nL own G) (hP : va_P (g_D G) vwCl (allW G lam σ) H) (hS : va_S (g_A G) s.heap H locs) {k : Nat} (hM : Met l y (Cond.code y bytes maxL ret :: TB) rm (va_Pc (.ref (g_ad G k) :: As) (GW G lam σ)) (Ro q G lam) 0 0 (g_A G)) (hI : MI y bytes maxL ret Cn n) (hlink : Cond.methodLink own index y ∈ TB) (k0 : Nat) (hk : k < 40) {ci : Nat} {fs : List Value} (he : g_ce G lam k (σ k) = .inr (ci, fs)) {T : u_T} {N : Nat} (hc : vwCl[ci]? = some (Cn, T, N)) (hR : rm.frames + 1 ≤ R.frames ∧ 8 + (maxL + 11) + rm.locals ≤ R.locals) (hn : As.length = n) (hsz : ls.size = nL) (hst : st = As.reverse ++ .ref (g_ad G k) :: rest) (hW : 2 * (F0 m pc ls rest).monitorRoom + (rest.map fun v => v.category).sum ≤ 8) (hdg : decode cc pc = .ok (.invokevirtual index, 3))
    (kk : ∀ (H : Heap) (locs : List Loc), va_P (g_D G) vwCl (allW G lam (q.2)) H → va_S (g_A G) s.heap H locs → W p l e R s m args below meth c H locs 0 0 Q (F0 m (pc + 3) ls (.ref (g_ad G q.1) :: rest))) (hrc : rm.cells = 0 := by rfl) (hrs : rm.slots = 0 := by rfl) : W p l e R s m args below meth c H locs 0 0 Q (F0 m pc ls st) :=
  va_callr (va_runV (As := As) (rest := rest) (C := Cn) (b := g_ad G k) ⟨C.1, C.2.1, C.2.2.1, C.2.2.2.1, C.2.2.2.2.1⟩ hM (cwV n C.2.2.2.2.1 (gdV hI hlink) rfl hrc hrs hI.2.2.2.2 hR) ⟨GW.blind _, va_recv C.2.2.2.2.2.1 hP (q0 := k) hc (by rw [allW_at hk, he]), fun U hU hW => ⟨rfl, by rw [hU]; exact hP, va_K.moved hW.alike C.2.2.2.2.2.1, by rw [hU]; exact C.2.2.2.2.2.2.warm hS hW⟩⟩ rfl hn hsz hst hW hdg ⟨Nat.zero_le _, Nat.zero_le _⟩) hS (fun _ _ h => h) (fun _ h => h) (fun u ra t H1 locs1 ht hvm hw hB hz hk1 hS1 => by subst hw; obtain ⟨hB, rfl⟩ := hB; exact kk H1 locs1 (by rw [← ht]; exact hB) hS1)
theorem scall_o {q : Nat × St} (C : Cx p s m c args cc nL own G) (hP : va_P (g_D G) vwCl (allW G lam σ) H) (hS : va_S (g_A G) s.heap H locs) (hM : Met l y (Cond.code y bytes maxL ret :: TB) rm (va_Pc As (GW G lam σ)) (Ro q G lam) 0 0 (g_A G)) (hI : MS y bytes maxL ret Cn n) (hlink : Cond.methodLink own index y ∈ TB) (hR : rm.frames + 1 ≤ R.frames ∧ 8 + (maxL + 11) + rm.locals ≤ R.locals) (hn : As.length = n) (hsz : ls.size = nL) (hst : st = As.reverse ++ rest) (hW : 2 * (F0 m pc ls rest).monitorRoom + (rest.map fun v => v.category).sum ≤ 8) (hdg : decode cc pc = .ok (.invokestatic index, 3))
    (kk : ∀ (H : Heap) (locs : List Loc), va_P (g_D G) vwCl (allW G lam (q.2)) H → va_S (g_A G) s.heap H locs → W p l e R s m args below meth c H locs 0 0 Q (F0 m (pc + 3) ls (.ref (g_ad G q.1) :: rest))) (hrc : rm.cells = 0 := by rfl) (hrs : rm.slots = 0 := by rfl) : W p l e R s m args below meth c H locs 0 0 Q (F0 m pc ls st) :=
  va_callr (va_runS (As := As) (rest := rest) ⟨C.1, C.2.1, C.2.2.1, C.2.2.2.1, C.2.2.2.2.1⟩ hM (va_cwS n C.2.2.2.2.1 (gdS hI hlink) rfl hrc hrs hI.2.2.2.2 hR) ⟨GW.blind _, fun U hU hW => ⟨rfl, by rw [hU]; exact hP, va_K.moved hW.alike C.2.2.2.2.2.1, by rw [hU]; exact C.2.2.2.2.2.2.warm hS hW⟩⟩ rfl hn hsz hst hW hdg ⟨Nat.zero_le _, Nat.zero_le _⟩) hS (fun _ _ h => h) (fun _ h => h) (fun u ra t H1 locs1 ht hvm hw hB hz hk1 hS1 => by subst hw; obtain ⟨hB, rfl⟩ := hB; exact kk H1 locs1 (by rw [← ht]; exact hB) hS1)
end R2
theorem mk_Qi {l : Launch} {y : MethodName} {cc : ByteArray} {maxL : Nat} {ty : FieldType} {rm : Room} {vals : List Value} {G : GT} {lam : Lm} {σ : St} {q : Int32 × St} {own : String} (hy : plainName y.cls = true) (hvl : (lg_sl vals).length ≤ maxL) (ho : y.cls = own) (body : ∀ (p : Program) (e : Env) (s : State) (m : MethodId) (args : Array Value) (below : List Frame) (meth : Method) (c : Code), Cx p s m c args cc maxL own G → meth.sig.returnType = some ty → meth.locks = false → va_P (g_D G) vwCl (allW G lam σ) s.heap → ∀ ls : Array Slot, lv_has ls maxL (lv_args 0 vals) → W p l e rm s m args below meth c s.heap [] 0 0 (Qi q below args s G lam) (F0 m 0 ls [])) : Met l y (Cond.code y cc maxL (some ty) :: TB) rm (va_Pc vals (GW G lam σ)) (Ri q G lam) 0 0 (g_A G) := by
  refine Met.ofW (cc := cc) (maxL := maxL) (ret := some ty) hy rfl ?_
  intro p e s m args below meth c s₁ B hml hv
  obtain ⟨rfl, hP, hK, hI⟩ := hv
  have hts := atoms_spec (ws := Cond.code y cc maxL (some ty) :: TB) B.pre
  have hown : s.vm.findClass own = some m.cls := by rw [← ho]; exact findClass_of_methodNamed B.named
  have hl := lv_entry vals (n := maxL) hvl
  rw [lg_entry_eq]
  exact body p e s m _ below meth c ⟨B.exec, B.bytes, hml, hown, fun w h => hts w (List.mem_cons_of_mem _ h), hK, hI⟩ B.returns B.notSynchronized hP _ hl
theorem mk_Ql {l : Launch} {y : MethodName} {cc : ByteArray} {maxL : Nat} {ty : FieldType} {rm : Room} {vals : List Value} {G : GT} {lam : Lm} {σ : St} {q : Int64 × St} {own : String} (hy : plainName y.cls = true) (hvl : (lg_sl vals).length ≤ maxL) (ho : y.cls = own) (body : ∀ (p : Program) (e : Env) (s : State) (m : MethodId) (args : Array Value) (below : List Frame) (meth : Method) (c : Code), Cx p s m c args cc maxL own G → meth.sig.returnType = some ty → meth.locks = false → va_P (g_D G) vwCl (allW G lam σ) s.heap → ∀ ls : Array Slot, lv_has ls maxL (lv_args 0 vals) → W p l e rm s m args below meth c s.heap [] 0 0 (Ql q below args s G lam) (F0 m 0 ls [])) : Met l y (Cond.code y cc maxL (some ty) :: TB) rm (va_Pc vals (GW G lam σ)) (Rl q G lam) 0 0 (g_A G) := by
  refine Met.ofW (cc := cc) (maxL := maxL) (ret := some ty) hy rfl ?_
  intro p e s m args below meth c s₁ B hml hv
  obtain ⟨rfl, hP, hK, hI⟩ := hv
  have hts := atoms_spec (ws := Cond.code y cc maxL (some ty) :: TB) B.pre
  have hown : s.vm.findClass own = some m.cls := by rw [← ho]; exact findClass_of_methodNamed B.named
  have hl := lv_entry vals (n := maxL) hvl
  rw [lg_entry_eq]
  exact body p e s m _ below meth c ⟨B.exec, B.bytes, hml, hown, fun w h => hts w (List.mem_cons_of_mem _ h), hK, hI⟩ B.returns B.notSynchronized hP _ hl
theorem mk_Qv {l : Launch} {y : MethodName} {cc : ByteArray} {maxL : Nat} {rm : Room} {vals : List Value} {G : GT} {lam : Lm} {σ : St} {q : St} {own : String} (hy : plainName y.cls = true) (hvl : (lg_sl vals).length ≤ maxL) (ho : y.cls = own) (body : ∀ (p : Program) (e : Env) (s : State) (m : MethodId) (args : Array Value) (below : List Frame) (meth : Method) (c : Code), Cx p s m c args cc maxL own G → meth.sig.returnType = none → meth.locks = false → va_P (g_D G) vwCl (allW G lam σ) s.heap → ∀ ls : Array Slot, lv_has ls maxL (lv_args 0 vals) → W p l e rm s m args below meth c s.heap [] 0 0 (Qv q below args s G lam) (F0 m 0 ls [])) : Met l y (Cond.code y cc maxL (none) :: TB) rm (va_Pc vals (GW G lam σ)) (Rv q G lam) 0 0 (g_A G) := by
  refine Met.ofW (cc := cc) (maxL := maxL) (ret := none) hy rfl ?_
  intro p e s m args below meth c s₁ B hml hv
  obtain ⟨rfl, hP, hK, hI⟩ := hv
  have hts := atoms_spec (ws := Cond.code y cc maxL (none) :: TB) B.pre
  have hown : s.vm.findClass own = some m.cls := by rw [← ho]; exact findClass_of_methodNamed B.named
  have hl := lv_entry vals (n := maxL) hvl
  rw [lg_entry_eq]
  exact body p e s m _ below meth c ⟨B.exec, B.bytes, hml, hown, fun w h => hts w (List.mem_cons_of_mem _ h), hK, hI⟩ B.returns B.notSynchronized hP _ hl
theorem mk_Qs {l : Launch} {y : MethodName} {cc : ByteArray} {maxL : Nat} {ty : FieldType} {rm : Room} {vals : List Value} {G : GT} {lam : Lm} {σ : St} {q : Nat × St} {own : String} (hy : plainName y.cls = true) (hvl : (lg_sl vals).length ≤ maxL) (ho : y.cls = own) (body : ∀ (p : Program) (e : Env) (s : State) (m : MethodId) (args : Array Value) (below : List Frame) (meth : Method) (c : Code), Cx p s m c args cc maxL own G → meth.sig.returnType = some ty → meth.locks = false → va_P (g_D G) vwCl (allW G lam σ) s.heap → ∀ ls : Array Slot, lv_has ls maxL (lv_args 0 vals) → W p l e rm s m args below meth c s.heap [] 0 0 (Qs q below args s G lam) (F0 m 0 ls [])) : Met l y (Cond.code y cc maxL (some ty) :: TB) rm (va_Pc vals (GW G lam σ)) (Rs q G lam) 0 0 (g_A G) := by
  refine Met.ofW (cc := cc) (maxL := maxL) (ret := some ty) hy rfl ?_
  intro p e s m args below meth c s₁ B hml hv
  obtain ⟨rfl, hP, hK, hI⟩ := hv
  have hts := atoms_spec (ws := Cond.code y cc maxL (some ty) :: TB) B.pre
  have hown : s.vm.findClass own = some m.cls := by rw [← ho]; exact findClass_of_methodNamed B.named
  have hl := lv_entry vals (n := maxL) hvl
  rw [lg_entry_eq]
  exact body p e s m _ below meth c ⟨B.exec, B.bytes, hml, hown, fun w h => hts w (List.mem_cons_of_mem _ h), hK, hI⟩ B.returns B.notSynchronized hP _ hl
theorem mk_Qo {l : Launch} {y : MethodName} {cc : ByteArray} {maxL : Nat} {ty : FieldType} {rm : Room} {vals : List Value} {G : GT} {lam : Lm} {σ : St} {q : Nat × St} {own : String} (hy : plainName y.cls = true) (hvl : (lg_sl vals).length ≤ maxL) (ho : y.cls = own) (body : ∀ (p : Program) (e : Env) (s : State) (m : MethodId) (args : Array Value) (below : List Frame) (meth : Method) (c : Code), Cx p s m c args cc maxL own G → meth.sig.returnType = some ty → meth.locks = false → va_P (g_D G) vwCl (allW G lam σ) s.heap → ∀ ls : Array Slot, lv_has ls maxL (lv_args 0 vals) → W p l e rm s m args below meth c s.heap [] 0 0 (Qo q below args s G lam) (F0 m 0 ls [])) : Met l y (Cond.code y cc maxL (some ty) :: TB) rm (va_Pc vals (GW G lam σ)) (Ro q G lam) 0 0 (g_A G) := by
  refine Met.ofW (cc := cc) (maxL := maxL) (ret := some ty) hy rfl ?_
  intro p e s m args below meth c s₁ B hml hv
  obtain ⟨rfl, hP, hK, hI⟩ := hv
  have hts := atoms_spec (ws := Cond.code y cc maxL (some ty) :: TB) B.pre
  have hown : s.vm.findClass own = some m.cls := by rw [← ho]; exact findClass_of_methodNamed B.named
  have hl := lv_entry vals (n := maxL) hvl
  rw [lg_entry_eq]
  exact body p e s m _ below meth c ⟨B.exec, B.bytes, hml, hown, fun w h => hts w (List.mem_cons_of_mem _ h), hK, hI⟩ B.returns B.notSynchronized hP _ hl
