theorem lt40 {i : Nat} (h : i < 40) : i = 0 ∨ i = 1 ∨ i = 2 ∨ i = 3 ∨ i = 4 ∨ i = 5 ∨ i = 6 ∨ i = 7 ∨ i = 8 ∨ i = 9 ∨ i = 10 ∨ i = 11 ∨ i = 12 ∨ i = 13 ∨ i = 14 ∨ i = 15 ∨ i = 16 ∨ i = 17 ∨ i = 18 ∨ i = 19 ∨ i = 20 ∨ i = 21 ∨ i = 22 ∨ i = 23 ∨ i = 24 ∨ i = 25 ∨ i = 26 ∨ i = 27 ∨ i = 28 ∨ i = 29 ∨ i = 30 ∨ i = 31 ∨ i = 32 ∨ i = 33 ∨ i = 34 ∨ i = 35 ∨ i = 36 ∨ i = 37 ∨ i = 38 ∨ i = 39 := by omega
abbrev RvL (q : Lm × St) (G : GT) : Array Value → State → Outcome → State → Prop := va_Qv (fun (u : Lm × St) => u = q) (fun u t => GB G u.1 u.2 t) (g_A G)
abbrev RlL (q : Int64 × Lm × St) (G : GT) : Array Value → State → Outcome → State → Prop := va_Ql (fun r (u : Lm × St) => r = q.1 ∧ u = q.2) (fun u t => GB G u.1 u.2 t) (g_A G)
abbrev QvL (q : Lm × St) (below : List Frame) (args : Array Value) (s : State) (G : GT) : State → Prop := MQ below (RvL q G) args s 0 0 (g_A G)
abbrev QlL (q : Int64 × Lm × St) (below : List Frame) (args : Array Value) (s : State) (G : GT) : State → Prop := MQ below (RlL q G) args s 0 0 (g_A G)
section R3
variable {p : Program} {l : Launch} {e : Env} {R : Room} {s : State} {m : MethodId} {args : Array Value} {below : List Frame} {meth : Method} {c : Code} {H : Heap} {locs : List Loc} {Q : State → Prop}
variable {cc : ByteArray} {pc nL : Nat} {ls : Array Slot} {rest st : List Value} {own : String} {G : GT} {lam : Lm} {σ : St}
variable {y : MethodName} {bytes : ByteArray} {maxL n index : Nat} {ret : Option FieldType} {Cn : String} {rm : Room} {As : List Value}
theorem allW_setL {lam2 : Lm} {k : Nat} (hk : k < 40) (h : ∀ i, i < 40 → i ≠ k → g_ce G lam2 i (σ i) = g_ce G lam i (σ i)) : (allW G lam σ).set k (g_ad G k, g_ce G lam2 k (σ k)) = allW G lam2 σ := by
  apply List.ext_getElem?
  intro i
  by_cases hi : i < 40
  · rw [allW_at hi]
    by_cases e : i = k
    · subst e
      simp [allW, hi]
    · rw [List.getElem?_set_ne (Ne.symm e), allW_at hi, h i hi e]
  · rw [List.getElem?_eq_none (by simp [allW]; omega), List.getElem?_eq_none (by simp [allW]; omega)]
theorem r_putl (C : Cx p s m c args cc nL own G) (hP : va_P (g_D G) vwCl (allW G lam σ) H) (hS : va_S (g_A G) s.heap H locs) (k : Nat) (hk : k < 40) {ci : Nat} {fs : List Value} (he : g_ce G lam k (σ k) = .inr (ci, fs)) {Cn : String} {T : u_T} {N : Nat} (hc : vwCl[ci]? = some (Cn, T, N)) (hin : ∀ w ∈ u_ws Cn T N, w ∈ TB) (ty0 : Nat → FieldType) (hty : ∀ k, k < N → parseFieldDescriptor (T k).2.2.1 = some (ty0 k)) (hnm : ∀ a, a < N → ∀ b, b < N → a ≠ b → (T a).2.1 ≠ (T b).2.1) (j : Nat) (hj : j < N) {index : Nat} (hlink : Cond.fieldLink own index (T j).1 (T j).2.1 (T j).2.2.1 ∈ TB) (hfin : (T j).2.2.2 = false) {v : Int64} (hn : narrow (ty0 j) (.long v) = .long v) (hfit : fits (ty0 j) (.long v) = true) (hl : j < fs.length) (hset : (.inr (ci, fs.set j (.long v)) : va_E) = g_ce G (vp_updL lam j v) k (σ k)) (hoth : ∀ i, i < 40 → i ≠ k → g_ce G (vp_updL lam j v) i (σ i) = g_ce G lam i (σ i)) (hdg : decode cc pc = .ok (.putfield index, 3))
    (kk : ∀ (H : Heap) (locs : List Loc), va_P (g_D G) vwCl (allW G (vp_updL lam j v) σ) H → va_S (g_A G) s.heap H locs → W p l e R s m args below meth c H locs 0 0 Q (F0 m (pc + 3) ls rest)) : W p l e R s m args below meth c H locs 0 0 Q (F0 m pc ls (.long v :: .ref (g_ad G k) :: rest)) :=
  va_put (D := g_D G) (ci := ci) (C := Cn) (T := T) (N := N) C.1 C.2.1 C.2.2.2.2.1 hin ty0 hty hnm C.2.2.2.1 C.2.2.2.2.2.1 hP (g_Dd C.2.2.2.2.2.2.1) hS k (by rw [allW_at hk, he]) hc j hj (C.2.2.2.2.1 _ hlink) (fun _ h9 => h9) hfin (hty j hj) hn hfit hl hdg
    (fun H1 locs1 hP1 _ hS1 => kk H1 locs1 (by rw [hset, allW_setL hk hoth] at hP1; exact hP1) hS1)
theorem hPl {lam1 lam2 : Lm} (h : some lam1 = some lam2) (hP : va_P (g_D G) vwCl (allW G lam1 σ) H) : va_P (g_D G) vwCl (allW G lam2 σ) H := by
  cases h; exact hP
theorem ret_vL {q : Lm × St} (C : Cx p s m c args cc nL own G) (hr : meth.sig.returnType = none) (hlocks : meth.locks = false) (hP : va_P (g_D G) vwCl (allW G lam σ) H) (hS : va_S (g_A G) s.heap H locs) (h : some (lam, σ) = some q) (hdg : decode cc pc = .ok (.return_, 1)) : W p l e R s m args below meth c H locs 0 0 (QvL q below args s G) (F0 m pc ls []) := by
  cases h
  exact W.vret C.1 C.2.1 hr (fun t ht _ => ⟨⟨(lam, σ), rfl, rfl, by show GB G lam σ t; unfold GB; rw [ht]; exact hP⟩, hS.F ht⟩) hS.2.2 hdg hlocks
theorem ret_lL {v : Int64} {q : Int64 × Lm × St} (C : Cx p s m c args cc nL own G) (hr : meth.sig.returnType = some .long) (hlocks : meth.locks = false) (hP : va_P (g_D G) vwCl (allW G lam σ) H) (hS : va_S (g_A G) s.heap H locs) (h : some (v, lam, σ) = some q) (hdg : decode cc pc = .ok (.lreturn, 1)) : W p l e R s m args below meth c H locs 0 0 (QlL q below args s G) (F0 m pc ls [.long v]) := by
  cases h
  exact W.lret (v := v) C.1 C.2.1 hr (fun t ht _ => ⟨⟨v, (lam, σ), rfl, ⟨rfl, rfl⟩, by show GB G lam σ t; unfold GB; rw [ht]; exact hP⟩, hS.F ht⟩) hS.2.2 hdg hlocks
theorem call_vL {q : Lm × St} (C : Cx p s m c args cc nL own G) (hP : va_P (g_D G) vwCl (allW G lam σ) H) (hS : va_S (g_A G) s.heap H locs) {k : Nat} (hM : Met l y (Cond.code y bytes maxL ret :: TB) rm (va_Pc (.ref (g_ad G k) :: As) (GW G lam σ)) (RvL q G) 0 0 (g_A G)) (hI : MI y bytes maxL ret Cn n) (hlink : Cond.methodLink own index y ∈ TB) (k0 : Nat) (hk : k < 40) {ci : Nat} {fs : List Value} (he : g_ce G lam k (σ k) = .inr (ci, fs)) {T : u_T} {N : Nat} (hc : vwCl[ci]? = some (Cn, T, N)) (hR : rm.frames + 1 ≤ R.frames ∧ 8 + (maxL + 11) + rm.locals ≤ R.locals) (hn : As.length = n) (hsz : ls.size = nL) (hst : st = As.reverse ++ .ref (g_ad G k) :: rest) (hW : 2 * (F0 m pc ls rest).monitorRoom + (rest.map fun v => v.category).sum ≤ 8) (hdg : decode cc pc = .ok (.invokevirtual index, 3))
    (kk : ∀ (H : Heap) (locs : List Loc), va_P (g_D G) vwCl (allW G (q.1) (q.2)) H → va_S (g_A G) s.heap H locs → W p l e R s m args below meth c H locs 0 0 Q (F0 m (pc + 3) ls (rest))) (hrc : rm.cells = 0 := by rfl) (hrs : rm.slots = 0 := by rfl) : W p l e R s m args below meth c H locs 0 0 Q (F0 m pc ls st) :=
  va_callv (va_runV (As := As) (rest := rest) (C := Cn) (b := g_ad G k) ⟨C.1, C.2.1, C.2.2.1, C.2.2.2.1, C.2.2.2.2.1⟩ hM (cwV n C.2.2.2.2.1 (gdV hI hlink) rfl hrc hrs hI.2.2.2.2 hR) ⟨GW.blind _, va_recv C.2.2.2.2.2.1 hP (q0 := k) hc (by rw [allW_at hk, he]), fun U hU hW => ⟨rfl, by rw [hU]; exact hP, va_K.moved hW.alike C.2.2.2.2.2.1, by rw [hU]; exact C.2.2.2.2.2.2.warm hS hW⟩⟩ rfl hn hsz hst hW hdg ⟨Nat.zero_le _, Nat.zero_le _⟩) hS (fun _ _ h => h) (fun _ h => h) (fun u t H1 locs1 ht hvm hw hB hz hk1 hS1 => by subst hw; exact kk H1 locs1 (by rw [← ht]; exact hB) hS1)
theorem call_lL {q : Int64 × Lm × St} (C : Cx p s m c args cc nL own G) (hP : va_P (g_D G) vwCl (allW G lam σ) H) (hS : va_S (g_A G) s.heap H locs) {k : Nat} (hM : Met l y (Cond.code y bytes maxL ret :: TB) rm (va_Pc (.ref (g_ad G k) :: As) (GW G lam σ)) (RlL q G) 0 0 (g_A G)) (hI : MI y bytes maxL ret Cn n) (hlink : Cond.methodLink own index y ∈ TB) (k0 : Nat) (hk : k < 40) {ci : Nat} {fs : List Value} (he : g_ce G lam k (σ k) = .inr (ci, fs)) {T : u_T} {N : Nat} (hc : vwCl[ci]? = some (Cn, T, N)) (hR : rm.frames + 1 ≤ R.frames ∧ 8 + (maxL + 11) + rm.locals ≤ R.locals) (hn : As.length = n) (hsz : ls.size = nL) (hst : st = As.reverse ++ .ref (g_ad G k) :: rest) (hW : 2 * (F0 m pc ls rest).monitorRoom + (rest.map fun v => v.category).sum ≤ 8) (hdg : decode cc pc = .ok (.invokevirtual index, 3))
    (kk : ∀ (H : Heap) (locs : List Loc), va_P (g_D G) vwCl (allW G (q.2.1) (q.2.2)) H → va_S (g_A G) s.heap H locs → W p l e R s m args below meth c H locs 0 0 Q (F0 m (pc + 3) ls (.long q.1 :: rest))) (hrc : rm.cells = 0 := by rfl) (hrs : rm.slots = 0 := by rfl) : W p l e R s m args below meth c H locs 0 0 Q (F0 m pc ls st) :=
  va_calll (va_runV (As := As) (rest := rest) (C := Cn) (b := g_ad G k) ⟨C.1, C.2.1, C.2.2.1, C.2.2.2.1, C.2.2.2.2.1⟩ hM (cwV n C.2.2.2.2.1 (gdV hI hlink) rfl hrc hrs hI.2.2.2.2 hR) ⟨GW.blind _, va_recv C.2.2.2.2.2.1 hP (q0 := k) hc (by rw [allW_at hk, he]), fun U hU hW => ⟨rfl, by rw [hU]; exact hP, va_K.moved hW.alike C.2.2.2.2.2.1, by rw [hU]; exact C.2.2.2.2.2.2.warm hS hW⟩⟩ rfl hn hsz hst hW hdg ⟨Nat.zero_le _, Nat.zero_le _⟩) hS (fun _ _ h => h) (fun _ h => h) (fun r u t H1 locs1 ht hvm hw hB hz hk1 hS1 => by obtain ⟨rfl, rfl⟩ := hw; exact kk H1 locs1 (by rw [← ht]; exact hB) hS1)
end R3
theorem mk_QlL {l : Launch} {y : MethodName} {cc : ByteArray} {maxL : Nat} {ty : FieldType} {rm : Room} {vals : List Value} {G : GT} {lam : Lm} {σ : St} {q : Int64 × Lm × St} {own : String} (hy : plainName y.cls = true) (hvl : (lg_sl vals).length ≤ maxL) (ho : y.cls = own) (body : ∀ (p : Program) (e : Env) (s : State) (m : MethodId) (args : Array Value) (below : List Frame) (meth : Method) (c : Code), Cx p s m c args cc maxL own G → meth.sig.returnType = some ty → meth.locks = false → va_P (g_D G) vwCl (allW G lam σ) s.heap → ∀ ls : Array Slot, lv_has ls maxL (lv_args 0 vals) → W p l e rm s m args below meth c s.heap [] 0 0 (QlL q below args s G) (F0 m 0 ls [])) : Met l y (Cond.code y cc maxL (some ty) :: TB) rm (va_Pc vals (GW G lam σ)) (RlL q G) 0 0 (g_A G) := by
  refine Met.ofW (cc := cc) (maxL := maxL) (ret := some ty) hy rfl ?_
  intro p e s m args below meth c s₁ B hml hv
  obtain ⟨rfl, hP, hK, hI⟩ := hv
  have hts := atoms_spec (ws := Cond.code y cc maxL (some ty) :: TB) B.pre
  have hown : s.vm.findClass own = some m.cls := by rw [← ho]; exact findClass_of_methodNamed B.named
  have hl := lv_entry vals (n := maxL) hvl
  rw [lg_entry_eq]
  exact body p e s m _ below meth c ⟨B.exec, B.bytes, hml, hown, fun w h => hts w (List.mem_cons_of_mem _ h), hK, hI⟩ B.returns B.notSynchronized hP _ hl
theorem mk_QvL {l : Launch} {y : MethodName} {cc : ByteArray} {maxL : Nat} {rm : Room} {vals : List Value} {G : GT} {lam : Lm} {σ : St} {q : Lm × St} {own : String} (hy : plainName y.cls = true) (hvl : (lg_sl vals).length ≤ maxL) (ho : y.cls = own) (body : ∀ (p : Program) (e : Env) (s : State) (m : MethodId) (args : Array Value) (below : List Frame) (meth : Method) (c : Code), Cx p s m c args cc maxL own G → meth.sig.returnType = none → meth.locks = false → va_P (g_D G) vwCl (allW G lam σ) s.heap → ∀ ls : Array Slot, lv_has ls maxL (lv_args 0 vals) → W p l e rm s m args below meth c s.heap [] 0 0 (QvL q below args s G) (F0 m 0 ls [])) : Met l y (Cond.code y cc maxL (none) :: TB) rm (va_Pc vals (GW G lam σ)) (RvL q G) 0 0 (g_A G) := by
  refine Met.ofW (cc := cc) (maxL := maxL) (ret := none) hy rfl ?_
  intro p e s m args below meth c s₁ B hml hv
  obtain ⟨rfl, hP, hK, hI⟩ := hv
  have hts := atoms_spec (ws := Cond.code y cc maxL (none) :: TB) B.pre
  have hown : s.vm.findClass own = some m.cls := by rw [← ho]; exact findClass_of_methodNamed B.named
  have hl := lv_entry vals (n := maxL) hvl
  rw [lg_entry_eq]
  exact body p e s m _ below meth c ⟨B.exec, B.bytes, hml, hown, fun w h => hts w (List.mem_cons_of_mem _ h), hK, hI⟩ B.returns B.notSynchronized hP _ hl
