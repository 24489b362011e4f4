/-! THE CLAIM OUT OF ONE WALK OF THE LAW'S BODY. Your part is whole_start (and what it stands on); all else here is the same for every law, but numbers. -/
def R_law : String := "SailingDirectionsLaw"
def lw_P (b : Addr) (xs : List Int32) (args : Array Value) (s : State) : Prop := args = #[.ref b] ∧ s.IntsAt b xs ∧ xs.length ≤ 3072 ∧ (Jvm.Cond.and given_1 narrow_1).before args s = true
def lw_Q (_ : Array Value) (s : State) (o : Outcome) (t : State) : Prop := o = .returned (some (.int 1)) ∧ Framed s o t [] 40 6541
def lw_Z (below : List Frame) (a : Array Value) (s : State) : State → Prop := fun t => ∃ o, t.status = .running ∧ Ended t below o ∧ lw_Q a s o t
/-- the law's own end, with 1 on the stack, nothing written that was there before, its room as the claim has it -/
theorem lw_ret {p : Program} {l : Launch} {e : Env} {s : State} {m : MethodId} {below : List Frame} {meth : Method} {c : Code} {b : Nat} (hx : p.tables.exec = Jvm.exec) (hb : c.code = code) (hr : meth.sig.returnType = ret) (hlocks : meth.locks = false) {pc : Nat} {H : Heap} {ls : Array Slot} (hdg : decode code pc = .ok (.ireturn, 1)) : W p l e room_1 s m #[Value.ref b] below meth c H [] 40 6541 (lw_Z below #[Value.ref b] s) (F0 m pc ls [.int 1]) := by
  intro T hT X
  obtain ⟨fs, hret, hrun, hended, hW, hframe⟩ := X.leave (v := some (.int 1)) (hlocks := hlocks) (fun h => by rw [hr] at h; cases h)
  have hmeth' : T.vm.method? m = some meth := X.method'
  refine ⟨T.setFrames fs, ?_, .returned (some (.int 1)), hrun, hended, rfl, ⟨_, rfl⟩, hW, hframe⟩
  jvm_step X.here [X.here.top, hx, hb, hdg, hmeth', hr, ret, narrow_b1]
  (try refine ⟨rfl, ?_⟩); (try refine ⟨rfl, ?_⟩)
  first | (intro acts; rw [hret _ acts rfl rfl rfl]) | rw [hret _ _ rfl rfl rfl]
  exact Steps.refl _
/-- what holds at the law's entry: the machine, the code, the tables' words (any of lw_tbl by 'hts w (by decide +kernel)'), the script of L ints xs at the cell b, what the Statement gives of the start (any of its parts by flat_of_before) -/
def lw_At (p : Program) (s : State) (m : MethodId) (meth : Method) (c : Code) (b L : Nat) (xs : Nat → Int32) : Prop :=
  p.tables.exec = Jvm.exec ∧ c.code = code ∧ meth.sig.returnType = ret ∧ c.maxLocals = 4 ∧ s.vm.findClass R_law = some m.cls ∧ (∀ w ∈ lw_tbl, w.before #[Value.ref b] s = true) ∧ va_X b L xs s s.heap ∧ b < s.heap.size ∧ meth.locks = false ∧ (Jvm.Cond.and given_1 narrow_1).before #[Value.ref b] s = true
/-- the class and the reference answer alike at feed, and agree behind it -/
def P_feed (Inv : St → Prop) : Prop := ∀ (σ : St) (a1 : Int32), Inv σ → ∃ qx qm, f_X10_feed σ a1 = some qx ∧ f_X11_feed qx.2 a1 = some qm ∧ qx.1 = qm.1 ∧ Inv qm.2
/-- the class and the reference answer alike at sheet, and agree behind it -/
def P_sheet (Inv : St → Prop) : Prop := ∀ (σ : St), Inv σ → ∃ qx qm, f_X10_sheet σ  = some qx ∧ f_X11_sheet qx.2  = some qm ∧ qx.1 = qm.1 ∧ Inv qm.2
/-- the class and the reference answer alike at fault, and agree behind it -/
def P_fault (Inv : St → Prop) : Prop := ∀ (σ : St), Inv σ → ∃ qx qm, f_X10_fault σ  = some qx ∧ f_X11_fault qx.2  = some qm ∧ qx.1 = qm.1 ∧ Inv qm.2
/-- the class and the reference answer alike at course, and agree behind it -/
def P_course (Inv : St → Prop) : Prop := ∀ (σ : St), Inv σ → ∃ qx qm, f_X10_course σ  = some qx ∧ f_X11_course qx.2  = some qm ∧ qx.1 = qm.1 ∧ Inv qm.2
/-- the class and the reference answer alike at undo, and agree behind it -/
def P_undo (Inv : St → Prop) : Prop := ∀ (σ : St), Inv σ → ∃ qx qm, f_X10_undo σ  = some qx ∧ f_X11_undo qx.2  = some qm ∧ qx.1 = qm.1 ∧ Inv qm.2
/-- the class and the reference answer alike at measure, and agree behind it -/
def P_measure (Inv : St → Prop) : Prop := ∀ (σ : St) (a1 a2 a3 : Int32), Inv σ → ∃ qx qm, f_X10_measure σ a1 a2 a3 = some qx ∧ f_X11_measure qx.2 a1 a2 a3 = some qm ∧ qx.1 = qm.1 ∧ Inv qm.2
/-- the class and the reference answer alike at become, and agree behind it -/
def P_become (Inv : St → Prop) : Prop := ∀ (σ : St) (a1 a2 : Int32), Inv σ → ∃ qx qm, f_X10_become σ a1 a2 = some qx ∧ f_X11_become qx.2 a1 a2 = some qm ∧ qx.1 = qm.1 ∧ Inv qm.2
/-- the class and the reference answer alike at ship, and agree behind it -/
def P_ship (Inv : St → Prop) : Prop := ∀ (σ : St) (a1 a2 : Int32), Inv σ → ∃ qx qm, f_X10_ship σ a1 a2 = some qx ∧ f_X11_ship qx.2 a1 a2 = some qm ∧ qx.1 = qm.1 ∧ Inv qm.2
/-- the class and the reference answer alike at tide, and agree behind it -/
def P_tide (Inv : St → Prop) : Prop := ∀ (σ : St) (a1 a2 : Int32), Inv σ → ∃ qx qm, f_X10_tide σ a1 a2 = some qx ∧ f_X11_tide qx.2 a1 a2 = some qm ∧ qx.1 = qm.1 ∧ Inv qm.2
/-- the class and the reference answer alike at steer, and agree behind it -/
def P_steer (Inv : St → Prop) : Prop := ∀ (σ : St) (a1 a2 : Int32), Inv σ → ∃ qx qm, f_X10_steer σ a1 a2 = some qx ∧ f_X11_steer qx.2 a1 a2 = some qm ∧ qx.1 = qm.1 ∧ Inv qm.2
/-- the class and the reference answer alike at until, and agree behind it -/
def P_until (Inv : St → Prop) : Prop := ∀ (σ : St) (a1 a2 a3 a4 : Int32), Inv σ → ∃ qx qm, f_X10_until σ a1 a2 a3 a4 = some qx ∧ f_X11_until qx.2 a1 a2 a3 a4 = some qm ∧ qx.1 = qm.1 ∧ Inv qm.2
/-- the class and the reference answer alike at add, and agree behind it -/
def P_add (Inv : St → Prop) : Prop := ∀ (σ : St) (a1 a2 a3 a4 a5 : Int32), Inv σ → ∃ qx qm, f_X10_add σ a1 a2 a3 a4 a5 = some qx ∧ f_X11_add qx.2 a1 a2 a3 a4 a5 = some qm ∧ qx.1 = qm.1 ∧ Inv qm.2
/-- the class and the reference answer alike at cut, and agree behind it -/
def P_cut (Inv : St → Prop) : Prop := ∀ (σ : St) (a1 : Int32), Inv σ → ∃ qx qm, f_X10_cut σ a1 = some qx ∧ f_X11_cut qx.2 a1 = some qm ∧ qx.1 = qm.1 ∧ Inv qm.2
/-- the class and the reference answer alike at thing, and agree behind it -/
def P_thing (Inv : St → Prop) : Prop := ∀ (σ : St) (a1 a2 : Int32), Inv σ → ∃ qx qm, f_X10_thing σ a1 a2 = some qx ∧ f_X11_thing qx.2 a1 a2 = some qm ∧ qx.1 = qm.1 ∧ Inv qm.2
/-- the class and the reference answer alike at leg, and agree behind it -/
def P_leg (Inv : St → Prop) : Prop := ∀ (σ : St) (a1 a2 : Int32), Inv σ → ∃ qx qm, f_X10_leg σ a1 a2 = some qx ∧ f_X11_leg qx.2 a1 a2 = some qm ∧ qx.1 = qm.1 ∧ Inv qm.2
/-- the class and the reference answer alike at height, and agree behind it -/
def P_height (Inv : St → Prop) : Prop := ∀ (σ : St) (a1 : Int32), Inv σ → ∃ qx qm, f_X10_height σ a1 = some qx ∧ f_X11_height qx.2 a1 = some qm ∧ qx.1 = qm.1 ∧ Inv qm.2
/-- the class and the reference answer alike at water, and agree behind it -/
def P_water (Inv : St → Prop) : Prop := ∀ (σ : St) (a1 a2 a3 : Int32), Inv σ → ∃ qx qm, f_X10_water σ a1 a2 a3 = some qx ∧ f_X11_water qx.2 a1 a2 a3 = some qm ∧ qx.1 = qm.1 ∧ Inv qm.2
/-- the class and the reference answer alike at mark, and agree behind it -/
def P_mark (Inv : St → Prop) : Prop := ∀ (σ : St) (a1 a2 a3 : Int32), Inv σ → ∃ qx qm, f_X10_mark σ a1 a2 a3 = some qx ∧ f_X11_mark qx.2 a1 a2 a3 = some qm ∧ qx.1 = qm.1 ∧ Inv qm.2
/-- the class and the reference answer alike at seen, and agree behind it -/
def P_seen (Inv : St → Prop) : Prop := ∀ (σ : St) (a1 a2 a3 a4 : Int32), Inv σ → ∃ qx qm, f_X10_seen σ a1 a2 a3 a4 = some qx ∧ f_X11_seen qx.2 a1 a2 a3 a4 = some qm ∧ qx.1 = qm.1 ∧ Inv qm.2
/-- the class and the reference answer alike at line, and agree behind it -/
def P_line (Inv : St → Prop) : Prop := ∀ (σ : St) (a1 a2 a3 a4 : Int32), Inv σ → ∃ qx qm, f_X10_line σ a1 a2 a3 a4 = some qx ∧ f_X11_line qx.2 a1 a2 a3 a4 = some qm ∧ qx.1 = qm.1 ∧ Inv qm.2
/-- the class and the reference answer alike at lines, and agree behind it -/
def P_lines (Inv : St → Prop) : Prop := ∀ (σ : St) (a1 a2 a3 : Int32), Inv σ → ∃ qx qm, f_X10_lines σ a1 a2 a3 = some qx ∧ f_X11_lines qx.2 a1 a2 a3 = some qm ∧ qx.1 = qm.1 ∧ Inv qm.2
/-- the class and the reference answer alike at sail, and agree behind it -/
def P_sail (Inv : St → Prop) : Prop := ∀ (σ : St) (a1 a2 : Int32), Inv σ → ∃ qx qm, f_X10_sail σ a1 a2 = some qx ∧ f_X11_sail qx.2 a1 a2 = some qm ∧ qx.1 = qm.1 ∧ Inv qm.2
/-- the class and the reference answer alike at track, and agree behind it -/
def P_track (Inv : St → Prop) : Prop := ∀ (σ : St) (a1 a2 a3 : Int32), Inv σ → ∃ qx qm, f_X10_track σ a1 a2 a3 = some qx ∧ f_X11_track qx.2 a1 a2 a3 = some qm ∧ qx.1 = qm.1 ∧ Inv qm.2
/-- the class and the reference answer alike at why, and agree behind it -/
def P_why (Inv : St → Prop) : Prop := ∀ (σ : St) (a1 a2 a3 : Int32), Inv σ → ∃ qx qm, f_X10_why σ a1 a2 a3 = some qx ∧ f_X11_why qx.2 a1 a2 a3 = some qm ∧ qx.1 = qm.1 ∧ Inv qm.2
/-- the class and the reference answer alike at sign, and agree behind it -/
def P_sign (Inv : St → Prop) : Prop := ∀ (σ : St) (a1 a2 : Int32), Inv σ → ∃ qx qm, f_X10_sign σ a1 a2 = some qx ∧ f_X11_sign qx.2 a1 a2 = some qm ∧ qx.1 = qm.1 ∧ Inv qm.2
/-- the class and the reference answer alike at times, and agree behind it -/
def P_times (Inv : St → Prop) : Prop := ∀ (σ : St), Inv σ → ∃ qx qm, f_X10_times σ  = some qx ∧ f_X11_times qx.2  = some qm ∧ qx.1 = qm.1 ∧ Inv qm.2
/-- the class and the reference answer alike at deepest, and agree behind it -/
def P_deepest (Inv : St → Prop) : Prop := ∀ (σ : St) (a1 : Int32), Inv σ → ∃ qx qm, f_X10_deepest σ a1 = some qx ∧ f_X11_deepest qx.2 a1 = some qm ∧ qx.1 = qm.1 ∧ Inv qm.2
/-- the class and the reference answer alike at courses, and agree behind it -/
def P_courses (Inv : St → Prop) : Prop := ∀ (σ : St) (a1 a2 : Int32), Inv σ → ∃ qx qm, f_X10_courses σ a1 a2 = some qx ∧ f_X11_courses qx.2 a1 a2 = some qm ∧ qx.1 = qm.1 ∧ Inv qm.2
/-- the class and the reference answer alike at needed, and agree behind it -/
def P_needed (Inv : St → Prop) : Prop := ∀ (σ : St) (a1 : Int32), Inv σ → ∃ qx qm, f_X10_needed σ a1 = some qx ∧ f_X11_needed qx.2 a1 = some qm ∧ qx.1 = qm.1 ∧ Inv qm.2
/-- the class and the reference answer alike at near, and agree behind it -/
def P_near (Inv : St → Prop) : Prop := ∀ (σ : St) (a1 a2 : Int32), Inv σ → ∃ qx qm, f_X10_near σ a1 a2 = some qx ∧ f_X11_near qx.2 a1 a2 = some qm ∧ qx.1 = qm.1 ∧ Inv qm.2
/-- the class and the reference answer alike at out, and agree behind it -/
def P_out (Inv : St → Prop) : Prop := ∀ (lam : Lm) (σ : St) (a1 a2 a3 : Int32), Inv σ → ∃ qx qm, f_X10_out lam σ a1 a2 a3 = some qx ∧ f_X11_out qx.2.2 a1 a2 a3 = some qm ∧ qx.1 = qm.1 ∧ Inv qm.2
/-- the class and the reference answer alike at drawn, and agree behind it -/
def P_drawn (Inv : St → Prop) : Prop := ∀ (σ : St) (a1 a2 a3 : Int32), Inv σ → ∃ qx qm, f_X10_drawn σ a1 a2 a3 = some qx ∧ f_X11_drawn qx.2 a1 a2 a3 = some qm ∧ qx.1 = qm.1 ∧ Inv qm.2
/-- the class and the reference answer alike at image, and agree behind it -/
def P_image (Inv : St → Prop) : Prop := ∀ (σ : St) (a1 : Int32), Inv σ → ∃ qx qm, f_X10_image σ a1 = some qx ∧ f_X11_image qx.2 a1 = some qm ∧ qx.1 = qm.1 ∧ Inv qm.2
/-- the class and the reference answer alike at restore, and agree behind it -/
def P_restore (Inv : St → Prop) : Prop := ∀ (σ : St) (a1 : Int32), Inv σ → ∃ qx qm, f_X10_restore σ a1 = some qx ∧ f_X11_restore qx.2 a1 = some qm ∧ qx.1 = qm.1 ∧ Inv qm.2
/-- the class and the reference answer alike at count, and agree behind it -/
def P_count (Inv : St → Prop) : Prop := ∀ (σ : St) (a1 : Int32), Inv σ → ∃ qx qm, f_X10_count σ a1 = some qx ∧ f_X11_count qx.2 a1 = some qm ∧ qx.1 = qm.1 ∧ Inv qm.2
def Pur (Inv : St → Prop) : Prop := P_feed Inv ∧ P_sheet Inv ∧ P_fault Inv ∧ P_course Inv ∧ P_undo Inv ∧ P_measure Inv ∧ P_become Inv ∧ P_ship Inv ∧ P_tide Inv ∧ P_steer Inv ∧ P_until Inv ∧ P_add Inv ∧ P_cut Inv ∧ P_thing Inv ∧ P_leg Inv ∧ P_height Inv ∧ P_water Inv ∧ P_mark Inv ∧ P_seen Inv ∧ P_line Inv ∧ P_lines Inv ∧ P_sail Inv ∧ P_track Inv ∧ P_why Inv ∧ P_sign Inv ∧ P_times Inv ∧ P_deepest Inv ∧ P_courses Inv ∧ P_needed Inv ∧ P_near Inv ∧ P_out Inv ∧ P_drawn Inv ∧ P_image Inv ∧ P_restore Inv ∧ P_count Inv
section LW
variable {p : Program} {l : Launch} {e : Env} {R : Room} {s : State} {m : MethodId} {args : Array Value} {below : List Frame} {meth : Method} {c : Code} {H : Heap} {locs : List Loc} {Q : State → Prop}
variable {cc : ByteArray} {pc nL cells slots : Nat} {ls : Array Slot} {rest st : List Value} {own : String} {G : GT} {lam : Lm} {σ : St}
variable {y : MethodName} {bytes : ByteArray} {maxL n index : Nat} {ret : Option FieldType} {Cn : String} {rm : Room} {As : List Value}
theorem g_In.warm0 {U : State} (h : g_In G s s.heap) (hS : va_S (fun q : Nat => s.heap.size ≤ q) s.heap H locs) (hW : s.WarmedH U.vm) : g_In G U H := by
  obtain ⟨h1, h2, h3, h4, h5, h6, h7, h8, h9, h10, h11⟩ := h
  have kp : ∀ a : Nat, a < s.heap.size → ¬ g_A G a → H[a]? = s.heap[a]? := fun a ha _ => hS.2.1 a ha (Nat.not_le.mpr ha)
  exact ⟨h1, (h2.kept kp).moved hW.alike, (h3.kept kp).moved hW.alike, (h4.kept kp).moved hW.alike, (h5.kept kp).moved hW.alike, (h6.kept kp).moved hW.alike, (h7.kept kp).moved hW.alike, fun i hi => (h8 i hi).warm hW, h9.warm hW, h10.warm hW, (h11.kept kp).moved hW.alike⟩
theorem lcall_i {q : Int32 × St} (C : Cx p s m c args cc nL own G) (hG : ∀ q, g_A G q → s.heap.size ≤ q) (hP : va_P (g_D G) vwCl (allW G lam σ) H) (hS : va_S (fun q : Nat => s.heap.size ≤ q) s.heap H locs) {k : Nat} (hM : Met l y (Cond.code y bytes maxL ret :: TB) rm (va_Pc (.ref (g_ad G k) :: As) (GW G lam σ)) (Ri q G lam) 0 0 (g_A G)) (hI : MI y bytes maxL ret Cn n) (hlink : Cond.methodLink own index y ∈ TB) (hk : k < 40) {ci : Nat} {fs : List Value} (he : g_ce G lam k (σ k) = .inr (ci, fs)) {T : u_T} {N : Nat} (hc : vwCl[ci]? = some (Cn, T, N)) (hR : rm.frames + 1 ≤ R.frames ∧ 8 + (maxL + 11) + rm.locals ≤ R.locals) (hn : As.length = n) (hsz : ls.size = nL) (hst : st = As.reverse ++ .ref (g_ad G k) :: rest) (hW : 2 * (F0 m pc ls rest).monitorRoom + (rest.map fun v => v.category).sum ≤ 8) (hf : cells + 0 ≤ R.cells ∧ slots + 0 ≤ R.slots) (hdg : decode cc pc = .ok (.invokevirtual index, 3))
    (kk : ∀ (H : Heap) (locs : List Loc), va_P (g_D G) vwCl (allW G (lam) (q.2)) H → va_S (fun q : Nat => s.heap.size ≤ q) s.heap H locs → W p l e R s m args below meth c H locs cells slots Q (F0 m (pc + 3) ls (.int q.1 :: rest))) (hrc : rm.cells = 0 := by rfl) (hrs : rm.slots = 0 := by rfl) : W p l e R s m args below meth c H locs cells slots Q (F0 m pc ls st) :=
  va_calli (va_runV (As := As) (rest := rest) (C := Cn) (b := g_ad G k) ⟨C.1, C.2.1, C.2.2.1, C.2.2.2.1, C.2.2.2.2.1⟩ hM (cwV n C.2.2.2.2.1 (gdV hI hlink) rfl hrc hrs hI.2.2.2.2 hR) ⟨GW.blind _, va_recv C.2.2.2.2.2.1 hP (q0 := k) hc (by rw [allW_at hk, he]), fun U hU hW => ⟨rfl, by rw [hU]; exact hP, va_K.moved hW.alike C.2.2.2.2.2.1, by rw [hU]; exact C.2.2.2.2.2.2.warm0 hS hW⟩⟩ rfl hn hsz hst hW hdg hf) hS (fun q _ h => hG q h) (fun q h => hG q h) (fun r u t H1 locs1 ht hvm hw hB hz hk1 hS1 => by obtain ⟨rfl, rfl⟩ := hw; exact kk H1 locs1 (by rw [← ht]; exact hB) hS1)
theorem lcall_lL {q : Int64 × Lm × St} (C : Cx p s m c args cc nL own G) (hG : ∀ q, g_A G q → s.heap.size ≤ q) (hP : va_P (g_D G) vwCl (allW G lam σ) H) (hS : va_S (fun q : Nat => s.heap.size ≤ q) s.heap H locs) {k : Nat} (hM : Met l y (Cond.code y bytes maxL ret :: TB) rm (va_Pc (.ref (g_ad G k) :: As) (GW G lam σ)) (RlL q G) 0 0 (g_A G)) (hI : MI y bytes maxL ret Cn n) (hlink : Cond.methodLink own index y ∈ TB) (hk : k < 40) {ci : Nat} {fs : List Value} (he : g_ce G lam k (σ k) = .inr (ci, fs)) {T : u_T} {N : Nat} (hc : vwCl[ci]? = some (Cn, T, N)) (hR : rm.frames + 1 ≤ R.frames ∧ 8 + (maxL + 11) + rm.locals ≤ R.locals) (hn : As.length = n) (hsz : ls.size = nL) (hst : st = As.reverse ++ .ref (g_ad G k) :: rest) (hW : 2 * (F0 m pc ls rest).monitorRoom + (rest.map fun v => v.category).sum ≤ 8) (hf : cells + 0 ≤ R.cells ∧ slots + 0 ≤ R.slots) (hdg : decode cc pc = .ok (.invokevirtual index, 3))
    (kk : ∀ (H : Heap) (locs : List Loc), va_P (g_D G) vwCl (allW G (q.2.1) (q.2.2)) H → va_S (fun q : Nat => s.heap.size ≤ q) s.heap H locs → W p l e R s m args below meth c H locs cells slots Q (F0 m (pc + 3) ls (.long q.1 :: rest))) (hrc : rm.cells = 0 := by rfl) (hrs : rm.slots = 0 := by rfl) : W p l e R s m args below meth c H locs cells slots Q (F0 m pc ls st) :=
  va_calll (va_runV (As := As) (rest := rest) (C := Cn) (b := g_ad G k) ⟨C.1, C.2.1, C.2.2.1, C.2.2.2.1, C.2.2.2.2.1⟩ hM (cwV n C.2.2.2.2.1 (gdV hI hlink) rfl hrc hrs hI.2.2.2.2 hR) ⟨GW.blind _, va_recv C.2.2.2.2.2.1 hP (q0 := k) hc (by rw [allW_at hk, he]), fun U hU hW => ⟨rfl, by rw [hU]; exact hP, va_K.moved hW.alike C.2.2.2.2.2.1, by rw [hU]; exact C.2.2.2.2.2.2.warm0 hS hW⟩⟩ rfl hn hsz hst hW hdg hf) hS (fun q _ h => hG q h) (fun q h => hG q h) (fun r u t H1 locs1 ht hvm hw hB hz hk1 hS1 => by obtain ⟨rfl, rfl⟩ := hw; exact kk H1 locs1 (by rw [← ht]; exact hB) hS1)
theorem lcall_l {q : Int64 × St} (C : Cx p s m c args cc nL own G) (hG : ∀ q, g_A G q → s.heap.size ≤ q) (hP : va_P (g_D G) vwCl (allW G lam σ) H) (hS : va_S (fun q : Nat => s.heap.size ≤ q) s.heap H locs) {k : Nat} (hM : Met l y (Cond.code y bytes maxL ret :: TB) rm (va_Pc (.ref (g_ad G k) :: As) (GW G lam σ)) (Rl q G lam) 0 0 (g_A G)) (hI : MI y bytes maxL ret Cn n) (hlink : Cond.methodLink own index y ∈ TB) (hk : k < 40) {ci : Nat} {fs : List Value} (he : g_ce G lam k (σ k) = .inr (ci, fs)) {T : u_T} {N : Nat} (hc : vwCl[ci]? = some (Cn, T, N)) (hR : rm.frames + 1 ≤ R.frames ∧ 8 + (maxL + 11) + rm.locals ≤ R.locals) (hn : As.length = n) (hsz : ls.size = nL) (hst : st = As.reverse ++ .ref (g_ad G k) :: rest) (hW : 2 * (F0 m pc ls rest).monitorRoom + (rest.map fun v => v.category).sum ≤ 8) (hf : cells + 0 ≤ R.cells ∧ slots + 0 ≤ R.slots) (hdg : decode cc pc = .ok (.invokevirtual index, 3))
    (kk : ∀ (H : Heap) (locs : List Loc), va_P (g_D G) vwCl (allW G (lam) (q.2)) H → va_S (fun q : Nat => s.heap.size ≤ q) s.heap H locs → W p l e R s m args below meth c H locs cells slots Q (F0 m (pc + 3) ls (.long q.1 :: rest))) (hrc : rm.cells = 0 := by rfl) (hrs : rm.slots = 0 := by rfl) : W p l e R s m args below meth c H locs cells slots Q (F0 m pc ls st) :=
  va_calll (va_runV (As := As) (rest := rest) (C := Cn) (b := g_ad G k) ⟨C.1, C.2.1, C.2.2.1, C.2.2.2.1, C.2.2.2.2.1⟩ hM (cwV n C.2.2.2.2.1 (gdV hI hlink) rfl hrc hrs hI.2.2.2.2 hR) ⟨GW.blind _, va_recv C.2.2.2.2.2.1 hP (q0 := k) hc (by rw [allW_at hk, he]), fun U hU hW => ⟨rfl, by rw [hU]; exact hP, va_K.moved hW.alike C.2.2.2.2.2.1, by rw [hU]; exact C.2.2.2.2.2.2.warm0 hS hW⟩⟩ rfl hn hsz hst hW hdg hf) hS (fun q _ h => hG q h) (fun q h => hG q h) (fun r u t H1 locs1 ht hvm hw hB hz hk1 hS1 => by obtain ⟨rfl, rfl⟩ := hw; exact kk H1 locs1 (by rw [← ht]; exact hB) hS1)
end LW
theorem lg_cmp_self (x : Int64) : lg_cmp x x = 0 := by simp [lg_cmp]
theorem law_lt {L i : Nat} {x3 : Int32} (hL : L ≤ 3072) (hi : i ≤ L + 6) (ex3 : x3 = nI i) (c0 : ¬ (Int32.ofNat L - 6 < x3)) : i + 6 ≤ L := by
  rw [ex3] at c0
  have h6 : (Int32.ofNat L - 6 : Int32).toInt = (L : Int) - 6 := by
    have := pk_sub_toInt (a := L) (b := 6) (by omega) (by omega)
    exact this
  have hii : (nI i).toInt = (i : Int) := nI_toInt (by omega)
  exact Nat.not_lt.mp (fun h => c0 (Int32.lt_iff_toInt_lt.mpr (by rw [h6, hii]; omega)))
theorem r_eqL {p : Program} {l : Launch} {e : Env} {R : Room} {s : State} {m : MethodId} {args : Array Value} {below : List Frame} {meth : Method} {c : Code} {H : Heap} {locs : List Loc} {cells slots : Nat} {Q : State → Prop} {pc : Nat} {ls : Array Slot} {rest : List Value} {x y : Int32} (h : x = y) (k : W p l e R s m args below meth c H locs cells slots Q (F0 m pc ls (.int y :: rest))) : W p l e R s m args below meth c H locs cells slots Q (F0 m pc ls (.int x :: rest)) := by
  subst h; exact k
