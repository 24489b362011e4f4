set_option maxHeartbeats 4000000 in
set_option maxRecDepth 100000 in
theorem c_X11_in {l : Launch} {G : GT} {lam : Lm} {σ : St} {a1 : Int64} {a2 : Int64} {a3 : Int64} {q : Int32 × St} (h : f_X11_in σ a1 a2 a3 = some q) : Met l yX11_in (Cond.code yX11_in cX11_in 6 ((some .boolean)) :: TB) ({ frames := 0, cells := 0, slots := 0, locals := 0 } : Room) (va_Pc [.long (a1), .long (a2), .long (a3)] (GW G lam σ)) (Ri q G lam) 0 0 (g_A G) := by
  refine mk_Qi (own := RX11) (by decide) (Nat.le_of_ble_eq_true rfl) rfl (fun p e s m args below meth c C hr hlocks hP ls hl => ?_)
  have hx := C.1
  have hb := C.2.1
  have hl : lv_has ls 6 [(0, .long (a1)), (2, .long (a2)), (4, .long (a3))] := hl
  have hS : va_S (g_A G) s.heap s.heap [] := va_S.rf
  unfold f_X11_in at h
  refine lv_lload_n hx hb dX11_in_0 rfl (lv_at hl 0 rfl) ?_
  refine lv_lload_n hx hb dX11_in_1 rfl (lv_at hl 1 rfl) ?_
  refine W.lcmp hx hb dX11_in_2 ?_
  refine lv_if_lt (tgt := 17) hx hb dX11_in_3 (by decide) (fun c3 => ?_) (fun c3 => ?_)
  · replace h := h_t c3 h
    refine lv_iconst (v := 0) hx hb dX11_in_17 (by decide) ?_
    exact ret_z C hr hlocks hP hS h (Or.inl rfl) dX11_in_18
  · replace h := h_f c3 h
    refine lv_lload_n hx hb dX11_in_6 rfl (lv_at hl 0 rfl) ?_
    refine lv_lload hx hb dX11_in_7 (lv_at hl 2 rfl) ?_
    refine W.lcmp hx hb dX11_in_9 ?_
    refine lv_if_gt (tgt := 17) hx hb dX11_in_10 (by decide) (fun c4 => ?_) (fun c4 => ?_)
    · replace h := h_t c4 h
      refine lv_iconst (v := 0) hx hb dX11_in_17 (by decide) ?_
      exact ret_z C hr hlocks hP hS h (Or.inl rfl) dX11_in_18
    · replace h := h_f c4 h
      refine lv_iconst (v := 1) hx hb dX11_in_13 (by decide) ?_
      refine lv_goto (tgt := 18) hx hb dX11_in_14 (by decide) ?_
      exact ret_z C hr hlocks hP hS h (Or.inr rfl) dX11_in_18
set_option maxHeartbeats 4000000 in
set_option maxRecDepth 100000 in
theorem c_X11_has {l : Launch} {G : GT} {lam : Lm} {σ : St} {a1 : Int32} {a2 : Int32} {q : Int32 × St} (h : f_X11_has σ a1 a2 = some q) : Met l yX11_has (Cond.code yX11_has cX11_has 2 ((some .boolean)) :: TB) ({ frames := 0, cells := 0, slots := 0, locals := 0 } : Room) (va_Pc [.int a1, .int a2] (GW G lam σ)) (Ri q G lam) 0 0 (g_A G) := by
  refine mk_Qi (own := RX11) (by decide) (Nat.le_of_ble_eq_true rfl) rfl (fun p e s m args below meth c C hr hlocks hP ls hl => ?_)
  have hx := C.1
  have hb := C.2.1
  have hl : lv_has ls 2 [(0, .int a1), (1, .int a2)] := hl
  have hS : va_S (g_A G) s.heap s.heap [] := va_S.rf
  unfold f_X11_has at h
  refine lv_iload_n hx hb dX11_has_0 rfl (lv_at hl 0 rfl) ?_
  refine lv_iload_n hx hb dX11_has_1 rfl (lv_at hl 1 rfl) ?_
  refine lv_ishr hx hb dX11_has_2 ?_
  refine lv_iconst (v := 1) hx hb dX11_has_3 (by decide) ?_
  refine lv_iand hx hb dX11_has_4 ?_
  refine lv_iconst (v := 1) hx hb dX11_has_5 (by decide) ?_
  refine lv_icmp_ne (tgt := 13) hx hb dX11_has_6 (by decide) (fun c2 => ?_) (fun c2 => ?_)
  · replace h := h_f c2 h
    refine lv_iconst (v := 0) hx hb dX11_has_13 (by decide) ?_
    exact ret_z C hr hlocks hP hS h (Or.inl rfl) dX11_has_14
  · replace h := h_t c2 h
    refine lv_iconst (v := 1) hx hb dX11_has_9 (by decide) ?_
    refine lv_goto (tgt := 14) hx hb dX11_has_10 (by decide) ?_
    exact ret_z C hr hlocks hP hS h (Or.inr rfl) dX11_has_14
set_option maxHeartbeats 4000000 in
set_option maxRecDepth 100000 in
theorem c_X11_copy {l : Launch} {G : GT} {lam : Lm} {σ : St} {a1 : Int32} {a2 : Int32} {q : St} (h : f_X11_copy σ a1 a2 = some q) : Met l yX11_copy (Cond.code yX11_copy cX11_copy 4 none :: TB) ({ frames := 0, cells := 0, slots := 0, locals := 0 } : Room) (va_Pc [.ref (g_ad G 26), .int a1, .int a2] (GW G lam σ)) (Rv q G lam) 0 0 (g_A G) := by
  refine mk_Qv (own := RX11) (by decide) (Nat.le_of_ble_eq_true rfl) rfl (fun p e s m args below meth c C hr hlocks hP ls hl => ?_)
  have hx := C.1
  have hb := C.2.1
  have hl : lv_has ls 4 [(0, .ref (g_ad G 26)), (1, .int a1), (2, .int a2)] := hl
  have L2 : ∀ (n2 : Nat) (σ : St) (x1 : Int32) (x2 : Int32) (x3 : Int32) (H : Heap) (locs : List Loc) (ls : Array Slot), fx (F_X11_copy_h2) z_X11_copy_h2 n2 σ x1 x2 x3 = some q → va_P (g_D G) vwCl (allW G lam σ) H → va_S (g_A G) s.heap H locs → lv_has ls 4 [(0, .ref (g_ad G 26)), (1, .int x1), (2, .int x2), (3, .int x3)] → W p l e ({ frames := 0, cells := 0, slots := 0, locals := 0 } : Room) s m args below meth c H locs 0 0 (Qv q below args s G lam) (F0 m 2 ls []) := by
    intro n2
    induction n2 with
    | zero => intro σ x1 x2 x3 H locs ls h hP hS hl; exact absurd h (by intro h9; cases h9)
    | succ n2 ih2 =>
      intro σ x1 x2 x3 H locs ls h hP hS hl
      change F_X11_copy_h2 (fx (F_X11_copy_h2) z_X11_copy_h2 n2) σ x1 x2 x3 = some q at h
      unfold F_X11_copy_h2 at h
      refine lv_iload_n hx hb dX11_copy_2 rfl (lv_at hl 3 rfl) ?_
      refine lv_bipush (v := 79) hx hb dX11_copy_3 (by decide) ?_
      refine lv_icmp_ge (tgt := 30) hx hb dX11_copy_5 (by decide) (fun c8 => ?_) (fun c8 => ?_)
      · replace h := h_t c8 h
        exact ret_v C hr hlocks hP hS h dX11_copy_30
      · replace h := h_f c8 h
        refine lv_aload_n hx hb dX11_copy_8 rfl (lv_at hl 0 rfl) ?_
        refine gf_X11_7_26 C hP dX11_copy_9 ?_
        refine lv_iload_n hx hb dX11_copy_12 rfl (lv_at hl 2 rfl) ?_
        refine lv_iload_n hx hb dX11_copy_13 rfl (lv_at hl 3 rfl) ?_
        refine lv_iadd hx hb dX11_copy_14 ?_
        refine lv_aload_n hx hb dX11_copy_15 rfl (lv_at hl 0 rfl) ?_
        refine gf_X11_7_26 C hP dX11_copy_16 ?_
        refine lv_iload_n hx hb dX11_copy_19 rfl (lv_at hl 1 rfl) ?_
        refine lv_iload_n hx hb dX11_copy_20 rfl (lv_at hl 3 rfl) ?_
        refine lv_iadd hx hb dX11_copy_21 ?_
        obtain ⟨g9, h⟩ := h_g h
        refine r_ald C hP 27 (by decide) rfl (vp_in_iff.mpr g9) dX11_copy_22 ?_
        obtain ⟨g10, h⟩ := h_g h
        refine r_ast C hP hS 27 (by decide) (fun _ => rfl) (vp_in_iff.mpr g10) dX11_copy_23 (fun H locs hP hS => ?_)
        obtain ⟨σ11, e12, h⟩ := bnd h
        have hP := hPn e12 hP
        obtain ⟨y13, e14, h⟩ := bnd h
        refine lv_iinc (v := y13) (lv' := [(3, .int y13), (0, .ref (g_ad G 26)), (1, .int x1), (2, .int x2)]) hx hb dX11_copy_24 hl (k := 3) rfl (Option.some.inj e14) (by decide) rfl (fun ls hl => ?_)
        refine lv_goto (tgt := 2) hx hb dX11_copy_27 (by decide) ?_
        exact ih2 _ _ _ _ H locs ls h hP hS (lv_sub hl [1, 2, 3, 0] rfl)
  have hS : va_S (g_A G) s.heap s.heap [] := va_S.rf
  unfold f_X11_copy at h
  obtain ⟨H, hH⟩ : ∃ H, H = s.heap := ⟨_, rfl⟩
  obtain ⟨locs, hlo⟩ : ∃ k : List Loc, k = [] := ⟨_, rfl⟩
  rw [← hH, ← hlo]
  rw [← hH] at hP
  replace hS : va_S (g_A G) s.heap H locs := by rw [hH, hlo]; exact hS
  refine lv_iconst (v := 0) hx hb dX11_copy_0 (by decide) ?_
  refine lv_istore_n (lv' := [(3, .int 0), (0, .ref (g_ad G 26)), (1, .int a1), (2, .int a2)]) hx hb dX11_copy_1 rfl hl (by decide) rfl (fun ls hl => ?_)
  exact L2 FU _ _ _ _ H locs ls h hP hS (lv_sub hl [1, 2, 3, 0] rfl)
set_option maxHeartbeats 4000000 in
set_option maxRecDepth 100000 in
theorem c_X11_minds {l : Launch} {G : GT} {lam : Lm} {σ : St} {q : St} (h : f_X11_minds σ = some q) : Met l yX11_minds (Cond.code yX11_minds cX11_minds 2 none :: TB) ({ frames := 1, cells := 0, slots := 0, locals := 23 } : Room) (va_Pc [.ref (g_ad G 26)] (GW G lam σ)) (Rv q G lam) 0 0 (g_A G) := by
  refine mk_Qv (own := RX11) (by decide) (Nat.le_of_ble_eq_true rfl) rfl (fun p e s m args below meth c C hr hlocks hP ls hl => ?_)
  have hx := C.1
  have hb := C.2.1
  have hl : lv_has ls 2 [(0, .ref (g_ad G 26))] := hl
  have J54 : ∀ (σ : St) (H : Heap) (locs : List Loc) (ls : Array Slot), f_X11_minds_p54 σ = some q → va_P (g_D G) vwCl (allW G lam σ) H → va_S (g_A G) s.heap H locs → lv_has ls 2 [(0, .ref (g_ad G 26))] → W p l e ({ frames := 1, cells := 0, slots := 0, locals := 23 } : Room) s m args below meth c H locs 0 0 (Qv q below args s G lam) (F0 m 54 ls []) := by
    intro σ H locs ls h hP hS hl
    unfold f_X11_minds_p54 at h
    refine lv_aload_n hx hb dX11_minds_54 rfl (lv_at hl 0 rfl) ?_
    refine lv_iconst (v := 0) hx hb dX11_minds_55 (by decide) ?_
    refine lv_sipush (v := 237) hx hb dX11_minds_56 (by decide) ?_
    refine lv_bipush (v := 79) hx hb dX11_minds_59 (by decide) ?_
    refine lv_aload_n hx hb dX11_minds_61 rfl (lv_at hl 0 rfl) ?_
    refine gf_X11_50_26 C hP dX11_minds_62 ?_
    refine lv_imul hx hb dX11_minds_65 ?_
    refine lv_iadd hx hb dX11_minds_66 ?_
    obtain ⟨q15, e16, h⟩ := bnd h
    refine call_v C hP hS (c_X11_copy e16) mi_X11_copy mw_1404 26 (by decide) rfl rfl ⟨Nat.le_of_ble_eq_true rfl, Nat.le_of_ble_eq_true rfl⟩ (As := [.int 0, .int (237 + (79 * (σ 26 2)))]) rfl hl.1 rfl (lv_room (Nat.le_of_ble_eq_true rfl)) dX11_minds_67 (fun H locs hP hS => ?_)
    refine lv_aload_n hx hb dX11_minds_70 rfl (lv_at hl 0 rfl) ?_
    refine lv_dup hx hb dX11_minds_71 rfl ?_
    refine gf_X11_50_26 C hP dX11_minds_72 ?_
    refine lv_iconst (v := 1) hx hb dX11_minds_75 (by decide) ?_
    refine lv_iadd hx hb dX11_minds_76 ?_
    refine pf_X11_50_26 C hP hS dX11_minds_77 (fun H locs hP hS => ?_)
    obtain ⟨σ17, e18, h⟩ := bnd h
    have hP := hPn e18 hP
    exact ret_v C hr hlocks hP hS h dX11_minds_80
  have L11 : ∀ (n11 : Nat) (σ : St) (x1 : Int32) (H : Heap) (locs : List Loc) (ls : Array Slot), fx (F_X11_minds_h11) z_X11_minds_h11 n11 σ x1 = some q → va_P (g_D G) vwCl (allW G lam σ) H → va_S (g_A G) s.heap H locs → lv_has ls 2 [(0, .ref (g_ad G 26)), (1, .int x1)] → W p l e ({ frames := 1, cells := 0, slots := 0, locals := 23 } : Room) s m args below meth c H locs 0 0 (Qv q below args s G lam) (F0 m 11 ls []) := by
    intro n11
    induction n11 with
    | zero => intro σ x1 H locs ls h hP hS hl; exact absurd h (by intro h9; cases h9)
    | succ n11 ih11 =>
      intro σ x1 H locs ls h hP hS hl
      change F_X11_minds_h11 (fx (F_X11_minds_h11) z_X11_minds_h11 n11) σ x1 = some q at h
      unfold F_X11_minds_h11 at h
      refine lv_iload_n hx hb dX11_minds_11 rfl (lv_at hl 1 rfl) ?_
      refine lv_sipush (v := 1501) hx hb dX11_minds_12 (by decide) ?_
      refine lv_icmp_ge (tgt := 44) hx hb dX11_minds_15 (by decide) (fun c19 => ?_) (fun c19 => ?_)
      · replace h := h_t c19 h
        refine lv_aload_n hx hb dX11_minds_44 rfl (lv_at hl 0 rfl) ?_
        refine lv_dup hx hb dX11_minds_45 rfl ?_
        refine gf_X11_50_26 C hP dX11_minds_46 ?_
        refine lv_iconst (v := 1) hx hb dX11_minds_49 (by decide) ?_
        refine lv_isub hx hb dX11_minds_50 ?_
        refine pf_X11_50_26 C hP hS dX11_minds_51 (fun H locs hP hS => ?_)
        obtain ⟨σ20, e21, h⟩ := bnd h
        have hP := hPn e21 hP
        exact J54 _ H locs ls h hP hS (lv_sub hl [0] rfl)
      · replace h := h_f c19 h
        refine lv_aload_n hx hb dX11_minds_18 rfl (lv_at hl 0 rfl) ?_
        refine gf_X11_7_26 C hP dX11_minds_19 ?_
        refine lv_sipush (v := 237) hx hb dX11_minds_22 (by decide) ?_
        refine lv_iload_n hx hb dX11_minds_25 rfl (lv_at hl 1 rfl) ?_
        refine lv_iadd hx hb dX11_minds_26 ?_
        refine lv_aload_n hx hb dX11_minds_27 rfl (lv_at hl 0 rfl) ?_
        refine gf_X11_7_26 C hP dX11_minds_28 ?_
        refine lv_sipush (v := 316) hx hb dX11_minds_31 (by decide) ?_
        refine lv_iload_n hx hb dX11_minds_34 rfl (lv_at hl 1 rfl) ?_
        refine lv_iadd hx hb dX11_minds_35 ?_
        obtain ⟨g22, h⟩ := h_g h
        refine r_ald C hP 27 (by decide) rfl (vp_in_iff.mpr g22) dX11_minds_36 ?_
        obtain ⟨g23, h⟩ := h_g h
        refine r_ast C hP hS 27 (by decide) (fun _ => rfl) (vp_in_iff.mpr g23) dX11_minds_37 (fun H locs hP hS => ?_)
        obtain ⟨σ24, e25, h⟩ := bnd h
        have hP := hPn e25 hP
        obtain ⟨y26, e27, h⟩ := bnd h
        refine lv_iinc (v := y26) (lv' := [(1, .int y26), (0, .ref (g_ad G 26))]) hx hb dX11_minds_38 hl (k := 1) rfl (Option.some.inj e27) (by decide) rfl (fun ls hl => ?_)
        refine lv_goto (tgt := 11) hx hb dX11_minds_41 (by decide) ?_
        exact ih11 _ _ H locs ls h hP hS (lv_sub hl [1, 0] rfl)
  have hS : va_S (g_A G) s.heap s.heap [] := va_S.rf
  unfold f_X11_minds at h
  obtain ⟨H, hH⟩ : ∃ H, H = s.heap := ⟨_, rfl⟩
  obtain ⟨locs, hlo⟩ : ∃ k : List Loc, k = [] := ⟨_, rfl⟩
  rw [← hH, ← hlo]
  rw [← hH] at hP
  replace hS : va_S (g_A G) s.heap H locs := by rw [hH, hlo]; exact hS
  refine lv_aload_n hx hb dX11_minds_0 rfl (lv_at hl 0 rfl) ?_
  refine gf_X11_50_26 C hP dX11_minds_1 ?_
  refine lv_bipush (v := 20) hx hb dX11_minds_4 (by decide) ?_
  refine lv_icmp_ne (tgt := 54) hx hb dX11_minds_6 (by decide) (fun c28 => ?_) (fun c28 => ?_)
  · replace h := h_f c28 h
    exact J54 _ H locs ls h hP hS (lv_sub hl [0] rfl)
  · replace h := h_t c28 h
    refine lv_iconst (v := 0) hx hb dX11_minds_9 (by decide) ?_
    refine lv_istore_n (lv' := [(1, .int 0), (0, .ref (g_ad G 26))]) hx hb dX11_minds_10 rfl hl (by decide) rfl (fun ls hl => ?_)
    exact L11 FU _ _ H locs ls h hP hS (lv_sub hl [1, 0] rfl)
set_option maxHeartbeats 4000000 in
set_option maxRecDepth 100000 in
theorem c_X11_isFigure {l : Launch} {G : GT} {lam : Lm} {σ : St} {a1 : Int32} {q : Int32 × St} (h : f_X11_isFigure σ a1 = some q) : Met l yX11_isFigure (Cond.code yX11_isFigure cX11_isFigure 1 ((some .boolean)) :: TB) ({ frames := 1, cells := 0, slots := 0, locals := 25 } : Room) (va_Pc [.int a1] (GW G lam σ)) (Ri q G lam) 0 0 (g_A G) := by
  refine mk_Qi (own := RX11) (by decide) (Nat.le_of_ble_eq_true rfl) rfl (fun p e s m args below meth c C hr hlocks hP ls hl => ?_)
  have hx := C.1
  have hb := C.2.1
  have hl : lv_has ls 1 [(0, .int a1)] := hl
  have hS : va_S (g_A G) s.heap s.heap [] := va_S.rf
  unfold f_X11_isFigure at h
  refine lv_iload_n hx hb dX11_isFigure_0 rfl (lv_at hl 0 rfl) ?_
  refine lv_i2l hx hb dX11_isFigure_1 rfl ?_
  refine lv_ldc2 hx hb C.2.2.2.1 (C.2.2.2.2.1 _ mw_1343) dX11_isFigure_2 ?_
  refine lv_ldc2 hx hb C.2.2.2.1 (C.2.2.2.2.1 _ mw_1344) dX11_isFigure_5 ?_
  obtain ⟨q4, e5, h⟩ := bnd h
  refine scall_i C hP hS (c_X11_in e5) ms_X11_in mw_1320 ⟨Nat.le_of_ble_eq_true rfl, Nat.le_of_ble_eq_true rfl⟩ (As := [.long ((a1 : Int32).toInt64), .long (48), .long (57)]) rfl hl.1 rfl (lv_room (Nat.le_of_ble_eq_true rfl)) dX11_isFigure_8 (fun H locs hP hS => ?_)
  obtain ⟨g6, h⟩ := h_g h
  exact ret_z C hr hlocks hP hS h g6 dX11_isFigure_11
set_option maxHeartbeats 4000000 in
set_option maxRecDepth 100000 in
theorem c_X11_take {l : Launch} {G : GT} {lam : Lm} {σ : St} {q : St} (h : f_X11_take σ = some q) : Met l yX11_take (Cond.code yX11_take cX11_take 3 none :: TB) ({ frames := 2, cells := 0, slots := 0, locals := 45 } : Room) (va_Pc [.ref (g_ad G 26)] (GW G lam σ)) (Rv q G lam) 0 0 (g_A G) := by
  refine mk_Qv (own := RX11) (by decide) (Nat.le_of_ble_eq_true rfl) rfl (fun p e s m args below meth c C hr hlocks hP ls hl => ?_)
  have hx := C.1
  have hb := C.2.1
  have hl : lv_has ls 3 [(0, .ref (g_ad G 26))] := hl
  have J186 : ∀ (σ : St) (t0 : Int32) (H : Heap) (locs : List Loc) (ls : Array Slot), f_X11_take_p186 σ t0 = some q → va_P (g_D G) vwCl (allW G lam σ) H → va_S (g_A G) s.heap H locs → lv_has ls 3 [] → W p l e ({ frames := 2, cells := 0, slots := 0, locals := 45 } : Room) s m args below meth c H locs 0 0 (Qv q below args s G lam) (F0 m 186 ls [.int t0, .ref (g_ad G 26)]) := by
    intro σ t0 H locs ls h hP hS hl
    unfold f_X11_take_p186 at h
    refine pf_X11_76_26 C hP hS dX11_take_186 (fun H locs hP hS => ?_)
    obtain ⟨σ31, e32, h⟩ := bnd h
    have hP := hPn e32 hP
    exact ret_v C hr hlocks hP hS h dX11_take_189
  have J169 : ∀ (σ : St) (x2 : Int32) (H : Heap) (locs : List Loc) (ls : Array Slot), f_X11_take_p169 σ x2 = some q → va_P (g_D G) vwCl (allW G lam σ) H → va_S (g_A G) s.heap H locs → lv_has ls 3 [(0, .ref (g_ad G 26)), (2, .int x2)] → W p l e ({ frames := 2, cells := 0, slots := 0, locals := 45 } : Room) s m args below meth c H locs 0 0 (Qv q below args s G lam) (F0 m 169 ls []) := by
    intro σ x2 H locs ls h hP hS hl
    unfold f_X11_take_p169 at h
    refine lv_aload_n hx hb dX11_take_169 rfl (lv_at hl 0 rfl) ?_
    refine lv_iload_n hx hb dX11_take_170 rfl (lv_at hl 1 rfl) ?_
    refine lv_sipush (v := 1000) hx hb dX11_take_171 (by decide) ?_
    refine lv_icmp_ge (tgt := 185) hx hb dX11_take_174 (by decide) (fun c33 => ?_) (fun c33 => ?_)
    · replace h := h_t c33 h
      refine lv_iconst (v := 0) hx hb dX11_take_185 (by decide) ?_
      exact J186 _ _ H locs ls h hP hS (lv_sub hl [] rfl)
    · replace h := h_f c33 h
      refine lv_sipush (v := 1000) hx hb dX11_take_177 (by decide) ?_
      refine lv_iload_n hx hb dX11_take_180 rfl (lv_at hl 1 rfl) ?_
      refine lv_iadd hx hb dX11_take_181 ?_
      refine lv_goto (tgt := 186) hx hb dX11_take_182 (by decide) ?_
      exact J186 _ _ H locs ls h hP hS (lv_sub hl [] rfl)
  have L93 : ∀ (n93 : Nat) (σ : St) (x2 : Int32) (H : Heap) (locs : List Loc) (ls : Array Slot), fx (F_X11_take_h93) z_X11_take_h93 n93 σ x2 = some q → va_P (g_D G) vwCl (allW G lam σ) H → va_S (g_A G) s.heap H locs → lv_has ls 3 [(0, .ref (g_ad G 26)), (2, .int x2)] → W p l e ({ frames := 2, cells := 0, slots := 0, locals := 45 } : Room) s m args below meth c H locs 0 0 (Qv q below args s G lam) (F0 m 93 ls []) := by
    intro n93
    induction n93 with
    | zero => intro σ x2 H locs ls h hP hS hl; exact absurd h (by intro h9; cases h9)
    | succ n93 ih93 =>
      have J155 : ∀ (σ : St) (t0 : Int32) (H : Heap) (locs : List Loc) (ls : Array Slot), f_X11_take_p155 (fx (F_X11_take_h93) z_X11_take_h93 n93) σ t0 = some q → va_P (g_D G) vwCl (allW G lam σ) H → va_S (g_A G) s.heap H locs → lv_has ls 3 [(0, .ref (g_ad G 26))] → W p l e ({ frames := 2, cells := 0, slots := 0, locals := 45 } : Room) s m args below meth c H locs 0 0 (Qv q below args s G lam) (F0 m 155 ls [.int t0]) := by
        intro σ t0 H locs ls h hP hS hl
        unfold f_X11_take_p155 at h
        refine lv_istore_n (lv' := [(2, .int t0), (0, .ref (g_ad G 26))]) hx hb dX11_take_155 rfl hl (by decide) rfl (fun ls hl => ?_)
        refine lv_aload_n hx hb dX11_take_156 rfl (lv_at hl 1 rfl) ?_
        refine lv_dup hx hb dX11_take_157 rfl ?_
        refine gf_X11_66_26 C hP dX11_take_158 ?_
        refine lv_iconst (v := 1) hx hb dX11_take_161 (by decide) ?_
        refine lv_iadd hx hb dX11_take_162 ?_
        refine pf_X11_66_26 C hP hS dX11_take_163 (fun H locs hP hS => ?_)
        obtain ⟨σ34, e35, h⟩ := bnd h
        have hP := hPn e35 hP
        refine lv_goto (tgt := 93) hx hb dX11_take_166 (by decide) ?_
        exact ih93 _ _ H locs ls h hP hS (lv_sub hl [1, 0] rfl)
      intro σ x2 H locs ls h hP hS hl
      change F_X11_take_h93 (fx (F_X11_take_h93) z_X11_take_h93 n93) σ x2 = some q at h
      unfold F_X11_take_h93 at h
      refine lv_aload_n hx hb dX11_take_93 rfl (lv_at hl 0 rfl) ?_
      refine gf_X11_66_26 C hP dX11_take_94 ?_
      refine lv_aload_n hx hb dX11_take_97 rfl (lv_at hl 0 rfl) ?_
      refine gf_X11_72_26 C hP dX11_take_98 ?_
      refine lv_icmp_ge (tgt := 169) hx hb dX11_take_101 (by decide) (fun c36 => ?_) (fun c36 => ?_)
      · replace h := h_t c36 h
        exact J169 _ _ H locs ls h hP hS (lv_sub hl [0, 1] rfl)
      · replace h := h_f c36 h
        refine lv_aload_n hx hb dX11_take_104 rfl (lv_at hl 0 rfl) ?_
        refine gf_X11_17_26 C hP dX11_take_105 ?_
        refine lv_aload_n hx hb dX11_take_108 rfl (lv_at hl 0 rfl) ?_
        refine gf_X11_66_26 C hP dX11_take_109 ?_
        obtain ⟨g37, h⟩ := h_g h
        refine r_ald C hP 29 (by decide) rfl (vp_in_iff.mpr g37) dX11_take_112 ?_
        obtain ⟨q38, e39, h⟩ := bnd h
        refine scall_i C hP hS (c_X11_isFigure e39) ms_X11_isFigure mw_1340 ⟨Nat.le_of_ble_eq_true rfl, Nat.le_of_ble_eq_true rfl⟩ (As := [.int (σ 29 (σ 26 9).toNatClampNeg)]) rfl hl.1 rfl (lv_room (Nat.le_of_ble_eq_true rfl)) dX11_take_113 (fun H locs hP hS => ?_)
        refine lv_if_eq (tgt := 169) hx hb dX11_take_116 (by decide) (fun c40 => ?_) (fun c40 => ?_)
        · replace h := h_t c40 h
          exact J169 _ _ H locs ls h hP hS (lv_sub hl [0, 1] rfl)
        · replace h := h_f c40 h
          refine lv_aload_n hx hb dX11_take_119 rfl (lv_at hl 0 rfl) ?_
          refine gf_X11_66_26 C hP dX11_take_120 ?_
          refine lv_aload_n hx hb dX11_take_123 rfl (lv_at hl 0 rfl) ?_
          refine gf_X11_69_26 C hP dX11_take_124 ?_
          refine lv_iconst (v := 1) hx hb dX11_take_127 (by decide) ?_
          refine lv_iadd hx hb dX11_take_128 ?_
          refine lv_icmp_ne (tgt := 152) hx hb dX11_take_129 (by decide) (fun c41 => ?_) (fun c41 => ?_)
          · replace h := h_f c41 h
            refine lv_sipush (v := 1000) hx hb dX11_take_152 (by decide) ?_
            exact J155 _ _ H locs ls h hP hS (lv_sub hl [0] rfl)
          · replace h := h_t c41 h
            refine lv_bipush (v := 10) hx hb dX11_take_132 (by decide) ?_
            refine lv_iload_n hx hb dX11_take_134 rfl (lv_at hl 1 rfl) ?_
            refine lv_imul hx hb dX11_take_135 ?_
            refine lv_aload_n hx hb dX11_take_136 rfl (lv_at hl 0 rfl) ?_
            refine gf_X11_17_26 C hP dX11_take_137 ?_
            refine lv_aload_n hx hb dX11_take_140 rfl (lv_at hl 0 rfl) ?_
            refine gf_X11_66_26 C hP dX11_take_141 ?_
            obtain ⟨g42, h⟩ := h_g h
            refine r_ald C hP 29 (by decide) rfl (vp_in_iff.mpr g42) dX11_take_144 ?_
            refine lv_iadd hx hb dX11_take_145 ?_
            refine lv_bipush (v := 48) hx hb dX11_take_146 (by decide) ?_
            refine lv_isub hx hb dX11_take_148 ?_
            refine lv_goto (tgt := 155) hx hb dX11_take_149 (by decide) ?_
            exact J155 _ _ H locs ls h hP hS (lv_sub hl [0] rfl)
  have J78 : ∀ (σ : St) (x1 : Int32) (t0 : Int32) (H : Heap) (locs : List Loc) (ls : Array Slot), f_X11_take_p78 σ x1 t0 = some q → va_P (g_D G) vwCl (allW G lam σ) H → va_S (g_A G) s.heap H locs → lv_has ls 3 [(0, .ref (g_ad G 26)), (1, .int x1)] → W p l e ({ frames := 2, cells := 0, slots := 0, locals := 45 } : Room) s m args below meth c H locs 0 0 (Qv q below args s G lam) (F0 m 78 ls [.int t0, .ref (g_ad G 26)]) := by
    intro σ x1 t0 H locs ls h hP hS hl
    unfold f_X11_take_p78 at h
    refine pf_X11_76_26 C hP hS dX11_take_78 (fun H locs hP hS => ?_)
    obtain ⟨σ43, e44, h⟩ := bnd h
    have hP := hPn e44 hP
    refine lv_iload_n hx hb dX11_take_81 rfl (lv_at hl 1 rfl) ?_
    obtain ⟨q45, e46, h⟩ := bnd h
    refine scall_i C hP hS (c_X11_isFigure e46) ms_X11_isFigure mw_1340 ⟨Nat.le_of_ble_eq_true rfl, Nat.le_of_ble_eq_true rfl⟩ (As := [.int x1]) rfl hl.1 rfl (lv_room (Nat.le_of_ble_eq_true rfl)) dX11_take_82 (fun H locs hP hS => ?_)
    refine lv_if_eq (tgt := 189) hx hb dX11_take_85 (by decide) (fun c47 => ?_) (fun c47 => ?_)
    · replace h := h_t c47 h
      exact ret_v C hr hlocks hP hS h dX11_take_189
    · replace h := h_f c47 h
      refine lv_iload_n hx hb dX11_take_88 rfl (lv_at hl 1 rfl) ?_
      refine lv_bipush (v := 48) hx hb dX11_take_89 (by decide) ?_
      refine lv_isub hx hb dX11_take_91 ?_
      obtain ⟨y48, e49, h⟩ := bnd h
      refine r_nm e49 ?_
      refine lv_istore_n (lv' := [(2, .int y48), (0, .ref (g_ad G 26)), (1, .int x1)]) hx hb dX11_take_92 rfl hl (by decide) rfl (fun ls hl => ?_)
      exact L93 FU _ _ H locs ls h hP hS (lv_sub hl [1, 0] rfl)
  have J73 : ∀ (σ : St) (x1 : Int32) (H : Heap) (locs : List Loc) (ls : Array Slot), f_X11_take_p73 σ x1 = some q → va_P (g_D G) vwCl (allW G lam σ) H → va_S (g_A G) s.heap H locs → lv_has ls 3 [(0, .ref (g_ad G 26)), (1, .int x1)] → W p l e ({ frames := 2, cells := 0, slots := 0, locals := 45 } : Room) s m args below meth c H locs 0 0 (Qv q below args s G lam) (F0 m 73 ls [.ref (g_ad G 26)]) := by
    intro σ x1 H locs ls h hP hS hl
    unfold f_X11_take_p73 at h
    refine lv_iload_n hx hb dX11_take_73 rfl (lv_at hl 1 rfl) ?_
    refine lv_goto (tgt := 78) hx hb dX11_take_74 (by decide) ?_
    exact J78 _ _ _ H locs ls h hP hS (lv_sub hl [0, 1] rfl)
  have hS : va_S (g_A G) s.heap s.heap [] := va_S.rf
  unfold f_X11_take at h
  obtain ⟨H, hH⟩ : ∃ H, H = s.heap := ⟨_, rfl⟩
  obtain ⟨locs, hlo⟩ : ∃ k : List Loc, k = [] := ⟨_, rfl⟩
  rw [← hH, ← hlo]
  rw [← hH] at hP
  replace hS : va_S (g_A G) s.heap H locs := by rw [hH, hlo]; exact hS
  refine lv_aload_n hx hb dX11_take_0 rfl (lv_at hl 0 rfl) ?_
  refine lv_aload_n hx hb dX11_take_1 rfl (lv_at hl 0 rfl) ?_
  refine gf_X11_66_26 C hP dX11_take_2 ?_
  refine pf_X11_69_26 C hP hS dX11_take_5 (fun H locs hP hS => ?_)
  obtain ⟨σ50, e51, h⟩ := bnd h
  have hP := hPn e51 hP
  refine lv_aload_n hx hb dX11_take_8 rfl (lv_at hl 0 rfl) ?_
  refine gf_X11_66_26 C hP dX11_take_9 ?_
  refine lv_aload_n hx hb dX11_take_12 rfl (lv_at hl 0 rfl) ?_
  refine gf_X11_72_26 C hP dX11_take_13 ?_
  refine lv_icmp_ne (tgt := 26) hx hb dX11_take_16 (by decide) (fun c52 => ?_) (fun c52 => ?_)
  · replace h := h_f c52 h
    refine lv_aload_n hx hb dX11_take_26 rfl (lv_at hl 0 rfl) ?_
    refine gf_X11_17_26 C hP dX11_take_27 ?_
    refine lv_aload_n hx hb dX11_take_30 rfl (lv_at hl 0 rfl) ?_
    refine gf_X11_66_26 C hP dX11_take_31 ?_
    obtain ⟨g53, h⟩ := h_g h
    refine r_ald C hP 29 (by decide) rfl (vp_in_iff.mpr g53) dX11_take_34 ?_
    obtain ⟨y54, e55, h⟩ := bnd h
    refine r_nm e55 ?_
    refine lv_istore_n (lv' := [(1, .int y54), (0, .ref (g_ad G 26))]) hx hb dX11_take_35 rfl hl (by decide) rfl (fun ls hl => ?_)
    refine lv_aload_n hx hb dX11_take_36 rfl (lv_at hl 1 rfl) ?_
    refine lv_dup hx hb dX11_take_37 rfl ?_
    refine gf_X11_66_26 C hP dX11_take_38 ?_
    refine lv_iconst (v := 1) hx hb dX11_take_41 (by decide) ?_
    refine lv_iadd hx hb dX11_take_42 ?_
    refine pf_X11_66_26 C hP hS dX11_take_43 (fun H locs hP hS => ?_)
    obtain ⟨σ56, e57, h⟩ := bnd h
    have hP := hPn e57 hP
    refine lv_aload_n hx hb dX11_take_46 rfl (lv_at hl 1 rfl) ?_
    refine lv_iload_n hx hb dX11_take_47 rfl (lv_at hl 0 rfl) ?_
    refine lv_i2l hx hb dX11_take_48 rfl ?_
    refine lv_ldc2 hx hb C.2.2.2.1 (C.2.2.2.2.1 _ mw_1338) dX11_take_49 ?_
    refine lv_ldc2 hx hb C.2.2.2.1 (C.2.2.2.2.1 _ mw_1339) dX11_take_52 ?_
    obtain ⟨q58, e59, h⟩ := bnd h
    refine scall_i C hP hS (c_X11_in e59) ms_X11_in mw_1320 ⟨Nat.le_of_ble_eq_true rfl, Nat.le_of_ble_eq_true rfl⟩ (As := [.long ((y54 : Int32).toInt64), .long (97), .long (122)]) rfl hl.1 rfl (lv_room (Nat.le_of_ble_eq_true rfl)) dX11_take_55 (fun H locs hP hS => ?_)
    refine lv_if_ne (tgt := 73) hx hb dX11_take_58 (by decide) (fun c60 => ?_) (fun c60 => ?_)
    · replace h := h_f c60 h
      exact J73 _ _ H locs ls h hP hS (lv_sub hl [1, 0] rfl)
    · replace h := h_t c60 h
      refine lv_iload_n hx hb dX11_take_61 rfl (lv_at hl 0 rfl) ?_
      refine lv_bipush (v := 44) hx hb dX11_take_62 (by decide) ?_
      refine lv_icmp_eq (tgt := 73) hx hb dX11_take_64 (by decide) (fun c61 => ?_) (fun c61 => ?_)
      · replace h := h_t c61 h
        exact J73 _ _ H locs ls h hP hS (lv_sub hl [1, 0] rfl)
      · replace h := h_f c61 h
        refine lv_iload_n hx hb dX11_take_67 rfl (lv_at hl 0 rfl) ?_
        refine lv_bipush (v := 59) hx hb dX11_take_68 (by decide) ?_
        refine lv_icmp_ne (tgt := 77) hx hb dX11_take_70 (by decide) (fun c62 => ?_) (fun c62 => ?_)
        · replace h := h_f c62 h
          refine lv_iconst (v := 0) hx hb dX11_take_77 (by decide) ?_
          exact J78 _ _ _ H locs ls h hP hS (lv_sub hl [1, 0] rfl)
        · replace h := h_t c62 h
          exact J73 _ _ H locs ls h hP hS (lv_sub hl [1, 0] rfl)
  · replace h := h_t c52 h
    refine lv_aload_n hx hb dX11_take_19 rfl (lv_at hl 0 rfl) ?_
    refine lv_ldc hx hb C.2.2.2.1 (C.2.2.2.2.1 _ mw_1337) dX11_take_20 ?_
    refine pf_X11_76_26 C hP hS dX11_take_22 (fun H locs hP hS => ?_)
    obtain ⟨σ63, e64, h⟩ := bnd h
    have hP := hPn e64 hP
    exact ret_v C hr hlocks hP hS h dX11_take_25
set_option maxHeartbeats 4000000 in
set_option maxRecDepth 100000 in
theorem c_X11_isWell {l : Launch} {G : GT} {lam : Lm} {σ : St} {q : Int32 × St} (h : f_X11_isWell σ = some q) : Met l yX11_isWell (Cond.code yX11_isWell cX11_isWell 1 ((some .boolean)) :: TB) ({ frames := 0, cells := 0, slots := 0, locals := 0 } : Room) (va_Pc [.ref (g_ad G 26)] (GW G lam σ)) (Ri q G lam) 0 0 (g_A G) := by
  refine mk_Qi (own := RX11) (by decide) (Nat.le_of_ble_eq_true rfl) rfl (fun p e s m args below meth c C hr hlocks hP ls hl => ?_)
  have hx := C.1
  have hb := C.2.1
  have hl : lv_has ls 1 [(0, .ref (g_ad G 26))] := hl
  have hS : va_S (g_A G) s.heap s.heap [] := va_S.rf
  unfold f_X11_isWell at h
  refine lv_aload_n hx hb dX11_isWell_0 rfl (lv_at hl 0 rfl) ?_
  refine gf_X11_87_26 C hP dX11_isWell_1 ?_
  refine lv_if_ne (tgt := 11) hx hb dX11_isWell_4 (by decide) (fun c2 => ?_) (fun c2 => ?_)
  · replace h := h_f c2 h
    refine lv_iconst (v := 0) hx hb dX11_isWell_11 (by decide) ?_
    exact ret_z C hr hlocks hP hS h (Or.inl rfl) dX11_isWell_12
  · replace h := h_t c2 h
    refine lv_iconst (v := 1) hx hb dX11_isWell_7 (by decide) ?_
    refine lv_goto (tgt := 12) hx hb dX11_isWell_8 (by decide) ?_
    exact ret_z C hr hlocks hP hS h (Or.inr rfl) dX11_isWell_12
set_option maxHeartbeats 4000000 in
set_option maxRecDepth 100000 in
theorem c_X11_wants {l : Launch} {G : GT} {lam : Lm} {σ : St} {a1 : Int32} {a2 : Int32} {q : St} (h : f_X11_wants σ a1 a2 = some q) : Met l yX11_wants (Cond.code yX11_wants cX11_wants 3 none :: TB) ({ frames := 0, cells := 0, slots := 0, locals := 0 } : Room) (va_Pc [.ref (g_ad G 26), .int a1, .int a2] (GW G lam σ)) (Rv q G lam) 0 0 (g_A G) := by
  refine mk_Qv (own := RX11) (by decide) (Nat.le_of_ble_eq_true rfl) rfl (fun p e s m args below meth c C hr hlocks hP ls hl => ?_)
  have hx := C.1
  have hb := C.2.1
  have hl : lv_has ls 3 [(0, .ref (g_ad G 26)), (1, .int a1), (2, .int a2)] := hl
  have J20 : ∀ (σ : St) (t0 : Int32) (H : Heap) (locs : List Loc) (ls : Array Slot), f_X11_wants_p20 σ t0 = some q → va_P (g_D G) vwCl (allW G lam σ) H → va_S (g_A G) s.heap H locs → lv_has ls 3 [] → W p l e ({ frames := 0, cells := 0, slots := 0, locals := 0 } : Room) s m args below meth c H locs 0 0 (Qv q below args s G lam) (F0 m 20 ls [.int t0, .ref (g_ad G 26)]) := by
    intro σ t0 H locs ls h hP hS hl
    unfold f_X11_wants_p20 at h
    refine pf_X11_87_26 C hP hS dX11_wants_20 (fun H locs hP hS => ?_)
    obtain ⟨σ5, e6, h⟩ := bnd h
    have hP := hPn e6 hP
    exact ret_v C hr hlocks hP hS h dX11_wants_23
  have J16 : ∀ (σ : St) (H : Heap) (locs : List Loc) (ls : Array Slot), f_X11_wants_p16 σ = some q → va_P (g_D G) vwCl (allW G lam σ) H → va_S (g_A G) s.heap H locs → lv_has ls 3 [(0, .ref (g_ad G 26))] → W p l e ({ frames := 0, cells := 0, slots := 0, locals := 0 } : Room) s m args below meth c H locs 0 0 (Qv q below args s G lam) (F0 m 16 ls [.ref (g_ad G 26)]) := by
    intro σ H locs ls h hP hS hl
    unfold f_X11_wants_p16 at h
    refine lv_aload_n hx hb dX11_wants_16 rfl (lv_at hl 0 rfl) ?_
    refine gf_X11_87_26 C hP dX11_wants_17 ?_
    exact J20 _ _ H locs ls h hP hS (lv_sub hl [] rfl)
  have hS : va_S (g_A G) s.heap s.heap [] := va_S.rf
  unfold f_X11_wants at h
  obtain ⟨H, hH⟩ : ∃ H, H = s.heap := ⟨_, rfl⟩
  obtain ⟨locs, hlo⟩ : ∃ k : List Loc, k = [] := ⟨_, rfl⟩
  rw [← hH, ← hlo]
  rw [← hH] at hP
  replace hS : va_S (g_A G) s.heap H locs := by rw [hH, hlo]; exact hS
  refine lv_aload_n hx hb dX11_wants_0 rfl (lv_at hl 0 rfl) ?_
  refine lv_aload_n hx hb dX11_wants_1 rfl (lv_at hl 0 rfl) ?_
  refine gf_X11_87_26 C hP dX11_wants_2 ?_
  refine lv_if_ne (tgt := 16) hx hb dX11_wants_5 (by decide) (fun c7 => ?_) (fun c7 => ?_)
  · replace h := h_f c7 h
    exact J16 _ H locs ls h hP hS (lv_sub hl [0] rfl)
  · replace h := h_t c7 h
    refine lv_iload_n hx hb dX11_wants_8 rfl (lv_at hl 1 rfl) ?_
    refine lv_if_ne (tgt := 16) hx hb dX11_wants_9 (by decide) (fun c8 => ?_) (fun c8 => ?_)
    · replace h := h_f c8 h
      exact J16 _ H locs ls h hP hS (lv_sub hl [0] rfl)
    · replace h := h_t c8 h
      refine lv_iload_n hx hb dX11_wants_12 rfl (lv_at hl 2 rfl) ?_
      refine lv_goto (tgt := 20) hx hb dX11_wants_13 (by decide) ?_
      exact J20 _ _ H locs ls h hP hS (lv_sub hl [] rfl)
set_option maxHeartbeats 4000000 in
set_option maxRecDepth 100000 in
theorem c_X11_reads {l : Launch} {G : GT} {lam : Lm} {σ : St} {a1 : Int32} {q : St} (h : f_X11_reads σ a1 = some q) : Met l yX11_reads (Cond.code yX11_reads cX11_reads 2 none :: TB) ({ frames := 3, cells := 0, slots := 0, locals := 67 } : Room) (va_Pc [.ref (g_ad G 26), .int a1] (GW G lam σ)) (Rv q G lam) 0 0 (g_A G) := by
  refine mk_Qv (own := RX11) (by decide) (Nat.le_of_ble_eq_true rfl) rfl (fun p e s m args below meth c C hr hlocks hP ls hl => ?_)
  have hx := C.1
  have hb := C.2.1
  have hl : lv_has ls 2 [(0, .ref (g_ad G 26)), (1, .int a1)] := hl
  have J25 : ∀ (σ : St) (H : Heap) (locs : List Loc) (ls : Array Slot), f_X11_reads_p25 σ = some q → va_P (g_D G) vwCl (allW G lam σ) H → va_S (g_A G) s.heap H locs → lv_has ls 2 [(0, .ref (g_ad G 26))] → W p l e ({ frames := 3, cells := 0, slots := 0, locals := 67 } : Room) s m args below meth c H locs 0 0 (Qv q below args s G lam) (F0 m 25 ls []) := by
    intro σ H locs ls h hP hS hl
    unfold f_X11_reads_p25 at h
    refine lv_aload_n hx hb dX11_reads_25 rfl (lv_at hl 0 rfl) ?_
    obtain ⟨q12, e13, h⟩ := bnd h
    refine call_i C hP hS (c_X11_isWell e13) mi_X11_isWell mw_1353 26 (by decide) rfl rfl ⟨Nat.le_of_ble_eq_true rfl, Nat.le_of_ble_eq_true rfl⟩ (As := []) rfl hl.1 rfl (lv_room (Nat.le_of_ble_eq_true rfl)) dX11_reads_26 (fun H locs hP hS => ?_)
    refine lv_if_eq (tgt := 36) hx hb dX11_reads_29 (by decide) (fun c14 => ?_) (fun c14 => ?_)
    · replace h := h_t c14 h
      exact ret_v C hr hlocks hP hS h dX11_reads_36
    · replace h := h_f c14 h
      refine lv_aload_n hx hb dX11_reads_32 rfl (lv_at hl 0 rfl) ?_
      obtain ⟨q15, e16, h⟩ := bnd h
      refine call_v C hP hS (c_X11_take e16) mi_X11_take mw_1333 26 (by decide) rfl rfl ⟨Nat.le_of_ble_eq_true rfl, Nat.le_of_ble_eq_true rfl⟩ (As := []) rfl hl.1 rfl (lv_room (Nat.le_of_ble_eq_true rfl)) dX11_reads_33 (fun H locs hP hS => ?_)
      exact ret_v C hr hlocks hP hS h dX11_reads_36
  have J21 : ∀ (σ : St) (t0 : Int32) (H : Heap) (locs : List Loc) (ls : Array Slot), f_X11_reads_p21 σ t0 = some q → va_P (g_D G) vwCl (allW G lam σ) H → va_S (g_A G) s.heap H locs → lv_has ls 2 [(0, .ref (g_ad G 26))] → W p l e ({ frames := 3, cells := 0, slots := 0, locals := 67 } : Room) s m args below meth c H locs 0 0 (Qv q below args s G lam) (F0 m 21 ls [.int t0, .ref (g_ad G 26)]) := by
    intro σ t0 H locs ls h hP hS hl
    unfold f_X11_reads_p21 at h
    refine lv_iconst (v := 1) hx hb dX11_reads_21 (by decide) ?_
    obtain ⟨q17, e18, h⟩ := bnd h
    refine call_v C hP hS (c_X11_wants e18) mi_X11_wants mw_1357 26 (by decide) rfl rfl ⟨Nat.le_of_ble_eq_true rfl, Nat.le_of_ble_eq_true rfl⟩ (As := [.int t0, .int 1]) rfl hl.1 rfl (lv_room (Nat.le_of_ble_eq_true rfl)) dX11_reads_22 (fun H locs hP hS => ?_)
    exact J25 _ H locs ls h hP hS (lv_sub hl [0] rfl)
  have hS : va_S (g_A G) s.heap s.heap [] := va_S.rf
  unfold f_X11_reads at h
  obtain ⟨H, hH⟩ : ∃ H, H = s.heap := ⟨_, rfl⟩
  obtain ⟨locs, hlo⟩ : ∃ k : List Loc, k = [] := ⟨_, rfl⟩
  rw [← hH, ← hlo]
  rw [← hH] at hP
  replace hS : va_S (g_A G) s.heap H locs := by rw [hH, hlo]; exact hS
  refine lv_aload_n hx hb dX11_reads_0 rfl (lv_at hl 0 rfl) ?_
  obtain ⟨q19, e20, h⟩ := bnd h
  refine call_i C hP hS (c_X11_isWell e20) mi_X11_isWell mw_1353 26 (by decide) rfl rfl ⟨Nat.le_of_ble_eq_true rfl, Nat.le_of_ble_eq_true rfl⟩ (As := []) rfl hl.1 rfl (lv_room (Nat.le_of_ble_eq_true rfl)) dX11_reads_1 (fun H locs hP hS => ?_)
  refine lv_if_eq (tgt := 25) hx hb dX11_reads_4 (by decide) (fun c21 => ?_) (fun c21 => ?_)
  · replace h := h_t c21 h
    exact J25 _ H locs ls h hP hS (lv_sub hl [0] rfl)
  · replace h := h_f c21 h
    refine lv_aload_n hx hb dX11_reads_7 rfl (lv_at hl 0 rfl) ?_
    refine lv_aload_n hx hb dX11_reads_8 rfl (lv_at hl 0 rfl) ?_
    refine gf_X11_76_26 C hP dX11_reads_9 ?_
    refine lv_iload_n hx hb dX11_reads_12 rfl (lv_at hl 1 rfl) ?_
    refine lv_icmp_ne (tgt := 20) hx hb dX11_reads_13 (by decide) (fun c22 => ?_) (fun c22 => ?_)
    · replace h := h_f c22 h
      refine lv_iconst (v := 0) hx hb dX11_reads_20 (by decide) ?_
      exact J21 _ _ H locs ls h hP hS (lv_sub hl [0] rfl)
    · replace h := h_t c22 h
      refine lv_iconst (v := 1) hx hb dX11_reads_16 (by decide) ?_
      refine lv_goto (tgt := 21) hx hb dX11_reads_17 (by decide) ?_
      exact J21 _ _ H locs ls h hP hS (lv_sub hl [0] rfl)
set_option maxHeartbeats 4000000 in
set_option maxRecDepth 100000 in
theorem c_X11_number {l : Launch} {G : GT} {lam : Lm} {σ : St} {a1 : Int32} {a2 : Int32} {a3 : Int32} {q : St} (h : f_X11_number σ a1 a2 a3 = some q) : Met l yX11_number (Cond.code yX11_number cX11_number 4 none :: TB) ({ frames := 3, cells := 0, slots := 0, locals := 67 } : Room) (va_Pc [.ref (g_ad G 26), .int a1, .int a2, .int a3] (GW G lam σ)) (Rv q G lam) 0 0 (g_A G) := by
  refine mk_Qv (own := RX11) (by decide) (Nat.le_of_ble_eq_true rfl) rfl (fun p e s m args below meth c C hr hlocks hP ls hl => ?_)
  have hx := C.1
  have hb := C.2.1
  have hl : lv_has ls 4 [(0, .ref (g_ad G 26)), (1, .int a1), (2, .int a2), (3, .int a3)] := hl
  have J48 : ∀ (σ : St) (x1 : Int32) (H : Heap) (locs : List Loc) (ls : Array Slot), f_X11_number_p48 σ x1 = some q → va_P (g_D G) vwCl (allW G lam σ) H → va_S (g_A G) s.heap H locs → lv_has ls 4 [(0, .ref (g_ad G 26)), (1, .int x1)] → W p l e ({ frames := 3, cells := 0, slots := 0, locals := 67 } : Room) s m args below meth c H locs 0 0 (Qv q below args s G lam) (F0 m 48 ls []) := by
    intro σ x1 H locs ls h hP hS hl
    unfold f_X11_number_p48 at h
    refine lv_aload_n hx hb dX11_number_48 rfl (lv_at hl 0 rfl) ?_
    obtain ⟨q19, e20, h⟩ := bnd h
    refine call_i C hP hS (c_X11_isWell e20) mi_X11_isWell mw_1353 26 (by decide) rfl rfl ⟨Nat.le_of_ble_eq_true rfl, Nat.le_of_ble_eq_true rfl⟩ (As := []) rfl hl.1 rfl (lv_room (Nat.le_of_ble_eq_true rfl)) dX11_number_49 (fun H locs hP hS => ?_)
    refine lv_if_eq (tgt := 73) hx hb dX11_number_52 (by decide) (fun c21 => ?_) (fun c21 => ?_)
    · replace h := h_t c21 h
      exact ret_v C hr hlocks hP hS h dX11_number_73
    · replace h := h_f c21 h
      refine lv_aload_n hx hb dX11_number_55 rfl (lv_at hl 0 rfl) ?_
      refine gf_X11_26_26 C hP dX11_number_56 ?_
      refine lv_iload_n hx hb dX11_number_59 rfl (lv_at hl 1 rfl) ?_
      refine lv_aload_n hx hb dX11_number_60 rfl (lv_at hl 0 rfl) ?_
      refine gf_X11_76_26 C hP dX11_number_61 ?_
      refine lv_sipush (v := 1000) hx hb dX11_number_64 (by decide) ?_
      refine lv_isub hx hb dX11_number_67 ?_
      obtain ⟨g22, h⟩ := h_g h
      refine r_ast C hP hS 32 (by decide) (fun _ => rfl) (vp_in_iff.mpr g22) dX11_number_68 (fun H locs hP hS => ?_)
      obtain ⟨σ23, e24, h⟩ := bnd h
      have hP := hPn e24 hP
      refine lv_aload_n hx hb dX11_number_69 rfl (lv_at hl 0 rfl) ?_
      obtain ⟨q25, e26, h⟩ := bnd h
      refine call_v C hP hS (c_X11_take e26) mi_X11_take mw_1333 26 (by decide) rfl rfl ⟨Nat.le_of_ble_eq_true rfl, Nat.le_of_ble_eq_true rfl⟩ (As := []) rfl hl.1 rfl (lv_room (Nat.le_of_ble_eq_true rfl)) dX11_number_70 (fun H locs hP hS => ?_)
      exact ret_v C hr hlocks hP hS h dX11_number_73
  have J23 : ∀ (σ : St) (x1 : Int32) (x2 : Int32) (x3 : Int32) (t0 : Int32) (H : Heap) (locs : List Loc) (ls : Array Slot), f_X11_number_p23 σ x1 x2 x3 t0 = some q → va_P (g_D G) vwCl (allW G lam σ) H → va_S (g_A G) s.heap H locs → lv_has ls 4 [(0, .ref (g_ad G 26)), (1, .int x1), (2, .int x2), (3, .int x3)] → W p l e ({ frames := 3, cells := 0, slots := 0, locals := 67 } : Room) s m args below meth c H locs 0 0 (Qv q below args s G lam) (F0 m 23 ls [.int t0, .ref (g_ad G 26)]) := by
    intro σ x1 x2 x3 t0 H locs ls h hP hS hl
    unfold f_X11_number_p23 at h
    refine lv_iconst (v := 1) hx hb dX11_number_23 (by decide) ?_
    obtain ⟨q27, e28, h⟩ := bnd h
    refine call_v C hP hS (c_X11_wants e28) mi_X11_wants mw_1357 26 (by decide) rfl rfl ⟨Nat.le_of_ble_eq_true rfl, Nat.le_of_ble_eq_true rfl⟩ (As := [.int t0, .int 1]) rfl hl.1 rfl (lv_room (Nat.le_of_ble_eq_true rfl)) dX11_number_24 (fun H locs hP hS => ?_)
    refine lv_aload_n hx hb dX11_number_27 rfl (lv_at hl 0 rfl) ?_
    refine lv_aload_n hx hb dX11_number_28 rfl (lv_at hl 0 rfl) ?_
    refine gf_X11_76_26 C hP dX11_number_29 ?_
    refine lv_sipush (v := 1000) hx hb dX11_number_32 (by decide) ?_
    refine lv_isub hx hb dX11_number_35 ?_
    refine lv_i2l hx hb dX11_number_36 rfl ?_
    refine lv_iload_n hx hb dX11_number_37 rfl (lv_at hl 2 rfl) ?_
    refine lv_i2l hx hb dX11_number_38 rfl ?_
    refine lv_iload_n hx hb dX11_number_39 rfl (lv_at hl 3 rfl) ?_
    refine lv_i2l hx hb dX11_number_40 rfl ?_
    obtain ⟨q29, e30, h⟩ := bnd h
    refine scall_i C hP hS (c_X11_in e30) ms_X11_in mw_1320 ⟨Nat.le_of_ble_eq_true rfl, Nat.le_of_ble_eq_true rfl⟩ (As := [.long (((q27 26 11) - 1000 : Int32).toInt64), .long ((x2 : Int32).toInt64), .long ((x3 : Int32).toInt64)]) rfl hl.1 rfl (lv_room (Nat.le_of_ble_eq_true rfl)) dX11_number_41 (fun H locs hP hS => ?_)
    refine lv_iconst (v := 2) hx hb dX11_number_44 (by decide) ?_
    obtain ⟨q31, e32, h⟩ := bnd h
    refine call_v C hP hS (c_X11_wants e32) mi_X11_wants mw_1357 26 (by decide) rfl rfl ⟨Nat.le_of_ble_eq_true rfl, Nat.le_of_ble_eq_true rfl⟩ (As := [.int q29.1, .int 2]) rfl hl.1 rfl (lv_room (Nat.le_of_ble_eq_true rfl)) dX11_number_45 (fun H locs hP hS => ?_)
    exact J48 _ _ H locs ls h hP hS (lv_sub hl [0, 1] rfl)
  have hS : va_S (g_A G) s.heap s.heap [] := va_S.rf
  unfold f_X11_number at h
  obtain ⟨H, hH⟩ : ∃ H, H = s.heap := ⟨_, rfl⟩
  obtain ⟨locs, hlo⟩ : ∃ k : List Loc, k = [] := ⟨_, rfl⟩
  rw [← hH, ← hlo]
  rw [← hH] at hP
  replace hS : va_S (g_A G) s.heap H locs := by rw [hH, hlo]; exact hS
  refine lv_aload_n hx hb dX11_number_0 rfl (lv_at hl 0 rfl) ?_
  obtain ⟨q33, e34, h⟩ := bnd h
  refine call_i C hP hS (c_X11_isWell e34) mi_X11_isWell mw_1353 26 (by decide) rfl rfl ⟨Nat.le_of_ble_eq_true rfl, Nat.le_of_ble_eq_true rfl⟩ (As := []) rfl hl.1 rfl (lv_room (Nat.le_of_ble_eq_true rfl)) dX11_number_1 (fun H locs hP hS => ?_)
  refine lv_if_eq (tgt := 48) hx hb dX11_number_4 (by decide) (fun c35 => ?_) (fun c35 => ?_)
  · replace h := h_t c35 h
    exact J48 _ _ H locs ls h hP hS (lv_sub hl [0, 1] rfl)
  · replace h := h_f c35 h
    refine lv_aload_n hx hb dX11_number_7 rfl (lv_at hl 0 rfl) ?_
    refine lv_aload_n hx hb dX11_number_8 rfl (lv_at hl 0 rfl) ?_
    refine gf_X11_76_26 C hP dX11_number_9 ?_
    refine lv_sipush (v := 1000) hx hb dX11_number_12 (by decide) ?_
    refine lv_icmp_lt (tgt := 22) hx hb dX11_number_15 (by decide) (fun c36 => ?_) (fun c36 => ?_)
    · replace h := h_t c36 h
      refine lv_iconst (v := 0) hx hb dX11_number_22 (by decide) ?_
      exact J23 _ _ _ _ _ H locs ls h hP hS (lv_sub hl [0, 1, 2, 3] rfl)
    · replace h := h_f c36 h
      refine lv_iconst (v := 1) hx hb dX11_number_18 (by decide) ?_
      refine lv_goto (tgt := 23) hx hb dX11_number_19 (by decide) ?_
      exact J23 _ _ _ _ _ H locs ls h hP hS (lv_sub hl [0, 1, 2, 3] rfl)
set_option maxHeartbeats 4000000 in
set_option maxRecDepth 100000 in
theorem c_X11_readsShip {l : Launch} {G : GT} {lam : Lm} {σ : St} {q : St} (h : f_X11_readsShip σ = some q) : Met l yX11_readsShip (Cond.code yX11_readsShip cX11_readsShip 1 none :: TB) ({ frames := 4, cells := 0, slots := 0, locals := 90 } : Room) (va_Pc [.ref (g_ad G 26)] (GW G lam σ)) (Rv q G lam) 0 0 (g_A G) := by
  refine mk_Qv (own := RX11) (by decide) (Nat.le_of_ble_eq_true rfl) rfl (fun p e s m args below meth c C hr hlocks hP ls hl => ?_)
  have hx := C.1
  have hb := C.2.1
  have hl : lv_has ls 1 [(0, .ref (g_ad G 26))] := hl
  have hS : va_S (g_A G) s.heap s.heap [] := va_S.rf
  unfold f_X11_readsShip at h
  refine lv_aload_n hx hb dX11_readsShip_0 rfl (lv_at hl 0 rfl) ?_
  refine lv_bipush (v := 104) hx hb dX11_readsShip_1 (by decide) ?_
  obtain ⟨q15, e16, h⟩ := bnd h
  refine call_v C hP hS (c_X11_reads e16) mi_X11_reads mw_1349 26 (by decide) rfl rfl ⟨Nat.le_of_ble_eq_true rfl, Nat.le_of_ble_eq_true rfl⟩ (As := [.int 104]) rfl hl.1 rfl (lv_room (Nat.le_of_ble_eq_true rfl)) dX11_readsShip_3 (fun H locs hP hS => ?_)
  refine lv_aload_n hx hb dX11_readsShip_6 rfl (lv_at hl 0 rfl) ?_
  refine lv_iconst (v := 1) hx hb dX11_readsShip_7 (by decide) ?_
  refine lv_iconst (v := 0) hx hb dX11_readsShip_8 (by decide) ?_
  refine lv_bipush (v := 20) hx hb dX11_readsShip_9 (by decide) ?_
  obtain ⟨q17, e18, h⟩ := bnd h
  refine call_v C hP hS (c_X11_number e18) mi_X11_number mw_1361 26 (by decide) rfl rfl ⟨Nat.le_of_ble_eq_true rfl, Nat.le_of_ble_eq_true rfl⟩ (As := [.int 1, .int 0, .int 20]) rfl hl.1 rfl (lv_room (Nat.le_of_ble_eq_true rfl)) dX11_readsShip_11 (fun H locs hP hS => ?_)
  refine lv_aload_n hx hb dX11_readsShip_14 rfl (lv_at hl 0 rfl) ?_
  refine lv_bipush (v := 44) hx hb dX11_readsShip_15 (by decide) ?_
  obtain ⟨q19, e20, h⟩ := bnd h
  refine call_v C hP hS (c_X11_reads e20) mi_X11_reads mw_1349 26 (by decide) rfl rfl ⟨Nat.le_of_ble_eq_true rfl, Nat.le_of_ble_eq_true rfl⟩ (As := [.int 44]) rfl hl.1 rfl (lv_room (Nat.le_of_ble_eq_true rfl)) dX11_readsShip_17 (fun H locs hP hS => ?_)
  refine lv_aload_n hx hb dX11_readsShip_20 rfl (lv_at hl 0 rfl) ?_
  refine lv_iconst (v := 2) hx hb dX11_readsShip_21 (by decide) ?_
  refine lv_iconst (v := 0) hx hb dX11_readsShip_22 (by decide) ?_
  refine lv_bipush (v := 60) hx hb dX11_readsShip_23 (by decide) ?_
  obtain ⟨q21, e22, h⟩ := bnd h
  refine call_v C hP hS (c_X11_number e22) mi_X11_number mw_1361 26 (by decide) rfl rfl ⟨Nat.le_of_ble_eq_true rfl, Nat.le_of_ble_eq_true rfl⟩ (As := [.int 2, .int 0, .int 60]) rfl hl.1 rfl (lv_room (Nat.le_of_ble_eq_true rfl)) dX11_readsShip_25 (fun H locs hP hS => ?_)
  refine lv_aload_n hx hb dX11_readsShip_28 rfl (lv_at hl 0 rfl) ?_
  refine lv_bipush (v := 44) hx hb dX11_readsShip_29 (by decide) ?_
  obtain ⟨q23, e24, h⟩ := bnd h
  refine call_v C hP hS (c_X11_reads e24) mi_X11_reads mw_1349 26 (by decide) rfl rfl ⟨Nat.le_of_ble_eq_true rfl, Nat.le_of_ble_eq_true rfl⟩ (As := [.int 44]) rfl hl.1 rfl (lv_room (Nat.le_of_ble_eq_true rfl)) dX11_readsShip_31 (fun H locs hP hS => ?_)
  refine lv_aload_n hx hb dX11_readsShip_34 rfl (lv_at hl 0 rfl) ?_
  refine lv_iconst (v := 3) hx hb dX11_readsShip_35 (by decide) ?_
  refine lv_iconst (v := 0) hx hb dX11_readsShip_36 (by decide) ?_
  refine lv_bipush (v := 60) hx hb dX11_readsShip_37 (by decide) ?_
  obtain ⟨q25, e26, h⟩ := bnd h
  refine call_v C hP hS (c_X11_number e26) mi_X11_number mw_1361 26 (by decide) rfl rfl ⟨Nat.le_of_ble_eq_true rfl, Nat.le_of_ble_eq_true rfl⟩ (As := [.int 3, .int 0, .int 60]) rfl hl.1 rfl (lv_room (Nat.le_of_ble_eq_true rfl)) dX11_readsShip_39 (fun H locs hP hS => ?_)
  refine lv_aload_n hx hb dX11_readsShip_42 rfl (lv_at hl 0 rfl) ?_
  refine lv_bipush (v := 59) hx hb dX11_readsShip_43 (by decide) ?_
  obtain ⟨q27, e28, h⟩ := bnd h
  refine call_v C hP hS (c_X11_reads e28) mi_X11_reads mw_1349 26 (by decide) rfl rfl ⟨Nat.le_of_ble_eq_true rfl, Nat.le_of_ble_eq_true rfl⟩ (As := [.int 59]) rfl hl.1 rfl (lv_room (Nat.le_of_ble_eq_true rfl)) dX11_readsShip_45 (fun H locs hP hS => ?_)
  exact ret_v C hr hlocks hP hS h dX11_readsShip_48
set_option maxHeartbeats 4000000 in
set_option maxRecDepth 100000 in
theorem c_X11_readsTide {l : Launch} {G : GT} {lam : Lm} {σ : St} {q : St} (h : f_X11_readsTide σ = some q) : Met l yX11_readsTide (Cond.code yX11_readsTide cX11_readsTide 1 none :: TB) ({ frames := 4, cells := 0, slots := 0, locals := 90 } : Room) (va_Pc [.ref (g_ad G 26)] (GW G lam σ)) (Rv q G lam) 0 0 (g_A G) := by
  refine mk_Qv (own := RX11) (by decide) (Nat.le_of_ble_eq_true rfl) rfl (fun p e s m args below meth c C hr hlocks hP ls hl => ?_)
  have hx := C.1
  have hb := C.2.1
  have hl : lv_has ls 1 [(0, .ref (g_ad G 26))] := hl
  have J86 : ∀ (σ : St) (H : Heap) (locs : List Loc) (ls : Array Slot), f_X11_readsTide_p86 σ = some q → va_P (g_D G) vwCl (allW G lam σ) H → va_S (g_A G) s.heap H locs → lv_has ls 1 [(0, .ref (g_ad G 26))] → W p l e ({ frames := 4, cells := 0, slots := 0, locals := 90 } : Room) s m args below meth c H locs 0 0 (Qv q below args s G lam) (F0 m 86 ls []) := by
    intro σ H locs ls h hP hS hl
    unfold f_X11_readsTide_p86 at h
    refine lv_aload_n hx hb dX11_readsTide_86 rfl (lv_at hl 0 rfl) ?_
    refine lv_bipush (v := 59) hx hb dX11_readsTide_87 (by decide) ?_
    obtain ⟨q20, e21, h⟩ := bnd h
    refine call_v C hP hS (c_X11_reads e21) mi_X11_reads mw_1349 26 (by decide) rfl rfl ⟨Nat.le_of_ble_eq_true rfl, Nat.le_of_ble_eq_true rfl⟩ (As := [.int 59]) rfl hl.1 rfl (lv_room (Nat.le_of_ble_eq_true rfl)) dX11_readsTide_89 (fun H locs hP hS => ?_)
    exact ret_v C hr hlocks hP hS h dX11_readsTide_92
  have L23 : ∀ (n23 : Nat) (σ : St) (H : Heap) (locs : List Loc) (ls : Array Slot), fx (F_X11_readsTide_h23) z_X11_readsTide_h23 n23 σ = some q → va_P (g_D G) vwCl (allW G lam σ) H → va_S (g_A G) s.heap H locs → lv_has ls 1 [(0, .ref (g_ad G 26))] → W p l e ({ frames := 4, cells := 0, slots := 0, locals := 90 } : Room) s m args below meth c H locs 0 0 (Qv q below args s G lam) (F0 m 23 ls []) := by
    intro n23
    induction n23 with
    | zero => intro σ H locs ls h hP hS hl; exact absurd h (by intro h9; cases h9)
    | succ n23 ih23 =>
      intro σ H locs ls h hP hS hl
      change F_X11_readsTide_h23 (fx (F_X11_readsTide_h23) z_X11_readsTide_h23 n23) σ = some q at h
      unfold F_X11_readsTide_h23 at h
      refine lv_aload_n hx hb dX11_readsTide_23 rfl (lv_at hl 0 rfl) ?_
      obtain ⟨q22, e23, h⟩ := bnd h
      refine call_i C hP hS (c_X11_isWell e23) mi_X11_isWell mw_1353 26 (by decide) rfl rfl ⟨Nat.le_of_ble_eq_true rfl, Nat.le_of_ble_eq_true rfl⟩ (As := []) rfl hl.1 rfl (lv_room (Nat.le_of_ble_eq_true rfl)) dX11_readsTide_24 (fun H locs hP hS => ?_)
      refine lv_if_eq (tgt := 86) hx hb dX11_readsTide_27 (by decide) (fun c24 => ?_) (fun c24 => ?_)
      · replace h := h_t c24 h
        exact J86 _ H locs ls h hP hS (lv_sub hl [0] rfl)
      · replace h := h_f c24 h
        refine lv_aload_n hx hb dX11_readsTide_30 rfl (lv_at hl 0 rfl) ?_
        refine gf_X11_76_26 C hP dX11_readsTide_31 ?_
        refine lv_bipush (v := 44) hx hb dX11_readsTide_34 (by decide) ?_
        refine lv_icmp_ne (tgt := 86) hx hb dX11_readsTide_36 (by decide) (fun c25 => ?_) (fun c25 => ?_)
        · replace h := h_f c25 h
          exact J86 _ H locs ls h hP hS (lv_sub hl [0] rfl)
        · replace h := h_t c25 h
          refine lv_aload_n hx hb dX11_readsTide_39 rfl (lv_at hl 0 rfl) ?_
          refine gf_X11_26_26 C hP dX11_readsTide_40 ?_
          refine lv_bipush (v := 6) hx hb dX11_readsTide_43 (by decide) ?_
          refine r_aldc C hP 32 (by decide) rfl (j := 6) (by decide) (vp_in_iff.mpr (by decide)) dX11_readsTide_45 ?_
          refine lv_bipush (v := 6) hx hb dX11_readsTide_46 (by decide) ?_
          refine lv_icmp_ge (tgt := 86) hx hb dX11_readsTide_48 (by decide) (fun c26 => ?_) (fun c26 => ?_)
          · replace h := h_t c26 h
            exact J86 _ H locs ls h hP hS (lv_sub hl [0] rfl)
          · replace h := h_f c26 h
            refine lv_aload_n hx hb dX11_readsTide_51 rfl (lv_at hl 0 rfl) ?_
            obtain ⟨q27, e28, h⟩ := bnd h
            refine call_v C hP hS (c_X11_take e28) mi_X11_take mw_1333 26 (by decide) rfl rfl ⟨Nat.le_of_ble_eq_true rfl, Nat.le_of_ble_eq_true rfl⟩ (As := []) rfl hl.1 rfl (lv_room (Nat.le_of_ble_eq_true rfl)) dX11_readsTide_52 (fun H locs hP hS => ?_)
            refine lv_aload_n hx hb dX11_readsTide_55 rfl (lv_at hl 0 rfl) ?_
            refine lv_bipush (v := 7) hx hb dX11_readsTide_56 (by decide) ?_
            refine lv_aload_n hx hb dX11_readsTide_58 rfl (lv_at hl 0 rfl) ?_
            refine gf_X11_26_26 C hP dX11_readsTide_59 ?_
            refine lv_bipush (v := 6) hx hb dX11_readsTide_62 (by decide) ?_
            refine r_aldc C hP 32 (by decide) rfl (j := 6) (by decide) (vp_in_iff.mpr (by decide)) dX11_readsTide_64 ?_
            refine lv_iadd hx hb dX11_readsTide_65 ?_
            refine lv_iconst (v := 0) hx hb dX11_readsTide_66 (by decide) ?_
            refine lv_bipush (v := 20) hx hb dX11_readsTide_67 (by decide) ?_
            obtain ⟨q29, e30, h⟩ := bnd h
            refine call_v C hP hS (c_X11_number e30) mi_X11_number mw_1361 26 (by decide) rfl rfl ⟨Nat.le_of_ble_eq_true rfl, Nat.le_of_ble_eq_true rfl⟩ (As := [.int (7 + (q27 32 6)), .int 0, .int 20]) rfl hl.1 rfl (lv_room (Nat.le_of_ble_eq_true rfl)) dX11_readsTide_69 (fun H locs hP hS => ?_)
            refine lv_aload_n hx hb dX11_readsTide_72 rfl (lv_at hl 0 rfl) ?_
            refine gf_X11_26_26 C hP dX11_readsTide_73 ?_
            refine lv_bipush (v := 6) hx hb dX11_readsTide_76 (by decide) ?_
            refine lv_dup2_11 hx hb dX11_readsTide_78 rfl rfl ?_
            refine r_aldc C hP 32 (by decide) rfl (j := 6) (by decide) (vp_in_iff.mpr (by decide)) dX11_readsTide_79 ?_
            refine lv_iconst (v := 1) hx hb dX11_readsTide_80 (by decide) ?_
            refine lv_iadd hx hb dX11_readsTide_81 ?_
            refine r_astc C hP hS 32 (by decide) (fun _ => rfl) (j := 6) (by decide) (vp_in_iff.mpr (by decide)) dX11_readsTide_82 (fun H locs hP hS => ?_)
            obtain ⟨σ31, e32, h⟩ := bnd h
            have hP := hPn e32 hP
            refine lv_goto (tgt := 23) hx hb dX11_readsTide_83 (by decide) ?_
            exact ih23 _ H locs ls h hP hS (lv_sub hl [0] rfl)
  have hS : va_S (g_A G) s.heap s.heap [] := va_S.rf
  unfold f_X11_readsTide at h
  obtain ⟨H, hH⟩ : ∃ H, H = s.heap := ⟨_, rfl⟩
  obtain ⟨locs, hlo⟩ : ∃ k : List Loc, k = [] := ⟨_, rfl⟩
  rw [← hH, ← hlo]
  rw [← hH] at hP
  replace hS : va_S (g_A G) s.heap H locs := by rw [hH, hlo]; exact hS
  refine lv_aload_n hx hb dX11_readsTide_0 rfl (lv_at hl 0 rfl) ?_
  refine lv_bipush (v := 116) hx hb dX11_readsTide_1 (by decide) ?_
  obtain ⟨q33, e34, h⟩ := bnd h
  refine call_v C hP hS (c_X11_reads e34) mi_X11_reads mw_1349 26 (by decide) rfl rfl ⟨Nat.le_of_ble_eq_true rfl, Nat.le_of_ble_eq_true rfl⟩ (As := [.int 116]) rfl hl.1 rfl (lv_room (Nat.le_of_ble_eq_true rfl)) dX11_readsTide_3 (fun H locs hP hS => ?_)
  refine lv_aload_n hx hb dX11_readsTide_6 rfl (lv_at hl 0 rfl) ?_
  refine lv_bipush (v := 7) hx hb dX11_readsTide_7 (by decide) ?_
  refine lv_iconst (v := 0) hx hb dX11_readsTide_9 (by decide) ?_
  refine lv_bipush (v := 20) hx hb dX11_readsTide_10 (by decide) ?_
  obtain ⟨q35, e36, h⟩ := bnd h
  refine call_v C hP hS (c_X11_number e36) mi_X11_number mw_1361 26 (by decide) rfl rfl ⟨Nat.le_of_ble_eq_true rfl, Nat.le_of_ble_eq_true rfl⟩ (As := [.int 7, .int 0, .int 20]) rfl hl.1 rfl (lv_room (Nat.le_of_ble_eq_true rfl)) dX11_readsTide_12 (fun H locs hP hS => ?_)
  refine lv_aload_n hx hb dX11_readsTide_15 rfl (lv_at hl 0 rfl) ?_
  refine gf_X11_26_26 C hP dX11_readsTide_16 ?_
  refine lv_bipush (v := 6) hx hb dX11_readsTide_19 (by decide) ?_
  refine lv_iconst (v := 1) hx hb dX11_readsTide_21 (by decide) ?_
  refine r_astc C hP hS 32 (by decide) (fun _ => rfl) (j := 6) (by decide) (vp_in_iff.mpr (by decide)) dX11_readsTide_22 (fun H locs hP hS => ?_)
  obtain ⟨σ37, e38, h⟩ := bnd h
  have hP := hPn e38 hP
  exact L23 FU _ H locs ls h hP hS (lv_sub hl [0] rfl)
set_option maxHeartbeats 4000000 in
set_option maxRecDepth 100000 in
theorem c_X11_sortOf {l : Launch} {G : GT} {lam : Lm} {σ : St} {a1 : Int32} {q : Int32 × St} (h : f_X11_sortOf σ a1 = some q) : Met l yX11_sortOf (Cond.code yX11_sortOf cX11_sortOf 1 ((some .int)) :: TB) ({ frames := 0, cells := 0, slots := 0, locals := 0 } : Room) (va_Pc [.int a1] (GW G lam σ)) (Ri q G lam) 0 0 (g_A G) := by
  refine mk_Qi (own := RX11) (by decide) (Nat.le_of_ble_eq_true rfl) rfl (fun p e s m args below meth c C hr hlocks hP ls hl => ?_)
  have hx := C.1
  have hb := C.2.1
  have hl : lv_has ls 1 [(0, .int a1)] := hl
  have hS : va_S (g_A G) s.heap s.heap [] := va_S.rf
  unfold f_X11_sortOf at h
  refine lv_iload_n hx hb dX11_sortOf_0 rfl (lv_at hl 0 rfl) ?_
  by_cases c21 : a1 = 98
  · replace h := h_t c21 h
    refine r_eq c21 ?_
    refine lv_tableIn (off := 95) (tgt := 96) hx hb dX11_sortOf_1 (by decide) (by decide) (by decide) (by decide) ?_
    refine lv_iconst (v := 1) hx hb dX11_sortOf_96 (by decide) ?_
    exact ret_i C hr hlocks hP hS h dX11_sortOf_97
  replace h := h_f c21 h
  by_cases c22 : a1 = 99
  · replace h := h_t c22 h
    refine r_eq c22 ?_
    refine lv_tableIn (off := 108) (tgt := 109) hx hb dX11_sortOf_1 (by decide) (by decide) (by decide) (by decide) ?_
    refine lv_iconst (v := 0) hx hb dX11_sortOf_109 (by decide) ?_
    exact ret_i C hr hlocks hP hS h dX11_sortOf_110
  replace h := h_f c22 h
  by_cases c23 : a1 = 100
  · replace h := h_t c23 h
    refine r_eq c23 ?_
    refine lv_tableIn (off := 108) (tgt := 109) hx hb dX11_sortOf_1 (by decide) (by decide) (by decide) (by decide) ?_
    refine lv_iconst (v := 0) hx hb dX11_sortOf_109 (by decide) ?_
    exact ret_i C hr hlocks hP hS h dX11_sortOf_110
  replace h := h_f c23 h
  by_cases c24 : a1 = 101
  · replace h := h_t c24 h
    refine r_eq c24 ?_
    refine lv_tableIn (off := 108) (tgt := 109) hx hb dX11_sortOf_1 (by decide) (by decide) (by decide) (by decide) ?_
    refine lv_iconst (v := 0) hx hb dX11_sortOf_109 (by decide) ?_
    exact ret_i C hr hlocks hP hS h dX11_sortOf_110
  replace h := h_f c24 h
  by_cases c25 : a1 = 102
  · replace h := h_t c25 h
    refine r_eq c25 ?_
    refine lv_tableIn (off := 108) (tgt := 109) hx hb dX11_sortOf_1 (by decide) (by decide) (by decide) (by decide) ?_
    refine lv_iconst (v := 0) hx hb dX11_sortOf_109 (by decide) ?_
    exact ret_i C hr hlocks hP hS h dX11_sortOf_110
  replace h := h_f c25 h
  by_cases c26 : a1 = 103
  · replace h := h_t c26 h
    refine r_eq c26 ?_
    refine lv_tableIn (off := 108) (tgt := 109) hx hb dX11_sortOf_1 (by decide) (by decide) (by decide) (by decide) ?_
    refine lv_iconst (v := 0) hx hb dX11_sortOf_109 (by decide) ?_
    exact ret_i C hr hlocks hP hS h dX11_sortOf_110
  replace h := h_f c26 h
  by_cases c27 : a1 = 104
  · replace h := h_t c27 h
    refine r_eq c27 ?_
    refine lv_tableIn (off := 108) (tgt := 109) hx hb dX11_sortOf_1 (by decide) (by decide) (by decide) (by decide) ?_
    refine lv_iconst (v := 0) hx hb dX11_sortOf_109 (by decide) ?_
    exact ret_i C hr hlocks hP hS h dX11_sortOf_110
  replace h := h_f c27 h
  by_cases c28 : a1 = 105
  · replace h := h_t c28 h
    refine r_eq c28 ?_
    refine lv_tableIn (off := 108) (tgt := 109) hx hb dX11_sortOf_1 (by decide) (by decide) (by decide) (by decide) ?_
    refine lv_iconst (v := 0) hx hb dX11_sortOf_109 (by decide) ?_
    exact ret_i C hr hlocks hP hS h dX11_sortOf_110
  replace h := h_f c28 h
  by_cases c29 : a1 = 106
  · replace h := h_t c29 h
    refine r_eq c29 ?_
    refine lv_tableIn (off := 108) (tgt := 109) hx hb dX11_sortOf_1 (by decide) (by decide) (by decide) (by decide) ?_
    refine lv_iconst (v := 0) hx hb dX11_sortOf_109 (by decide) ?_
    exact ret_i C hr hlocks hP hS h dX11_sortOf_110
  replace h := h_f c29 h
  by_cases c30 : a1 = 107
  · replace h := h_t c30 h
    refine r_eq c30 ?_
    refine lv_tableIn (off := 105) (tgt := 106) hx hb dX11_sortOf_1 (by decide) (by decide) (by decide) (by decide) ?_
    refine lv_bipush (v := 6) hx hb dX11_sortOf_106 (by decide) ?_
    exact ret_i C hr hlocks hP hS h dX11_sortOf_108
  replace h := h_f c30 h
  by_cases c31 : a1 = 108
  · replace h := h_t c31 h
    refine r_eq c31 ?_
    refine lv_tableIn (off := 97) (tgt := 98) hx hb dX11_sortOf_1 (by decide) (by decide) (by decide) (by decide) ?_
    refine lv_iconst (v := 2) hx hb dX11_sortOf_98 (by decide) ?_
    exact ret_i C hr hlocks hP hS h dX11_sortOf_99
  replace h := h_f c31 h
  by_cases c32 : a1 = 109
  · replace h := h_t c32 h
    refine r_eq c32 ?_
    refine lv_tableIn (off := 108) (tgt := 109) hx hb dX11_sortOf_1 (by decide) (by decide) (by decide) (by decide) ?_
    refine lv_iconst (v := 0) hx hb dX11_sortOf_109 (by decide) ?_
    exact ret_i C hr hlocks hP hS h dX11_sortOf_110
  replace h := h_f c32 h
  by_cases c33 : a1 = 110
  · replace h := h_t c33 h
    refine r_eq c33 ?_
    refine lv_tableIn (off := 108) (tgt := 109) hx hb dX11_sortOf_1 (by decide) (by decide) (by decide) (by decide) ?_
    refine lv_iconst (v := 0) hx hb dX11_sortOf_109 (by decide) ?_
    exact ret_i C hr hlocks hP hS h dX11_sortOf_110
  replace h := h_f c33 h
  by_cases c34 : a1 = 111
  · replace h := h_t c34 h
    refine r_eq c34 ?_
    refine lv_tableIn (off := 108) (tgt := 109) hx hb dX11_sortOf_1 (by decide) (by decide) (by decide) (by decide) ?_
    refine lv_iconst (v := 0) hx hb dX11_sortOf_109 (by decide) ?_
    exact ret_i C hr hlocks hP hS h dX11_sortOf_110
  replace h := h_f c34 h
  by_cases c35 : a1 = 112
  · replace h := h_t c35 h
    refine r_eq c35 ?_
    refine lv_tableIn (off := 108) (tgt := 109) hx hb dX11_sortOf_1 (by decide) (by decide) (by decide) (by decide) ?_
    refine lv_iconst (v := 0) hx hb dX11_sortOf_109 (by decide) ?_
    exact ret_i C hr hlocks hP hS h dX11_sortOf_110
  replace h := h_f c35 h
  by_cases c36 : a1 = 113
  · replace h := h_t c36 h
    refine r_eq c36 ?_
    refine lv_tableIn (off := 108) (tgt := 109) hx hb dX11_sortOf_1 (by decide) (by decide) (by decide) (by decide) ?_
    refine lv_iconst (v := 0) hx hb dX11_sortOf_109 (by decide) ?_
    exact ret_i C hr hlocks hP hS h dX11_sortOf_110
  replace h := h_f c36 h
  by_cases c37 : a1 = 114
  · replace h := h_t c37 h
    refine r_eq c37 ?_
    refine lv_tableIn (off := 103) (tgt := 104) hx hb dX11_sortOf_1 (by decide) (by decide) (by decide) (by decide) ?_
    refine lv_iconst (v := 5) hx hb dX11_sortOf_104 (by decide) ?_
    exact ret_i C hr hlocks hP hS h dX11_sortOf_105
  replace h := h_f c37 h
  by_cases c38 : a1 = 115
  · replace h := h_t c38 h
    refine r_eq c38 ?_
    refine lv_tableIn (off := 101) (tgt := 102) hx hb dX11_sortOf_1 (by decide) (by decide) (by decide) (by decide) ?_
    refine lv_iconst (v := 4) hx hb dX11_sortOf_102 (by decide) ?_
    exact ret_i C hr hlocks hP hS h dX11_sortOf_103
  replace h := h_f c38 h
  by_cases c39 : a1 = 116
  · replace h := h_t c39 h
    refine r_eq c39 ?_
    refine lv_tableIn (off := 108) (tgt := 109) hx hb dX11_sortOf_1 (by decide) (by decide) (by decide) (by decide) ?_
    refine lv_iconst (v := 0) hx hb dX11_sortOf_109 (by decide) ?_
    exact ret_i C hr hlocks hP hS h dX11_sortOf_110
  replace h := h_f c39 h
  by_cases c40 : a1 = 117
  · replace h := h_t c40 h
    refine r_eq c40 ?_
    refine lv_tableIn (off := 99) (tgt := 100) hx hb dX11_sortOf_1 (by decide) (by decide) (by decide) (by decide) ?_
    refine lv_iconst (v := 3) hx hb dX11_sortOf_100 (by decide) ?_
    exact ret_i C hr hlocks hP hS h dX11_sortOf_101
  replace h := h_f c40 h
  refine lv_tableOut (tgt := 109) hx hb dX11_sortOf_1 (by have hz := And.intro (ne_i (z := 98) (by decide) c21) (And.intro (ne_i (z := 99) (by decide) c22) (And.intro (ne_i (z := 100) (by decide) c23) (And.intro (ne_i (z := 101) (by decide) c24) (And.intro (ne_i (z := 102) (by decide) c25) (And.intro (ne_i (z := 103) (by decide) c26) (And.intro (ne_i (z := 104) (by decide) c27) (And.intro (ne_i (z := 105) (by decide) c28) (And.intro (ne_i (z := 106) (by decide) c29) (And.intro (ne_i (z := 107) (by decide) c30) (And.intro (ne_i (z := 108) (by decide) c31) (And.intro (ne_i (z := 109) (by decide) c32) (And.intro (ne_i (z := 110) (by decide) c33) (And.intro (ne_i (z := 111) (by decide) c34) (And.intro (ne_i (z := 112) (by decide) c35) (And.intro (ne_i (z := 113) (by decide) c36) (And.intro (ne_i (z := 114) (by decide) c37) (And.intro (ne_i (z := 115) (by decide) c38) (And.intro (ne_i (z := 116) (by decide) c39) (ne_i (z := 117) (by decide) c40))))))))))))))))))); omega) (by decide) ?_
  refine lv_iconst (v := 0) hx hb dX11_sortOf_109 (by decide) ?_
  exact ret_i C hr hlocks hP hS h dX11_sortOf_110
set_option maxHeartbeats 4000000 in
set_option maxRecDepth 100000 in
theorem c_X11_readsThing {l : Launch} {G : GT} {lam : Lm} {σ : St} {q : St} (h : f_X11_readsThing σ = some q) : Met l yX11_readsThing (Cond.code yX11_readsThing cX11_readsThing 2 none :: TB) ({ frames := 4, cells := 0, slots := 0, locals := 90 } : Room) (va_Pc [.ref (g_ad G 26)] (GW G lam σ)) (Rv q G lam) 0 0 (g_A G) := by
  refine mk_Qv (own := RX11) (by decide) (Nat.le_of_ble_eq_true rfl) rfl (fun p e s m args below meth c C hr hlocks hP ls hl => ?_)
  have hx := C.1
  have hb := C.2.1
  have hl : lv_has ls 2 [(0, .ref (g_ad G 26))] := hl
  have J18 : ∀ (σ : St) (t0 : Int32) (H : Heap) (locs : List Loc) (ls : Array Slot), f_X11_readsThing_p18 σ t0 = some q → va_P (g_D G) vwCl (allW G lam σ) H → va_S (g_A G) s.heap H locs → lv_has ls 2 [(0, .ref (g_ad G 26))] → W p l e ({ frames := 4, cells := 0, slots := 0, locals := 90 } : Room) s m args below meth c H locs 0 0 (Qv q below args s G lam) (F0 m 18 ls [.int t0, .ref (g_ad G 26)]) := by
    intro σ t0 H locs ls h hP hS hl
    unfold f_X11_readsThing_p18 at h
    refine lv_iconst (v := 3) hx hb dX11_readsThing_18 (by decide) ?_
    obtain ⟨q32, e33, h⟩ := bnd h
    refine call_v C hP hS (c_X11_wants e33) mi_X11_wants mw_1357 26 (by decide) rfl rfl ⟨Nat.le_of_ble_eq_true rfl, Nat.le_of_ble_eq_true rfl⟩ (As := [.int t0, .int 3]) rfl hl.1 rfl (lv_room (Nat.le_of_ble_eq_true rfl)) dX11_readsThing_19 (fun H locs hP hS => ?_)
    refine lv_aload_n hx hb dX11_readsThing_22 rfl (lv_at hl 0 rfl) ?_
    obtain ⟨q34, e35, h⟩ := bnd h
    refine call_i C hP hS (c_X11_isWell e35) mi_X11_isWell mw_1353 26 (by decide) rfl rfl ⟨Nat.le_of_ble_eq_true rfl, Nat.le_of_ble_eq_true rfl⟩ (As := []) rfl hl.1 rfl (lv_room (Nat.le_of_ble_eq_true rfl)) dX11_readsThing_23 (fun H locs hP hS => ?_)
    refine lv_if_eq (tgt := 134) hx hb dX11_readsThing_26 (by decide) (fun c36 => ?_) (fun c36 => ?_)
    · replace h := h_t c36 h
      exact ret_v C hr hlocks hP hS h dX11_readsThing_134
    · replace h := h_f c36 h
      refine lv_bipush (v := 14) hx hb dX11_readsThing_29 (by decide) ?_
      refine lv_iconst (v := 5) hx hb dX11_readsThing_31 (by decide) ?_
      refine lv_aload_n hx hb dX11_readsThing_32 rfl (lv_at hl 0 rfl) ?_
      refine gf_X11_26_26 C hP dX11_readsThing_33 ?_
      refine lv_bipush (v := 13) hx hb dX11_readsThing_36 (by decide) ?_
      refine r_aldc C hP 32 (by decide) rfl (j := 13) (by decide) (vp_in_iff.mpr (by decide)) dX11_readsThing_38 ?_
      refine lv_imul hx hb dX11_readsThing_39 ?_
      refine lv_iadd hx hb dX11_readsThing_40 ?_
      obtain ⟨y37, e38, h⟩ := bnd h
      refine r_nm e38 ?_
      refine lv_istore_n (lv' := [(1, .int y37), (0, .ref (g_ad G 26))]) hx hb dX11_readsThing_41 rfl hl (by decide) rfl (fun ls hl => ?_)
      refine lv_aload_n hx hb dX11_readsThing_42 rfl (lv_at hl 1 rfl) ?_
      refine gf_X11_26_26 C hP dX11_readsThing_43 ?_
      refine lv_iload_n hx hb dX11_readsThing_46 rfl (lv_at hl 0 rfl) ?_
      refine lv_aload_n hx hb dX11_readsThing_47 rfl (lv_at hl 1 rfl) ?_
      refine gf_X11_76_26 C hP dX11_readsThing_48 ?_
      obtain ⟨q39, e40, h⟩ := bnd h
      refine scall_i C hP hS (c_X11_sortOf e40) ms_X11_sortOf mw_1369 ⟨Nat.le_of_ble_eq_true rfl, Nat.le_of_ble_eq_true rfl⟩ (As := [.int (q34.2 26 11)]) rfl hl.1 rfl (lv_room (Nat.le_of_ble_eq_true rfl)) dX11_readsThing_51 (fun H locs hP hS => ?_)
      obtain ⟨g41, h⟩ := h_g h
      refine r_ast C hP hS 32 (by decide) (fun _ => rfl) (vp_in_iff.mpr g41) dX11_readsThing_54 (fun H locs hP hS => ?_)
      obtain ⟨σ42, e43, h⟩ := bnd h
      have hP := hPn e43 hP
      refine lv_aload_n hx hb dX11_readsThing_55 rfl (lv_at hl 1 rfl) ?_
      obtain ⟨q44, e45, h⟩ := bnd h
      refine call_v C hP hS (c_X11_take e45) mi_X11_take mw_1333 26 (by decide) rfl rfl ⟨Nat.le_of_ble_eq_true rfl, Nat.le_of_ble_eq_true rfl⟩ (As := []) rfl hl.1 rfl (lv_room (Nat.le_of_ble_eq_true rfl)) dX11_readsThing_56 (fun H locs hP hS => ?_)
      refine lv_aload_n hx hb dX11_readsThing_59 rfl (lv_at hl 1 rfl) ?_
      refine lv_iload_n hx hb dX11_readsThing_60 rfl (lv_at hl 0 rfl) ?_
      refine lv_iconst (v := 1) hx hb dX11_readsThing_61 (by decide) ?_
      refine lv_iadd hx hb dX11_readsThing_62 ?_
      refine lv_iconst (v := 0) hx hb dX11_readsThing_63 (by decide) ?_
      refine lv_bipush (v := 60) hx hb dX11_readsThing_64 (by decide) ?_
      obtain ⟨q46, e47, h⟩ := bnd h
      refine call_v C hP hS (c_X11_number e47) mi_X11_number mw_1361 26 (by decide) rfl rfl ⟨Nat.le_of_ble_eq_true rfl, Nat.le_of_ble_eq_true rfl⟩ (As := [.int (y37 + 1), .int 0, .int 60]) rfl hl.1 rfl (lv_room (Nat.le_of_ble_eq_true rfl)) dX11_readsThing_66 (fun H locs hP hS => ?_)
      refine lv_aload_n hx hb dX11_readsThing_69 rfl (lv_at hl 1 rfl) ?_
      refine lv_bipush (v := 44) hx hb dX11_readsThing_70 (by decide) ?_
      obtain ⟨q48, e49, h⟩ := bnd h
      refine call_v C hP hS (c_X11_reads e49) mi_X11_reads mw_1349 26 (by decide) rfl rfl ⟨Nat.le_of_ble_eq_true rfl, Nat.le_of_ble_eq_true rfl⟩ (As := [.int 44]) rfl hl.1 rfl (lv_room (Nat.le_of_ble_eq_true rfl)) dX11_readsThing_72 (fun H locs hP hS => ?_)
      refine lv_aload_n hx hb dX11_readsThing_75 rfl (lv_at hl 1 rfl) ?_
      refine lv_iload_n hx hb dX11_readsThing_76 rfl (lv_at hl 0 rfl) ?_
      refine lv_iconst (v := 2) hx hb dX11_readsThing_77 (by decide) ?_
      refine lv_iadd hx hb dX11_readsThing_78 ?_
      refine lv_iconst (v := 0) hx hb dX11_readsThing_79 (by decide) ?_
      refine lv_bipush (v := 60) hx hb dX11_readsThing_80 (by decide) ?_
      obtain ⟨q50, e51, h⟩ := bnd h
      refine call_v C hP hS (c_X11_number e51) mi_X11_number mw_1361 26 (by decide) rfl rfl ⟨Nat.le_of_ble_eq_true rfl, Nat.le_of_ble_eq_true rfl⟩ (As := [.int (y37 + 2), .int 0, .int 60]) rfl hl.1 rfl (lv_room (Nat.le_of_ble_eq_true rfl)) dX11_readsThing_82 (fun H locs hP hS => ?_)
      refine lv_aload_n hx hb dX11_readsThing_85 rfl (lv_at hl 1 rfl) ?_
      refine lv_bipush (v := 44) hx hb dX11_readsThing_86 (by decide) ?_
      obtain ⟨q52, e53, h⟩ := bnd h
      refine call_v C hP hS (c_X11_reads e53) mi_X11_reads mw_1349 26 (by decide) rfl rfl ⟨Nat.le_of_ble_eq_true rfl, Nat.le_of_ble_eq_true rfl⟩ (As := [.int 44]) rfl hl.1 rfl (lv_room (Nat.le_of_ble_eq_true rfl)) dX11_readsThing_88 (fun H locs hP hS => ?_)
      refine lv_aload_n hx hb dX11_readsThing_91 rfl (lv_at hl 1 rfl) ?_
      refine lv_iload_n hx hb dX11_readsThing_92 rfl (lv_at hl 0 rfl) ?_
      refine lv_iconst (v := 3) hx hb dX11_readsThing_93 (by decide) ?_
      refine lv_iadd hx hb dX11_readsThing_94 ?_
      refine lv_iconst (v := 0) hx hb dX11_readsThing_95 (by decide) ?_
      refine lv_bipush (v := 15) hx hb dX11_readsThing_96 (by decide) ?_
      obtain ⟨q54, e55, h⟩ := bnd h
      refine call_v C hP hS (c_X11_number e55) mi_X11_number mw_1361 26 (by decide) rfl rfl ⟨Nat.le_of_ble_eq_true rfl, Nat.le_of_ble_eq_true rfl⟩ (As := [.int (y37 + 3), .int 0, .int 15]) rfl hl.1 rfl (lv_room (Nat.le_of_ble_eq_true rfl)) dX11_readsThing_98 (fun H locs hP hS => ?_)
      refine lv_aload_n hx hb dX11_readsThing_101 rfl (lv_at hl 1 rfl) ?_
      refine lv_bipush (v := 44) hx hb dX11_readsThing_102 (by decide) ?_
      obtain ⟨q56, e57, h⟩ := bnd h
      refine call_v C hP hS (c_X11_reads e57) mi_X11_reads mw_1349 26 (by decide) rfl rfl ⟨Nat.le_of_ble_eq_true rfl, Nat.le_of_ble_eq_true rfl⟩ (As := [.int 44]) rfl hl.1 rfl (lv_room (Nat.le_of_ble_eq_true rfl)) dX11_readsThing_104 (fun H locs hP hS => ?_)
      refine lv_aload_n hx hb dX11_readsThing_107 rfl (lv_at hl 1 rfl) ?_
      refine lv_iload_n hx hb dX11_readsThing_108 rfl (lv_at hl 0 rfl) ?_
      refine lv_iconst (v := 4) hx hb dX11_readsThing_109 (by decide) ?_
      refine lv_iadd hx hb dX11_readsThing_110 ?_
      refine lv_iconst (v := 0) hx hb dX11_readsThing_111 (by decide) ?_
      refine lv_bipush (v := 20) hx hb dX11_readsThing_112 (by decide) ?_
      obtain ⟨q58, e59, h⟩ := bnd h
      refine call_v C hP hS (c_X11_number e59) mi_X11_number mw_1361 26 (by decide) rfl rfl ⟨Nat.le_of_ble_eq_true rfl, Nat.le_of_ble_eq_true rfl⟩ (As := [.int (y37 + 4), .int 0, .int 20]) rfl hl.1 rfl (lv_room (Nat.le_of_ble_eq_true rfl)) dX11_readsThing_114 (fun H locs hP hS => ?_)
      refine lv_aload_n hx hb dX11_readsThing_117 rfl (lv_at hl 1 rfl) ?_
      refine lv_bipush (v := 59) hx hb dX11_readsThing_118 (by decide) ?_
      obtain ⟨q60, e61, h⟩ := bnd h
      refine call_v C hP hS (c_X11_reads e61) mi_X11_reads mw_1349 26 (by decide) rfl rfl ⟨Nat.le_of_ble_eq_true rfl, Nat.le_of_ble_eq_true rfl⟩ (As := [.int 59]) rfl hl.1 rfl (lv_room (Nat.le_of_ble_eq_true rfl)) dX11_readsThing_120 (fun H locs hP hS => ?_)
      refine lv_aload_n hx hb dX11_readsThing_123 rfl (lv_at hl 1 rfl) ?_
      refine gf_X11_26_26 C hP dX11_readsThing_124 ?_
      refine lv_bipush (v := 13) hx hb dX11_readsThing_127 (by decide) ?_
      refine lv_dup2_11 hx hb dX11_readsThing_129 rfl rfl ?_
      refine r_aldc C hP 32 (by decide) rfl (j := 13) (by decide) (vp_in_iff.mpr (by decide)) dX11_readsThing_130 ?_
      refine lv_iconst (v := 1) hx hb dX11_readsThing_131 (by decide) ?_
      refine lv_iadd hx hb dX11_readsThing_132 ?_
      refine r_astc C hP hS 32 (by decide) (fun _ => rfl) (j := 13) (by decide) (vp_in_iff.mpr (by decide)) dX11_readsThing_133 (fun H locs hP hS => ?_)
      obtain ⟨σ62, e63, h⟩ := bnd h
      have hP := hPn e63 hP
      exact ret_v C hr hlocks hP hS h dX11_readsThing_134
  have hS : va_S (g_A G) s.heap s.heap [] := va_S.rf
  unfold f_X11_readsThing at h
  obtain ⟨H, hH⟩ : ∃ H, H = s.heap := ⟨_, rfl⟩
  obtain ⟨locs, hlo⟩ : ∃ k : List Loc, k = [] := ⟨_, rfl⟩
  rw [← hH, ← hlo]
  rw [← hH] at hP
  replace hS : va_S (g_A G) s.heap H locs := by rw [hH, hlo]; exact hS
  refine lv_aload_n hx hb dX11_readsThing_0 rfl (lv_at hl 0 rfl) ?_
  refine lv_aload_n hx hb dX11_readsThing_1 rfl (lv_at hl 0 rfl) ?_
  refine gf_X11_26_26 C hP dX11_readsThing_2 ?_
  refine lv_bipush (v := 13) hx hb dX11_readsThing_5 (by decide) ?_
  refine r_aldc C hP 32 (by decide) rfl (j := 13) (by decide) (vp_in_iff.mpr (by decide)) dX11_readsThing_7 ?_
  refine lv_bipush (v := 8) hx hb dX11_readsThing_8 (by decide) ?_
  refine lv_icmp_ge (tgt := 17) hx hb dX11_readsThing_10 (by decide) (fun c64 => ?_) (fun c64 => ?_)
  · replace h := h_t c64 h
    refine lv_iconst (v := 0) hx hb dX11_readsThing_17 (by decide) ?_
    exact J18 _ _ H locs ls h hP hS (lv_sub hl [0] rfl)
  · replace h := h_f c64 h
    refine lv_iconst (v := 1) hx hb dX11_readsThing_13 (by decide) ?_
    refine lv_goto (tgt := 18) hx hb dX11_readsThing_14 (by decide) ?_
    exact J18 _ _ H locs ls h hP hS (lv_sub hl [0] rfl)
set_option maxHeartbeats 4000000 in
set_option maxRecDepth 100000 in
theorem c_X11_untilOf {l : Launch} {G : GT} {lam : Lm} {σ : St} {a1 : Int32} {q : Int32 × St} (h : f_X11_untilOf σ a1 = some q) : Met l yX11_untilOf (Cond.code yX11_untilOf cX11_untilOf 1 ((some .int)) :: TB) ({ frames := 0, cells := 0, slots := 0, locals := 0 } : Room) (va_Pc [.int a1] (GW G lam σ)) (Ri q G lam) 0 0 (g_A G) := by
  refine mk_Qi (own := RX11) (by decide) (Nat.le_of_ble_eq_true rfl) rfl (fun p e s m args below meth c C hr hlocks hP ls hl => ?_)
  have hx := C.1
  have hb := C.2.1
  have hl : lv_has ls 1 [(0, .int a1)] := hl
  have hS : va_S (g_A G) s.heap s.heap [] := va_S.rf
  unfold f_X11_untilOf at h
  refine lv_iload_n hx hb dX11_untilOf_0 rfl (lv_at hl 0 rfl) ?_
  by_cases c14 : a1 = 97
  · replace h := h_t c14 h
    refine r_eq c14 ?_
    refine lv_tableIn (off := 69) (tgt := 70) hx hb dX11_untilOf_1 (by decide) (by decide) (by decide) (by decide) ?_
    refine lv_iconst (v := 1) hx hb dX11_untilOf_70 (by decide) ?_
    exact ret_i C hr hlocks hP hS h dX11_untilOf_71
  replace h := h_f c14 h
  by_cases c15 : a1 = 98
  · replace h := h_t c15 h
    refine r_eq c15 ?_
    refine lv_tableIn (off := 77) (tgt := 78) hx hb dX11_untilOf_1 (by decide) (by decide) (by decide) (by decide) ?_
    refine lv_ldc hx hb C.2.2.2.1 (C.2.2.2.2.1 _ mw_1337) dX11_untilOf_78 ?_
    exact ret_i C hr hlocks hP hS h dX11_untilOf_80
  replace h := h_f c15 h
  by_cases c16 : a1 = 99
  · replace h := h_t c16 h
    refine r_eq c16 ?_
    refine lv_tableIn (off := 77) (tgt := 78) hx hb dX11_untilOf_1 (by decide) (by decide) (by decide) (by decide) ?_
    refine lv_ldc hx hb C.2.2.2.1 (C.2.2.2.2.1 _ mw_1337) dX11_untilOf_78 ?_
    exact ret_i C hr hlocks hP hS h dX11_untilOf_80
  replace h := h_f c16 h
  by_cases c17 : a1 = 100
  · replace h := h_t c17 h
    refine r_eq c17 ?_
    refine lv_tableIn (off := 75) (tgt := 76) hx hb dX11_untilOf_1 (by decide) (by decide) (by decide) (by decide) ?_
    refine lv_iconst (v := 4) hx hb dX11_untilOf_76 (by decide) ?_
    exact ret_i C hr hlocks hP hS h dX11_untilOf_77
  replace h := h_f c17 h
  by_cases c18 : a1 = 101
  · replace h := h_t c18 h
    refine r_eq c18 ?_
    refine lv_tableIn (off := 73) (tgt := 74) hx hb dX11_untilOf_1 (by decide) (by decide) (by decide) (by decide) ?_
    refine lv_iconst (v := 3) hx hb dX11_untilOf_74 (by decide) ?_
    exact ret_i C hr hlocks hP hS h dX11_untilOf_75
  replace h := h_f c18 h
  by_cases c19 : a1 = 102
  · replace h := h_t c19 h
    refine r_eq c19 ?_
    refine lv_tableIn (off := 77) (tgt := 78) hx hb dX11_untilOf_1 (by decide) (by decide) (by decide) (by decide) ?_
    refine lv_ldc hx hb C.2.2.2.1 (C.2.2.2.2.1 _ mw_1337) dX11_untilOf_78 ?_
    exact ret_i C hr hlocks hP hS h dX11_untilOf_80
  replace h := h_f c19 h
  by_cases c20 : a1 = 103
  · replace h := h_t c20 h
    refine r_eq c20 ?_
    refine lv_tableIn (off := 77) (tgt := 78) hx hb dX11_untilOf_1 (by decide) (by decide) (by decide) (by decide) ?_
    refine lv_ldc hx hb C.2.2.2.1 (C.2.2.2.2.1 _ mw_1337) dX11_untilOf_78 ?_
    exact ret_i C hr hlocks hP hS h dX11_untilOf_80
  replace h := h_f c20 h
  by_cases c21 : a1 = 104
  · replace h := h_t c21 h
    refine r_eq c21 ?_
    refine lv_tableIn (off := 77) (tgt := 78) hx hb dX11_untilOf_1 (by decide) (by decide) (by decide) (by decide) ?_
    refine lv_ldc hx hb C.2.2.2.1 (C.2.2.2.2.1 _ mw_1337) dX11_untilOf_78 ?_
    exact ret_i C hr hlocks hP hS h dX11_untilOf_80
  replace h := h_f c21 h
  by_cases c22 : a1 = 105
  · replace h := h_t c22 h
    refine r_eq c22 ?_
    refine lv_tableIn (off := 71) (tgt := 72) hx hb dX11_untilOf_1 (by decide) (by decide) (by decide) (by decide) ?_
    refine lv_iconst (v := 2) hx hb dX11_untilOf_72 (by decide) ?_
    exact ret_i C hr hlocks hP hS h dX11_untilOf_73
  replace h := h_f c22 h
  by_cases c23 : a1 = 106
  · replace h := h_t c23 h
    refine r_eq c23 ?_
    refine lv_tableIn (off := 77) (tgt := 78) hx hb dX11_untilOf_1 (by decide) (by decide) (by decide) (by decide) ?_
    refine lv_ldc hx hb C.2.2.2.1 (C.2.2.2.2.1 _ mw_1337) dX11_untilOf_78 ?_
    exact ret_i C hr hlocks hP hS h dX11_untilOf_80
  replace h := h_f c23 h
  by_cases c24 : a1 = 107
  · replace h := h_t c24 h
    refine r_eq c24 ?_
    refine lv_tableIn (off := 77) (tgt := 78) hx hb dX11_untilOf_1 (by decide) (by decide) (by decide) (by decide) ?_
    refine lv_ldc hx hb C.2.2.2.1 (C.2.2.2.2.1 _ mw_1337) dX11_untilOf_78 ?_
    exact ret_i C hr hlocks hP hS h dX11_untilOf_80
  replace h := h_f c24 h
  by_cases c25 : a1 = 108
  · replace h := h_t c25 h
    refine r_eq c25 ?_
    refine lv_tableIn (off := 77) (tgt := 78) hx hb dX11_untilOf_1 (by decide) (by decide) (by decide) (by decide) ?_
    refine lv_ldc hx hb C.2.2.2.1 (C.2.2.2.2.1 _ mw_1337) dX11_untilOf_78 ?_
    exact ret_i C hr hlocks hP hS h dX11_untilOf_80
  replace h := h_f c25 h
  by_cases c26 : a1 = 109
  · replace h := h_t c26 h
    refine r_eq c26 ?_
    refine lv_tableIn (off := 67) (tgt := 68) hx hb dX11_untilOf_1 (by decide) (by decide) (by decide) (by decide) ?_
    refine lv_iconst (v := 0) hx hb dX11_untilOf_68 (by decide) ?_
    exact ret_i C hr hlocks hP hS h dX11_untilOf_69
  replace h := h_f c26 h
  refine lv_tableOut (tgt := 78) hx hb dX11_untilOf_1 (by have hz := And.intro (ne_i (z := 97) (by decide) c14) (And.intro (ne_i (z := 98) (by decide) c15) (And.intro (ne_i (z := 99) (by decide) c16) (And.intro (ne_i (z := 100) (by decide) c17) (And.intro (ne_i (z := 101) (by decide) c18) (And.intro (ne_i (z := 102) (by decide) c19) (And.intro (ne_i (z := 103) (by decide) c20) (And.intro (ne_i (z := 104) (by decide) c21) (And.intro (ne_i (z := 105) (by decide) c22) (And.intro (ne_i (z := 106) (by decide) c23) (And.intro (ne_i (z := 107) (by decide) c24) (And.intro (ne_i (z := 108) (by decide) c25) (ne_i (z := 109) (by decide) c26)))))))))))); omega) (by decide) ?_
  refine lv_ldc hx hb C.2.2.2.1 (C.2.2.2.2.1 _ mw_1337) dX11_untilOf_78 ?_
  exact ret_i C hr hlocks hP hS h dX11_untilOf_80
set_option maxHeartbeats 4000000 in
set_option maxRecDepth 100000 in
theorem c_X11_readsUntil {l : Launch} {G : GT} {lam : Lm} {σ : St} {a1 : Int32} {q : St} (h : f_X11_readsUntil σ a1 = some q) : Met l yX11_readsUntil (Cond.code yX11_readsUntil cX11_readsUntil 3 none :: TB) ({ frames := 4, cells := 0, slots := 0, locals := 90 } : Room) (va_Pc [.ref (g_ad G 26), .int a1] (GW G lam σ)) (Rv q G lam) 0 0 (g_A G) := by
  refine mk_Qv (own := RX11) (by decide) (Nat.le_of_ble_eq_true rfl) rfl (fun p e s m args below meth c C hr hlocks hP ls hl => ?_)
  have hx := C.1
  have hb := C.2.1
  have hl : lv_has ls 3 [(0, .ref (g_ad G 26)), (1, .int a1)] := hl
  have J96 : ∀ (σ : St) (x1 : Int32) (x2 : Int32) (t0 : Int32) (t1 : Int32) (t2 : Int32) (H : Heap) (locs : List Loc) (ls : Array Slot), f_X11_readsUntil_p96 σ x1 x2 t0 t1 t2 = some q → va_P (g_D G) vwCl (allW G lam σ) H → va_S (g_A G) s.heap H locs → lv_has ls 3 [(0, .ref (g_ad G 26)), (1, .int x1), (2, .int x2)] → W p l e ({ frames := 4, cells := 0, slots := 0, locals := 90 } : Room) s m args below meth c H locs 0 0 (Qv q below args s G lam) (F0 m 96 ls [.int t0, .int t1, .int t2, .ref (g_ad G 26)]) := by
    intro σ x1 x2 t0 t1 t2 H locs ls h hP hS hl
    unfold f_X11_readsUntil_p96 at h
    obtain ⟨q32, e33, h⟩ := bnd h
    refine call_v C hP hS (c_X11_number e33) mi_X11_number mw_1361 26 (by decide) rfl rfl ⟨Nat.le_of_ble_eq_true rfl, Nat.le_of_ble_eq_true rfl⟩ (As := [.int t2, .int t1, .int t0]) rfl hl.1 rfl (lv_room (Nat.le_of_ble_eq_true rfl)) dX11_readsUntil_96 (fun H locs hP hS => ?_)
    refine lv_iload_n hx hb dX11_readsUntil_99 rfl (lv_at hl 2 rfl) ?_
    refine lv_iconst (v := 2) hx hb dX11_readsUntil_100 (by decide) ?_
    refine lv_icmp_ne (tgt := 120) hx hb dX11_readsUntil_101 (by decide) (fun c34 => ?_) (fun c34 => ?_)
    · replace h := h_f c34 h
      exact ret_v C hr hlocks hP hS h dX11_readsUntil_120
    · replace h := h_t c34 h
      refine lv_aload_n hx hb dX11_readsUntil_104 rfl (lv_at hl 0 rfl) ?_
      refine lv_bipush (v := 44) hx hb dX11_readsUntil_105 (by decide) ?_
      obtain ⟨q35, e36, h⟩ := bnd h
      refine call_v C hP hS (c_X11_reads e36) mi_X11_reads mw_1349 26 (by decide) rfl rfl ⟨Nat.le_of_ble_eq_true rfl, Nat.le_of_ble_eq_true rfl⟩ (As := [.int 44]) rfl hl.1 rfl (lv_room (Nat.le_of_ble_eq_true rfl)) dX11_readsUntil_107 (fun H locs hP hS => ?_)
      refine lv_aload_n hx hb dX11_readsUntil_110 rfl (lv_at hl 0 rfl) ?_
      refine lv_iload_n hx hb dX11_readsUntil_111 rfl (lv_at hl 1 rfl) ?_
      refine lv_iconst (v := 3) hx hb dX11_readsUntil_112 (by decide) ?_
      refine lv_iadd hx hb dX11_readsUntil_113 ?_
      refine lv_iconst (v := 0) hx hb dX11_readsUntil_114 (by decide) ?_
      refine lv_bipush (v := 7) hx hb dX11_readsUntil_115 (by decide) ?_
      obtain ⟨q37, e38, h⟩ := bnd h
      refine call_v C hP hS (c_X11_number e38) mi_X11_number mw_1361 26 (by decide) rfl rfl ⟨Nat.le_of_ble_eq_true rfl, Nat.le_of_ble_eq_true rfl⟩ (As := [.int (x1 + 3), .int 0, .int 7]) rfl hl.1 rfl (lv_room (Nat.le_of_ble_eq_true rfl)) dX11_readsUntil_117 (fun H locs hP hS => ?_)
      exact ret_v C hr hlocks hP hS h dX11_readsUntil_120
  have J89 : ∀ (σ : St) (x1 : Int32) (x2 : Int32) (t0 : Int32) (t1 : Int32) (H : Heap) (locs : List Loc) (ls : Array Slot), f_X11_readsUntil_p89 σ x1 x2 t0 t1 = some q → va_P (g_D G) vwCl (allW G lam σ) H → va_S (g_A G) s.heap H locs → lv_has ls 3 [(0, .ref (g_ad G 26)), (1, .int x1), (2, .int x2)] → W p l e ({ frames := 4, cells := 0, slots := 0, locals := 90 } : Room) s m args below meth c H locs 0 0 (Qv q below args s G lam) (F0 m 89 ls [.int t0, .int t1, .ref (g_ad G 26)]) := by
    intro σ x1 x2 t0 t1 H locs ls h hP hS hl
    unfold f_X11_readsUntil_p89 at h
    refine lv_bipush (v := 60) hx hb dX11_readsUntil_89 (by decide) ?_
    refine lv_goto (tgt := 96) hx hb dX11_readsUntil_91 (by decide) ?_
    exact J96 _ _ _ _ _ _ H locs ls h hP hS (lv_sub hl [0, 1, 2] rfl)
  have J80 : ∀ (σ : St) (x1 : Int32) (x2 : Int32) (t0 : Int32) (t1 : Int32) (H : Heap) (locs : List Loc) (ls : Array Slot), f_X11_readsUntil_p80 σ x1 x2 t0 t1 = some q → va_P (g_D G) vwCl (allW G lam σ) H → va_S (g_A G) s.heap H locs → lv_has ls 3 [(0, .ref (g_ad G 26)), (1, .int x1), (2, .int x2)] → W p l e ({ frames := 4, cells := 0, slots := 0, locals := 90 } : Room) s m args below meth c H locs 0 0 (Qv q below args s G lam) (F0 m 80 ls [.int t0, .int t1, .ref (g_ad G 26)]) := by
    intro σ x1 x2 t0 t1 H locs ls h hP hS hl
    unfold f_X11_readsUntil_p80 at h
    refine lv_iload_n hx hb dX11_readsUntil_80 rfl (lv_at hl 2 rfl) ?_
    refine lv_if_eq (tgt := 89) hx hb dX11_readsUntil_81 (by decide) (fun c39 => ?_) (fun c39 => ?_)
    · replace h := h_t c39 h
      exact J89 _ _ _ _ _ H locs ls h hP hS (lv_sub hl [0, 1, 2] rfl)
    · replace h := h_f c39 h
      refine lv_iload_n hx hb dX11_readsUntil_84 rfl (lv_at hl 2 rfl) ?_
      refine lv_iconst (v := 4) hx hb dX11_readsUntil_85 (by decide) ?_
      refine lv_icmp_ne (tgt := 94) hx hb dX11_readsUntil_86 (by decide) (fun c40 => ?_) (fun c40 => ?_)
      · replace h := h_f c40 h
        refine lv_bipush (v := 7) hx hb dX11_readsUntil_94 (by decide) ?_
        exact J96 _ _ _ _ _ _ H locs ls h hP hS (lv_sub hl [0, 1, 2] rfl)
      · replace h := h_t c40 h
        exact J89 _ _ _ _ _ H locs ls h hP hS (lv_sub hl [0, 1, 2] rfl)
  have J29 : ∀ (σ : St) (x1 : Int32) (H : Heap) (locs : List Loc) (ls : Array Slot), f_X11_readsUntil_p29 σ x1 = some q → va_P (g_D G) vwCl (allW G lam σ) H → va_S (g_A G) s.heap H locs → lv_has ls 3 [(0, .ref (g_ad G 26)), (1, .int x1)] → W p l e ({ frames := 4, cells := 0, slots := 0, locals := 90 } : Room) s m args below meth c H locs 0 0 (Qv q below args s G lam) (F0 m 29 ls []) := by
    intro σ x1 H locs ls h hP hS hl
    unfold f_X11_readsUntil_p29 at h
    refine lv_aload_n hx hb dX11_readsUntil_29 rfl (lv_at hl 0 rfl) ?_
    obtain ⟨q41, e42, h⟩ := bnd h
    refine call_i C hP hS (c_X11_isWell e42) mi_X11_isWell mw_1353 26 (by decide) rfl rfl ⟨Nat.le_of_ble_eq_true rfl, Nat.le_of_ble_eq_true rfl⟩ (As := []) rfl hl.1 rfl (lv_room (Nat.le_of_ble_eq_true rfl)) dX11_readsUntil_30 (fun H locs hP hS => ?_)
    refine lv_if_eq (tgt := 120) hx hb dX11_readsUntil_33 (by decide) (fun c43 => ?_) (fun c43 => ?_)
    · replace h := h_t c43 h
      exact ret_v C hr hlocks hP hS h dX11_readsUntil_120
    · replace h := h_f c43 h
      refine lv_aload_n hx hb dX11_readsUntil_36 rfl (lv_at hl 0 rfl) ?_
      refine gf_X11_76_26 C hP dX11_readsUntil_37 ?_
      obtain ⟨q44, e45, h⟩ := bnd h
      refine scall_i C hP hS (c_X11_untilOf e45) ms_X11_untilOf mw_1384 ⟨Nat.le_of_ble_eq_true rfl, Nat.le_of_ble_eq_true rfl⟩ (As := [.int (q41.2 26 11)]) rfl hl.1 rfl (lv_room (Nat.le_of_ble_eq_true rfl)) dX11_readsUntil_40 (fun H locs hP hS => ?_)
      refine lv_istore_n (lv' := [(2, .int q44.1), (0, .ref (g_ad G 26)), (1, .int x1)]) hx hb dX11_readsUntil_43 rfl hl (by decide) rfl (fun ls hl => ?_)
      refine lv_aload_n hx hb dX11_readsUntil_44 rfl (lv_at hl 1 rfl) ?_
      refine gf_X11_26_26 C hP dX11_readsUntil_45 ?_
      refine lv_iload_n hx hb dX11_readsUntil_48 rfl (lv_at hl 2 rfl) ?_
      refine lv_iconst (v := 1) hx hb dX11_readsUntil_49 (by decide) ?_
      refine lv_iadd hx hb dX11_readsUntil_50 ?_
      refine lv_iload_n hx hb dX11_readsUntil_51 rfl (lv_at hl 0 rfl) ?_
      obtain ⟨g46, h⟩ := h_g h
      refine r_ast C hP hS 32 (by decide) (fun _ => rfl) (vp_in_iff.mpr g46) dX11_readsUntil_52 (fun H locs hP hS => ?_)
      obtain ⟨σ47, e48, h⟩ := bnd h
      have hP := hPn e48 hP
      refine lv_aload_n hx hb dX11_readsUntil_53 rfl (lv_at hl 1 rfl) ?_
      refine gf_X11_26_26 C hP dX11_readsUntil_54 ?_
      refine lv_iload_n hx hb dX11_readsUntil_57 rfl (lv_at hl 2 rfl) ?_
      refine lv_iconst (v := 3) hx hb dX11_readsUntil_58 (by decide) ?_
      refine lv_iadd hx hb dX11_readsUntil_59 ?_
      refine lv_ldc hx hb C.2.2.2.1 (C.2.2.2.2.1 _ mw_1337) dX11_readsUntil_60 ?_
      obtain ⟨g49, h⟩ := h_g h
      refine r_ast C hP hS 32 (by decide) (fun _ => rfl) (vp_in_iff.mpr g49) dX11_readsUntil_62 (fun H locs hP hS => ?_)
      obtain ⟨σ50, e51, h⟩ := bnd h
      have hP := hPn e51 hP
      refine lv_aload_n hx hb dX11_readsUntil_63 rfl (lv_at hl 1 rfl) ?_
      obtain ⟨q52, e53, h⟩ := bnd h
      refine call_v C hP hS (c_X11_take e53) mi_X11_take mw_1333 26 (by decide) rfl rfl ⟨Nat.le_of_ble_eq_true rfl, Nat.le_of_ble_eq_true rfl⟩ (As := []) rfl hl.1 rfl (lv_room (Nat.le_of_ble_eq_true rfl)) dX11_readsUntil_64 (fun H locs hP hS => ?_)
      refine lv_aload_n hx hb dX11_readsUntil_67 rfl (lv_at hl 1 rfl) ?_
      refine lv_iload_n hx hb dX11_readsUntil_68 rfl (lv_at hl 2 rfl) ?_
      refine lv_iconst (v := 2) hx hb dX11_readsUntil_69 (by decide) ?_
      refine lv_iadd hx hb dX11_readsUntil_70 ?_
      refine lv_iload_n hx hb dX11_readsUntil_71 rfl (lv_at hl 0 rfl) ?_
      refine lv_if_ne (tgt := 79) hx hb dX11_readsUntil_72 (by decide) (fun c54 => ?_) (fun c54 => ?_)
      · replace h := h_f c54 h
        refine lv_iconst (v := 0) hx hb dX11_readsUntil_79 (by decide) ?_
        exact J80 _ _ _ _ _ H locs ls h hP hS (lv_sub hl [1, 2, 0] rfl)
      · replace h := h_t c54 h
        refine lv_iconst (v := 1) hx hb dX11_readsUntil_75 (by decide) ?_
        refine lv_goto (tgt := 80) hx hb dX11_readsUntil_76 (by decide) ?_
        exact J80 _ _ _ _ _ H locs ls h hP hS (lv_sub hl [1, 2, 0] rfl)
  have J25 : ∀ (σ : St) (x1 : Int32) (t0 : Int32) (H : Heap) (locs : List Loc) (ls : Array Slot), f_X11_readsUntil_p25 σ x1 t0 = some q → va_P (g_D G) vwCl (allW G lam σ) H → va_S (g_A G) s.heap H locs → lv_has ls 3 [(0, .ref (g_ad G 26)), (1, .int x1)] → W p l e ({ frames := 4, cells := 0, slots := 0, locals := 90 } : Room) s m args below meth c H locs 0 0 (Qv q below args s G lam) (F0 m 25 ls [.int t0, .ref (g_ad G 26)]) := by
    intro σ x1 t0 H locs ls h hP hS hl
    unfold f_X11_readsUntil_p25 at h
    refine lv_iconst (v := 1) hx hb dX11_readsUntil_25 (by decide) ?_
    obtain ⟨q55, e56, h⟩ := bnd h
    refine call_v C hP hS (c_X11_wants e56) mi_X11_wants mw_1357 26 (by decide) rfl rfl ⟨Nat.le_of_ble_eq_true rfl, Nat.le_of_ble_eq_true rfl⟩ (As := [.int t0, .int 1]) rfl hl.1 rfl (lv_room (Nat.le_of_ble_eq_true rfl)) dX11_readsUntil_26 (fun H locs hP hS => ?_)
    exact J29 _ _ H locs ls h hP hS (lv_sub hl [0, 1] rfl)
  have hS : va_S (g_A G) s.heap s.heap [] := va_S.rf
  unfold f_X11_readsUntil at h
  obtain ⟨H, hH⟩ : ∃ H, H = s.heap := ⟨_, rfl⟩
  obtain ⟨locs, hlo⟩ : ∃ k : List Loc, k = [] := ⟨_, rfl⟩
  rw [← hH, ← hlo]
  rw [← hH] at hP
  replace hS : va_S (g_A G) s.heap H locs := by rw [hH, hlo]; exact hS
  refine lv_aload_n hx hb dX11_readsUntil_0 rfl (lv_at hl 0 rfl) ?_
  obtain ⟨q57, e58, h⟩ := bnd h
  refine call_i C hP hS (c_X11_isWell e58) mi_X11_isWell mw_1353 26 (by decide) rfl rfl ⟨Nat.le_of_ble_eq_true rfl, Nat.le_of_ble_eq_true rfl⟩ (As := []) rfl hl.1 rfl (lv_room (Nat.le_of_ble_eq_true rfl)) dX11_readsUntil_1 (fun H locs hP hS => ?_)
  refine lv_if_eq (tgt := 29) hx hb dX11_readsUntil_4 (by decide) (fun c59 => ?_) (fun c59 => ?_)
  · replace h := h_t c59 h
    exact J29 _ _ H locs ls h hP hS (lv_sub hl [0, 1] rfl)
  · replace h := h_f c59 h
    refine lv_aload_n hx hb dX11_readsUntil_7 rfl (lv_at hl 0 rfl) ?_
    refine lv_aload_n hx hb dX11_readsUntil_8 rfl (lv_at hl 0 rfl) ?_
    refine gf_X11_76_26 C hP dX11_readsUntil_9 ?_
    obtain ⟨q60, e61, h⟩ := bnd h
    refine scall_i C hP hS (c_X11_untilOf e61) ms_X11_untilOf mw_1384 ⟨Nat.le_of_ble_eq_true rfl, Nat.le_of_ble_eq_true rfl⟩ (As := [.int (q57.2 26 11)]) rfl hl.1 rfl (lv_room (Nat.le_of_ble_eq_true rfl)) dX11_readsUntil_12 (fun H locs hP hS => ?_)
    refine lv_ldc hx hb C.2.2.2.1 (C.2.2.2.2.1 _ mw_1337) dX11_readsUntil_15 ?_
    refine lv_icmp_eq (tgt := 24) hx hb dX11_readsUntil_17 (by decide) (fun c62 => ?_) (fun c62 => ?_)
    · replace h := h_t c62 h
      refine lv_iconst (v := 0) hx hb dX11_readsUntil_24 (by decide) ?_
      exact J25 _ _ _ H locs ls h hP hS (lv_sub hl [0, 1] rfl)
    · replace h := h_f c62 h
      refine lv_iconst (v := 1) hx hb dX11_readsUntil_20 (by decide) ?_
      refine lv_goto (tgt := 25) hx hb dX11_readsUntil_21 (by decide) ?_
      exact J25 _ _ _ H locs ls h hP hS (lv_sub hl [0, 1] rfl)
set_option maxHeartbeats 4000000 in
set_option maxRecDepth 100000 in
theorem c_X11_readsLeg {l : Launch} {G : GT} {lam : Lm} {σ : St} {q : St} (h : f_X11_readsLeg σ = some q) : Met l yX11_readsLeg (Cond.code yX11_readsLeg cX11_readsLeg 2 none :: TB) ({ frames := 5, cells := 0, slots := 0, locals := 112 } : Room) (va_Pc [.ref (g_ad G 26)] (GW G lam σ)) (Rv q G lam) 0 0 (g_A G) := by
  refine mk_Qv (own := RX11) (by decide) (Nat.le_of_ble_eq_true rfl) rfl (fun p e s m args below meth c C hr hlocks hP ls hl => ?_)
  have hx := C.1
  have hb := C.2.1
  have hl : lv_has ls 2 [(0, .ref (g_ad G 26))] := hl
  have J48 : ∀ (σ : St) (H : Heap) (locs : List Loc) (ls : Array Slot), f_X11_readsLeg_p48 σ = some q → va_P (g_D G) vwCl (allW G lam σ) H → va_S (g_A G) s.heap H locs → lv_has ls 2 [(0, .ref (g_ad G 26))] → W p l e ({ frames := 5, cells := 0, slots := 0, locals := 112 } : Room) s m args below meth c H locs 0 0 (Qv q below args s G lam) (F0 m 48 ls []) := by
    intro σ H locs ls h hP hS hl
    unfold f_X11_readsLeg_p48 at h
    refine lv_aload_n hx hb dX11_readsLeg_48 rfl (lv_at hl 0 rfl) ?_
    obtain ⟨q23, e24, h⟩ := bnd h
    refine call_i C hP hS (c_X11_isWell e24) mi_X11_isWell mw_1353 26 (by decide) rfl rfl ⟨Nat.le_of_ble_eq_true rfl, Nat.le_of_ble_eq_true rfl⟩ (As := []) rfl hl.1 rfl (lv_room (Nat.le_of_ble_eq_true rfl)) dX11_readsLeg_49 (fun H locs hP hS => ?_)
    refine lv_if_eq (tgt := 102) hx hb dX11_readsLeg_52 (by decide) (fun c25 => ?_) (fun c25 => ?_)
    · replace h := h_t c25 h
      exact ret_v C hr hlocks hP hS h dX11_readsLeg_102
    · replace h := h_f c25 h
      refine lv_bipush (v := 55) hx hb dX11_readsLeg_55 (by decide) ?_
      refine lv_iconst (v := 4) hx hb dX11_readsLeg_57 (by decide) ?_
      refine lv_aload_n hx hb dX11_readsLeg_58 rfl (lv_at hl 0 rfl) ?_
      refine gf_X11_26_26 C hP dX11_readsLeg_59 ?_
      refine lv_bipush (v := 54) hx hb dX11_readsLeg_62 (by decide) ?_
      refine r_aldc C hP 32 (by decide) rfl (j := 54) (by decide) (vp_in_iff.mpr (by decide)) dX11_readsLeg_64 ?_
      refine lv_imul hx hb dX11_readsLeg_65 ?_
      refine lv_iadd hx hb dX11_readsLeg_66 ?_
      obtain ⟨y26, e27, h⟩ := bnd h
      refine r_nm e27 ?_
      refine lv_istore_n (lv' := [(1, .int y26), (0, .ref (g_ad G 26))]) hx hb dX11_readsLeg_67 rfl hl (by decide) rfl (fun ls hl => ?_)
      refine lv_aload_n hx hb dX11_readsLeg_68 rfl (lv_at hl 1 rfl) ?_
      obtain ⟨q28, e29, h⟩ := bnd h
      refine call_v C hP hS (c_X11_take e29) mi_X11_take mw_1333 26 (by decide) rfl rfl ⟨Nat.le_of_ble_eq_true rfl, Nat.le_of_ble_eq_true rfl⟩ (As := []) rfl hl.1 rfl (lv_room (Nat.le_of_ble_eq_true rfl)) dX11_readsLeg_69 (fun H locs hP hS => ?_)
      refine lv_aload_n hx hb dX11_readsLeg_72 rfl (lv_at hl 1 rfl) ?_
      refine lv_iload_n hx hb dX11_readsLeg_73 rfl (lv_at hl 0 rfl) ?_
      refine lv_iconst (v := 0) hx hb dX11_readsLeg_74 (by decide) ?_
      refine lv_bipush (v := 15) hx hb dX11_readsLeg_75 (by decide) ?_
      obtain ⟨q30, e31, h⟩ := bnd h
      refine call_v C hP hS (c_X11_number e31) mi_X11_number mw_1361 26 (by decide) rfl rfl ⟨Nat.le_of_ble_eq_true rfl, Nat.le_of_ble_eq_true rfl⟩ (As := [.int y26, .int 0, .int 15]) rfl hl.1 rfl (lv_room (Nat.le_of_ble_eq_true rfl)) dX11_readsLeg_77 (fun H locs hP hS => ?_)
      refine lv_aload_n hx hb dX11_readsLeg_80 rfl (lv_at hl 1 rfl) ?_
      refine lv_iload_n hx hb dX11_readsLeg_81 rfl (lv_at hl 0 rfl) ?_
      obtain ⟨q32, e33, h⟩ := bnd h
      refine call_v C hP hS (c_X11_readsUntil e33) mi_X11_readsUntil mw_1380 26 (by decide) rfl rfl ⟨Nat.le_of_ble_eq_true rfl, Nat.le_of_ble_eq_true rfl⟩ (As := [.int y26]) rfl hl.1 rfl (lv_room (Nat.le_of_ble_eq_true rfl)) dX11_readsLeg_82 (fun H locs hP hS => ?_)
      refine lv_aload_n hx hb dX11_readsLeg_85 rfl (lv_at hl 1 rfl) ?_
      refine lv_bipush (v := 59) hx hb dX11_readsLeg_86 (by decide) ?_
      obtain ⟨q34, e35, h⟩ := bnd h
      refine call_v C hP hS (c_X11_reads e35) mi_X11_reads mw_1349 26 (by decide) rfl rfl ⟨Nat.le_of_ble_eq_true rfl, Nat.le_of_ble_eq_true rfl⟩ (As := [.int 59]) rfl hl.1 rfl (lv_room (Nat.le_of_ble_eq_true rfl)) dX11_readsLeg_88 (fun H locs hP hS => ?_)
      refine lv_aload_n hx hb dX11_readsLeg_91 rfl (lv_at hl 1 rfl) ?_
      refine gf_X11_26_26 C hP dX11_readsLeg_92 ?_
      refine lv_bipush (v := 54) hx hb dX11_readsLeg_95 (by decide) ?_
      refine lv_dup2_11 hx hb dX11_readsLeg_97 rfl rfl ?_
      refine r_aldc C hP 32 (by decide) rfl (j := 54) (by decide) (vp_in_iff.mpr (by decide)) dX11_readsLeg_98 ?_
      refine lv_iconst (v := 1) hx hb dX11_readsLeg_99 (by decide) ?_
      refine lv_iadd hx hb dX11_readsLeg_100 ?_
      refine r_astc C hP hS 32 (by decide) (fun _ => rfl) (j := 54) (by decide) (vp_in_iff.mpr (by decide)) dX11_readsLeg_101 (fun H locs hP hS => ?_)
      obtain ⟨σ36, e37, h⟩ := bnd h
      have hP := hPn e37 hP
      exact ret_v C hr hlocks hP hS h dX11_readsLeg_102
  have J44 : ∀ (σ : St) (t0 : Int32) (H : Heap) (locs : List Loc) (ls : Array Slot), f_X11_readsLeg_p44 σ t0 = some q → va_P (g_D G) vwCl (allW G lam σ) H → va_S (g_A G) s.heap H locs → lv_has ls 2 [(0, .ref (g_ad G 26))] → W p l e ({ frames := 5, cells := 0, slots := 0, locals := 112 } : Room) s m args below meth c H locs 0 0 (Qv q below args s G lam) (F0 m 44 ls [.int t0, .ref (g_ad G 26)]) := by
    intro σ t0 H locs ls h hP hS hl
    unfold f_X11_readsLeg_p44 at h
    refine lv_iconst (v := 3) hx hb dX11_readsLeg_44 (by decide) ?_
    obtain ⟨q38, e39, h⟩ := bnd h
    refine call_v C hP hS (c_X11_wants e39) mi_X11_wants mw_1357 26 (by decide) rfl rfl ⟨Nat.le_of_ble_eq_true rfl, Nat.le_of_ble_eq_true rfl⟩ (As := [.int t0, .int 3]) rfl hl.1 rfl (lv_room (Nat.le_of_ble_eq_true rfl)) dX11_readsLeg_45 (fun H locs hP hS => ?_)
    exact J48 _ H locs ls h hP hS (lv_sub hl [0] rfl)
  have J22 : ∀ (σ : St) (t0 : Int32) (H : Heap) (locs : List Loc) (ls : Array Slot), f_X11_readsLeg_p22 σ t0 = some q → va_P (g_D G) vwCl (allW G lam σ) H → va_S (g_A G) s.heap H locs → lv_has ls 2 [(0, .ref (g_ad G 26))] → W p l e ({ frames := 5, cells := 0, slots := 0, locals := 112 } : Room) s m args below meth c H locs 0 0 (Qv q below args s G lam) (F0 m 22 ls [.int t0, .ref (g_ad G 26)]) := by
    intro σ t0 H locs ls h hP hS hl
    unfold f_X11_readsLeg_p22 at h
    refine lv_iconst (v := 1) hx hb dX11_readsLeg_22 (by decide) ?_
    obtain ⟨q40, e41, h⟩ := bnd h
    refine call_v C hP hS (c_X11_wants e41) mi_X11_wants mw_1357 26 (by decide) rfl rfl ⟨Nat.le_of_ble_eq_true rfl, Nat.le_of_ble_eq_true rfl⟩ (As := [.int t0, .int 1]) rfl hl.1 rfl (lv_room (Nat.le_of_ble_eq_true rfl)) dX11_readsLeg_23 (fun H locs hP hS => ?_)
    refine lv_aload_n hx hb dX11_readsLeg_26 rfl (lv_at hl 0 rfl) ?_
    refine lv_aload_n hx hb dX11_readsLeg_27 rfl (lv_at hl 0 rfl) ?_
    refine gf_X11_26_26 C hP dX11_readsLeg_28 ?_
    refine lv_bipush (v := 54) hx hb dX11_readsLeg_31 (by decide) ?_
    refine r_aldc C hP 32 (by decide) rfl (j := 54) (by decide) (vp_in_iff.mpr (by decide)) dX11_readsLeg_33 ?_
    refine lv_bipush (v := 6) hx hb dX11_readsLeg_34 (by decide) ?_
    refine lv_icmp_ge (tgt := 43) hx hb dX11_readsLeg_36 (by decide) (fun c42 => ?_) (fun c42 => ?_)
    · replace h := h_t c42 h
      refine lv_iconst (v := 0) hx hb dX11_readsLeg_43 (by decide) ?_
      exact J44 _ _ H locs ls h hP hS (lv_sub hl [0] rfl)
    · replace h := h_f c42 h
      refine lv_iconst (v := 1) hx hb dX11_readsLeg_39 (by decide) ?_
      refine lv_goto (tgt := 44) hx hb dX11_readsLeg_40 (by decide) ?_
      exact J44 _ _ H locs ls h hP hS (lv_sub hl [0] rfl)
  have hS : va_S (g_A G) s.heap s.heap [] := va_S.rf
  unfold f_X11_readsLeg at h
  obtain ⟨H, hH⟩ : ∃ H, H = s.heap := ⟨_, rfl⟩
  obtain ⟨locs, hlo⟩ : ∃ k : List Loc, k = [] := ⟨_, rfl⟩
  rw [← hH, ← hlo]
  rw [← hH] at hP
  replace hS : va_S (g_A G) s.heap H locs := by rw [hH, hlo]; exact hS
  refine lv_aload_n hx hb dX11_readsLeg_0 rfl (lv_at hl 0 rfl) ?_
  obtain ⟨q43, e44, h⟩ := bnd h
  refine call_i C hP hS (c_X11_isWell e44) mi_X11_isWell mw_1353 26 (by decide) rfl rfl ⟨Nat.le_of_ble_eq_true rfl, Nat.le_of_ble_eq_true rfl⟩ (As := []) rfl hl.1 rfl (lv_room (Nat.le_of_ble_eq_true rfl)) dX11_readsLeg_1 (fun H locs hP hS => ?_)
  refine lv_if_eq (tgt := 48) hx hb dX11_readsLeg_4 (by decide) (fun c45 => ?_) (fun c45 => ?_)
  · replace h := h_t c45 h
    exact J48 _ H locs ls h hP hS (lv_sub hl [0] rfl)
  · replace h := h_f c45 h
    refine lv_aload_n hx hb dX11_readsLeg_7 rfl (lv_at hl 0 rfl) ?_
    refine lv_aload_n hx hb dX11_readsLeg_8 rfl (lv_at hl 0 rfl) ?_
    refine gf_X11_76_26 C hP dX11_readsLeg_9 ?_
    refine lv_bipush (v := 103) hx hb dX11_readsLeg_12 (by decide) ?_
    refine lv_icmp_ne (tgt := 21) hx hb dX11_readsLeg_14 (by decide) (fun c46 => ?_) (fun c46 => ?_)
    · replace h := h_f c46 h
      refine lv_iconst (v := 0) hx hb dX11_readsLeg_21 (by decide) ?_
      exact J22 _ _ H locs ls h hP hS (lv_sub hl [0] rfl)
    · replace h := h_t c46 h
      refine lv_iconst (v := 1) hx hb dX11_readsLeg_17 (by decide) ?_
      refine lv_goto (tgt := 22) hx hb dX11_readsLeg_18 (by decide) ?_
      exact J22 _ _ H locs ls h hP hS (lv_sub hl [0] rfl)
set_option maxHeartbeats 4000000 in
set_option maxRecDepth 100000 in
theorem c_X11_readsAll {l : Launch} {G : GT} {lam : Lm} {σ : St} {q : St} (h : f_X11_readsAll σ = some q) : Met l yX11_readsAll (Cond.code yX11_readsAll cX11_readsAll 2 none :: TB) ({ frames := 6, cells := 0, slots := 0, locals := 133 } : Room) (va_Pc [.ref (g_ad G 26)] (GW G lam σ)) (Rv q G lam) 0 0 (g_A G) := by
  refine mk_Qv (own := RX11) (by decide) (Nat.le_of_ble_eq_true rfl) rfl (fun p e s m args below meth c C hr hlocks hP ls hl => ?_)
  have hx := C.1
  have hb := C.2.1
  have hl : lv_has ls 2 [(0, .ref (g_ad G 26))] := hl
  have L105 : ∀ (n105 : Nat) (σ : St) (H : Heap) (locs : List Loc) (ls : Array Slot), fx (F_X11_readsAll_h105) z_X11_readsAll_h105 n105 σ = some q → va_P (g_D G) vwCl (allW G lam σ) H → va_S (g_A G) s.heap H locs → lv_has ls 2 [(0, .ref (g_ad G 26))] → W p l e ({ frames := 6, cells := 0, slots := 0, locals := 133 } : Room) s m args below meth c H locs 0 0 (Qv q below args s G lam) (F0 m 105 ls []) := by
    intro n105
    induction n105 with
    | zero => intro σ H locs ls h hP hS hl; exact absurd h (by intro h9; cases h9)
    | succ n105 ih105 =>
      intro σ H locs ls h hP hS hl
      change F_X11_readsAll_h105 (fx (F_X11_readsAll_h105) z_X11_readsAll_h105 n105) σ = some q at h
      unfold F_X11_readsAll_h105 at h
      refine lv_aload_n hx hb dX11_readsAll_105 rfl (lv_at hl 0 rfl) ?_
      obtain ⟨q43, e44, h⟩ := bnd h
      refine call_i C hP hS (c_X11_isWell e44) mi_X11_isWell mw_1353 26 (by decide) rfl rfl ⟨Nat.le_of_ble_eq_true rfl, Nat.le_of_ble_eq_true rfl⟩ (As := []) rfl hl.1 rfl (lv_room (Nat.le_of_ble_eq_true rfl)) dX11_readsAll_106 (fun H locs hP hS => ?_)
      refine lv_if_eq (tgt := 128) hx hb dX11_readsAll_109 (by decide) (fun c45 => ?_) (fun c45 => ?_)
      · replace h := h_t c45 h
        exact ret_v C hr hlocks hP hS h dX11_readsAll_128
      · replace h := h_f c45 h
        refine lv_aload_n hx hb dX11_readsAll_112 rfl (lv_at hl 0 rfl) ?_
        refine gf_X11_76_26 C hP dX11_readsAll_113 ?_
        refine lv_ldc hx hb C.2.2.2.1 (C.2.2.2.2.1 _ mw_1337) dX11_readsAll_116 ?_
        refine lv_icmp_eq (tgt := 128) hx hb dX11_readsAll_118 (by decide) (fun c46 => ?_) (fun c46 => ?_)
        · replace h := h_t c46 h
          exact ret_v C hr hlocks hP hS h dX11_readsAll_128
        · replace h := h_f c46 h
          refine lv_aload_n hx hb dX11_readsAll_121 rfl (lv_at hl 0 rfl) ?_
          obtain ⟨q47, e48, h⟩ := bnd h
          refine call_v C hP hS (c_X11_readsLeg e48) mi_X11_readsLeg mw_1376 26 (by decide) rfl rfl ⟨Nat.le_of_ble_eq_true rfl, Nat.le_of_ble_eq_true rfl⟩ (As := []) rfl hl.1 rfl (lv_room (Nat.le_of_ble_eq_true rfl)) dX11_readsAll_122 (fun H locs hP hS => ?_)
          refine lv_goto (tgt := 105) hx hb dX11_readsAll_125 (by decide) ?_
          exact ih105 _ H locs ls h hP hS (lv_sub hl [0] rfl)
  have J101 : ∀ (σ : St) (H : Heap) (locs : List Loc) (ls : Array Slot), f_X11_readsAll_p101 σ = some q → va_P (g_D G) vwCl (allW G lam σ) H → va_S (g_A G) s.heap H locs → lv_has ls 2 [(0, .ref (g_ad G 26))] → W p l e ({ frames := 6, cells := 0, slots := 0, locals := 133 } : Room) s m args below meth c H locs 0 0 (Qv q below args s G lam) (F0 m 101 ls []) := by
    intro σ H locs ls h hP hS hl
    unfold f_X11_readsAll_p101 at h
    refine lv_aload_n hx hb dX11_readsAll_101 rfl (lv_at hl 0 rfl) ?_
    obtain ⟨q49, e50, h⟩ := bnd h
    refine call_v C hP hS (c_X11_readsLeg e50) mi_X11_readsLeg mw_1376 26 (by decide) rfl rfl ⟨Nat.le_of_ble_eq_true rfl, Nat.le_of_ble_eq_true rfl⟩ (As := []) rfl hl.1 rfl (lv_room (Nat.le_of_ble_eq_true rfl)) dX11_readsAll_102 (fun H locs hP hS => ?_)
    exact L105 FU _ H locs ls h hP hS (lv_sub hl [0] rfl)
  have L77 : ∀ (n77 : Nat) (σ : St) (H : Heap) (locs : List Loc) (ls : Array Slot), fx (F_X11_readsAll_h77) z_X11_readsAll_h77 n77 σ = some q → va_P (g_D G) vwCl (allW G lam σ) H → va_S (g_A G) s.heap H locs → lv_has ls 2 [(0, .ref (g_ad G 26))] → W p l e ({ frames := 6, cells := 0, slots := 0, locals := 133 } : Room) s m args below meth c H locs 0 0 (Qv q below args s G lam) (F0 m 77 ls []) := by
    intro n77
    induction n77 with
    | zero => intro σ H locs ls h hP hS hl; exact absurd h (by intro h9; cases h9)
    | succ n77 ih77 =>
      intro σ H locs ls h hP hS hl
      change F_X11_readsAll_h77 (fx (F_X11_readsAll_h77) z_X11_readsAll_h77 n77) σ = some q at h
      unfold F_X11_readsAll_h77 at h
      refine lv_aload_n hx hb dX11_readsAll_77 rfl (lv_at hl 0 rfl) ?_
      obtain ⟨q51, e52, h⟩ := bnd h
      refine call_i C hP hS (c_X11_isWell e52) mi_X11_isWell mw_1353 26 (by decide) rfl rfl ⟨Nat.le_of_ble_eq_true rfl, Nat.le_of_ble_eq_true rfl⟩ (As := []) rfl hl.1 rfl (lv_room (Nat.le_of_ble_eq_true rfl)) dX11_readsAll_78 (fun H locs hP hS => ?_)
      refine lv_if_eq (tgt := 101) hx hb dX11_readsAll_81 (by decide) (fun c53 => ?_) (fun c53 => ?_)
      · replace h := h_t c53 h
        exact J101 _ H locs ls h hP hS (lv_sub hl [0] rfl)
      · replace h := h_f c53 h
        refine lv_aload_n hx hb dX11_readsAll_84 rfl (lv_at hl 0 rfl) ?_
        refine gf_X11_76_26 C hP dX11_readsAll_85 ?_
        obtain ⟨q54, e55, h⟩ := bnd h
        refine scall_i C hP hS (c_X11_sortOf e55) ms_X11_sortOf mw_1369 ⟨Nat.le_of_ble_eq_true rfl, Nat.le_of_ble_eq_true rfl⟩ (As := [.int (q51.2 26 11)]) rfl hl.1 rfl (lv_room (Nat.le_of_ble_eq_true rfl)) dX11_readsAll_88 (fun H locs hP hS => ?_)
        refine lv_if_le (tgt := 101) hx hb dX11_readsAll_91 (by decide) (fun c56 => ?_) (fun c56 => ?_)
        · replace h := h_t c56 h
          exact J101 _ H locs ls h hP hS (lv_sub hl [0] rfl)
        · replace h := h_f c56 h
          refine lv_aload_n hx hb dX11_readsAll_94 rfl (lv_at hl 0 rfl) ?_
          obtain ⟨q57, e58, h⟩ := bnd h
          refine call_v C hP hS (c_X11_readsThing e58) mi_X11_readsThing mw_1372 26 (by decide) rfl rfl ⟨Nat.le_of_ble_eq_true rfl, Nat.le_of_ble_eq_true rfl⟩ (As := []) rfl hl.1 rfl (lv_room (Nat.le_of_ble_eq_true rfl)) dX11_readsAll_95 (fun H locs hP hS => ?_)
          refine lv_goto (tgt := 77) hx hb dX11_readsAll_98 (by decide) ?_
          exact ih77 _ H locs ls h hP hS (lv_sub hl [0] rfl)
  have L2 : ∀ (n2 : Nat) (σ : St) (x1 : Int32) (H : Heap) (locs : List Loc) (ls : Array Slot), fx (F_X11_readsAll_h2) z_X11_readsAll_h2 n2 σ x1 = some q → va_P (g_D G) vwCl (allW G lam σ) H → va_S (g_A G) s.heap H locs → lv_has ls 2 [(0, .ref (g_ad G 26)), (1, .int x1)] → W p l e ({ frames := 6, cells := 0, slots := 0, locals := 133 } : Room) s m args below meth c H locs 0 0 (Qv q below args s G lam) (F0 m 2 ls []) := by
    intro n2
    induction n2 with
    | zero => intro σ x1 H locs ls h hP hS hl; exact absurd h (by intro h9; cases h9)
    | succ n2 ih2 =>
      intro σ x1 H locs ls h hP hS hl
      change F_X11_readsAll_h2 (fx (F_X11_readsAll_h2) z_X11_readsAll_h2 n2) σ x1 = some q at h
      unfold F_X11_readsAll_h2 at h
      refine lv_iload_n hx hb dX11_readsAll_2 rfl (lv_at hl 1 rfl) ?_
      refine lv_bipush (v := 79) hx hb dX11_readsAll_3 (by decide) ?_
      refine lv_icmp_ge (tgt := 21) hx hb dX11_readsAll_5 (by decide) (fun c59 => ?_) (fun c59 => ?_)
      · replace h := h_t c59 h
        refine lv_aload_n hx hb dX11_readsAll_21 rfl (lv_at hl 0 rfl) ?_
        refine lv_iconst (v := 0) hx hb dX11_readsAll_22 (by decide) ?_
        refine pf_X11_66_26 C hP hS dX11_readsAll_23 (fun H locs hP hS => ?_)
        obtain ⟨σ60, e61, h⟩ := bnd h
        have hP := hPn e61 hP
        refine lv_aload_n hx hb dX11_readsAll_26 rfl (lv_at hl 0 rfl) ?_
        refine lv_iconst (v := 0) hx hb dX11_readsAll_27 (by decide) ?_
        refine pf_X11_87_26 C hP hS dX11_readsAll_28 (fun H locs hP hS => ?_)
        obtain ⟨σ62, e63, h⟩ := bnd h
        have hP := hPn e63 hP
        refine lv_aload_n hx hb dX11_readsAll_31 rfl (lv_at hl 0 rfl) ?_
        obtain ⟨q64, e65, h⟩ := bnd h
        refine call_v C hP hS (c_X11_take e65) mi_X11_take mw_1333 26 (by decide) rfl rfl ⟨Nat.le_of_ble_eq_true rfl, Nat.le_of_ble_eq_true rfl⟩ (As := []) rfl hl.1 rfl (lv_room (Nat.le_of_ble_eq_true rfl)) dX11_readsAll_32 (fun H locs hP hS => ?_)
        refine lv_aload_n hx hb dX11_readsAll_35 rfl (lv_at hl 0 rfl) ?_
        obtain ⟨q66, e67, h⟩ := bnd h
        refine call_v C hP hS (c_X11_readsShip e67) mi_X11_readsShip mw_1345 26 (by decide) rfl rfl ⟨Nat.le_of_ble_eq_true rfl, Nat.le_of_ble_eq_true rfl⟩ (As := []) rfl hl.1 rfl (lv_room (Nat.le_of_ble_eq_true rfl)) dX11_readsAll_36 (fun H locs hP hS => ?_)
        refine lv_aload_n hx hb dX11_readsAll_39 rfl (lv_at hl 0 rfl) ?_
        obtain ⟨q68, e69, h⟩ := bnd h
        refine call_v C hP hS (c_X11_readsTide e69) mi_X11_readsTide mw_1365 26 (by decide) rfl rfl ⟨Nat.le_of_ble_eq_true rfl, Nat.le_of_ble_eq_true rfl⟩ (As := []) rfl hl.1 rfl (lv_room (Nat.le_of_ble_eq_true rfl)) dX11_readsAll_40 (fun H locs hP hS => ?_)
        refine lv_aload_n hx hb dX11_readsAll_43 rfl (lv_at hl 0 rfl) ?_
        refine lv_bipush (v := 122) hx hb dX11_readsAll_44 (by decide) ?_
        obtain ⟨q70, e71, h⟩ := bnd h
        refine call_v C hP hS (c_X11_reads e71) mi_X11_reads mw_1349 26 (by decide) rfl rfl ⟨Nat.le_of_ble_eq_true rfl, Nat.le_of_ble_eq_true rfl⟩ (As := [.int 122]) rfl hl.1 rfl (lv_room (Nat.le_of_ble_eq_true rfl)) dX11_readsAll_46 (fun H locs hP hS => ?_)
        refine lv_aload_n hx hb dX11_readsAll_49 rfl (lv_at hl 0 rfl) ?_
        refine lv_iconst (v := 4) hx hb dX11_readsAll_50 (by decide) ?_
        refine lv_iconst (v := 0) hx hb dX11_readsAll_51 (by decide) ?_
        refine lv_bipush (v := 60) hx hb dX11_readsAll_52 (by decide) ?_
        obtain ⟨q72, e73, h⟩ := bnd h
        refine call_v C hP hS (c_X11_number e73) mi_X11_number mw_1361 26 (by decide) rfl rfl ⟨Nat.le_of_ble_eq_true rfl, Nat.le_of_ble_eq_true rfl⟩ (As := [.int 4, .int 0, .int 60]) rfl hl.1 rfl (lv_room (Nat.le_of_ble_eq_true rfl)) dX11_readsAll_54 (fun H locs hP hS => ?_)
        refine lv_aload_n hx hb dX11_readsAll_57 rfl (lv_at hl 0 rfl) ?_
        refine lv_bipush (v := 44) hx hb dX11_readsAll_58 (by decide) ?_
        obtain ⟨q74, e75, h⟩ := bnd h
        refine call_v C hP hS (c_X11_reads e75) mi_X11_reads mw_1349 26 (by decide) rfl rfl ⟨Nat.le_of_ble_eq_true rfl, Nat.le_of_ble_eq_true rfl⟩ (As := [.int 44]) rfl hl.1 rfl (lv_room (Nat.le_of_ble_eq_true rfl)) dX11_readsAll_60 (fun H locs hP hS => ?_)
        refine lv_aload_n hx hb dX11_readsAll_63 rfl (lv_at hl 0 rfl) ?_
        refine lv_iconst (v := 5) hx hb dX11_readsAll_64 (by decide) ?_
        refine lv_iconst (v := 0) hx hb dX11_readsAll_65 (by decide) ?_
        refine lv_bipush (v := 60) hx hb dX11_readsAll_66 (by decide) ?_
        obtain ⟨q76, e77, h⟩ := bnd h
        refine call_v C hP hS (c_X11_number e77) mi_X11_number mw_1361 26 (by decide) rfl rfl ⟨Nat.le_of_ble_eq_true rfl, Nat.le_of_ble_eq_true rfl⟩ (As := [.int 5, .int 0, .int 60]) rfl hl.1 rfl (lv_room (Nat.le_of_ble_eq_true rfl)) dX11_readsAll_68 (fun H locs hP hS => ?_)
        refine lv_aload_n hx hb dX11_readsAll_71 rfl (lv_at hl 0 rfl) ?_
        refine lv_bipush (v := 59) hx hb dX11_readsAll_72 (by decide) ?_
        obtain ⟨q78, e79, h⟩ := bnd h
        refine call_v C hP hS (c_X11_reads e79) mi_X11_reads mw_1349 26 (by decide) rfl rfl ⟨Nat.le_of_ble_eq_true rfl, Nat.le_of_ble_eq_true rfl⟩ (As := [.int 59]) rfl hl.1 rfl (lv_room (Nat.le_of_ble_eq_true rfl)) dX11_readsAll_74 (fun H locs hP hS => ?_)
        exact L77 FU _ H locs ls h hP hS (lv_sub hl [0] rfl)
      · replace h := h_f c59 h
        refine lv_aload_n hx hb dX11_readsAll_8 rfl (lv_at hl 0 rfl) ?_
        refine gf_X11_26_26 C hP dX11_readsAll_9 ?_
        refine lv_iload_n hx hb dX11_readsAll_12 rfl (lv_at hl 1 rfl) ?_
        refine lv_iconst (v := 0) hx hb dX11_readsAll_13 (by decide) ?_
        obtain ⟨g80, h⟩ := h_g h
        refine r_ast C hP hS 32 (by decide) (fun _ => rfl) (vp_in_iff.mpr g80) dX11_readsAll_14 (fun H locs hP hS => ?_)
        obtain ⟨σ81, e82, h⟩ := bnd h
        have hP := hPn e82 hP
        obtain ⟨y83, e84, h⟩ := bnd h
        refine lv_iinc (v := y83) (lv' := [(1, .int y83), (0, .ref (g_ad G 26))]) hx hb dX11_readsAll_15 hl (k := 1) rfl (Option.some.inj e84) (by decide) rfl (fun ls hl => ?_)
        refine lv_goto (tgt := 2) hx hb dX11_readsAll_18 (by decide) ?_
        exact ih2 _ _ H locs ls h hP hS (lv_sub hl [1, 0] rfl)
  have hS : va_S (g_A G) s.heap s.heap [] := va_S.rf
  unfold f_X11_readsAll at h
  obtain ⟨H, hH⟩ : ∃ H, H = s.heap := ⟨_, rfl⟩
  obtain ⟨locs, hlo⟩ : ∃ k : List Loc, k = [] := ⟨_, rfl⟩
  rw [← hH, ← hlo]
  rw [← hH] at hP
  replace hS : va_S (g_A G) s.heap H locs := by rw [hH, hlo]; exact hS
  refine lv_iconst (v := 0) hx hb dX11_readsAll_0 (by decide) ?_
  refine lv_istore_n (lv' := [(1, .int 0), (0, .ref (g_ad G 26))]) hx hb dX11_readsAll_1 rfl hl (by decide) rfl (fun ls hl => ?_)
  exact L2 FU _ _ H locs ls h hP hS (lv_sub hl [1, 0] rfl)
