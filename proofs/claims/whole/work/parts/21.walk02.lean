set_option maxHeartbeats 4000000 in
set_option maxRecDepth 100000 in
theorem c_X6_putLegCell_11 {l : Launch} {G : GT} {lam : Lm} {σ : St} {a1 : Int32} {a2 : Int32} {a3 : Int32} {q : Int32 × St} (h : f_X6_putLegCell 17 σ a1 a2 a3 = some q) : Met l yX6_putLegCell (Cond.code yX6_putLegCell cX6_putLegCell 5 ((some .int)) :: TB) ({ frames := 1, cells := 0, slots := 0, locals := 22 } : Room) (va_Pc [.ref (g_ad G 11), .int a1, .int a2, .int a3] (GW G lam σ)) (Ri q G lam) 0 0 (g_A G) := by
  refine mk_Qi (own := RX6) (by decide) (Nat.le_of_ble_eq_true rfl) rfl (fun p e s m args below meth c C hr hlocks hP ls hl => ?_)
  have hx := C.1
  have hb := C.2.1
  have hl : lv_has ls 5 [(0, .ref (g_ad G 11)), (1, .int a1), (2, .int a2), (3, .int a3)] := hl
  have J41 : ∀ (σ : St) (x4 : Int32) (H : Heap) (locs : List Loc) (ls : Array Slot), f_X6_putLegCell_p41 17 σ x4 = some q → va_P (g_D G) vwCl (allW G lam σ) H → va_S (g_A G) s.heap H locs → lv_has ls 5 [(4, .int x4)] → W p l e ({ frames := 1, cells := 0, slots := 0, locals := 22 } : Room) s m args below meth c H locs 0 0 (Qi q below args s G lam) (F0 m 41 ls []) := by
    intro σ x4 H locs ls h hP hS hl
    unfold f_X6_putLegCell_p41 at h
    refine lv_iload hx hb dX6_putLegCell_41 (lv_at hl 0 rfl) ?_
    exact ret_i C hr hlocks hP hS h dX6_putLegCell_43
  have hS : va_S (g_A G) s.heap s.heap [] := va_S.rf
  unfold f_X6_putLegCell at h
  obtain ⟨H, hH⟩ : ∃ H, H = s.heap := ⟨_, rfl⟩
  obtain ⟨locs, hlo⟩ : ∃ k : List Loc, k = [] := ⟨_, rfl⟩
  rw [← hH, ← hlo]
  rw [← hH] at hP
  replace hS : va_S (g_A G) s.heap H locs := by rw [hH, hlo]; exact hS
  refine lv_aload_n hx hb dX6_putLegCell_0 rfl (lv_at hl 0 rfl) ?_
  refine lv_iload_n hx hb dX6_putLegCell_1 rfl (lv_at hl 1 rfl) ?_
  refine lv_iload_n hx hb dX6_putLegCell_2 rfl (lv_at hl 2 rfl) ?_
  obtain ⟨q10, e11, h⟩ := bnd h
  refine call_i C hP hS (c_X6_legCell_11 e11) mi_X6_legCell mw_616 11 (by decide) rfl rfl ⟨Nat.le_of_ble_eq_true rfl, Nat.le_of_ble_eq_true rfl⟩ (As := [.int a1, .int a2]) rfl hl.1 rfl (lv_room (Nat.le_of_ble_eq_true rfl)) dX6_putLegCell_3 (fun H locs hP hS => ?_)
  refine lv_istore (lv' := [(4, .int q10.1), (0, .ref (g_ad G 11)), (1, .int a1), (2, .int a2), (3, .int a3)]) hx hb dX6_putLegCell_6 hl (by decide) rfl (fun ls hl => ?_)
  refine lv_iload_n hx hb dX6_putLegCell_8 rfl (lv_at hl 2 rfl) ?_
  refine lv_if_lt (tgt := 41) hx hb dX6_putLegCell_9 (by decide) (fun c12 => ?_) (fun c12 => ?_)
  · replace h := h_t c12 h
    exact J41 _ _ H locs ls h hP hS (lv_sub hl [0] rfl)
  · replace h := h_f c12 h
    refine lv_iload_n hx hb dX6_putLegCell_12 rfl (lv_at hl 2 rfl) ?_
    refine lv_bipush (v := 6) hx hb dX6_putLegCell_13 (by decide) ?_
    refine lv_icmp_ge (tgt := 41) hx hb dX6_putLegCell_15 (by decide) (fun c13 => ?_) (fun c13 => ?_)
    · replace h := h_t c13 h
      exact J41 _ _ H locs ls h hP hS (lv_sub hl [0] rfl)
    · replace h := h_f c13 h
      refine lv_iload_n hx hb dX6_putLegCell_18 rfl (lv_at hl 3 rfl) ?_
      refine lv_if_lt (tgt := 41) hx hb dX6_putLegCell_19 (by decide) (fun c14 => ?_) (fun c14 => ?_)
      · replace h := h_t c14 h
        exact J41 _ _ H locs ls h hP hS (lv_sub hl [0] rfl)
      · replace h := h_f c14 h
        refine lv_iload_n hx hb dX6_putLegCell_22 rfl (lv_at hl 3 rfl) ?_
        refine lv_iconst (v := 4) hx hb dX6_putLegCell_23 (by decide) ?_
        refine lv_icmp_ge (tgt := 41) hx hb dX6_putLegCell_24 (by decide) (fun c15 => ?_) (fun c15 => ?_)
        · replace h := h_t c15 h
          exact J41 _ _ H locs ls h hP hS (lv_sub hl [0] rfl)
        · replace h := h_f c15 h
          refine lv_aload_n hx hb dX6_putLegCell_27 rfl (lv_at hl 1 rfl) ?_
          refine gf_X6_11_11 C hP dX6_putLegCell_28 ?_
          refine lv_bipush (v := 51) hx hb dX6_putLegCell_31 (by decide) ?_
          refine lv_iload_n hx hb dX6_putLegCell_33 rfl (lv_at hl 2 rfl) ?_
          refine lv_iconst (v := 4) hx hb dX6_putLegCell_34 (by decide) ?_
          refine lv_imul hx hb dX6_putLegCell_35 ?_
          refine lv_iadd hx hb dX6_putLegCell_36 ?_
          refine lv_iload_n hx hb dX6_putLegCell_37 rfl (lv_at hl 3 rfl) ?_
          refine lv_iadd hx hb dX6_putLegCell_38 ?_
          refine lv_iload_n hx hb dX6_putLegCell_39 rfl (lv_at hl 4 rfl) ?_
          obtain ⟨g16, h⟩ := h_g h
          refine r_ast C hP hS 17 (by decide) (fun _ => rfl) (vp_in_iff.mpr g16) dX6_putLegCell_40 (fun H locs hP hS => ?_)
          obtain ⟨σ17, e18, h⟩ := bnd h
          have hP := hPn e18 hP
          exact J41 _ _ H locs ls h hP hS (lv_sub hl [0] rfl)
set_option maxHeartbeats 4000000 in
set_option maxRecDepth 100000 in
theorem c_X6_untilLeast {l : Launch} {G : GT} {lam : Lm} {σ : St} {a1 : Int32} {q : Int32 × St} (h : f_X6_untilLeast σ a1 = some q) : Met l yX6_untilLeast (Cond.code yX6_untilLeast cX6_untilLeast 1 ((some .int)) :: TB) ({ frames := 0, cells := 0, slots := 0, locals := 0 } : Room) (va_Pc [.int a1] (GW G lam σ)) (Ri q G lam) 0 0 (g_A G) := by
  refine mk_Qi (own := RX6) (by decide) (Nat.le_of_ble_eq_true rfl) rfl (fun p e s m args below meth c C hr hlocks hP ls hl => ?_)
  have hx := C.1
  have hb := C.2.1
  have hl : lv_has ls 1 [(0, .int a1)] := hl
  have hS : va_S (g_A G) s.heap s.heap [] := va_S.rf
  unfold f_X6_untilLeast at h
  refine lv_iload_n hx hb dX6_untilLeast_0 rfl (lv_at hl 0 rfl) ?_
  refine lv_if_ne (tgt := 8) hx hb dX6_untilLeast_1 (by decide) (fun c2 => ?_) (fun c2 => ?_)
  · replace h := h_f c2 h
    refine lv_iconst (v := 0) hx hb dX6_untilLeast_8 (by decide) ?_
    exact ret_i C hr hlocks hP hS h dX6_untilLeast_9
  · replace h := h_t c2 h
    refine lv_iconst (v := 1) hx hb dX6_untilLeast_4 (by decide) ?_
    refine lv_goto (tgt := 9) hx hb dX6_untilLeast_5 (by decide) ?_
    exact ret_i C hr hlocks hP hS h dX6_untilLeast_9
set_option maxHeartbeats 4000000 in
set_option maxRecDepth 100000 in
theorem c_X6_untilMost {l : Launch} {G : GT} {lam : Lm} {σ : St} {a1 : Int32} {q : Int32 × St} (h : f_X6_untilMost σ a1 = some q) : Met l yX6_untilMost (Cond.code yX6_untilMost cX6_untilMost 1 ((some .int)) :: TB) ({ frames := 0, cells := 0, slots := 0, locals := 0 } : Room) (va_Pc [.int a1] (GW G lam σ)) (Ri q G lam) 0 0 (g_A G) := by
  refine mk_Qi (own := RX6) (by decide) (Nat.le_of_ble_eq_true rfl) rfl (fun p e s m args below meth c C hr hlocks hP ls hl => ?_)
  have hx := C.1
  have hb := C.2.1
  have hl : lv_has ls 1 [(0, .int a1)] := hl
  have hS : va_S (g_A G) s.heap s.heap [] := va_S.rf
  unfold f_X6_untilMost at h
  refine lv_iload_n hx hb dX6_untilMost_0 rfl (lv_at hl 0 rfl) ?_
  refine lv_if_eq (tgt := 9) hx hb dX6_untilMost_1 (by decide) (fun c3 => ?_) (fun c3 => ?_)
  · replace h := h_t c3 h
    refine lv_bipush (v := 60) hx hb dX6_untilMost_9 (by decide) ?_
    refine lv_goto (tgt := 16) hx hb dX6_untilMost_11 (by decide) ?_
    exact ret_i C hr hlocks hP hS h dX6_untilMost_16
  · replace h := h_f c3 h
    refine lv_iload_n hx hb dX6_untilMost_4 rfl (lv_at hl 0 rfl) ?_
    refine lv_iconst (v := 4) hx hb dX6_untilMost_5 (by decide) ?_
    refine lv_icmp_ne (tgt := 14) hx hb dX6_untilMost_6 (by decide) (fun c4 => ?_) (fun c4 => ?_)
    · replace h := h_f c4 h
      refine lv_bipush (v := 7) hx hb dX6_untilMost_14 (by decide) ?_
      exact ret_i C hr hlocks hP hS h dX6_untilMost_16
    · replace h := h_t c4 h
      refine lv_bipush (v := 60) hx hb dX6_untilMost_9 (by decide) ?_
      refine lv_goto (tgt := 16) hx hb dX6_untilMost_11 (by decide) ?_
      exact ret_i C hr hlocks hP hS h dX6_untilMost_16
set_option maxHeartbeats 4000000 in
set_option maxRecDepth 100000 in
theorem c_X6_putUntil_11 {l : Launch} {G : GT} {lam : Lm} {σ : St} {a1 : Int32} {a2 : Int32} {a3 : Int32} {a4 : Int32} {q : Int32 × St} (h : f_X6_putUntil 17 σ a1 a2 a3 a4 = some q) : Met l yX6_putUntil (Cond.code yX6_putUntil cX6_putUntil 5 ((some .int)) :: TB) ({ frames := 2, cells := 0, slots := 0, locals := 46 } : Room) (va_Pc [.ref (g_ad G 11), .int a1, .int a2, .int a3, .int a4] (GW G lam σ)) (Ri q G lam) 0 0 (g_A G) := by
  refine mk_Qi (own := RX6) (by decide) (Nat.le_of_ble_eq_true rfl) rfl (fun p e s m args below meth c C hr hlocks hP ls hl => ?_)
  have hx := C.1
  have hb := C.2.1
  have hl : lv_has ls 5 [(0, .ref (g_ad G 11)), (1, .int a1), (2, .int a2), (3, .int a3), (4, .int a4)] := hl
  have J23 : ∀ (σ : St) (x1 : Int32) (x2 : Int32) (t0 : Int32) (t1 : Int32) (t2 : Int32) (H : Heap) (locs : List Loc) (ls : Array Slot), f_X6_putUntil_p23 17 σ x1 x2 t0 t1 t2 = some q → va_P (g_D G) vwCl (allW G lam σ) H → va_S (g_A G) s.heap H locs → lv_has ls 5 [(0, .ref (g_ad G 11)), (1, .int x1), (2, .int x2)] → W p l e ({ frames := 2, cells := 0, slots := 0, locals := 46 } : Room) s m args below meth c H locs 0 0 (Qi q below args s G lam) (F0 m 23 ls [.int t0, .int t1, .int t2, .ref (g_ad G 11)]) := by
    intro σ x1 x2 t0 t1 t2 H locs ls h hP hS hl
    unfold f_X6_putUntil_p23 at h
    obtain ⟨q8, e9, h⟩ := bnd h
    refine call_i C hP hS (c_X6_putLegCell_11 e9) mi_X6_putLegCell mw_631 11 (by decide) rfl rfl ⟨Nat.le_of_ble_eq_true rfl, Nat.le_of_ble_eq_true rfl⟩ (As := [.int t2, .int t1, .int t0]) rfl hl.1 rfl (lv_room (Nat.le_of_ble_eq_true rfl)) dX6_putUntil_23 (fun H locs hP hS => ?_)
    refine lv_pop hx hb dX6_putUntil_26 rfl ?_
    refine lv_aload_n hx hb dX6_putUntil_27 rfl (lv_at hl 0 rfl) ?_
    refine lv_iload_n hx hb dX6_putUntil_28 rfl (lv_at hl 1 rfl) ?_
    refine lv_iconst (v := 1) hx hb dX6_putUntil_29 (by decide) ?_
    refine lv_iload_n hx hb dX6_putUntil_30 rfl (lv_at hl 2 rfl) ?_
    obtain ⟨q10, e11, h⟩ := bnd h
    refine call_i C hP hS (c_X6_putLegCell_11 e11) mi_X6_putLegCell mw_631 11 (by decide) rfl rfl ⟨Nat.le_of_ble_eq_true rfl, Nat.le_of_ble_eq_true rfl⟩ (As := [.int x1, .int 1, .int x2]) rfl hl.1 rfl (lv_room (Nat.le_of_ble_eq_true rfl)) dX6_putUntil_31 (fun H locs hP hS => ?_)
    exact ret_i C hr hlocks hP hS h dX6_putUntil_34
  have hS : va_S (g_A G) s.heap s.heap [] := va_S.rf
  unfold f_X6_putUntil at h
  obtain ⟨H, hH⟩ : ∃ H, H = s.heap := ⟨_, rfl⟩
  obtain ⟨locs, hlo⟩ : ∃ k : List Loc, k = [] := ⟨_, rfl⟩
  rw [← hH, ← hlo]
  rw [← hH] at hP
  replace hS : va_S (g_A G) s.heap H locs := by rw [hH, hlo]; exact hS
  refine lv_aload_n hx hb dX6_putUntil_0 rfl (lv_at hl 0 rfl) ?_
  refine lv_iload_n hx hb dX6_putUntil_1 rfl (lv_at hl 1 rfl) ?_
  refine lv_iconst (v := 2) hx hb dX6_putUntil_2 (by decide) ?_
  refine lv_iload_n hx hb dX6_putUntil_3 rfl (lv_at hl 3 rfl) ?_
  obtain ⟨q12, e13, h⟩ := bnd h
  refine call_i C hP hS (c_X6_putLegCell_11 e13) mi_X6_putLegCell mw_631 11 (by decide) rfl rfl ⟨Nat.le_of_ble_eq_true rfl, Nat.le_of_ble_eq_true rfl⟩ (As := [.int a1, .int 2, .int a3]) rfl hl.1 rfl (lv_room (Nat.le_of_ble_eq_true rfl)) dX6_putUntil_4 (fun H locs hP hS => ?_)
  refine lv_pop hx hb dX6_putUntil_7 rfl ?_
  refine lv_aload_n hx hb dX6_putUntil_8 rfl (lv_at hl 0 rfl) ?_
  refine lv_iload_n hx hb dX6_putUntil_9 rfl (lv_at hl 1 rfl) ?_
  refine lv_iconst (v := 3) hx hb dX6_putUntil_10 (by decide) ?_
  refine lv_iload_n hx hb dX6_putUntil_11 rfl (lv_at hl 2 rfl) ?_
  refine lv_iconst (v := 2) hx hb dX6_putUntil_12 (by decide) ?_
  refine lv_icmp_ne (tgt := 21) hx hb dX6_putUntil_13 (by decide) (fun c14 => ?_) (fun c14 => ?_)
  · replace h := h_f c14 h
    refine lv_ldc hx hb C.2.2.2.1 (C.2.2.2.2.1 _ mw_632) dX6_putUntil_21 ?_
    exact J23 _ _ _ _ _ _ H locs ls h hP hS (lv_sub hl [0, 1, 2] rfl)
  · replace h := h_t c14 h
    refine lv_iload hx hb dX6_putUntil_16 (lv_at hl 4 rfl) ?_
    refine lv_goto (tgt := 23) hx hb dX6_putUntil_18 (by decide) ?_
    exact J23 _ _ _ _ _ _ H locs ls h hP hS (lv_sub hl [0, 1, 2] rfl)
set_option maxHeartbeats 4000000 in
set_option maxRecDepth 100000 in
theorem c_X5_readLeg {l : Launch} {G : GT} {lam : Lm} {σ : St} {a1 : Int32} {q : Int32 × St} (h : f_X5_readLeg σ a1 = some q) : Met l yX5_readLeg (Cond.code yX5_readLeg cX5_readLeg 4 ((some .boolean)) :: TB) ({ frames := 5, cells := 0, slots := 0, locals := 113 } : Room) (va_Pc [.ref (g_ad G 3), .int a1] (GW G lam σ)) (Ri q G lam) 0 0 (g_A G) := by
  refine mk_Qi (own := RX5) (by decide) (Nat.le_of_ble_eq_true rfl) rfl (fun p e s m args below meth c C hr hlocks hP ls hl => ?_)
  have hx := C.1
  have hb := C.2.1
  have hl : lv_has ls 4 [(0, .ref (g_ad G 3)), (1, .int a1)] := hl
  have J101 : ∀ (σ : St) (x1 : Int32) (x2 : Int32) (x3 : Int32) (H : Heap) (locs : List Loc) (ls : Array Slot), f_X5_readLeg_p101 σ x1 x2 x3 = some q → va_P (g_D G) vwCl (allW G lam σ) H → va_S (g_A G) s.heap H locs → lv_has ls 4 [(0, .ref (g_ad G 3)), (1, .int x1), (2, .int x2), (3, .int x3)] → W p l e ({ frames := 5, cells := 0, slots := 0, locals := 113 } : Room) s m args below meth c H locs 0 0 (Qi q below args s G lam) (F0 m 101 ls []) := by
    intro σ x1 x2 x3 H locs ls h hP hS hl
    unfold f_X5_readLeg_p101 at h
    refine lv_aload_n hx hb dX5_readLeg_101 rfl (lv_at hl 0 rfl) ?_
    refine gf_X5_10_3 C hP dX5_readLeg_102 ?_
    refine lv_iload_n hx hb dX5_readLeg_105 rfl (lv_at hl 1 rfl) ?_
    refine lv_iload_n hx hb dX5_readLeg_106 rfl (lv_at hl 2 rfl) ?_
    refine lv_iload_n hx hb dX5_readLeg_107 rfl (lv_at hl 3 rfl) ?_
    refine lv_aload_n hx hb dX5_readLeg_108 rfl (lv_at hl 0 rfl) ?_
    refine gf_X5_26_3 C hP dX5_readLeg_109 ?_
    obtain ⟨q33, e34, h⟩ := bnd h
    refine call_i C hP hS (c_X6_putUntil_11 e34) mi_X6_putUntil mw_627 11 (by decide) rfl rfl ⟨Nat.le_of_ble_eq_true rfl, Nat.le_of_ble_eq_true rfl⟩ (As := [.int x1, .int x2, .int x3, .int (σ 3 5)]) rfl hl.1 rfl (lv_room (Nat.le_of_ble_eq_true rfl)) dX5_readLeg_112 (fun H locs hP hS => ?_)
    refine lv_pop hx hb dX5_readLeg_115 rfl ?_
    refine lv_aload_n hx hb dX5_readLeg_116 rfl (lv_at hl 0 rfl) ?_
    refine lv_bipush (v := 59) hx hb dX5_readLeg_117 (by decide) ?_
    obtain ⟨q35, e36, h⟩ := bnd h
    refine call_i C hP hS (c_X5_readByte e36) mi_X5_readByte mw_451 3 (by decide) rfl rfl ⟨Nat.le_of_ble_eq_true rfl, Nat.le_of_ble_eq_true rfl⟩ (As := [.int 59]) rfl hl.1 rfl (lv_room (Nat.le_of_ble_eq_true rfl)) dX5_readLeg_119 (fun H locs hP hS => ?_)
    obtain ⟨g37, h⟩ := h_g h
    exact ret_z C hr hlocks hP hS h g37 dX5_readLeg_122
  have hS : va_S (g_A G) s.heap s.heap [] := va_S.rf
  unfold f_X5_readLeg at h
  obtain ⟨H, hH⟩ : ∃ H, H = s.heap := ⟨_, rfl⟩
  obtain ⟨locs, hlo⟩ : ∃ k : List Loc, k = [] := ⟨_, rfl⟩
  rw [← hH, ← hlo]
  rw [← hH] at hP
  replace hS : va_S (g_A G) s.heap H locs := by rw [hH, hlo]; exact hS
  refine lv_aload_n hx hb dX5_readLeg_0 rfl (lv_at hl 0 rfl) ?_
  refine lv_iconst (v := 0) hx hb dX5_readLeg_1 (by decide) ?_
  refine lv_bipush (v := 15) hx hb dX5_readLeg_2 (by decide) ?_
  obtain ⟨q38, e39, h⟩ := bnd h
  refine call_i C hP hS (c_X5_readNumber e39) mi_X5_readNumber mw_467 3 (by decide) rfl rfl ⟨Nat.le_of_ble_eq_true rfl, Nat.le_of_ble_eq_true rfl⟩ (As := [.int 0, .int 15]) rfl hl.1 rfl (lv_room (Nat.le_of_ble_eq_true rfl)) dX5_readLeg_4 (fun H locs hP hS => ?_)
  refine lv_if_ne (tgt := 12) hx hb dX5_readLeg_7 (by decide) (fun c40 => ?_) (fun c40 => ?_)
  · replace h := h_f c40 h
    refine lv_aload_n hx hb dX5_readLeg_12 rfl (lv_at hl 0 rfl) ?_
    refine gf_X5_10_3 C hP dX5_readLeg_13 ?_
    refine lv_iload_n hx hb dX5_readLeg_16 rfl (lv_at hl 1 rfl) ?_
    refine lv_iconst (v := 0) hx hb dX5_readLeg_17 (by decide) ?_
    refine lv_aload_n hx hb dX5_readLeg_18 rfl (lv_at hl 0 rfl) ?_
    refine gf_X5_26_3 C hP dX5_readLeg_19 ?_
    obtain ⟨q41, e42, h⟩ := bnd h
    refine call_i C hP hS (c_X6_putLegCell_11 e42) mi_X6_putLegCell mw_612 11 (by decide) rfl rfl ⟨Nat.le_of_ble_eq_true rfl, Nat.le_of_ble_eq_true rfl⟩ (As := [.int a1, .int 0, .int (q38.2 3 5)]) rfl hl.1 rfl (lv_room (Nat.le_of_ble_eq_true rfl)) dX5_readLeg_22 (fun H locs hP hS => ?_)
    refine lv_pop hx hb dX5_readLeg_25 rfl ?_
    refine lv_aload_n hx hb dX5_readLeg_26 rfl (lv_at hl 0 rfl) ?_
    refine va_ldcS hx hb C.2.2.2.1 C.2.2.2.2.2.2.2.2.2.2.2.2.2.2.2.1 dX5_readLeg_27 ?_
    obtain ⟨q43, e44, h⟩ := bnd h
    refine call_i C hP hS (c_X5_rankOf e44) mi_X5_rankOf mw_503 3 (by decide) rfl rfl ⟨Nat.le_of_ble_eq_true rfl, Nat.le_of_ble_eq_true rfl⟩ (As := [.ref (g_sk G (17))]) rfl hl.1 rfl (lv_room (Nat.le_of_ble_eq_true rfl)) dX5_readLeg_29 (fun H locs hP hS => ?_)
    refine lv_istore_n (lv' := [(2, .int q43.1), (0, .ref (g_ad G 3)), (1, .int a1)]) hx hb dX5_readLeg_32 rfl hl (by decide) rfl (fun ls hl => ?_)
    refine lv_iload_n hx hb dX5_readLeg_33 rfl (lv_at hl 0 rfl) ?_
    refine lv_if_ge (tgt := 43) hx hb dX5_readLeg_34 (by decide) (fun c45 => ?_) (fun c45 => ?_)
    · replace h := h_t c45 h
      refine lv_aload_n hx hb dX5_readLeg_43 rfl (lv_at hl 1 rfl) ?_
      refine lv_dup hx hb dX5_readLeg_44 rfl ?_
      refine gf_X5_23_3 C hP dX5_readLeg_45 ?_
      refine lv_iconst (v := 1) hx hb dX5_readLeg_48 (by decide) ?_
      refine lv_iadd hx hb dX5_readLeg_49 ?_
      refine pf_X5_23_3 C hP hS dX5_readLeg_50 (fun H locs hP hS => ?_)
      obtain ⟨σ46, e47, h⟩ := bnd h
      have hP := hPn e47 hP
      refine lv_aload_n hx hb dX5_readLeg_53 rfl (lv_at hl 1 rfl) ?_
      refine lv_iload_n hx hb dX5_readLeg_54 rfl (lv_at hl 0 rfl) ?_
      obtain ⟨q48, e49, h⟩ := bnd h
      refine scall_i C hP hS (c_X6_untilLeast e49) ms_X6_untilLeast mw_621 ⟨Nat.le_of_ble_eq_true rfl, Nat.le_of_ble_eq_true rfl⟩ (As := [.int q43.1]) rfl hl.1 rfl (lv_room (Nat.le_of_ble_eq_true rfl)) dX5_readLeg_55 (fun H locs hP hS => ?_)
      refine lv_iload_n hx hb dX5_readLeg_58 rfl (lv_at hl 0 rfl) ?_
      obtain ⟨q50, e51, h⟩ := bnd h
      refine scall_i C hP hS (c_X6_untilMost e51) ms_X6_untilMost mw_624 ⟨Nat.le_of_ble_eq_true rfl, Nat.le_of_ble_eq_true rfl⟩ (As := [.int q43.1]) rfl hl.1 rfl (lv_room (Nat.le_of_ble_eq_true rfl)) dX5_readLeg_59 (fun H locs hP hS => ?_)
      obtain ⟨q52, e53, h⟩ := bnd h
      refine call_i C hP hS (c_X5_readNumber e53) mi_X5_readNumber mw_467 3 (by decide) rfl rfl ⟨Nat.le_of_ble_eq_true rfl, Nat.le_of_ble_eq_true rfl⟩ (As := [.int q48.1, .int q50.1]) rfl hl.1 rfl (lv_room (Nat.le_of_ble_eq_true rfl)) dX5_readLeg_62 (fun H locs hP hS => ?_)
      refine lv_if_ne (tgt := 70) hx hb dX5_readLeg_65 (by decide) (fun c54 => ?_) (fun c54 => ?_)
      · replace h := h_f c54 h
        refine lv_aload_n hx hb dX5_readLeg_70 rfl (lv_at hl 1 rfl) ?_
        refine gf_X5_26_3 C hP dX5_readLeg_71 ?_
        obtain ⟨y55, e56, h⟩ := bnd h
        refine r_nm e56 ?_
        refine lv_istore_n (lv' := [(3, .int y55), (2, .int q43.1), (0, .ref (g_ad G 3)), (1, .int a1)]) hx hb dX5_readLeg_74 rfl hl (by decide) rfl (fun ls hl => ?_)
        refine lv_iload_n hx hb dX5_readLeg_75 rfl (lv_at hl 1 rfl) ?_
        refine lv_iconst (v := 2) hx hb dX5_readLeg_76 (by decide) ?_
        refine lv_icmp_ne (tgt := 101) hx hb dX5_readLeg_77 (by decide) (fun c57 => ?_) (fun c57 => ?_)
        · replace h := h_f c57 h
          exact J101 _ _ _ _ H locs ls h hP hS (lv_sub hl [2, 3, 1, 0] rfl)
        · replace h := h_t c57 h
          refine lv_aload_n hx hb dX5_readLeg_80 rfl (lv_at hl 2 rfl) ?_
          refine lv_bipush (v := 44) hx hb dX5_readLeg_81 (by decide) ?_
          obtain ⟨q58, e59, h⟩ := bnd h
          refine call_i C hP hS (c_X5_readByte e59) mi_X5_readByte mw_451 3 (by decide) rfl rfl ⟨Nat.le_of_ble_eq_true rfl, Nat.le_of_ble_eq_true rfl⟩ (As := [.int 44]) rfl hl.1 rfl (lv_room (Nat.le_of_ble_eq_true rfl)) dX5_readLeg_83 (fun H locs hP hS => ?_)
          refine lv_if_eq (tgt := 99) hx hb dX5_readLeg_86 (by decide) (fun c60 => ?_) (fun c60 => ?_)
          · replace h := h_t c60 h
            refine lv_iconst (v := 0) hx hb dX5_readLeg_99 (by decide) ?_
            exact ret_z C hr hlocks hP hS h (Or.inl rfl) dX5_readLeg_100
          · replace h := h_f c60 h
            refine lv_aload_n hx hb dX5_readLeg_89 rfl (lv_at hl 2 rfl) ?_
            refine lv_iconst (v := 0) hx hb dX5_readLeg_90 (by decide) ?_
            refine lv_bipush (v := 7) hx hb dX5_readLeg_91 (by decide) ?_
            obtain ⟨q61, e62, h⟩ := bnd h
            refine call_i C hP hS (c_X5_readNumber e62) mi_X5_readNumber mw_467 3 (by decide) rfl rfl ⟨Nat.le_of_ble_eq_true rfl, Nat.le_of_ble_eq_true rfl⟩ (As := [.int 0, .int 7]) rfl hl.1 rfl (lv_room (Nat.le_of_ble_eq_true rfl)) dX5_readLeg_93 (fun H locs hP hS => ?_)
            refine lv_if_ne (tgt := 101) hx hb dX5_readLeg_96 (by decide) (fun c63 => ?_) (fun c63 => ?_)
            · replace h := h_f c63 h
              exact J101 _ _ _ _ H locs ls h hP hS (lv_sub hl [2, 3, 1, 0] rfl)
            · replace h := h_t c63 h
              refine lv_iconst (v := 0) hx hb dX5_readLeg_99 (by decide) ?_
              exact ret_z C hr hlocks hP hS h (Or.inl rfl) dX5_readLeg_100
      · replace h := h_t c54 h
        refine lv_iconst (v := 0) hx hb dX5_readLeg_68 (by decide) ?_
        exact ret_z C hr hlocks hP hS h (Or.inl rfl) dX5_readLeg_69
    · replace h := h_f c45 h
      refine lv_aload_n hx hb dX5_readLeg_37 rfl (lv_at hl 1 rfl) ?_
      refine lv_iconst (v := 1) hx hb dX5_readLeg_38 (by decide) ?_
      obtain ⟨q64, e65, h⟩ := bnd h
      refine call_i C hP hS (c_X5_faultHere e65) mi_X5_faultHere mw_459 3 (by decide) rfl rfl ⟨Nat.le_of_ble_eq_true rfl, Nat.le_of_ble_eq_true rfl⟩ (As := [.int 1]) rfl hl.1 rfl (lv_room (Nat.le_of_ble_eq_true rfl)) dX5_readLeg_39 (fun H locs hP hS => ?_)
      obtain ⟨g66, h⟩ := h_g h
      exact ret_z C hr hlocks hP hS h g66 dX5_readLeg_42
  · replace h := h_t c40 h
    refine lv_iconst (v := 0) hx hb dX5_readLeg_10 (by decide) ?_
    exact ret_z C hr hlocks hP hS h (Or.inl rfl) dX5_readLeg_11
set_option maxHeartbeats 4000000 in
set_option maxRecDepth 100000 in
theorem c_X5_readLegs {l : Launch} {G : GT} {lam : Lm} {σ : St} {q : Int32 × St} (h : f_X5_readLegs σ = some q) : Met l yX5_readLegs (Cond.code yX5_readLegs cX5_readLegs 2 ((some .boolean)) :: TB) ({ frames := 6, cells := 0, slots := 0, locals := 136 } : Room) (va_Pc [.ref (g_ad G 3)] (GW G lam σ)) (Ri q G lam) 0 0 (g_A G) := by
  refine mk_Qi (own := RX5) (by decide) (Nat.le_of_ble_eq_true rfl) rfl (fun p e s m args below meth c C hr hlocks hP ls hl => ?_)
  have hx := C.1
  have hb := C.2.1
  have hl : lv_has ls 2 [(0, .ref (g_ad G 3))] := hl
  have L2 : ∀ (n2 : Nat) (σ : St) (x1 : Int32) (H : Heap) (locs : List Loc) (ls : Array Slot), fx (F_X5_readLegs_h2) z_X5_readLegs_h2 n2 σ x1 = some q → va_P (g_D G) vwCl (allW G lam σ) H → va_S (g_A G) s.heap H locs → lv_has ls 2 [(0, .ref (g_ad G 3)), (1, .int x1)] → W p l e ({ frames := 6, cells := 0, slots := 0, locals := 136 } : Room) s m args below meth c H locs 0 0 (Qi q below args s G lam) (F0 m 2 ls []) := by
    intro n2
    induction n2 with
    | zero => intro σ x1 H locs ls h hP hS hl; exact absurd h (by intro h9; cases h9)
    | succ n2 ih2 =>
      have J29 : ∀ (σ : St) (x1 : Int32) (H : Heap) (locs : List Loc) (ls : Array Slot), f_X5_readLegs_p29 (fx (F_X5_readLegs_h2) z_X5_readLegs_h2 n2) σ x1 = some q → va_P (g_D G) vwCl (allW G lam σ) H → va_S (g_A G) s.heap H locs → lv_has ls 2 [(0, .ref (g_ad G 3)), (1, .int x1)] → W p l e ({ frames := 6, cells := 0, slots := 0, locals := 136 } : Room) s m args below meth c H locs 0 0 (Qi q below args s G lam) (F0 m 29 ls []) := by
        intro σ x1 H locs ls h hP hS hl
        unfold f_X5_readLegs_p29 at h
        refine lv_aload_n hx hb dX5_readLegs_29 rfl (lv_at hl 0 rfl) ?_
        refine gf_X5_29_3 C hP dX5_readLegs_30 ?_
        refine lv_aload_n hx hb dX5_readLegs_33 rfl (lv_at hl 0 rfl) ?_
        refine gf_X5_23_3 C hP dX5_readLegs_34 ?_
        obtain ⟨q25, e26, h⟩ := bnd h
        refine call_i C hP hS (c_X7_byteAt e26) mi_X7_byteAt mw_455 1 (by decide) rfl rfl ⟨Nat.le_of_ble_eq_true rfl, Nat.le_of_ble_eq_true rfl⟩ (As := [.int (σ 3 4)]) rfl hl.1 rfl (lv_room (Nat.le_of_ble_eq_true rfl)) dX5_readLegs_37 (fun H locs hP hS => ?_)
        refine lv_bipush (v := 103) hx hb dX5_readLegs_40 (by decide) ?_
        refine lv_icmp_eq (tgt := 51) hx hb dX5_readLegs_42 (by decide) (fun c27 => ?_) (fun c27 => ?_)
        · replace h := h_t c27 h
          refine lv_iload_n hx hb dX5_readLegs_51 rfl (lv_at hl 1 rfl) ?_
          refine lv_bipush (v := 6) hx hb dX5_readLegs_52 (by decide) ?_
          refine lv_icmp_ne (tgt := 63) hx hb dX5_readLegs_54 (by decide) (fun c28 => ?_) (fun c28 => ?_)
          · replace h := h_f c28 h
            refine lv_aload_n hx hb dX5_readLegs_63 rfl (lv_at hl 0 rfl) ?_
            refine lv_dup hx hb dX5_readLegs_64 rfl ?_
            refine gf_X5_23_3 C hP dX5_readLegs_65 ?_
            refine lv_iconst (v := 1) hx hb dX5_readLegs_68 (by decide) ?_
            refine lv_iadd hx hb dX5_readLegs_69 ?_
            refine pf_X5_23_3 C hP hS dX5_readLegs_70 (fun H locs hP hS => ?_)
            obtain ⟨σ29, e30, h⟩ := bnd h
            have hP := hPn e30 hP
            refine lv_aload_n hx hb dX5_readLegs_73 rfl (lv_at hl 0 rfl) ?_
            refine lv_iload_n hx hb dX5_readLegs_74 rfl (lv_at hl 1 rfl) ?_
            obtain ⟨q31, e32, h⟩ := bnd h
            refine call_i C hP hS (c_X5_readLeg e32) mi_X5_readLeg mw_608 3 (by decide) rfl rfl ⟨Nat.le_of_ble_eq_true rfl, Nat.le_of_ble_eq_true rfl⟩ (As := [.int x1]) rfl hl.1 rfl (lv_room (Nat.le_of_ble_eq_true rfl)) dX5_readLegs_75 (fun H locs hP hS => ?_)
            refine lv_if_ne (tgt := 83) hx hb dX5_readLegs_78 (by decide) (fun c33 => ?_) (fun c33 => ?_)
            · replace h := h_f c33 h
              refine lv_aload_n hx hb dX5_readLegs_83 rfl (lv_at hl 0 rfl) ?_
              refine gf_X5_10_3 C hP dX5_readLegs_84 ?_
              refine lv_iload_n hx hb dX5_readLegs_87 rfl (lv_at hl 1 rfl) ?_
              refine lv_iconst (v := 1) hx hb dX5_readLegs_88 (by decide) ?_
              refine lv_iadd hx hb dX5_readLegs_89 ?_
              obtain ⟨q34, e35, h⟩ := bnd h
              refine call_v C hP hS (c_X6_countLegs_11 e35) mi_X6_countLegs mw_443 11 (by decide) rfl rfl ⟨Nat.le_of_ble_eq_true rfl, Nat.le_of_ble_eq_true rfl⟩ (As := [.int (x1 + 1)]) rfl hl.1 rfl (lv_room (Nat.le_of_ble_eq_true rfl)) dX5_readLegs_90 (fun H locs hP hS => ?_)
              obtain ⟨y36, e37, h⟩ := bnd h
              refine lv_iinc (v := y36) (lv' := [(1, .int y36), (0, .ref (g_ad G 3))]) hx hb dX5_readLegs_93 hl (k := 1) rfl (Option.some.inj e37) (by decide) rfl (fun ls hl => ?_)
              refine lv_goto (tgt := 2) hx hb dX5_readLegs_96 (by decide) ?_
              exact ih2 _ _ H locs ls h hP hS (lv_sub hl [1, 0] rfl)
            · replace h := h_t c33 h
              refine lv_iconst (v := 0) hx hb dX5_readLegs_81 (by decide) ?_
              exact ret_z C hr hlocks hP hS h (Or.inl rfl) dX5_readLegs_82
          · replace h := h_t c28 h
            refine lv_aload_n hx hb dX5_readLegs_57 rfl (lv_at hl 0 rfl) ?_
            refine lv_iconst (v := 3) hx hb dX5_readLegs_58 (by decide) ?_
            obtain ⟨q38, e39, h⟩ := bnd h
            refine call_i C hP hS (c_X5_faultHere e39) mi_X5_faultHere mw_459 3 (by decide) rfl rfl ⟨Nat.le_of_ble_eq_true rfl, Nat.le_of_ble_eq_true rfl⟩ (As := [.int 3]) rfl hl.1 rfl (lv_room (Nat.le_of_ble_eq_true rfl)) dX5_readLegs_59 (fun H locs hP hS => ?_)
            obtain ⟨g40, h⟩ := h_g h
            exact ret_z C hr hlocks hP hS h g40 dX5_readLegs_62
        · replace h := h_f c27 h
          refine lv_aload_n hx hb dX5_readLegs_45 rfl (lv_at hl 0 rfl) ?_
          refine lv_iconst (v := 1) hx hb dX5_readLegs_46 (by decide) ?_
          obtain ⟨q41, e42, h⟩ := bnd h
          refine call_i C hP hS (c_X5_faultHere e42) mi_X5_faultHere mw_459 3 (by decide) rfl rfl ⟨Nat.le_of_ble_eq_true rfl, Nat.le_of_ble_eq_true rfl⟩ (As := [.int 1]) rfl hl.1 rfl (lv_room (Nat.le_of_ble_eq_true rfl)) dX5_readLegs_47 (fun H locs hP hS => ?_)
          obtain ⟨g43, h⟩ := h_g h
          exact ret_z C hr hlocks hP hS h g43 dX5_readLegs_50
      intro σ x1 H locs ls h hP hS hl
      change F_X5_readLegs_h2 (fx (F_X5_readLegs_h2) z_X5_readLegs_h2 n2) σ x1 = some q at h
      unfold F_X5_readLegs_h2 at h
      refine lv_iload_n hx hb dX5_readLegs_2 rfl (lv_at hl 1 rfl) ?_
      refine lv_bipush (v := 6) hx hb dX5_readLegs_3 (by decide) ?_
      refine lv_icmp_gt (tgt := 99) hx hb dX5_readLegs_5 (by decide) (fun c44 => ?_) (fun c44 => ?_)
      · replace h := h_t c44 h
        refine lv_iconst (v := 1) hx hb dX5_readLegs_99 (by decide) ?_
        exact ret_z C hr hlocks hP hS h (Or.inr rfl) dX5_readLegs_100
      · replace h := h_f c44 h
        refine lv_iload_n hx hb dX5_readLegs_8 rfl (lv_at hl 1 rfl) ?_
        refine lv_if_le (tgt := 29) hx hb dX5_readLegs_9 (by decide) (fun c45 => ?_) (fun c45 => ?_)
        · replace h := h_t c45 h
          exact J29 _ _ H locs ls h hP hS (lv_sub hl [0, 1] rfl)
        · replace h := h_f c45 h
          refine lv_aload_n hx hb dX5_readLegs_12 rfl (lv_at hl 0 rfl) ?_
          refine gf_X5_29_3 C hP dX5_readLegs_13 ?_
          refine lv_aload_n hx hb dX5_readLegs_16 rfl (lv_at hl 0 rfl) ?_
          refine gf_X5_23_3 C hP dX5_readLegs_17 ?_
          obtain ⟨q46, e47, h⟩ := bnd h
          refine call_i C hP hS (c_X7_byteAt e47) mi_X7_byteAt mw_455 1 (by decide) rfl rfl ⟨Nat.le_of_ble_eq_true rfl, Nat.le_of_ble_eq_true rfl⟩ (As := [.int (σ 3 4)]) rfl hl.1 rfl (lv_room (Nat.le_of_ble_eq_true rfl)) dX5_readLegs_20 (fun H locs hP hS => ?_)
          refine lv_iconst (v := (-1)) hx hb dX5_readLegs_23 (by decide) ?_
          refine lv_icmp_ne (tgt := 29) hx hb dX5_readLegs_24 (by decide) (fun c48 => ?_) (fun c48 => ?_)
          · replace h := h_f c48 h
            exact J29 _ _ H locs ls h hP hS (lv_sub hl [0, 1] rfl)
          · replace h := h_t c48 h
            refine lv_iconst (v := 1) hx hb dX5_readLegs_27 (by decide) ?_
            exact ret_z C hr hlocks hP hS h (Or.inr rfl) dX5_readLegs_28
  have hS : va_S (g_A G) s.heap s.heap [] := va_S.rf
  unfold f_X5_readLegs at h
  obtain ⟨H, hH⟩ : ∃ H, H = s.heap := ⟨_, rfl⟩
  obtain ⟨locs, hlo⟩ : ∃ k : List Loc, k = [] := ⟨_, rfl⟩
  rw [← hH, ← hlo]
  rw [← hH] at hP
  replace hS : va_S (g_A G) s.heap H locs := by rw [hH, hlo]; exact hS
  refine lv_iconst (v := 0) hx hb dX5_readLegs_0 (by decide) ?_
  refine lv_istore_n (lv' := [(1, .int 0), (0, .ref (g_ad G 3))]) hx hb dX5_readLegs_1 rfl hl (by decide) rfl (fun ls hl => ?_)
  exact L2 FU _ _ H locs ls h hP hS (lv_sub hl [1, 0] rfl)
set_option maxHeartbeats 4000000 in
set_option maxRecDepth 100000 in
theorem c_X5_readTape {l : Launch} {G : GT} {lam : Lm} {σ : St} {q : Int32 × St} (h : f_X5_readTape σ = some q) : Met l yX5_readTape (Cond.code yX5_readTape cX5_readTape 1 ((some .boolean)) :: TB) ({ frames := 7, cells := 0, slots := 0, locals := 157 } : Room) (va_Pc [.ref (g_ad G 3)] (GW G lam σ)) (Ri q G lam) 0 0 (g_A G) := by
  refine mk_Qi (own := RX5) (by decide) (Nat.le_of_ble_eq_true rfl) rfl (fun p e s m args below meth c C hr hlocks hP ls hl => ?_)
  have hx := C.1
  have hb := C.2.1
  have hl : lv_has ls 1 [(0, .ref (g_ad G 3))] := hl
  have hS : va_S (g_A G) s.heap s.heap [] := va_S.rf
  unfold f_X5_readTape at h
  refine lv_aload_n hx hb dX5_readTape_0 rfl (lv_at hl 0 rfl) ?_
  refine lv_iconst (v := 0) hx hb dX5_readTape_1 (by decide) ?_
  refine pf_X5_23_3 C hP hS dX5_readTape_2 (fun H locs hP hS => ?_)
  obtain ⟨σ28, e29, h⟩ := bnd h
  have hP := hPn e29 hP
  refine lv_aload_n hx hb dX5_readTape_5 rfl (lv_at hl 0 rfl) ?_
  refine lv_iconst (v := 0) hx hb dX5_readTape_6 (by decide) ?_
  refine pf_X5_16_3 C hP hS dX5_readTape_7 (fun H locs hP hS => ?_)
  obtain ⟨σ30, e31, h⟩ := bnd h
  have hP := hPn e31 hP
  refine lv_aload_n hx hb dX5_readTape_10 rfl (lv_at hl 0 rfl) ?_
  refine lv_iconst (v := 0) hx hb dX5_readTape_11 (by decide) ?_
  refine pf_X5_20_3 C hP hS dX5_readTape_12 (fun H locs hP hS => ?_)
  obtain ⟨σ32, e33, h⟩ := bnd h
  have hP := hPn e33 hP
  refine lv_aload_n hx hb dX5_readTape_15 rfl (lv_at hl 0 rfl) ?_
  refine gf_X5_10_3 C hP dX5_readTape_16 ?_
  refine lv_iconst (v := 0) hx hb dX5_readTape_19 (by decide) ?_
  obtain ⟨q34, e35, h⟩ := bnd h
  refine call_v C hP hS (c_X6_countHeights_11 e35) mi_X6_countHeights mw_429 11 (by decide) rfl rfl ⟨Nat.le_of_ble_eq_true rfl, Nat.le_of_ble_eq_true rfl⟩ (As := [.int 0]) rfl hl.1 rfl (lv_room (Nat.le_of_ble_eq_true rfl)) dX5_readTape_20 (fun H locs hP hS => ?_)
  refine lv_aload_n hx hb dX5_readTape_23 rfl (lv_at hl 0 rfl) ?_
  refine gf_X5_10_3 C hP dX5_readTape_24 ?_
  refine lv_iconst (v := 0) hx hb dX5_readTape_27 (by decide) ?_
  obtain ⟨q36, e37, h⟩ := bnd h
  refine call_v C hP hS (c_X6_countThings_11 e37) mi_X6_countThings mw_439 11 (by decide) rfl rfl ⟨Nat.le_of_ble_eq_true rfl, Nat.le_of_ble_eq_true rfl⟩ (As := [.int 0]) rfl hl.1 rfl (lv_room (Nat.le_of_ble_eq_true rfl)) dX5_readTape_28 (fun H locs hP hS => ?_)
  refine lv_aload_n hx hb dX5_readTape_31 rfl (lv_at hl 0 rfl) ?_
  refine gf_X5_10_3 C hP dX5_readTape_32 ?_
  refine lv_iconst (v := 0) hx hb dX5_readTape_35 (by decide) ?_
  obtain ⟨q38, e39, h⟩ := bnd h
  refine call_v C hP hS (c_X6_countLegs_11 e39) mi_X6_countLegs mw_443 11 (by decide) rfl rfl ⟨Nat.le_of_ble_eq_true rfl, Nat.le_of_ble_eq_true rfl⟩ (As := [.int 0]) rfl hl.1 rfl (lv_room (Nat.le_of_ble_eq_true rfl)) dX5_readTape_36 (fun H locs hP hS => ?_)
  refine lv_aload_n hx hb dX5_readTape_39 rfl (lv_at hl 0 rfl) ?_
  obtain ⟨q40, e41, h⟩ := bnd h
  refine call_i C hP hS (c_X5_readShip e41) mi_X5_readShip mw_447 3 (by decide) rfl rfl ⟨Nat.le_of_ble_eq_true rfl, Nat.le_of_ble_eq_true rfl⟩ (As := []) rfl hl.1 rfl (lv_room (Nat.le_of_ble_eq_true rfl)) dX5_readTape_40 (fun H locs hP hS => ?_)
  refine lv_if_eq (tgt := 78) hx hb dX5_readTape_43 (by decide) (fun c42 => ?_) (fun c42 => ?_)
  · replace h := h_t c42 h
    refine lv_iconst (v := 0) hx hb dX5_readTape_78 (by decide) ?_
    exact ret_z C hr hlocks hP hS h (Or.inl rfl) dX5_readTape_79
  · replace h := h_f c42 h
    refine lv_aload_n hx hb dX5_readTape_46 rfl (lv_at hl 0 rfl) ?_
    obtain ⟨q43, e44, h⟩ := bnd h
    refine call_i C hP hS (c_X5_readTide e44) mi_X5_readTide mw_482 3 (by decide) rfl rfl ⟨Nat.le_of_ble_eq_true rfl, Nat.le_of_ble_eq_true rfl⟩ (As := []) rfl hl.1 rfl (lv_room (Nat.le_of_ble_eq_true rfl)) dX5_readTape_47 (fun H locs hP hS => ?_)
    refine lv_if_eq (tgt := 78) hx hb dX5_readTape_50 (by decide) (fun c45 => ?_) (fun c45 => ?_)
    · replace h := h_t c45 h
      refine lv_iconst (v := 0) hx hb dX5_readTape_78 (by decide) ?_
      exact ret_z C hr hlocks hP hS h (Or.inl rfl) dX5_readTape_79
    · replace h := h_f c45 h
      refine lv_aload_n hx hb dX5_readTape_53 rfl (lv_at hl 0 rfl) ?_
      obtain ⟨q46, e47, h⟩ := bnd h
      refine call_i C hP hS (c_X5_readHarbour e47) mi_X5_readHarbour mw_494 3 (by decide) rfl rfl ⟨Nat.le_of_ble_eq_true rfl, Nat.le_of_ble_eq_true rfl⟩ (As := []) rfl hl.1 rfl (lv_room (Nat.le_of_ble_eq_true rfl)) dX5_readTape_54 (fun H locs hP hS => ?_)
      refine lv_if_eq (tgt := 78) hx hb dX5_readTape_57 (by decide) (fun c48 => ?_) (fun c48 => ?_)
      · replace h := h_t c48 h
        refine lv_iconst (v := 0) hx hb dX5_readTape_78 (by decide) ?_
        exact ret_z C hr hlocks hP hS h (Or.inl rfl) dX5_readTape_79
      · replace h := h_f c48 h
        refine lv_aload_n hx hb dX5_readTape_60 rfl (lv_at hl 0 rfl) ?_
        obtain ⟨q49, e50, h⟩ := bnd h
        refine call_i C hP hS (c_X5_readThings e50) mi_X5_readThings mw_498 3 (by decide) rfl rfl ⟨Nat.le_of_ble_eq_true rfl, Nat.le_of_ble_eq_true rfl⟩ (As := []) rfl hl.1 rfl (lv_room (Nat.le_of_ble_eq_true rfl)) dX5_readTape_61 (fun H locs hP hS => ?_)
        refine lv_if_eq (tgt := 78) hx hb dX5_readTape_64 (by decide) (fun c51 => ?_) (fun c51 => ?_)
        · replace h := h_t c51 h
          refine lv_iconst (v := 0) hx hb dX5_readTape_78 (by decide) ?_
          exact ret_z C hr hlocks hP hS h (Or.inl rfl) dX5_readTape_79
        · replace h := h_f c51 h
          refine lv_aload_n hx hb dX5_readTape_67 rfl (lv_at hl 0 rfl) ?_
          obtain ⟨q52, e53, h⟩ := bnd h
          refine call_i C hP hS (c_X5_readLegs e53) mi_X5_readLegs mw_604 3 (by decide) rfl rfl ⟨Nat.le_of_ble_eq_true rfl, Nat.le_of_ble_eq_true rfl⟩ (As := []) rfl hl.1 rfl (lv_room (Nat.le_of_ble_eq_true rfl)) dX5_readTape_68 (fun H locs hP hS => ?_)
          refine lv_if_eq (tgt := 78) hx hb dX5_readTape_71 (by decide) (fun c54 => ?_) (fun c54 => ?_)
          · replace h := h_t c54 h
            refine lv_iconst (v := 0) hx hb dX5_readTape_78 (by decide) ?_
            exact ret_z C hr hlocks hP hS h (Or.inl rfl) dX5_readTape_79
          · replace h := h_f c54 h
            refine lv_iconst (v := 1) hx hb dX5_readTape_74 (by decide) ?_
            refine lv_goto (tgt := 79) hx hb dX5_readTape_75 (by decide) ?_
            exact ret_z C hr hlocks hP hS h (Or.inr rfl) dX5_readTape_79
set_option maxHeartbeats 4000000 in
set_option maxRecDepth 100000 in
theorem c_X7_clear {l : Launch} {G : GT} {lam : Lm} {σ : St} {q : St} (h : f_X7_clear σ = some q) : Met l yX7_clear (Cond.code yX7_clear cX7_clear 1 none :: TB) ({ frames := 0, cells := 0, slots := 0, locals := 0 } : Room) (va_Pc [.ref (g_ad G 1)] (GW G lam σ)) (Rv q G lam) 0 0 (g_A G) := by
  refine mk_Qv (own := RX7) (by decide) (Nat.le_of_ble_eq_true rfl) rfl (fun p e s m args below meth c C hr hlocks hP ls hl => ?_)
  have hx := C.1
  have hb := C.2.1
  have hl : lv_has ls 1 [(0, .ref (g_ad G 1))] := hl
  have hS : va_S (g_A G) s.heap s.heap [] := va_S.rf
  unfold f_X7_clear at h
  refine lv_aload_n hx hb dX7_clear_0 rfl (lv_at hl 0 rfl) ?_
  refine lv_iconst (v := 0) hx hb dX7_clear_1 (by decide) ?_
  refine pf_X7_13_1 C hP hS dX7_clear_2 (fun H locs hP hS => ?_)
  obtain ⟨σ3, e4, h⟩ := bnd h
  have hP := hPn e4 hP
  exact ret_v C hr hlocks hP hS h dX7_clear_5
set_option maxHeartbeats 4000000 in
set_option maxRecDepth 100000 in
theorem c_X6_copyFrom_2_11 {l : Launch} {G : GT} {lam : Lm} {σ : St} {q : St} (h : f_X6_copyFrom 14 17 σ = some q) : Met l yX6_copyFrom (Cond.code yX6_copyFrom cX6_copyFrom 2 none :: TB) ({ frames := 1, cells := 0, slots := 0, locals := 18 } : Room) (va_Pc [.ref (g_ad G 2), .ref (g_ad G 11)] (GW G lam σ)) (Rv q G lam) 0 0 (g_A G) := by
  refine mk_Qv (own := RX6) (by decide) (Nat.le_of_ble_eq_true rfl) rfl (fun p e s m args below meth c C hr hlocks hP ls hl => ?_)
  have hx := C.1
  have hb := C.2.1
  have hl : lv_has ls 2 [(0, .ref (g_ad G 2)), (1, .ref (g_ad G 11))] := hl
  have hS : va_S (g_A G) s.heap s.heap [] := va_S.rf
  unfold f_X6_copyFrom at h
  refine lv_aload_n hx hb dX6_copyFrom_0 rfl (lv_at hl 1 rfl) ?_
  refine gf_X6_11_11 C hP dX6_copyFrom_1 ?_
  refine lv_iconst (v := 0) hx hb dX6_copyFrom_4 (by decide) ?_
  refine lv_aload_n hx hb dX6_copyFrom_5 rfl (lv_at hl 0 rfl) ?_
  refine gf_X6_11_2 C hP dX6_copyFrom_6 ?_
  refine lv_iconst (v := 0) hx hb dX6_copyFrom_9 (by decide) ?_
  refine lv_bipush (v := 78) hx hb dX6_copyFrom_10 (by decide) ?_
  obtain ⟨g4, h⟩ := h_g h
  refine r_copy C hP hS hl.1 mw_642 mw_644 mw_643 mw_101 17 14 (by decide) (by decide) (fun _ => rfl) (fun _ => rfl) g4 (Nat.le_of_ble_eq_true rfl) (Nat.le_of_ble_eq_true rfl) dX6_copyFrom_12 (fun H locs hP hS => ?_)
  obtain ⟨σ5, e6, h⟩ := bnd h
  have hP := hPn e6 hP
  exact ret_v C hr hlocks hP hS h dX6_copyFrom_15
set_option maxHeartbeats 4000000 in
set_option maxRecDepth 100000 in
theorem c_X4_forget {l : Launch} {G : GT} {lam : Lm} {σ : St} {q : St} (h : f_X4_forget σ = some q) : Met l yX4_forget (Cond.code yX4_forget cX4_forget 1 none :: TB) ({ frames := 0, cells := 0, slots := 0, locals := 0 } : Room) (va_Pc [.ref (g_ad G 4)] (GW G lam σ)) (Rv q G lam) 0 0 (g_A G) := by
  refine mk_Qv (own := RX4) (by decide) (Nat.le_of_ble_eq_true rfl) rfl (fun p e s m args below meth c C hr hlocks hP ls hl => ?_)
  have hx := C.1
  have hb := C.2.1
  have hl : lv_has ls 1 [(0, .ref (g_ad G 4))] := hl
  have hS : va_S (g_A G) s.heap s.heap [] := va_S.rf
  unfold f_X4_forget at h
  refine lv_aload_n hx hb dX4_forget_0 rfl (lv_at hl 0 rfl) ?_
  refine lv_iconst (v := 0) hx hb dX4_forget_1 (by decide) ?_
  refine pf_X4_19_4 C hP hS dX4_forget_2 (fun H locs hP hS => ?_)
  obtain ⟨σ3, e4, h⟩ := bnd h
  have hP := hPn e4 hP
  exact ret_v C hr hlocks hP hS h dX4_forget_5
set_option maxHeartbeats 4000000 in
set_option maxRecDepth 100000 in
theorem c_X6_legCount_2 {l : Launch} {G : GT} {lam : Lm} {σ : St} {q : Int32 × St} (h : f_X6_legCount 14 σ = some q) : Met l yX6_legCount (Cond.code yX6_legCount cX6_legCount 1 ((some .int)) :: TB) ({ frames := 0, cells := 0, slots := 0, locals := 0 } : Room) (va_Pc [.ref (g_ad G 2)] (GW G lam σ)) (Ri q G lam) 0 0 (g_A G) := by
  refine mk_Qi (own := RX6) (by decide) (Nat.le_of_ble_eq_true rfl) rfl (fun p e s m args below meth c C hr hlocks hP ls hl => ?_)
  have hx := C.1
  have hb := C.2.1
  have hl : lv_has ls 1 [(0, .ref (g_ad G 2))] := hl
  have hS : va_S (g_A G) s.heap s.heap [] := va_S.rf
  unfold f_X6_legCount at h
  refine lv_aload_n hx hb dX6_legCount_0 rfl (lv_at hl 0 rfl) ?_
  refine gf_X6_11_2 C hP dX6_legCount_1 ?_
  refine lv_bipush (v := 77) hx hb dX6_legCount_4 (by decide) ?_
  refine r_aldc C hP 14 (by decide) rfl (j := 77) (by decide) (vp_in_iff.mpr (by decide)) dX6_legCount_6 ?_
  exact ret_i C hr hlocks hP hS h dX6_legCount_7
set_option maxHeartbeats 4000000 in
set_option maxRecDepth 100000 in
theorem c_X10_sheet {l : Launch} {G : GT} {lam : Lm} {σ : St} {q : Int32 × St} (h : f_X10_sheet σ = some q) : Met l yX10_sheet (Cond.code yX10_sheet cX10_sheet 2 ((some .int)) :: TB) ({ frames := 8, cells := 0, slots := 0, locals := 177 } : Room) (va_Pc [.ref (g_ad G 0)] (GW G lam σ)) (Ri q G lam) 0 0 (g_A G) := by
  refine mk_Qi (own := RX10) (by decide) (Nat.le_of_ble_eq_true rfl) rfl (fun p e s m args below meth c C hr hlocks hP ls hl => ?_)
  have hx := C.1
  have hb := C.2.1
  have hl : lv_has ls 2 [(0, .ref (g_ad G 0))] := hl
  have hS : va_S (g_A G) s.heap s.heap [] := va_S.rf
  unfold f_X10_sheet at h
  refine lv_aload_n hx hb dX10_sheet_0 rfl (lv_at hl 0 rfl) ?_
  refine gf_X10_28_0 C hP dX10_sheet_1 ?_
  obtain ⟨q14, e15, h⟩ := bnd h
  refine call_i C hP hS (c_X5_readTape e15) mi_X5_readTape mw_425 3 (by decide) rfl rfl ⟨Nat.le_of_ble_eq_true rfl, Nat.le_of_ble_eq_true rfl⟩ (As := []) rfl hl.1 rfl (lv_room (Nat.le_of_ble_eq_true rfl)) dX10_sheet_4 (fun H locs hP hS => ?_)
  refine lv_istore_n (lv' := [(1, .int q14.1), (0, .ref (g_ad G 0))]) hx hb dX10_sheet_7 rfl hl (by decide) rfl (fun ls hl => ?_)
  refine lv_aload_n hx hb dX10_sheet_8 rfl (lv_at hl 1 rfl) ?_
  refine gf_X10_10_0 C hP dX10_sheet_9 ?_
  obtain ⟨q16, e17, h⟩ := bnd h
  refine call_v C hP hS (c_X7_clear e17) mi_X7_clear mw_633 1 (by decide) rfl rfl ⟨Nat.le_of_ble_eq_true rfl, Nat.le_of_ble_eq_true rfl⟩ (As := []) rfl hl.1 rfl (lv_room (Nat.le_of_ble_eq_true rfl)) dX10_sheet_12 (fun H locs hP hS => ?_)
  refine lv_iload_n hx hb dX10_sheet_15 rfl (lv_at hl 0 rfl) ?_
  refine lv_if_ne (tgt := 41) hx hb dX10_sheet_16 (by decide) (fun c18 => ?_) (fun c18 => ?_)
  · replace h := h_f c18 h
    refine lv_aload_n hx hb dX10_sheet_41 rfl (lv_at hl 1 rfl) ?_
    refine gf_X10_19_0 C hP dX10_sheet_42 ?_
    refine lv_aload_n hx hb dX10_sheet_45 rfl (lv_at hl 1 rfl) ?_
    refine gf_X10_28_0 C hP dX10_sheet_46 ?_
    refine gf_X10_110_3 C hP dX10_sheet_49 ?_
    obtain ⟨q19, e20, h⟩ := bnd h
    refine call_v C hP hS (c_X6_copyFrom_2_11 e20) mi_X6_copyFrom mw_638 2 (by decide) rfl rfl ⟨Nat.le_of_ble_eq_true rfl, Nat.le_of_ble_eq_true rfl⟩ (As := [.ref (g_ad G 11)]) rfl hl.1 rfl (lv_room (Nat.le_of_ble_eq_true rfl)) dX10_sheet_52 (fun H locs hP hS => ?_)
    refine lv_aload_n hx hb dX10_sheet_55 rfl (lv_at hl 1 rfl) ?_
    refine gf_X10_35_0 C hP dX10_sheet_56 ?_
    obtain ⟨q21, e22, h⟩ := bnd h
    refine call_v C hP hS (c_X4_forget e22) mi_X4_forget mw_645 4 (by decide) rfl rfl ⟨Nat.le_of_ble_eq_true rfl, Nat.le_of_ble_eq_true rfl⟩ (As := []) rfl hl.1 rfl (lv_room (Nat.le_of_ble_eq_true rfl)) dX10_sheet_59 (fun H locs hP hS => ?_)
    refine lv_aload_n hx hb dX10_sheet_62 rfl (lv_at hl 1 rfl) ?_
    refine gf_X10_19_0 C hP dX10_sheet_63 ?_
    obtain ⟨q23, e24, h⟩ := bnd h
    refine call_i C hP hS (c_X6_legCount_2 e24) mi_X6_legCount mw_649 2 (by decide) rfl rfl ⟨Nat.le_of_ble_eq_true rfl, Nat.le_of_ble_eq_true rfl⟩ (As := []) rfl hl.1 rfl (lv_room (Nat.le_of_ble_eq_true rfl)) dX10_sheet_66 (fun H locs hP hS => ?_)
    exact ret_i C hr hlocks hP hS h dX10_sheet_69
  · replace h := h_t c18 h
    refine lv_aload_n hx hb dX10_sheet_19 rfl (lv_at hl 1 rfl) ?_
    refine lv_aload_n hx hb dX10_sheet_20 rfl (lv_at hl 1 rfl) ?_
    refine gf_X10_28_0 C hP dX10_sheet_21 ?_
    refine gf_X10_103_3 C hP dX10_sheet_24 ?_
    refine pf_X10_79_0 C hP hS dX10_sheet_27 (fun H locs hP hS => ?_)
    obtain ⟨σ25, e26, h⟩ := bnd h
    have hP := hPn e26 hP
    refine lv_ldc hx hb C.2.2.2.1 (C.2.2.2.2.1 _ mw_637) dX10_sheet_30 ?_
    refine lv_aload_n hx hb dX10_sheet_32 rfl (lv_at hl 1 rfl) ?_
    refine gf_X10_28_0 C hP dX10_sheet_33 ?_
    refine gf_X10_107_3 C hP dX10_sheet_36 ?_
    refine lv_isub hx hb dX10_sheet_39 ?_
    exact ret_i C hr hlocks hP hS h dX10_sheet_40
set_option maxHeartbeats 4000000 in
set_option maxRecDepth 100000 in
theorem c_X10_fault {l : Launch} {G : GT} {lam : Lm} {σ : St} {q : Int32 × St} (h : f_X10_fault σ = some q) : Met l yX10_fault (Cond.code yX10_fault cX10_fault 1 ((some .int)) :: TB) ({ frames := 0, cells := 0, slots := 0, locals := 0 } : Room) (va_Pc [.ref (g_ad G 0)] (GW G lam σ)) (Ri q G lam) 0 0 (g_A G) := by
  refine mk_Qi (own := RX10) (by decide) (Nat.le_of_ble_eq_true rfl) rfl (fun p e s m args below meth c C hr hlocks hP ls hl => ?_)
  have hx := C.1
  have hb := C.2.1
  have hl : lv_has ls 1 [(0, .ref (g_ad G 0))] := hl
  have hS : va_S (g_A G) s.heap s.heap [] := va_S.rf
  unfold f_X10_fault at h
  refine lv_aload_n hx hb dX10_fault_0 rfl (lv_at hl 0 rfl) ?_
  refine gf_X10_79_0 C hP dX10_fault_1 ?_
  exact ret_i C hr hlocks hP hS h dX10_fault_4
set_option maxHeartbeats 4000000 in
set_option maxRecDepth 100000 in
theorem c_X2_nameOf {l : Launch} {G : GT} {lam : Lm} {σ : St} {a1 : Int32} {q : Nat × St} (h : f_X2_nameOf σ a1 = some q) : Met l yX2_nameOf (Cond.code yX2_nameOf cX2_nameOf 1 ((some (.object "java/lang/String"))) :: TB) ({ frames := 0, cells := 0, slots := 0, locals := 0 } : Room) (va_Pc [.int a1] (GW G lam σ)) (Rs q G lam) 0 0 (g_A G) := by
  refine mk_Qs (own := RX2) (by decide) (Nat.le_of_ble_eq_true rfl) rfl (fun p e s m args below meth c C hr hlocks hP ls hl => ?_)
  have hx := C.1
  have hb := C.2.1
  have hl : lv_has ls 1 [(0, .int a1)] := hl
  have hS : va_S (g_A G) s.heap s.heap [] := va_S.rf
  unfold f_X2_nameOf at h
  refine lv_iload_n hx hb dX2_nameOf_0 rfl (lv_at hl 0 rfl) ?_
  refine lv_bipush (v := 15) hx hb dX2_nameOf_1 (by decide) ?_
  refine lv_iand hx hb dX2_nameOf_3 ?_
  by_cases c16 : (a1 &&& 15) = 0
  · replace h := h_t c16 h
    refine r_eq c16 ?_
    refine lv_tableIn (off := 76) (tgt := 80) hx hb dX2_nameOf_4 (by decide) (by decide) (by decide) (by decide) ?_
    refine va_ldcS hx hb C.2.2.2.1 (C.2.2.2.2.2.2.2.2.2.2.2.2.2.1 0 (by decide)) dX2_nameOf_80 ?_
    exact ret_s C hr hlocks (Or.inl ⟨_, rfl⟩) hP hS h dX2_nameOf_82
  replace h := h_f c16 h
  by_cases c17 : (a1 &&& 15) = 1
  · replace h := h_t c17 h
    refine r_eq c17 ?_
    refine lv_tableIn (off := 79) (tgt := 83) hx hb dX2_nameOf_4 (by decide) (by decide) (by decide) (by decide) ?_
    refine va_ldcS hx hb C.2.2.2.1 (C.2.2.2.2.2.2.2.2.2.2.2.2.2.1 1 (by decide)) dX2_nameOf_83 ?_
    exact ret_s C hr hlocks (Or.inl ⟨_, rfl⟩) hP hS h dX2_nameOf_85
  replace h := h_f c17 h
  by_cases c18 : (a1 &&& 15) = 2
  · replace h := h_t c18 h
    refine r_eq c18 ?_
    refine lv_tableIn (off := 82) (tgt := 86) hx hb dX2_nameOf_4 (by decide) (by decide) (by decide) (by decide) ?_
    refine va_ldcS hx hb C.2.2.2.1 (C.2.2.2.2.2.2.2.2.2.2.2.2.2.1 2 (by decide)) dX2_nameOf_86 ?_
    exact ret_s C hr hlocks (Or.inl ⟨_, rfl⟩) hP hS h dX2_nameOf_88
  replace h := h_f c18 h
  by_cases c19 : (a1 &&& 15) = 3
  · replace h := h_t c19 h
    refine r_eq c19 ?_
    refine lv_tableIn (off := 85) (tgt := 89) hx hb dX2_nameOf_4 (by decide) (by decide) (by decide) (by decide) ?_
    refine va_ldcS hx hb C.2.2.2.1 (C.2.2.2.2.2.2.2.2.2.2.2.2.2.1 3 (by decide)) dX2_nameOf_89 ?_
    exact ret_s C hr hlocks (Or.inl ⟨_, rfl⟩) hP hS h dX2_nameOf_91
  replace h := h_f c19 h
  by_cases c20 : (a1 &&& 15) = 4
  · replace h := h_t c20 h
    refine r_eq c20 ?_
    refine lv_tableIn (off := 88) (tgt := 92) hx hb dX2_nameOf_4 (by decide) (by decide) (by decide) (by decide) ?_
    refine va_ldcS hx hb C.2.2.2.1 (C.2.2.2.2.2.2.2.2.2.2.2.2.2.1 4 (by decide)) dX2_nameOf_92 ?_
    exact ret_s C hr hlocks (Or.inl ⟨_, rfl⟩) hP hS h dX2_nameOf_94
  replace h := h_f c20 h
  by_cases c21 : (a1 &&& 15) = 5
  · replace h := h_t c21 h
    refine r_eq c21 ?_
    refine lv_tableIn (off := 91) (tgt := 95) hx hb dX2_nameOf_4 (by decide) (by decide) (by decide) (by decide) ?_
    refine va_ldcS hx hb C.2.2.2.1 (C.2.2.2.2.2.2.2.2.2.2.2.2.2.1 5 (by decide)) dX2_nameOf_95 ?_
    exact ret_s C hr hlocks (Or.inl ⟨_, rfl⟩) hP hS h dX2_nameOf_97
  replace h := h_f c21 h
  by_cases c22 : (a1 &&& 15) = 6
  · replace h := h_t c22 h
    refine r_eq c22 ?_
    refine lv_tableIn (off := 94) (tgt := 98) hx hb dX2_nameOf_4 (by decide) (by decide) (by decide) (by decide) ?_
    refine va_ldcS hx hb C.2.2.2.1 (C.2.2.2.2.2.2.2.2.2.2.2.2.2.1 6 (by decide)) dX2_nameOf_98 ?_
    exact ret_s C hr hlocks (Or.inl ⟨_, rfl⟩) hP hS h dX2_nameOf_100
  replace h := h_f c22 h
  by_cases c23 : (a1 &&& 15) = 7
  · replace h := h_t c23 h
    refine r_eq c23 ?_
    refine lv_tableIn (off := 97) (tgt := 101) hx hb dX2_nameOf_4 (by decide) (by decide) (by decide) (by decide) ?_
    refine va_ldcS hx hb C.2.2.2.1 (C.2.2.2.2.2.2.2.2.2.2.2.2.2.1 7 (by decide)) dX2_nameOf_101 ?_
    exact ret_s C hr hlocks (Or.inl ⟨_, rfl⟩) hP hS h dX2_nameOf_103
  replace h := h_f c23 h
  by_cases c24 : (a1 &&& 15) = 8
  · replace h := h_t c24 h
    refine r_eq c24 ?_
    refine lv_tableIn (off := 100) (tgt := 104) hx hb dX2_nameOf_4 (by decide) (by decide) (by decide) (by decide) ?_
    refine va_ldcS hx hb C.2.2.2.1 (C.2.2.2.2.2.2.2.2.2.2.2.2.2.1 8 (by decide)) dX2_nameOf_104 ?_
    exact ret_s C hr hlocks (Or.inl ⟨_, rfl⟩) hP hS h dX2_nameOf_106
  replace h := h_f c24 h
  by_cases c25 : (a1 &&& 15) = 9
  · replace h := h_t c25 h
    refine r_eq c25 ?_
    refine lv_tableIn (off := 103) (tgt := 107) hx hb dX2_nameOf_4 (by decide) (by decide) (by decide) (by decide) ?_
    refine va_ldcS hx hb C.2.2.2.1 (C.2.2.2.2.2.2.2.2.2.2.2.2.2.1 9 (by decide)) dX2_nameOf_107 ?_
    exact ret_s C hr hlocks (Or.inl ⟨_, rfl⟩) hP hS h dX2_nameOf_109
  replace h := h_f c25 h
  by_cases c26 : (a1 &&& 15) = 10
  · replace h := h_t c26 h
    refine r_eq c26 ?_
    refine lv_tableIn (off := 106) (tgt := 110) hx hb dX2_nameOf_4 (by decide) (by decide) (by decide) (by decide) ?_
    refine va_ldcS hx hb C.2.2.2.1 (C.2.2.2.2.2.2.2.2.2.2.2.2.2.1 10 (by decide)) dX2_nameOf_110 ?_
    exact ret_s C hr hlocks (Or.inl ⟨_, rfl⟩) hP hS h dX2_nameOf_112
  replace h := h_f c26 h
  by_cases c27 : (a1 &&& 15) = 11
  · replace h := h_t c27 h
    refine r_eq c27 ?_
    refine lv_tableIn (off := 109) (tgt := 113) hx hb dX2_nameOf_4 (by decide) (by decide) (by decide) (by decide) ?_
    refine va_ldcS hx hb C.2.2.2.1 (C.2.2.2.2.2.2.2.2.2.2.2.2.2.1 11 (by decide)) dX2_nameOf_113 ?_
    exact ret_s C hr hlocks (Or.inl ⟨_, rfl⟩) hP hS h dX2_nameOf_115
  replace h := h_f c27 h
  by_cases c28 : (a1 &&& 15) = 12
  · replace h := h_t c28 h
    refine r_eq c28 ?_
    refine lv_tableIn (off := 112) (tgt := 116) hx hb dX2_nameOf_4 (by decide) (by decide) (by decide) (by decide) ?_
    refine va_ldcS hx hb C.2.2.2.1 (C.2.2.2.2.2.2.2.2.2.2.2.2.2.1 12 (by decide)) dX2_nameOf_116 ?_
    exact ret_s C hr hlocks (Or.inl ⟨_, rfl⟩) hP hS h dX2_nameOf_118
  replace h := h_f c28 h
  by_cases c29 : (a1 &&& 15) = 13
  · replace h := h_t c29 h
    refine r_eq c29 ?_
    refine lv_tableIn (off := 115) (tgt := 119) hx hb dX2_nameOf_4 (by decide) (by decide) (by decide) (by decide) ?_
    refine va_ldcS hx hb C.2.2.2.1 (C.2.2.2.2.2.2.2.2.2.2.2.2.2.1 13 (by decide)) dX2_nameOf_119 ?_
    exact ret_s C hr hlocks (Or.inl ⟨_, rfl⟩) hP hS h dX2_nameOf_121
  replace h := h_f c29 h
  by_cases c30 : (a1 &&& 15) = 14
  · replace h := h_t c30 h
    refine r_eq c30 ?_
    refine lv_tableIn (off := 118) (tgt := 122) hx hb dX2_nameOf_4 (by decide) (by decide) (by decide) (by decide) ?_
    refine va_ldcS hx hb C.2.2.2.1 (C.2.2.2.2.2.2.2.2.2.2.2.2.2.1 14 (by decide)) dX2_nameOf_122 ?_
    exact ret_s C hr hlocks (Or.inl ⟨_, rfl⟩) hP hS h dX2_nameOf_124
  replace h := h_f c30 h
  refine lv_tableOut (tgt := 125) hx hb dX2_nameOf_4 (by have hz := And.intro (ne_i (z := 0) (by decide) c16) (And.intro (ne_i (z := 1) (by decide) c17) (And.intro (ne_i (z := 2) (by decide) c18) (And.intro (ne_i (z := 3) (by decide) c19) (And.intro (ne_i (z := 4) (by decide) c20) (And.intro (ne_i (z := 5) (by decide) c21) (And.intro (ne_i (z := 6) (by decide) c22) (And.intro (ne_i (z := 7) (by decide) c23) (And.intro (ne_i (z := 8) (by decide) c24) (And.intro (ne_i (z := 9) (by decide) c25) (And.intro (ne_i (z := 10) (by decide) c26) (And.intro (ne_i (z := 11) (by decide) c27) (And.intro (ne_i (z := 12) (by decide) c28) (And.intro (ne_i (z := 13) (by decide) c29) (ne_i (z := 14) (by decide) c30)))))))))))))); omega) (by decide) ?_
  refine va_ldcS hx hb C.2.2.2.1 (C.2.2.2.2.2.2.2.2.2.2.2.2.2.1 15 (by decide)) dX2_nameOf_125 ?_
  exact ret_s C hr hlocks (Or.inl ⟨_, rfl⟩) hP hS h dX2_nameOf_127
set_option maxHeartbeats 4000000 in
set_option maxRecDepth 100000 in
theorem c_J3_checkIndex_8e157_n {l : Launch} {G : GT} {lam : Lm} {σ : St} {a1 : Int32} {a2 : Int32} {q : Int32 × St} (h : f_J3_checkIndex_8e157 σ a1 a2 = some q) : Met l yJ3_checkIndex_8e157 (Cond.code yJ3_checkIndex_8e157 cJ3_checkIndex_8e157 3 ((some .int)) :: TB) ({ frames := 0, cells := 0, slots := 0, locals := 0 } : Room) (va_Pc [.int a1, .int a2, .null] (GW G lam σ)) (Ri q G lam) 0 0 (g_A G) := by
  refine mk_Qi (own := RJ3) (by decide) (Nat.le_of_ble_eq_true rfl) rfl (fun p e s m args below meth c C hr hlocks hP ls hl => ?_)
  have hx := C.1
  have hb := C.2.1
  have hl : lv_has ls 3 [(0, .int a1), (1, .int a2), (2, .null)] := hl
  have hS : va_S (g_A G) s.heap s.heap [] := va_S.rf
  unfold f_J3_checkIndex_8e157 at h
  refine lv_iload_n hx hb dJ3_checkIndex_8e157_0 rfl (lv_at hl 0 rfl) ?_
  refine lv_if_lt (tgt := 9) hx hb dJ3_checkIndex_8e157_1 (by decide) (fun c3 => ?_) (fun c3 => ?_)
  · replace h := h_t c3 h
    cases h
  · replace h := h_f c3 h
    refine lv_iload_n hx hb dJ3_checkIndex_8e157_4 rfl (lv_at hl 0 rfl) ?_
    refine lv_iload_n hx hb dJ3_checkIndex_8e157_5 rfl (lv_at hl 1 rfl) ?_
    refine lv_icmp_lt (tgt := 16) hx hb dJ3_checkIndex_8e157_6 (by decide) (fun c4 => ?_) (fun c4 => ?_)
    · replace h := h_t c4 h
      refine lv_iload_n hx hb dJ3_checkIndex_8e157_16 rfl (lv_at hl 0 rfl) ?_
      exact ret_i C hr hlocks hP hS h dJ3_checkIndex_8e157_17
    · replace h := h_f c4 h
      cases h
set_option maxHeartbeats 4000000 in
set_option maxRecDepth 100000 in
theorem c_J3_checkIndex_8e157_w {l : Launch} {G : GT} {lam : Lm} {σ : St} {a1 : Int32} {a2 : Int32} {a3 : Nat} {q : Int32 × St} (h : f_J3_checkIndex_8e157 σ a1 a2 = some q) : Met l yJ3_checkIndex_8e157 (Cond.code yJ3_checkIndex_8e157 cJ3_checkIndex_8e157 3 ((some .int)) :: TB) ({ frames := 0, cells := 0, slots := 0, locals := 0 } : Room) (va_Pc [.int a1, .int a2, .ref a3] (GW G lam σ)) (Ri q G lam) 0 0 (g_A G) := by
  refine mk_Qi (own := RJ3) (by decide) (Nat.le_of_ble_eq_true rfl) rfl (fun p e s m args below meth c C hr hlocks hP ls hl => ?_)
  have hx := C.1
  have hb := C.2.1
  have hl : lv_has ls 3 [(0, .int a1), (1, .int a2), (2, .ref a3)] := hl
  have hS : va_S (g_A G) s.heap s.heap [] := va_S.rf
  unfold f_J3_checkIndex_8e157 at h
  refine lv_iload_n hx hb dJ3_checkIndex_8e157_0 rfl (lv_at hl 0 rfl) ?_
  refine lv_if_lt (tgt := 9) hx hb dJ3_checkIndex_8e157_1 (by decide) (fun c3 => ?_) (fun c3 => ?_)
  · replace h := h_t c3 h
    cases h
  · replace h := h_f c3 h
    refine lv_iload_n hx hb dJ3_checkIndex_8e157_4 rfl (lv_at hl 0 rfl) ?_
    refine lv_iload_n hx hb dJ3_checkIndex_8e157_5 rfl (lv_at hl 1 rfl) ?_
    refine lv_icmp_lt (tgt := 16) hx hb dJ3_checkIndex_8e157_6 (by decide) (fun c4 => ?_) (fun c4 => ?_)
    · replace h := h_t c4 h
      refine lv_iload_n hx hb dJ3_checkIndex_8e157_16 rfl (lv_at hl 0 rfl) ?_
      exact ret_i C hr hlocks hP hS h dJ3_checkIndex_8e157_17
    · replace h := h_f c4 h
      cases h
set_option maxHeartbeats 4000000 in
set_option maxRecDepth 100000 in
theorem c_J0_checkIndex_df160 {l : Launch} {G : GT} {lam : Lm} {σ : St} {a1 : Int32} {a2 : Int32} {q : St} (h : f_J0_checkIndex_df160 σ a1 a2 = some q) : Met l yJ0_checkIndex_df160 (Cond.code yJ0_checkIndex_df160 cJ0_checkIndex_df160 2 none :: TB) ({ frames := 1, cells := 0, slots := 0, locals := 22 } : Room) (va_Pc [.int a1, .int a2] (GW G lam σ)) (Rv q G lam) 0 0 (g_A G) := by
  refine mk_Qv (own := RJ0) (by decide) (Nat.le_of_ble_eq_true rfl) rfl (fun p e s m args below meth c C hr hlocks hP ls hl => ?_)
  have hx := C.1
  have hb := C.2.1
  have hl : lv_has ls 2 [(0, .int a1), (1, .int a2)] := hl
  have hS : va_S (g_A G) s.heap s.heap [] := va_S.rf
  unfold f_J0_checkIndex_df160 at h
  refine lv_iload_n hx hb dJ0_checkIndex_df160_0 rfl (lv_at hl 0 rfl) ?_
  refine lv_iload_n hx hb dJ0_checkIndex_df160_1 rfl (lv_at hl 1 rfl) ?_
  rcases C.2.2.2.2.2.2.2.2.2.2.2.2.2.2.2.2 with hz | ⟨t9, hz⟩
  · refine va_gets hx hb hz hS C.2.2.2.1 (C.2.2.2.2.1 _ mw_558) (fun _ h9 => h9) dJ0_checkIndex_df160_2 ?_
    obtain ⟨q5, e6, h⟩ := bnd h
    refine scall_i C hP hS (c_J3_checkIndex_8e157_n e6) ms_J3_checkIndex_8e157 mw_698 ⟨Nat.le_of_ble_eq_true rfl, Nat.le_of_ble_eq_true rfl⟩ (As := [.int a1, .int a2, .null]) rfl hl.1 rfl (lv_room (Nat.le_of_ble_eq_true rfl)) dJ0_checkIndex_df160_5 (fun H locs hP hS => ?_)
    refine lv_pop hx hb dJ0_checkIndex_df160_8 rfl ?_
    exact ret_v C hr hlocks hP hS h dJ0_checkIndex_df160_9
  · refine va_gets hx hb hz hS C.2.2.2.1 (C.2.2.2.2.1 _ mw_558) (fun _ h9 => h9) dJ0_checkIndex_df160_2 ?_
    obtain ⟨q7, e8, h⟩ := bnd h
    refine scall_i C hP hS (c_J3_checkIndex_8e157_w e8) ms_J3_checkIndex_8e157 mw_698 ⟨Nat.le_of_ble_eq_true rfl, Nat.le_of_ble_eq_true rfl⟩ (As := [.int a1, .int a2, .ref t9]) rfl hl.1 rfl (lv_room (Nat.le_of_ble_eq_true rfl)) dJ0_checkIndex_df160_5 (fun H locs hP hS => ?_)
    refine lv_pop hx hb dJ0_checkIndex_df160_8 rfl ?_
    exact ret_v C hr hlocks hP hS h dJ0_checkIndex_df160_9
set_option maxHeartbeats 4000000 in
set_option maxRecDepth 100000 in
theorem c_J1_charAt_3b067 {l : Launch} {G : GT} {lam : Lm} {σ : St} {a1 : Nat} {a2 : Int32} {q : Int32 × St} (h : f_J1_charAt_3b067 σ a1 a2 = some q) : Met l yJ1_charAt_3b067 (Cond.code yJ1_charAt_3b067 cJ1_charAt_3b067 2 ((some .char)) :: TB) ({ frames := 2, cells := 0, slots := 0, locals := 43 } : Room) (va_Pc [.ref (g_sv G (a1)), .int a2] (GW G lam σ)) (Ri q G lam) 0 0 (g_A G) := by
  refine mk_Qi (own := RJ1) (by decide) (Nat.le_of_ble_eq_true rfl) rfl (fun p e s m args below meth c C hr hlocks hP ls hl => ?_)
  have hx := C.1
  have hb := C.2.1
  have hl : lv_has ls 2 [(0, .ref (g_sv G (a1))), (1, .int a2)] := hl
  have hS : va_S (g_A G) s.heap s.heap [] := va_S.rf
  unfold f_J1_charAt_3b067 at h
  refine lv_iload_n hx hb dJ1_charAt_3b067_0 rfl (lv_at hl 1 rfl) ?_
  refine lv_aload_n hx hb dJ1_charAt_3b067_1 rfl (lv_at hl 0 rfl) ?_
  obtain ⟨g7, h⟩ := h_g h
  refine va_tlen hx hb (C.2.2.2.2.2.2.2.2.2.2.2.2.1.1 _ g7).2.2.2 hS rfl dJ1_charAt_3b067_2 ?_
  obtain ⟨q8, e9, h⟩ := bnd h
  refine scall_v C hP hS (c_J0_checkIndex_df160 e9) ms_J0_checkIndex_df160 mw_695 ⟨Nat.le_of_ble_eq_true rfl, Nat.le_of_ble_eq_true rfl⟩ (As := [.int a2, .int (Int32.ofNat (g_len.getD (a1) 0))]) rfl hl.1 rfl (lv_room (Nat.le_of_ble_eq_true rfl)) dJ1_charAt_3b067_3 (fun H locs hP hS => ?_)
  refine lv_aload_n hx hb dJ1_charAt_3b067_6 rfl (lv_at hl 0 rfl) ?_
  refine lv_iload_n hx hb dJ1_charAt_3b067_7 rfl (lv_at hl 1 rfl) ?_
  obtain ⟨g10, h⟩ := h_g h
  obtain ⟨g11, h⟩ := h_g h
  refine va_tb hx hb (C.2.2.2.2.2.2.2.2.2.2.2.2.1.1 _ g10).2.2.2 hS (vp_in_iff.mpr g11) rfl dJ1_charAt_3b067_8 ?_
  refine lv_sipush (v := 255) hx hb dJ1_charAt_3b067_9 (by decide) ?_
  refine lv_iand hx hb dJ1_charAt_3b067_12 ?_
  refine lv_i2c hx hb dJ1_charAt_3b067_13 rfl ?_
  obtain ⟨g12, h⟩ := h_g h
  exact ret_c C hr hlocks hP hS h g12 dJ1_charAt_3b067_14
set_option maxHeartbeats 4000000 in
set_option maxRecDepth 100000 in
theorem c_J0_charAt_5068e {l : Launch} {G : GT} {lam : Lm} {σ : St} {a0 : Nat} {a1 : Int32} {q : Int32 × St} (h : f_J0_charAt_5068e σ a0 a1 = some q) : Met l yJ0_charAt_5068e (Cond.code yJ0_charAt_5068e cJ0_charAt_5068e 2 ((some .char)) :: TB) ({ frames := 3, cells := 0, slots := 0, locals := 64 } : Room) (va_Pc [.ref (g_sk G (a0)), .int a1] (GW G lam σ)) (Ri q G lam) 0 0 (g_A G) := by
  refine mk_Qi (own := RJ0) (by decide) (Nat.le_of_ble_eq_true rfl) rfl (fun p e s m args below meth c C hr hlocks hP ls hl => ?_)
  have hx := C.1
  have hb := C.2.1
  have hl : lv_has ls 2 [(0, .ref (g_sk G (a0))), (1, .int a1)] := hl
  have hS : va_S (g_A G) s.heap s.heap [] := va_S.rf
  unfold f_J0_charAt_5068e at h
  refine lv_aload_n hx hb dJ0_charAt_5068e_0 rfl (lv_at hl 0 rfl) ?_
  obtain ⟨g12, h⟩ := h_g h
  obtain ⟨q10, e11, h⟩ := bnd h
  refine tcall_i C hP hS (c_J0_isLatin1_aae02 e11) mi_J0_isLatin1_aae02 mw_515 g12 ⟨Nat.le_of_ble_eq_true rfl, Nat.le_of_ble_eq_true rfl⟩ (As := []) rfl hl.1 rfl (lv_room (Nat.le_of_ble_eq_true rfl)) dJ0_charAt_5068e_1 (fun H locs hP hS => ?_)
  refine lv_if_eq (tgt := 16) hx hb dJ0_charAt_5068e_4 (by decide) (fun c13 => ?_) (fun c13 => ?_)
  · replace h := h_t c13 h
    refine lv_aload_n hx hb dJ0_charAt_5068e_16 rfl (lv_at hl 0 rfl) ?_
    obtain ⟨g14, h⟩ := h_g h
    refine vk_getf hx hb (C.2.2.2.2.2.2.2.2.2.2.2.2.1.1 _ g14).2.2.1 hS C.2.2.2.1 (C.2.2.2.2.1 _ mw_1727) (fun _ h9 => h9) dJ0_charAt_5068e_17 ?_
    refine lv_iload_n hx hb dJ0_charAt_5068e_20 rfl (lv_at hl 1 rfl) ?_
    cases h
  · replace h := h_f c13 h
    refine lv_aload_n hx hb dJ0_charAt_5068e_7 rfl (lv_at hl 0 rfl) ?_
    obtain ⟨g15, h⟩ := h_g h
    refine vk_getf hx hb (C.2.2.2.2.2.2.2.2.2.2.2.2.1.1 _ g15).2.2.1 hS C.2.2.2.1 (C.2.2.2.2.1 _ mw_1727) (fun _ h9 => h9) dJ0_charAt_5068e_8 ?_
    refine lv_iload_n hx hb dJ0_charAt_5068e_11 rfl (lv_at hl 1 rfl) ?_
    obtain ⟨q16, e17, h⟩ := bnd h
    refine scall_i C hP hS (c_J1_charAt_3b067 e17) ms_J1_charAt_3b067 mw_692 ⟨Nat.le_of_ble_eq_true rfl, Nat.le_of_ble_eq_true rfl⟩ (As := [.ref (g_sv G (a0)), .int a1]) rfl hl.1 rfl (lv_room (Nat.le_of_ble_eq_true rfl)) dJ0_charAt_5068e_12 (fun H locs hP hS => ?_)
    obtain ⟨g18, h⟩ := h_g h
    exact ret_c C hr hlocks hP hS h g18 dJ0_charAt_5068e_15
set_option maxHeartbeats 4000000 in
set_option maxRecDepth 100000 in
theorem c_X7_holds {l : Launch} {G : GT} {lam : Lm} {σ : St} {a1 : Nat} {q : Int32 × St} (h : f_X7_holds σ a1 = some q) : Met l yX7_holds (Cond.code yX7_holds cX7_holds 3 ((some .boolean)) :: TB) ({ frames := 4, cells := 0, slots := 0, locals := 85 } : Room) (va_Pc [.ref (g_ad G 1), .ref (g_sk G (a1))] (GW G lam σ)) (Ri q G lam) 0 0 (g_A G) := by
  refine mk_Qi (own := RX7) (by decide) (Nat.le_of_ble_eq_true rfl) rfl (fun p e s m args below meth c C hr hlocks hP ls hl => ?_)
  have hx := C.1
  have hb := C.2.1
  have hl : lv_has ls 3 [(0, .ref (g_ad G 1)), (1, .ref (g_sk G (a1)))] := hl
  have L15 : ∀ (n15 : Nat) (σ : St) (x1 : Nat) (x2 : Int32) (H : Heap) (locs : List Loc) (ls : Array Slot), fx (F_X7_holds_h15) z_X7_holds_h15 n15 σ x1 x2 = some q → va_P (g_D G) vwCl (allW G lam σ) H → va_S (g_A G) s.heap H locs → lv_has ls 3 [(0, .ref (g_ad G 1)), (1, .ref (g_sk G (x1))), (2, .int x2)] → W p l e ({ frames := 4, cells := 0, slots := 0, locals := 85 } : Room) s m args below meth c H locs 0 0 (Qi q below args s G lam) (F0 m 15 ls []) := by
    intro n15
    induction n15 with
    | zero => intro σ x1 x2 H locs ls h hP hS hl; exact absurd h (by intro h9; cases h9)
    | succ n15 ih15 =>
      intro σ x1 x2 H locs ls h hP hS hl
      change F_X7_holds_h15 (fx (F_X7_holds_h15) z_X7_holds_h15 n15) σ x1 x2 = some q at h
      unfold F_X7_holds_h15 at h
      refine lv_iload_n hx hb dX7_holds_15 rfl (lv_at hl 2 rfl) ?_
      refine lv_aload_n hx hb dX7_holds_16 rfl (lv_at hl 1 rfl) ?_
      obtain ⟨g19, h⟩ := h_g h
      obtain ⟨q17, e18, h⟩ := bnd h
      refine tcall_i C hP hS (c_J0_length_8abf5 e18) mi_J0_length_8abf5 mw_686 g19 ⟨Nat.le_of_ble_eq_true rfl, Nat.le_of_ble_eq_true rfl⟩ (As := []) rfl hl.1 rfl (lv_room (Nat.le_of_ble_eq_true rfl)) dX7_holds_17 (fun H locs hP hS => ?_)
      refine lv_icmp_ge (tgt := 44) hx hb dX7_holds_20 (by decide) (fun c20 => ?_) (fun c20 => ?_)
      · replace h := h_t c20 h
        refine lv_iconst (v := 1) hx hb dX7_holds_44 (by decide) ?_
        exact ret_z C hr hlocks hP hS h (Or.inr rfl) dX7_holds_45
      · replace h := h_f c20 h
        refine lv_aload_n hx hb dX7_holds_23 rfl (lv_at hl 0 rfl) ?_
        refine lv_iload_n hx hb dX7_holds_24 rfl (lv_at hl 2 rfl) ?_
        obtain ⟨q21, e22, h⟩ := bnd h
        refine call_i C hP hS (c_X7_byteAt e22) mi_X7_byteAt mw_687 1 (by decide) rfl rfl ⟨Nat.le_of_ble_eq_true rfl, Nat.le_of_ble_eq_true rfl⟩ (As := [.int x2]) rfl hl.1 rfl (lv_room (Nat.le_of_ble_eq_true rfl)) dX7_holds_25 (fun H locs hP hS => ?_)
        refine lv_aload_n hx hb dX7_holds_28 rfl (lv_at hl 1 rfl) ?_
        refine lv_iload_n hx hb dX7_holds_29 rfl (lv_at hl 2 rfl) ?_
        obtain ⟨g25, h⟩ := h_g h
        obtain ⟨q23, e24, h⟩ := bnd h
        refine tcall_i C hP hS (c_J0_charAt_5068e e24) mi_J0_charAt_5068e mw_688 g25 ⟨Nat.le_of_ble_eq_true rfl, Nat.le_of_ble_eq_true rfl⟩ (As := [.int x2]) rfl hl.1 rfl (lv_room (Nat.le_of_ble_eq_true rfl)) dX7_holds_30 (fun H locs hP hS => ?_)
        refine lv_icmp_eq (tgt := 38) hx hb dX7_holds_33 (by decide) (fun c26 => ?_) (fun c26 => ?_)
        · replace h := h_t c26 h
          obtain ⟨y27, e28, h⟩ := bnd h
          refine lv_iinc (v := y27) (lv' := [(2, .int y27), (0, .ref (g_ad G 1)), (1, .ref (g_sk G (x1)))]) hx hb dX7_holds_38 hl (k := 2) rfl (Option.some.inj e28) (by decide) rfl (fun ls hl => ?_)
          refine lv_goto (tgt := 15) hx hb dX7_holds_41 (by decide) ?_
          exact ih15 _ _ _ H locs ls h hP hS (lv_sub hl [1, 2, 0] rfl)
        · replace h := h_f c26 h
          refine lv_iconst (v := 0) hx hb dX7_holds_36 (by decide) ?_
          exact ret_z C hr hlocks hP hS h (Or.inl rfl) dX7_holds_37
  have hS : va_S (g_A G) s.heap s.heap [] := va_S.rf
  unfold f_X7_holds at h
  obtain ⟨H, hH⟩ : ∃ H, H = s.heap := ⟨_, rfl⟩
  obtain ⟨locs, hlo⟩ : ∃ k : List Loc, k = [] := ⟨_, rfl⟩
  rw [← hH, ← hlo]
  rw [← hH] at hP
  replace hS : va_S (g_A G) s.heap H locs := by rw [hH, hlo]; exact hS
  refine lv_aload_n hx hb dX7_holds_0 rfl (lv_at hl 1 rfl) ?_
  obtain ⟨g31, h⟩ := h_g h
  obtain ⟨q29, e30, h⟩ := bnd h
  refine tcall_i C hP hS (c_J0_length_8abf5 e30) mi_J0_length_8abf5 mw_686 g31 ⟨Nat.le_of_ble_eq_true rfl, Nat.le_of_ble_eq_true rfl⟩ (As := []) rfl hl.1 rfl (lv_room (Nat.le_of_ble_eq_true rfl)) dX7_holds_1 (fun H locs hP hS => ?_)
  refine lv_aload_n hx hb dX7_holds_4 rfl (lv_at hl 0 rfl) ?_
  refine gf_X7_13_1 C hP dX7_holds_5 ?_
  refine lv_icmp_eq (tgt := 13) hx hb dX7_holds_8 (by decide) (fun c32 => ?_) (fun c32 => ?_)
  · replace h := h_t c32 h
    refine lv_iconst (v := 0) hx hb dX7_holds_13 (by decide) ?_
    refine lv_istore_n (lv' := [(2, .int 0), (0, .ref (g_ad G 1)), (1, .ref (g_sk G (a1)))]) hx hb dX7_holds_14 rfl hl (by decide) rfl (fun ls hl => ?_)
    exact L15 FU _ _ _ H locs ls h hP hS (lv_sub hl [1, 2, 0] rfl)
  · replace h := h_f c32 h
    refine lv_iconst (v := 0) hx hb dX7_holds_11 (by decide) ?_
    exact ret_z C hr hlocks hP hS h (Or.inl rfl) dX7_holds_12
set_option maxHeartbeats 4000000 in
set_option maxRecDepth 100000 in
theorem c_X10_course {l : Launch} {G : GT} {lam : Lm} {σ : St} {q : Int32 × St} (h : f_X10_course σ = some q) : Met l yX10_course (Cond.code yX10_course cX10_course 3 ((some .int)) :: TB) ({ frames := 5, cells := 0, slots := 0, locals := 107 } : Room) (va_Pc [.ref (g_ad G 0)] (GW G lam σ)) (Ri q G lam) 0 0 (g_A G) := by
  refine mk_Qi (own := RX10) (by decide) (Nat.le_of_ble_eq_true rfl) rfl (fun p e s m args below meth c C hr hlocks hP ls hl => ?_)
  have hx := C.1
  have hb := C.2.1
  have hl : lv_has ls 3 [(0, .ref (g_ad G 0))] := hl
  have L5 : ∀ (n5 : Nat) (σ : St) (x1 : Int32) (x2 : Int32) (H : Heap) (locs : List Loc) (ls : Array Slot), fx (F_X10_course_h5) z_X10_course_h5 n5 σ x1 x2 = some q → va_P (g_D G) vwCl (allW G lam σ) H → va_S (g_A G) s.heap H locs → lv_has ls 3 [(0, .ref (g_ad G 0)), (1, .int x1), (2, .int x2)] → W p l e ({ frames := 5, cells := 0, slots := 0, locals := 107 } : Room) s m args below meth c H locs 0 0 (Qi q below args s G lam) (F0 m 5 ls []) := by
    intro n5
    induction n5 with
    | zero => intro σ x1 x2 H locs ls h hP hS hl; exact absurd h (by intro h9; cases h9)
    | succ n5 ih5 =>
      have J27 : ∀ (σ : St) (x1 : Int32) (x2 : Int32) (H : Heap) (locs : List Loc) (ls : Array Slot), f_X10_course_p27 (fx (F_X10_course_h5) z_X10_course_h5 n5) σ x1 x2 = some q → va_P (g_D G) vwCl (allW G lam σ) H → va_S (g_A G) s.heap H locs → lv_has ls 3 [(0, .ref (g_ad G 0)), (1, .int x1), (2, .int x2)] → W p l e ({ frames := 5, cells := 0, slots := 0, locals := 107 } : Room) s m args below meth c H locs 0 0 (Qi q below args s G lam) (F0 m 27 ls []) := by
        intro σ x1 x2 H locs ls h hP hS hl
        unfold f_X10_course_p27 at h
        obtain ⟨y11, e12, h⟩ := bnd h
        refine lv_iinc (v := y11) (lv' := [(2, .int y11), (0, .ref (g_ad G 0)), (1, .int x1)]) hx hb dX10_course_27 hl (k := 2) rfl (Option.some.inj e12) (by decide) rfl (fun ls hl => ?_)
        refine lv_goto (tgt := 5) hx hb dX10_course_30 (by decide) ?_
        exact ih5 _ _ _ H locs ls h hP hS (lv_sub hl [1, 2, 0] rfl)
      intro σ x1 x2 H locs ls h hP hS hl
      change F_X10_course_h5 (fx (F_X10_course_h5) z_X10_course_h5 n5) σ x1 x2 = some q at h
      unfold F_X10_course_h5 at h
      refine lv_iload_n hx hb dX10_course_5 rfl (lv_at hl 2 rfl) ?_
      refine lv_bipush (v := 16) hx hb dX10_course_6 (by decide) ?_
      refine lv_icmp_ge (tgt := 33) hx hb dX10_course_8 (by decide) (fun c13 => ?_) (fun c13 => ?_)
      · replace h := h_t c13 h
        refine lv_aload_n hx hb dX10_course_33 rfl (lv_at hl 0 rfl) ?_
        refine gf_X10_10_0 C hP dX10_course_34 ?_
        obtain ⟨q14, e15, h⟩ := bnd h
        refine call_v C hP hS (c_X7_clear e15) mi_X7_clear mw_633 1 (by decide) rfl rfl ⟨Nat.le_of_ble_eq_true rfl, Nat.le_of_ble_eq_true rfl⟩ (As := []) rfl hl.1 rfl (lv_room (Nat.le_of_ble_eq_true rfl)) dX10_course_37 (fun H locs hP hS => ?_)
        refine lv_iload_n hx hb dX10_course_40 rfl (lv_at hl 1 rfl) ?_
        exact ret_i C hr hlocks hP hS h dX10_course_41
      · replace h := h_f c13 h
        refine lv_aload_n hx hb dX10_course_11 rfl (lv_at hl 0 rfl) ?_
        refine gf_X10_10_0 C hP dX10_course_12 ?_
        refine lv_iload_n hx hb dX10_course_15 rfl (lv_at hl 2 rfl) ?_
        obtain ⟨q16, e17, h⟩ := bnd h
        refine scall_s C hP hS (c_X2_nameOf e17) ms_X2_nameOf mw_663 ⟨Nat.le_of_ble_eq_true rfl, Nat.le_of_ble_eq_true rfl⟩ (As := [.int x2]) rfl hl.1 rfl (lv_room (Nat.le_of_ble_eq_true rfl)) dX10_course_16 (fun H locs hP hS => ?_)
        obtain ⟨q18, e19, h⟩ := bnd h
        refine call_i C hP hS (c_X7_holds e19) mi_X7_holds mw_682 1 (by decide) rfl rfl ⟨Nat.le_of_ble_eq_true rfl, Nat.le_of_ble_eq_true rfl⟩ (As := [.ref (g_sk G (q16.1))]) rfl hl.1 rfl (lv_room (Nat.le_of_ble_eq_true rfl)) dX10_course_19 (fun H locs hP hS => ?_)
        refine lv_if_eq (tgt := 27) hx hb dX10_course_22 (by decide) (fun c20 => ?_) (fun c20 => ?_)
        · replace h := h_t c20 h
          exact J27 _ _ _ H locs ls h hP hS (lv_sub hl [0, 1, 2] rfl)
        · replace h := h_f c20 h
          refine lv_iload_n hx hb dX10_course_25 rfl (lv_at hl 2 rfl) ?_
          refine lv_istore_n (lv' := [(1, .int x2), (0, .ref (g_ad G 0)), (2, .int x2)]) hx hb dX10_course_26 rfl hl (by decide) rfl (fun ls hl => ?_)
          exact J27 _ _ _ H locs ls h hP hS (lv_sub hl [1, 0, 2] rfl)
  have hS : va_S (g_A G) s.heap s.heap [] := va_S.rf
  unfold f_X10_course at h
  obtain ⟨H, hH⟩ : ∃ H, H = s.heap := ⟨_, rfl⟩
  obtain ⟨locs, hlo⟩ : ∃ k : List Loc, k = [] := ⟨_, rfl⟩
  rw [← hH, ← hlo]
  rw [← hH] at hP
  replace hS : va_S (g_A G) s.heap H locs := by rw [hH, hlo]; exact hS
  refine lv_ldc hx hb C.2.2.2.1 (C.2.2.2.2.1 _ mw_662) dX10_course_0 ?_
  refine lv_istore_n (lv' := [(1, .int (-1000000)), (0, .ref (g_ad G 0))]) hx hb dX10_course_2 rfl hl (by decide) rfl (fun ls hl => ?_)
  refine lv_iconst (v := 0) hx hb dX10_course_3 (by decide) ?_
  refine lv_istore_n (lv' := [(2, .int 0), (1, .int (-1000000)), (0, .ref (g_ad G 0))]) hx hb dX10_course_4 rfl hl (by decide) rfl (fun ls hl => ?_)
  exact L5 FU _ _ _ H locs ls h hP hS (lv_sub hl [2, 1, 0] rfl)
set_option maxHeartbeats 4000000 in
set_option maxRecDepth 100000 in
theorem c_X4_size {l : Launch} {G : GT} {lam : Lm} {σ : St} {q : Int32 × St} (h : f_X4_size σ = some q) : Met l yX4_size (Cond.code yX4_size cX4_size 1 ((some .int)) :: TB) ({ frames := 0, cells := 0, slots := 0, locals := 0 } : Room) (va_Pc [.ref (g_ad G 4)] (GW G lam σ)) (Ri q G lam) 0 0 (g_A G) := by
  refine mk_Qi (own := RX4) (by decide) (Nat.le_of_ble_eq_true rfl) rfl (fun p e s m args below meth c C hr hlocks hP ls hl => ?_)
  have hx := C.1
  have hb := C.2.1
  have hl : lv_has ls 1 [(0, .ref (g_ad G 4))] := hl
  have hS : va_S (g_A G) s.heap s.heap [] := va_S.rf
  unfold f_X4_size at h
  refine lv_aload_n hx hb dX4_size_0 rfl (lv_at hl 0 rfl) ?_
  refine gf_X4_19_4 C hP dX4_size_1 ?_
  exact ret_i C hr hlocks hP hS h dX4_size_4
set_option maxHeartbeats 4000000 in
set_option maxRecDepth 100000 in
theorem c_X6_copyFromRow_2 {l : Launch} {G : GT} {lam : Lm} {σ : St} {a2 : Int32} {q : St} (h : f_X6_copyFromRow 14 σ a2 = some q) : Met l yX6_copyFromRow (Cond.code yX6_copyFromRow cX6_copyFromRow 3 none :: TB) ({ frames := 1, cells := 0, slots := 0, locals := 18 } : Room) (va_Pc [.ref (g_ad G 2), .ref (g_ad G 18), .int a2] (GW G lam σ)) (Rv q G lam) 0 0 (g_A G) := by
  refine mk_Qv (own := RX6) (by decide) (Nat.le_of_ble_eq_true rfl) rfl (fun p e s m args below meth c C hr hlocks hP ls hl => ?_)
  have hx := C.1
  have hb := C.2.1
  have hl : lv_has ls 3 [(0, .ref (g_ad G 2)), (1, .ref (g_ad G 18)), (2, .int a2)] := hl
  have hS : va_S (g_A G) s.heap s.heap [] := va_S.rf
  unfold f_X6_copyFromRow at h
  refine lv_iload_n hx hb dX6_copyFromRow_0 rfl (lv_at hl 2 rfl) ?_
  refine lv_if_lt (tgt := 28) hx hb dX6_copyFromRow_1 (by decide) (fun c6 => ?_) (fun c6 => ?_)
  · replace h := h_t c6 h
    exact ret_v C hr hlocks hP hS h dX6_copyFromRow_28
  · replace h := h_f c6 h
    refine lv_iload_n hx hb dX6_copyFromRow_4 rfl (lv_at hl 2 rfl) ?_
    refine lv_aload_n hx hb dX6_copyFromRow_5 rfl (lv_at hl 1 rfl) ?_
    refine r_alen C hP 18 (by decide) rfl (v := 1560) (by decide) dX6_copyFromRow_6 ?_
    refine lv_bipush (v := 78) hx hb dX6_copyFromRow_7 (by decide) ?_
    refine lv_idiv hx hb dX6_copyFromRow_9 (by decide) ?_
    refine lv_icmp_ge (tgt := 28) hx hb dX6_copyFromRow_10 (by decide) (fun c7 => ?_) (fun c7 => ?_)
    · replace h := h_t c7 h
      exact ret_v C hr hlocks hP hS h dX6_copyFromRow_28
    · replace h := h_f c7 h
      refine lv_aload_n hx hb dX6_copyFromRow_13 rfl (lv_at hl 1 rfl) ?_
      refine lv_iload_n hx hb dX6_copyFromRow_14 rfl (lv_at hl 2 rfl) ?_
      refine lv_bipush (v := 78) hx hb dX6_copyFromRow_15 (by decide) ?_
      refine lv_imul hx hb dX6_copyFromRow_17 ?_
      refine lv_aload_n hx hb dX6_copyFromRow_18 rfl (lv_at hl 0 rfl) ?_
      refine gf_X6_11_2 C hP dX6_copyFromRow_19 ?_
      refine lv_iconst (v := 0) hx hb dX6_copyFromRow_22 (by decide) ?_
      refine lv_bipush (v := 78) hx hb dX6_copyFromRow_23 (by decide) ?_
      obtain ⟨g8, h⟩ := h_g h
      refine r_copy C hP hS hl.1 mw_642 mw_644 mw_643 mw_101 18 14 (by decide) (by decide) (fun _ => rfl) (fun _ => rfl) g8 (Nat.le_of_ble_eq_true rfl) (Nat.le_of_ble_eq_true rfl) dX6_copyFromRow_25 (fun H locs hP hS => ?_)
      obtain ⟨σ9, e10, h⟩ := bnd h
      have hP := hPn e10 hP
      exact ret_v C hr hlocks hP hS h dX6_copyFromRow_28
set_option maxHeartbeats 4000000 in
set_option maxRecDepth 100000 in
theorem c_X4_takeBack {l : Launch} {G : GT} {lam : Lm} {σ : St} {q : St} (h : f_X4_takeBack σ = some q) : Met l yX4_takeBack (Cond.code yX4_takeBack cX4_takeBack 2 none :: TB) ({ frames := 2, cells := 0, slots := 0, locals := 40 } : Room) (va_Pc [.ref (g_ad G 4), .ref (g_ad G 2)] (GW G lam σ)) (Rv q G lam) 0 0 (g_A G) := by
  refine mk_Qv (own := RX4) (by decide) (Nat.le_of_ble_eq_true rfl) rfl (fun p e s m args below meth c C hr hlocks hP ls hl => ?_)
  have hx := C.1
  have hb := C.2.1
  have hl : lv_has ls 2 [(0, .ref (g_ad G 4)), (1, .ref (g_ad G 2))] := hl
  have J26 : ∀ (σ : St) (t0 : Int32) (H : Heap) (locs : List Loc) (ls : Array Slot), f_X4_takeBack_p26 σ t0 = some q → va_P (g_D G) vwCl (allW G lam σ) H → va_S (g_A G) s.heap H locs → lv_has ls 2 [(0, .ref (g_ad G 4)), (1, .ref (g_ad G 2))] → W p l e ({ frames := 2, cells := 0, slots := 0, locals := 40 } : Room) s m args below meth c H locs 0 0 (Qv q below args s G lam) (F0 m 26 ls [.int t0, .ref (g_ad G 4)]) := by
    intro σ t0 H locs ls h hP hS hl
    unfold f_X4_takeBack_p26 at h
    refine pf_X4_15_4 C hP hS dX4_takeBack_26 (fun H locs hP hS => ?_)
    obtain ⟨σ9, e10, h⟩ := bnd h
    have hP := hPn e10 hP
    refine lv_aload_n hx hb dX4_takeBack_29 rfl (lv_at hl 0 rfl) ?_
    refine lv_dup hx hb dX4_takeBack_30 rfl ?_
    refine gf_X4_19_4 C hP dX4_takeBack_31 ?_
    refine lv_iconst (v := 1) hx hb dX4_takeBack_34 (by decide) ?_
    refine lv_isub hx hb dX4_takeBack_35 ?_
    refine pf_X4_19_4 C hP hS dX4_takeBack_36 (fun H locs hP hS => ?_)
    obtain ⟨σ11, e12, h⟩ := bnd h
    have hP := hPn e12 hP
    refine lv_aload_n hx hb dX4_takeBack_39 rfl (lv_at hl 1 rfl) ?_
    refine lv_aload_n hx hb dX4_takeBack_40 rfl (lv_at hl 0 rfl) ?_
    refine gf_X4_11_4 C hP dX4_takeBack_41 ?_
    refine lv_aload_n hx hb dX4_takeBack_44 rfl (lv_at hl 0 rfl) ?_
    refine gf_X4_15_4 C hP dX4_takeBack_45 ?_
    obtain ⟨q13, e14, h⟩ := bnd h
    refine call_v C hP hS (c_X6_copyFromRow_2 e14) mi_X6_copyFromRow mw_721 2 (by decide) rfl rfl ⟨Nat.le_of_ble_eq_true rfl, Nat.le_of_ble_eq_true rfl⟩ (As := [.ref (g_ad G 18), .int (σ11 4 1)]) rfl hl.1 rfl (lv_room (Nat.le_of_ble_eq_true rfl)) dX4_takeBack_48 (fun H locs hP hS => ?_)
    exact ret_v C hr hlocks hP hS h dX4_takeBack_51
  have hS : va_S (g_A G) s.heap s.heap [] := va_S.rf
  unfold f_X4_takeBack at h
  obtain ⟨H, hH⟩ : ∃ H, H = s.heap := ⟨_, rfl⟩
  obtain ⟨locs, hlo⟩ : ∃ k : List Loc, k = [] := ⟨_, rfl⟩
  rw [← hH, ← hlo]
  rw [← hH] at hP
  replace hS : va_S (g_A G) s.heap H locs := by rw [hH, hlo]; exact hS
  refine lv_aload_n hx hb dX4_takeBack_0 rfl (lv_at hl 0 rfl) ?_
  refine gf_X4_19_4 C hP dX4_takeBack_1 ?_
  refine lv_if_le (tgt := 51) hx hb dX4_takeBack_4 (by decide) (fun c15 => ?_) (fun c15 => ?_)
  · replace h := h_t c15 h
    exact ret_v C hr hlocks hP hS h dX4_takeBack_51
  · replace h := h_f c15 h
    refine lv_aload_n hx hb dX4_takeBack_7 rfl (lv_at hl 0 rfl) ?_
    refine lv_aload_n hx hb dX4_takeBack_8 rfl (lv_at hl 0 rfl) ?_
    refine gf_X4_15_4 C hP dX4_takeBack_9 ?_
    refine lv_if_le (tgt := 24) hx hb dX4_takeBack_12 (by decide) (fun c16 => ?_) (fun c16 => ?_)
    · replace h := h_t c16 h
      refine lv_bipush (v := 19) hx hb dX4_takeBack_24 (by decide) ?_
      exact J26 _ _ H locs ls h hP hS (lv_sub hl [0, 1] rfl)
    · replace h := h_f c16 h
      refine lv_aload_n hx hb dX4_takeBack_15 rfl (lv_at hl 0 rfl) ?_
      refine gf_X4_15_4 C hP dX4_takeBack_16 ?_
      refine lv_iconst (v := 1) hx hb dX4_takeBack_19 (by decide) ?_
      refine lv_isub hx hb dX4_takeBack_20 ?_
      refine lv_goto (tgt := 26) hx hb dX4_takeBack_21 (by decide) ?_
      exact J26 _ _ H locs ls h hP hS (lv_sub hl [0, 1] rfl)
set_option maxHeartbeats 4000000 in
set_option maxRecDepth 100000 in
theorem c_X10_undo {l : Launch} {G : GT} {lam : Lm} {σ : St} {q : Int32 × St} (h : f_X10_undo σ = some q) : Met l yX10_undo (Cond.code yX10_undo cX10_undo 1 ((some .int)) :: TB) ({ frames := 3, cells := 0, slots := 0, locals := 61 } : Room) (va_Pc [.ref (g_ad G 0)] (GW G lam σ)) (Ri q G lam) 0 0 (g_A G) := by
  refine mk_Qi (own := RX10) (by decide) (Nat.le_of_ble_eq_true rfl) rfl (fun p e s m args below meth c C hr hlocks hP ls hl => ?_)
  have hx := C.1
  have hb := C.2.1
  have hl : lv_has ls 1 [(0, .ref (g_ad G 0))] := hl
  have hS : va_S (g_A G) s.heap s.heap [] := va_S.rf
  unfold f_X10_undo at h
  refine lv_aload_n hx hb dX10_undo_0 rfl (lv_at hl 0 rfl) ?_
  refine gf_X10_35_0 C hP dX10_undo_1 ?_
  obtain ⟨q8, e9, h⟩ := bnd h
  refine call_i C hP hS (c_X4_size e9) mi_X4_size mw_712 4 (by decide) rfl rfl ⟨Nat.le_of_ble_eq_true rfl, Nat.le_of_ble_eq_true rfl⟩ (As := []) rfl hl.1 rfl (lv_room (Nat.le_of_ble_eq_true rfl)) dX10_undo_4 (fun H locs hP hS => ?_)
  refine lv_if_ne (tgt := 13) hx hb dX10_undo_7 (by decide) (fun c10 => ?_) (fun c10 => ?_)
  · replace h := h_f c10 h
    refine lv_aload_n hx hb dX10_undo_13 rfl (lv_at hl 0 rfl) ?_
    refine gf_X10_35_0 C hP dX10_undo_14 ?_
    refine lv_aload_n hx hb dX10_undo_17 rfl (lv_at hl 0 rfl) ?_
    refine gf_X10_19_0 C hP dX10_undo_18 ?_
    obtain ⟨q11, e12, h⟩ := bnd h
    refine call_v C hP hS (c_X4_takeBack e12) mi_X4_takeBack mw_717 4 (by decide) rfl rfl ⟨Nat.le_of_ble_eq_true rfl, Nat.le_of_ble_eq_true rfl⟩ (As := [.ref (g_ad G 2)]) rfl hl.1 rfl (lv_room (Nat.le_of_ble_eq_true rfl)) dX10_undo_21 (fun H locs hP hS => ?_)
    refine lv_aload_n hx hb dX10_undo_24 rfl (lv_at hl 0 rfl) ?_
    refine gf_X10_35_0 C hP dX10_undo_25 ?_
    obtain ⟨q13, e14, h⟩ := bnd h
    refine call_i C hP hS (c_X4_size e14) mi_X4_size mw_712 4 (by decide) rfl rfl ⟨Nat.le_of_ble_eq_true rfl, Nat.le_of_ble_eq_true rfl⟩ (As := []) rfl hl.1 rfl (lv_room (Nat.le_of_ble_eq_true rfl)) dX10_undo_28 (fun H locs hP hS => ?_)
    exact ret_i C hr hlocks hP hS h dX10_undo_31
  · replace h := h_t c10 h
    refine lv_ldc hx hb C.2.2.2.1 (C.2.2.2.2.1 _ mw_716) dX10_undo_10 ?_
    exact ret_i C hr hlocks hP hS h dX10_undo_12
set_option maxHeartbeats 4000000 in
set_option maxRecDepth 100000 in
theorem c_X6_hasThing_2 {l : Launch} {G : GT} {lam : Lm} {σ : St} {a1 : Int32} {q : Int32 × St} (h : f_X6_hasThing 14 σ a1 = some q) : Met l yX6_hasThing (Cond.code yX6_hasThing cX6_hasThing 2 ((some .boolean)) :: TB) ({ frames := 0, cells := 0, slots := 0, locals := 0 } : Room) (va_Pc [.ref (g_ad G 2), .int a1] (GW G lam σ)) (Ri q G lam) 0 0 (g_A G) := by
  refine mk_Qi (own := RX6) (by decide) (Nat.le_of_ble_eq_true rfl) rfl (fun p e s m args below meth c C hr hlocks hP ls hl => ?_)
  have hx := C.1
  have hb := C.2.1
  have hl : lv_has ls 2 [(0, .ref (g_ad G 2)), (1, .int a1)] := hl
  have hS : va_S (g_A G) s.heap s.heap [] := va_S.rf
  unfold f_X6_hasThing at h
  refine lv_iload_n hx hb dX6_hasThing_0 rfl (lv_at hl 1 rfl) ?_
  refine lv_if_lt (tgt := 19) hx hb dX6_hasThing_1 (by decide) (fun c3 => ?_) (fun c3 => ?_)
  · replace h := h_t c3 h
    refine lv_iconst (v := 0) hx hb dX6_hasThing_19 (by decide) ?_
    exact ret_z C hr hlocks hP hS h (Or.inl rfl) dX6_hasThing_20
  · replace h := h_f c3 h
    refine lv_iload_n hx hb dX6_hasThing_4 rfl (lv_at hl 1 rfl) ?_
    refine lv_aload_n hx hb dX6_hasThing_5 rfl (lv_at hl 0 rfl) ?_
    refine gf_X6_11_2 C hP dX6_hasThing_6 ?_
    refine lv_bipush (v := 76) hx hb dX6_hasThing_9 (by decide) ?_
    refine r_aldc C hP 14 (by decide) rfl (j := 76) (by decide) (vp_in_iff.mpr (by decide)) dX6_hasThing_11 ?_
    refine lv_icmp_ge (tgt := 19) hx hb dX6_hasThing_12 (by decide) (fun c4 => ?_) (fun c4 => ?_)
    · replace h := h_t c4 h
      refine lv_iconst (v := 0) hx hb dX6_hasThing_19 (by decide) ?_
      exact ret_z C hr hlocks hP hS h (Or.inl rfl) dX6_hasThing_20
    · replace h := h_f c4 h
      refine lv_iconst (v := 1) hx hb dX6_hasThing_15 (by decide) ?_
      refine lv_goto (tgt := 20) hx hb dX6_hasThing_16 (by decide) ?_
      exact ret_z C hr hlocks hP hS h (Or.inr rfl) dX6_hasThing_20
set_option maxHeartbeats 4000000 in
set_option maxRecDepth 100000 in
theorem c_X6_copyToRow_2 {l : Launch} {G : GT} {lam : Lm} {σ : St} {a2 : Int32} {q : St} (h : f_X6_copyToRow 14 σ a2 = some q) : Met l yX6_copyToRow (Cond.code yX6_copyToRow cX6_copyToRow 3 none :: TB) ({ frames := 1, cells := 0, slots := 0, locals := 18 } : Room) (va_Pc [.ref (g_ad G 2), .ref (g_ad G 18), .int a2] (GW G lam σ)) (Rv q G lam) 0 0 (g_A G) := by
  refine mk_Qv (own := RX6) (by decide) (Nat.le_of_ble_eq_true rfl) rfl (fun p e s m args below meth c C hr hlocks hP ls hl => ?_)
  have hx := C.1
  have hb := C.2.1
  have hl : lv_has ls 3 [(0, .ref (g_ad G 2)), (1, .ref (g_ad G 18)), (2, .int a2)] := hl
  have hS : va_S (g_A G) s.heap s.heap [] := va_S.rf
  unfold f_X6_copyToRow at h
  refine lv_iload_n hx hb dX6_copyToRow_0 rfl (lv_at hl 2 rfl) ?_
  refine lv_if_lt (tgt := 28) hx hb dX6_copyToRow_1 (by decide) (fun c6 => ?_) (fun c6 => ?_)
  · replace h := h_t c6 h
    exact ret_v C hr hlocks hP hS h dX6_copyToRow_28
  · replace h := h_f c6 h
    refine lv_iload_n hx hb dX6_copyToRow_4 rfl (lv_at hl 2 rfl) ?_
    refine lv_aload_n hx hb dX6_copyToRow_5 rfl (lv_at hl 1 rfl) ?_
    refine r_alen C hP 18 (by decide) rfl (v := 1560) (by decide) dX6_copyToRow_6 ?_
    refine lv_bipush (v := 78) hx hb dX6_copyToRow_7 (by decide) ?_
    refine lv_idiv hx hb dX6_copyToRow_9 (by decide) ?_
    refine lv_icmp_ge (tgt := 28) hx hb dX6_copyToRow_10 (by decide) (fun c7 => ?_) (fun c7 => ?_)
    · replace h := h_t c7 h
      exact ret_v C hr hlocks hP hS h dX6_copyToRow_28
    · replace h := h_f c7 h
      refine lv_aload_n hx hb dX6_copyToRow_13 rfl (lv_at hl 0 rfl) ?_
      refine gf_X6_11_2 C hP dX6_copyToRow_14 ?_
      refine lv_iconst (v := 0) hx hb dX6_copyToRow_17 (by decide) ?_
      refine lv_aload_n hx hb dX6_copyToRow_18 rfl (lv_at hl 1 rfl) ?_
      refine lv_iload_n hx hb dX6_copyToRow_19 rfl (lv_at hl 2 rfl) ?_
      refine lv_bipush (v := 78) hx hb dX6_copyToRow_20 (by decide) ?_
      refine lv_imul hx hb dX6_copyToRow_22 ?_
      refine lv_bipush (v := 78) hx hb dX6_copyToRow_23 (by decide) ?_
      obtain ⟨g8, h⟩ := h_g h
      refine r_copy C hP hS hl.1 mw_642 mw_644 mw_643 mw_101 14 18 (by decide) (by decide) (fun _ => rfl) (fun _ => rfl) g8 (Nat.le_of_ble_eq_true rfl) (Nat.le_of_ble_eq_true rfl) dX6_copyToRow_25 (fun H locs hP hS => ?_)
      obtain ⟨σ9, e10, h⟩ := bnd h
      have hP := hPn e10 hP
      exact ret_v C hr hlocks hP hS h dX6_copyToRow_28
set_option maxHeartbeats 4000000 in
set_option maxRecDepth 100000 in
theorem c_X4_keep {l : Launch} {G : GT} {lam : Lm} {σ : St} {q : St} (h : f_X4_keep σ = some q) : Met l yX4_keep (Cond.code yX4_keep cX4_keep 2 none :: TB) ({ frames := 2, cells := 0, slots := 0, locals := 40 } : Room) (va_Pc [.ref (g_ad G 4), .ref (g_ad G 2)] (GW G lam σ)) (Rv q G lam) 0 0 (g_A G) := by
  refine mk_Qv (own := RX4) (by decide) (Nat.le_of_ble_eq_true rfl) rfl (fun p e s m args below meth c C hr hlocks hP ls hl => ?_)
  have hx := C.1
  have hb := C.2.1
  have hl : lv_has ls 2 [(0, .ref (g_ad G 4)), (1, .ref (g_ad G 2))] := hl
  have J34 : ∀ (σ : St) (t0 : Int32) (H : Heap) (locs : List Loc) (ls : Array Slot), f_X4_keep_p34 σ t0 = some q → va_P (g_D G) vwCl (allW G lam σ) H → va_S (g_A G) s.heap H locs → lv_has ls 2 [(0, .ref (g_ad G 4))] → W p l e ({ frames := 2, cells := 0, slots := 0, locals := 40 } : Room) s m args below meth c H locs 0 0 (Qv q below args s G lam) (F0 m 34 ls [.int t0, .ref (g_ad G 4)]) := by
    intro σ t0 H locs ls h hP hS hl
    unfold f_X4_keep_p34 at h
    refine pf_X4_15_4 C hP hS dX4_keep_34 (fun H locs hP hS => ?_)
    obtain ⟨σ8, e9, h⟩ := bnd h
    have hP := hPn e9 hP
    refine lv_aload_n hx hb dX4_keep_37 rfl (lv_at hl 0 rfl) ?_
    refine lv_aload_n hx hb dX4_keep_38 rfl (lv_at hl 0 rfl) ?_
    refine gf_X4_19_4 C hP dX4_keep_39 ?_
    refine lv_iconst (v := 1) hx hb dX4_keep_42 (by decide) ?_
    refine lv_iadd hx hb dX4_keep_43 ?_
    refine lv_bipush (v := 20) hx hb dX4_keep_44 (by decide) ?_
    refine va_mmin hx hb (by rw [C.2.2.1]; exact hl.1.symm) C.2.2.2.1 (C.2.2.2.2.1 _ mw_742) (C.2.2.2.2.1 _ mw_434) (C.2.2.2.2.1 _ mw_95) (C.2.2.2.2.1 _ mw_435) (Nat.le_of_ble_eq_true rfl) (Nat.le_of_ble_eq_true rfl) (Nat.zero_le _) (Nat.zero_le _) dX4_keep_46 ?_
    refine pf_X4_19_4 C hP hS dX4_keep_49 (fun H locs hP hS => ?_)
    obtain ⟨σ10, e11, h⟩ := bnd h
    have hP := hPn e11 hP
    exact ret_v C hr hlocks hP hS h dX4_keep_52
  have hS : va_S (g_A G) s.heap s.heap [] := va_S.rf
  unfold f_X4_keep at h
  obtain ⟨H, hH⟩ : ∃ H, H = s.heap := ⟨_, rfl⟩
  obtain ⟨locs, hlo⟩ : ∃ k : List Loc, k = [] := ⟨_, rfl⟩
  rw [← hH, ← hlo]
  rw [← hH] at hP
  replace hS : va_S (g_A G) s.heap H locs := by rw [hH, hlo]; exact hS
  refine lv_aload_n hx hb dX4_keep_0 rfl (lv_at hl 1 rfl) ?_
  refine lv_aload_n hx hb dX4_keep_1 rfl (lv_at hl 0 rfl) ?_
  refine gf_X4_11_4 C hP dX4_keep_2 ?_
  refine lv_aload_n hx hb dX4_keep_5 rfl (lv_at hl 0 rfl) ?_
  refine gf_X4_15_4 C hP dX4_keep_6 ?_
  obtain ⟨q12, e13, h⟩ := bnd h
  refine call_v C hP hS (c_X6_copyToRow_2 e13) mi_X6_copyToRow mw_738 2 (by decide) rfl rfl ⟨Nat.le_of_ble_eq_true rfl, Nat.le_of_ble_eq_true rfl⟩ (As := [.ref (g_ad G 18), .int (σ 4 1)]) rfl hl.1 rfl (lv_room (Nat.le_of_ble_eq_true rfl)) dX4_keep_9 (fun H locs hP hS => ?_)
  refine lv_aload_n hx hb dX4_keep_12 rfl (lv_at hl 0 rfl) ?_
  refine lv_aload_n hx hb dX4_keep_13 rfl (lv_at hl 0 rfl) ?_
  refine gf_X4_15_4 C hP dX4_keep_14 ?_
  refine lv_iconst (v := 1) hx hb dX4_keep_17 (by decide) ?_
  refine lv_iadd hx hb dX4_keep_18 ?_
  refine lv_bipush (v := 20) hx hb dX4_keep_19 (by decide) ?_
  refine lv_icmp_ge (tgt := 33) hx hb dX4_keep_21 (by decide) (fun c14 => ?_) (fun c14 => ?_)
  · replace h := h_t c14 h
    refine lv_iconst (v := 0) hx hb dX4_keep_33 (by decide) ?_
    exact J34 _ _ H locs ls h hP hS (lv_sub hl [0] rfl)
  · replace h := h_f c14 h
    refine lv_aload_n hx hb dX4_keep_24 rfl (lv_at hl 0 rfl) ?_
    refine gf_X4_15_4 C hP dX4_keep_25 ?_
    refine lv_iconst (v := 1) hx hb dX4_keep_28 (by decide) ?_
    refine lv_iadd hx hb dX4_keep_29 ?_
    refine lv_goto (tgt := 34) hx hb dX4_keep_30 (by decide) ?_
    exact J34 _ _ H locs ls h hP hS (lv_sub hl [0] rfl)
set_option maxHeartbeats 4000000 in
set_option maxRecDepth 100000 in
theorem c_X6_thingCell_2 {l : Launch} {G : GT} {lam : Lm} {σ : St} {a1 : Int32} {a2 : Int32} {q : Int32 × St} (h : f_X6_thingCell 14 σ a1 a2 = some q) : Met l yX6_thingCell (Cond.code yX6_thingCell cX6_thingCell 3 ((some .int)) :: TB) ({ frames := 0, cells := 0, slots := 0, locals := 0 } : Room) (va_Pc [.ref (g_ad G 2), .int a1, .int a2] (GW G lam σ)) (Ri q G lam) 0 0 (g_A G) := by
  refine mk_Qi (own := RX6) (by decide) (Nat.le_of_ble_eq_true rfl) rfl (fun p e s m args below meth c C hr hlocks hP ls hl => ?_)
  have hx := C.1
  have hb := C.2.1
  have hl : lv_has ls 3 [(0, .ref (g_ad G 2)), (1, .int a1), (2, .int a2)] := hl
  have hS : va_S (g_A G) s.heap s.heap [] := va_S.rf
  unfold f_X6_thingCell at h
  refine lv_iload_n hx hb dX6_thingCell_0 rfl (lv_at hl 1 rfl) ?_
  refine lv_if_lt (tgt := 19) hx hb dX6_thingCell_1 (by decide) (fun c6 => ?_) (fun c6 => ?_)
  · replace h := h_t c6 h
    refine lv_iconst (v := 0) hx hb dX6_thingCell_19 (by decide) ?_
    exact ret_i C hr hlocks hP hS h dX6_thingCell_20
  · replace h := h_f c6 h
    refine lv_iload_n hx hb dX6_thingCell_4 rfl (lv_at hl 1 rfl) ?_
    refine lv_bipush (v := 8) hx hb dX6_thingCell_5 (by decide) ?_
    refine lv_icmp_ge (tgt := 19) hx hb dX6_thingCell_7 (by decide) (fun c7 => ?_) (fun c7 => ?_)
    · replace h := h_t c7 h
      refine lv_iconst (v := 0) hx hb dX6_thingCell_19 (by decide) ?_
      exact ret_i C hr hlocks hP hS h dX6_thingCell_20
    · replace h := h_f c7 h
      refine lv_iload_n hx hb dX6_thingCell_10 rfl (lv_at hl 2 rfl) ?_
      refine lv_if_lt (tgt := 19) hx hb dX6_thingCell_11 (by decide) (fun c8 => ?_) (fun c8 => ?_)
      · replace h := h_t c8 h
        refine lv_iconst (v := 0) hx hb dX6_thingCell_19 (by decide) ?_
        exact ret_i C hr hlocks hP hS h dX6_thingCell_20
      · replace h := h_f c8 h
        refine lv_iload_n hx hb dX6_thingCell_14 rfl (lv_at hl 2 rfl) ?_
        refine lv_iconst (v := 5) hx hb dX6_thingCell_15 (by decide) ?_
        refine lv_icmp_lt (tgt := 21) hx hb dX6_thingCell_16 (by decide) (fun c9 => ?_) (fun c9 => ?_)
        · replace h := h_t c9 h
          refine lv_aload_n hx hb dX6_thingCell_21 rfl (lv_at hl 0 rfl) ?_
          refine gf_X6_11_2 C hP dX6_thingCell_22 ?_
          refine lv_bipush (v := 11) hx hb dX6_thingCell_25 (by decide) ?_
          refine lv_iload_n hx hb dX6_thingCell_27 rfl (lv_at hl 1 rfl) ?_
          refine lv_iconst (v := 5) hx hb dX6_thingCell_28 (by decide) ?_
          refine lv_imul hx hb dX6_thingCell_29 ?_
          refine lv_iadd hx hb dX6_thingCell_30 ?_
          refine lv_iload_n hx hb dX6_thingCell_31 rfl (lv_at hl 2 rfl) ?_
          refine lv_iadd hx hb dX6_thingCell_32 ?_
          obtain ⟨g10, h⟩ := h_g h
          refine r_ald C hP 14 (by decide) rfl (vp_in_iff.mpr g10) dX6_thingCell_33 ?_
          exact ret_i C hr hlocks hP hS h dX6_thingCell_34
        · replace h := h_f c9 h
          refine lv_iconst (v := 0) hx hb dX6_thingCell_19 (by decide) ?_
          exact ret_i C hr hlocks hP hS h dX6_thingCell_20
set_option maxHeartbeats 4000000 in
set_option maxRecDepth 100000 in
theorem c_X6_putThingCell_2 {l : Launch} {G : GT} {lam : Lm} {σ : St} {a1 : Int32} {a2 : Int32} {a3 : Int32} {q : Int32 × St} (h : f_X6_putThingCell 14 σ a1 a2 a3 = some q) : Met l yX6_putThingCell (Cond.code yX6_putThingCell cX6_putThingCell 5 ((some .int)) :: TB) ({ frames := 1, cells := 0, slots := 0, locals := 22 } : Room) (va_Pc [.ref (g_ad G 2), .int a1, .int a2, .int a3] (GW G lam σ)) (Ri q G lam) 0 0 (g_A G) := by
  refine mk_Qi (own := RX6) (by decide) (Nat.le_of_ble_eq_true rfl) rfl (fun p e s m args below meth c C hr hlocks hP ls hl => ?_)
  have hx := C.1
  have hb := C.2.1
  have hl : lv_has ls 5 [(0, .ref (g_ad G 2)), (1, .int a1), (2, .int a2), (3, .int a3)] := hl
  have J41 : ∀ (σ : St) (x4 : Int32) (H : Heap) (locs : List Loc) (ls : Array Slot), f_X6_putThingCell_p41 14 σ x4 = some q → va_P (g_D G) vwCl (allW G lam σ) H → va_S (g_A G) s.heap H locs → lv_has ls 5 [(4, .int x4)] → W p l e ({ frames := 1, cells := 0, slots := 0, locals := 22 } : Room) s m args below meth c H locs 0 0 (Qi q below args s G lam) (F0 m 41 ls []) := by
    intro σ x4 H locs ls h hP hS hl
    unfold f_X6_putThingCell_p41 at h
    refine lv_iload hx hb dX6_putThingCell_41 (lv_at hl 0 rfl) ?_
    exact ret_i C hr hlocks hP hS h dX6_putThingCell_43
  have hS : va_S (g_A G) s.heap s.heap [] := va_S.rf
  unfold f_X6_putThingCell at h
  obtain ⟨H, hH⟩ : ∃ H, H = s.heap := ⟨_, rfl⟩
  obtain ⟨locs, hlo⟩ : ∃ k : List Loc, k = [] := ⟨_, rfl⟩
  rw [← hH, ← hlo]
  rw [← hH] at hP
  replace hS : va_S (g_A G) s.heap H locs := by rw [hH, hlo]; exact hS
  refine lv_aload_n hx hb dX6_putThingCell_0 rfl (lv_at hl 0 rfl) ?_
  refine lv_iload_n hx hb dX6_putThingCell_1 rfl (lv_at hl 1 rfl) ?_
  refine lv_iload_n hx hb dX6_putThingCell_2 rfl (lv_at hl 2 rfl) ?_
  obtain ⟨q10, e11, h⟩ := bnd h
  refine call_i C hP hS (c_X6_thingCell_2 e11) mi_X6_thingCell mw_593 2 (by decide) rfl rfl ⟨Nat.le_of_ble_eq_true rfl, Nat.le_of_ble_eq_true rfl⟩ (As := [.int a1, .int a2]) rfl hl.1 rfl (lv_room (Nat.le_of_ble_eq_true rfl)) dX6_putThingCell_3 (fun H locs hP hS => ?_)
  refine lv_istore (lv' := [(4, .int q10.1), (0, .ref (g_ad G 2)), (1, .int a1), (2, .int a2), (3, .int a3)]) hx hb dX6_putThingCell_6 hl (by decide) rfl (fun ls hl => ?_)
  refine lv_iload_n hx hb dX6_putThingCell_8 rfl (lv_at hl 2 rfl) ?_
  refine lv_if_lt (tgt := 41) hx hb dX6_putThingCell_9 (by decide) (fun c12 => ?_) (fun c12 => ?_)
  · replace h := h_t c12 h
    exact J41 _ _ H locs ls h hP hS (lv_sub hl [0] rfl)
  · replace h := h_f c12 h
    refine lv_iload_n hx hb dX6_putThingCell_12 rfl (lv_at hl 2 rfl) ?_
    refine lv_bipush (v := 8) hx hb dX6_putThingCell_13 (by decide) ?_
    refine lv_icmp_ge (tgt := 41) hx hb dX6_putThingCell_15 (by decide) (fun c13 => ?_) (fun c13 => ?_)
    · replace h := h_t c13 h
      exact J41 _ _ H locs ls h hP hS (lv_sub hl [0] rfl)
    · replace h := h_f c13 h
      refine lv_iload_n hx hb dX6_putThingCell_18 rfl (lv_at hl 3 rfl) ?_
      refine lv_if_lt (tgt := 41) hx hb dX6_putThingCell_19 (by decide) (fun c14 => ?_) (fun c14 => ?_)
      · replace h := h_t c14 h
        exact J41 _ _ H locs ls h hP hS (lv_sub hl [0] rfl)
      · replace h := h_f c14 h
        refine lv_iload_n hx hb dX6_putThingCell_22 rfl (lv_at hl 3 rfl) ?_
        refine lv_iconst (v := 5) hx hb dX6_putThingCell_23 (by decide) ?_
        refine lv_icmp_ge (tgt := 41) hx hb dX6_putThingCell_24 (by decide) (fun c15 => ?_) (fun c15 => ?_)
        · replace h := h_t c15 h
          exact J41 _ _ H locs ls h hP hS (lv_sub hl [0] rfl)
        · replace h := h_f c15 h
          refine lv_aload_n hx hb dX6_putThingCell_27 rfl (lv_at hl 1 rfl) ?_
          refine gf_X6_11_2 C hP dX6_putThingCell_28 ?_
          refine lv_bipush (v := 11) hx hb dX6_putThingCell_31 (by decide) ?_
          refine lv_iload_n hx hb dX6_putThingCell_33 rfl (lv_at hl 2 rfl) ?_
          refine lv_iconst (v := 5) hx hb dX6_putThingCell_34 (by decide) ?_
          refine lv_imul hx hb dX6_putThingCell_35 ?_
          refine lv_iadd hx hb dX6_putThingCell_36 ?_
          refine lv_iload_n hx hb dX6_putThingCell_37 rfl (lv_at hl 3 rfl) ?_
          refine lv_iadd hx hb dX6_putThingCell_38 ?_
          refine lv_iload_n hx hb dX6_putThingCell_39 rfl (lv_at hl 4 rfl) ?_
          obtain ⟨g16, h⟩ := h_g h
          refine r_ast C hP hS 14 (by decide) (fun _ => rfl) (vp_in_iff.mpr g16) dX6_putThingCell_40 (fun H locs hP hS => ?_)
          obtain ⟨σ17, e18, h⟩ := bnd h
          have hP := hPn e18 hP
          exact J41 _ _ H locs ls h hP hS (lv_sub hl [0] rfl)
set_option maxHeartbeats 4000000 in
set_option maxRecDepth 100000 in
theorem c_X10_measure {l : Launch} {G : GT} {lam : Lm} {σ : St} {a1 : Int32} {a2 : Int32} {a3 : Int32} {q : Int32 × St} (h : f_X10_measure σ a1 a2 a3 = some q) : Met l yX10_measure (Cond.code yX10_measure cX10_measure 4 ((some .int)) :: TB) ({ frames := 3, cells := 0, slots := 0, locals := 61 } : Room) (va_Pc [.ref (g_ad G 0), .int a1, .int a2, .int a3] (GW G lam σ)) (Ri q G lam) 0 0 (g_A G) := by
  refine mk_Qi (own := RX10) (by decide) (Nat.le_of_ble_eq_true rfl) rfl (fun p e s m args below meth c C hr hlocks hP ls hl => ?_)
  have hx := C.1
  have hb := C.2.1
  have hl : lv_has ls 4 [(0, .ref (g_ad G 0)), (1, .int a1), (2, .int a2), (3, .int a3)] := hl
  have hS : va_S (g_A G) s.heap s.heap [] := va_S.rf
  unfold f_X10_measure at h
  refine lv_aload_n hx hb dX10_measure_0 rfl (lv_at hl 0 rfl) ?_
  refine gf_X10_19_0 C hP dX10_measure_1 ?_
  refine lv_iload_n hx hb dX10_measure_4 rfl (lv_at hl 1 rfl) ?_
  obtain ⟨q16, e17, h⟩ := bnd h
  refine call_i C hP hS (c_X6_hasThing_2 e17) mi_X6_hasThing mw_729 2 (by decide) rfl rfl ⟨Nat.le_of_ble_eq_true rfl, Nat.le_of_ble_eq_true rfl⟩ (As := [.int a1]) rfl hl.1 rfl (lv_room (Nat.le_of_ble_eq_true rfl)) dX10_measure_5 (fun H locs hP hS => ?_)
  refine lv_if_eq (tgt := 32) hx hb dX10_measure_8 (by decide) (fun c18 => ?_) (fun c18 => ?_)
  · replace h := h_t c18 h
    refine lv_ldc hx hb C.2.2.2.1 (C.2.2.2.2.1 _ mw_411) dX10_measure_32 ?_
    exact ret_i C hr hlocks hP hS h dX10_measure_34
  · replace h := h_f c18 h
    refine lv_iload_n hx hb dX10_measure_11 rfl (lv_at hl 2 rfl) ?_
    refine lv_iconst (v := 0) hx hb dX10_measure_12 (by decide) ?_
    refine lv_iconst (v := 3) hx hb dX10_measure_13 (by decide) ?_
    obtain ⟨q19, e20, h⟩ := bnd h
    refine scall_i C hP hS (c_X10_isWithin e20) ms_X10_isWithin mw_408 ⟨Nat.le_of_ble_eq_true rfl, Nat.le_of_ble_eq_true rfl⟩ (As := [.int a2, .int 0, .int 3]) rfl hl.1 rfl (lv_room (Nat.le_of_ble_eq_true rfl)) dX10_measure_14 (fun H locs hP hS => ?_)
    refine lv_if_eq (tgt := 32) hx hb dX10_measure_17 (by decide) (fun c21 => ?_) (fun c21 => ?_)
    · replace h := h_t c21 h
      refine lv_ldc hx hb C.2.2.2.1 (C.2.2.2.2.1 _ mw_411) dX10_measure_32 ?_
      exact ret_i C hr hlocks hP hS h dX10_measure_34
    · replace h := h_f c21 h
      refine lv_iload_n hx hb dX10_measure_20 rfl (lv_at hl 3 rfl) ?_
      refine lv_iconst (v := 0) hx hb dX10_measure_21 (by decide) ?_
      refine lv_iload_n hx hb dX10_measure_22 rfl (lv_at hl 2 rfl) ?_
      obtain ⟨q22, e23, h⟩ := bnd h
      refine scall_i C hP hS (c_X6_measureMost e23) ms_X6_measureMost mw_733 ⟨Nat.le_of_ble_eq_true rfl, Nat.le_of_ble_eq_true rfl⟩ (As := [.int a2]) rfl hl.1 rfl (lv_room (Nat.le_of_ble_eq_true rfl)) dX10_measure_23 (fun H locs hP hS => ?_)
      obtain ⟨q24, e25, h⟩ := bnd h
      refine scall_i C hP hS (c_X10_isWithin e25) ms_X10_isWithin mw_408 ⟨Nat.le_of_ble_eq_true rfl, Nat.le_of_ble_eq_true rfl⟩ (As := [.int a3, .int 0, .int q22.1]) rfl hl.1 rfl (lv_room (Nat.le_of_ble_eq_true rfl)) dX10_measure_26 (fun H locs hP hS => ?_)
      refine lv_if_ne (tgt := 35) hx hb dX10_measure_29 (by decide) (fun c26 => ?_) (fun c26 => ?_)
      · replace h := h_f c26 h
        refine lv_aload_n hx hb dX10_measure_35 rfl (lv_at hl 0 rfl) ?_
        refine gf_X10_35_0 C hP dX10_measure_36 ?_
        refine lv_aload_n hx hb dX10_measure_39 rfl (lv_at hl 0 rfl) ?_
        refine gf_X10_19_0 C hP dX10_measure_40 ?_
        obtain ⟨q27, e28, h⟩ := bnd h
        refine call_v C hP hS (c_X4_keep e28) mi_X4_keep mw_734 4 (by decide) rfl rfl ⟨Nat.le_of_ble_eq_true rfl, Nat.le_of_ble_eq_true rfl⟩ (As := [.ref (g_ad G 2)]) rfl hl.1 rfl (lv_room (Nat.le_of_ble_eq_true rfl)) dX10_measure_43 (fun H locs hP hS => ?_)
        refine lv_aload_n hx hb dX10_measure_46 rfl (lv_at hl 0 rfl) ?_
        refine gf_X10_19_0 C hP dX10_measure_47 ?_
        refine lv_iload_n hx hb dX10_measure_50 rfl (lv_at hl 1 rfl) ?_
        refine lv_iconst (v := 1) hx hb dX10_measure_51 (by decide) ?_
        refine lv_iload_n hx hb dX10_measure_52 rfl (lv_at hl 2 rfl) ?_
        refine lv_iadd hx hb dX10_measure_53 ?_
        refine lv_iload_n hx hb dX10_measure_54 rfl (lv_at hl 3 rfl) ?_
        obtain ⟨q29, e30, h⟩ := bnd h
        refine call_i C hP hS (c_X6_putThingCell_2 e30) mi_X6_putThingCell mw_743 2 (by decide) rfl rfl ⟨Nat.le_of_ble_eq_true rfl, Nat.le_of_ble_eq_true rfl⟩ (As := [.int a1, .int (1 + a2), .int a3]) rfl hl.1 rfl (lv_room (Nat.le_of_ble_eq_true rfl)) dX10_measure_55 (fun H locs hP hS => ?_)
        exact ret_i C hr hlocks hP hS h dX10_measure_58
      · replace h := h_t c26 h
        refine lv_ldc hx hb C.2.2.2.1 (C.2.2.2.2.1 _ mw_411) dX10_measure_32 ?_
        exact ret_i C hr hlocks hP hS h dX10_measure_34
set_option maxHeartbeats 4000000 in
set_option maxRecDepth 100000 in
theorem c_X10_become {l : Launch} {G : GT} {lam : Lm} {σ : St} {a1 : Int32} {a2 : Int32} {q : Int32 × St} (h : f_X10_become σ a1 a2 = some q) : Met l yX10_become (Cond.code yX10_become cX10_become 3 ((some .int)) :: TB) ({ frames := 3, cells := 0, slots := 0, locals := 61 } : Room) (va_Pc [.ref (g_ad G 0), .int a1, .int a2] (GW G lam σ)) (Ri q G lam) 0 0 (g_A G) := by
  refine mk_Qi (own := RX10) (by decide) (Nat.le_of_ble_eq_true rfl) rfl (fun p e s m args below meth c C hr hlocks hP ls hl => ?_)
  have hx := C.1
  have hb := C.2.1
  have hl : lv_has ls 3 [(0, .ref (g_ad G 0)), (1, .int a1), (2, .int a2)] := hl
  have hS : va_S (g_A G) s.heap s.heap [] := va_S.rf
  unfold f_X10_become at h
  refine lv_aload_n hx hb dX10_become_0 rfl (lv_at hl 0 rfl) ?_
  refine gf_X10_19_0 C hP dX10_become_1 ?_
  refine lv_iload_n hx hb dX10_become_4 rfl (lv_at hl 1 rfl) ?_
  obtain ⟨q14, e15, h⟩ := bnd h
  refine call_i C hP hS (c_X6_hasThing_2 e15) mi_X6_hasThing mw_729 2 (by decide) rfl rfl ⟨Nat.le_of_ble_eq_true rfl, Nat.le_of_ble_eq_true rfl⟩ (As := [.int a1]) rfl hl.1 rfl (lv_room (Nat.le_of_ble_eq_true rfl)) dX10_become_5 (fun H locs hP hS => ?_)
  refine lv_if_eq (tgt := 21) hx hb dX10_become_8 (by decide) (fun c16 => ?_) (fun c16 => ?_)
  · replace h := h_t c16 h
    refine lv_ldc hx hb C.2.2.2.1 (C.2.2.2.2.1 _ mw_411) dX10_become_21 ?_
    exact ret_i C hr hlocks hP hS h dX10_become_23
  · replace h := h_f c16 h
    refine lv_iload_n hx hb dX10_become_11 rfl (lv_at hl 2 rfl) ?_
    refine lv_iconst (v := 1) hx hb dX10_become_12 (by decide) ?_
    refine lv_bipush (v := 6) hx hb dX10_become_13 (by decide) ?_
    obtain ⟨q17, e18, h⟩ := bnd h
    refine scall_i C hP hS (c_X10_isWithin e18) ms_X10_isWithin mw_408 ⟨Nat.le_of_ble_eq_true rfl, Nat.le_of_ble_eq_true rfl⟩ (As := [.int a2, .int 1, .int 6]) rfl hl.1 rfl (lv_room (Nat.le_of_ble_eq_true rfl)) dX10_become_15 (fun H locs hP hS => ?_)
    refine lv_if_ne (tgt := 24) hx hb dX10_become_18 (by decide) (fun c19 => ?_) (fun c19 => ?_)
    · replace h := h_f c19 h
      refine lv_aload_n hx hb dX10_become_24 rfl (lv_at hl 0 rfl) ?_
      refine gf_X10_19_0 C hP dX10_become_25 ?_
      refine lv_iload_n hx hb dX10_become_28 rfl (lv_at hl 1 rfl) ?_
      refine lv_iconst (v := 0) hx hb dX10_become_29 (by decide) ?_
      obtain ⟨q20, e21, h⟩ := bnd h
      refine call_i C hP hS (c_X6_thingCell_2 e21) mi_X6_thingCell mw_748 2 (by decide) rfl rfl ⟨Nat.le_of_ble_eq_true rfl, Nat.le_of_ble_eq_true rfl⟩ (As := [.int a1, .int 0]) rfl hl.1 rfl (lv_room (Nat.le_of_ble_eq_true rfl)) dX10_become_30 (fun H locs hP hS => ?_)
      refine lv_iload_n hx hb dX10_become_33 rfl (lv_at hl 2 rfl) ?_
      refine lv_icmp_ne (tgt := 40) hx hb dX10_become_34 (by decide) (fun c22 => ?_) (fun c22 => ?_)
      · replace h := h_f c22 h
        refine lv_aload_n hx hb dX10_become_40 rfl (lv_at hl 0 rfl) ?_
        refine gf_X10_35_0 C hP dX10_become_41 ?_
        refine lv_aload_n hx hb dX10_become_44 rfl (lv_at hl 0 rfl) ?_
        refine gf_X10_19_0 C hP dX10_become_45 ?_
        obtain ⟨q23, e24, h⟩ := bnd h
        refine call_v C hP hS (c_X4_keep e24) mi_X4_keep mw_734 4 (by decide) rfl rfl ⟨Nat.le_of_ble_eq_true rfl, Nat.le_of_ble_eq_true rfl⟩ (As := [.ref (g_ad G 2)]) rfl hl.1 rfl (lv_room (Nat.le_of_ble_eq_true rfl)) dX10_become_48 (fun H locs hP hS => ?_)
        refine lv_aload_n hx hb dX10_become_51 rfl (lv_at hl 0 rfl) ?_
        refine gf_X10_19_0 C hP dX10_become_52 ?_
        refine lv_iload_n hx hb dX10_become_55 rfl (lv_at hl 1 rfl) ?_
        refine lv_iconst (v := 0) hx hb dX10_become_56 (by decide) ?_
        refine lv_iload_n hx hb dX10_become_57 rfl (lv_at hl 2 rfl) ?_
        obtain ⟨q25, e26, h⟩ := bnd h
        refine call_i C hP hS (c_X6_putThingCell_2 e26) mi_X6_putThingCell mw_743 2 (by decide) rfl rfl ⟨Nat.le_of_ble_eq_true rfl, Nat.le_of_ble_eq_true rfl⟩ (As := [.int a1, .int 0, .int a2]) rfl hl.1 rfl (lv_room (Nat.le_of_ble_eq_true rfl)) dX10_become_58 (fun H locs hP hS => ?_)
        exact ret_i C hr hlocks hP hS h dX10_become_61
      · replace h := h_t c22 h
        refine lv_ldc hx hb C.2.2.2.1 (C.2.2.2.2.1 _ mw_716) dX10_become_37 ?_
        exact ret_i C hr hlocks hP hS h dX10_become_39
    · replace h := h_t c19 h
      refine lv_ldc hx hb C.2.2.2.1 (C.2.2.2.2.1 _ mw_411) dX10_become_21 ?_
      exact ret_i C hr hlocks hP hS h dX10_become_23
set_option maxHeartbeats 4000000 in
set_option maxRecDepth 100000 in
theorem c_X6_isTold_2 {l : Launch} {G : GT} {lam : Lm} {σ : St} {q : Int32 × St} (h : f_X6_isTold 14 σ = some q) : Met l yX6_isTold (Cond.code yX6_isTold cX6_isTold 1 ((some .boolean)) :: TB) ({ frames := 0, cells := 0, slots := 0, locals := 0 } : Room) (va_Pc [.ref (g_ad G 2)] (GW G lam σ)) (Ri q G lam) 0 0 (g_A G) := by
  refine mk_Qi (own := RX6) (by decide) (Nat.le_of_ble_eq_true rfl) rfl (fun p e s m args below meth c C hr hlocks hP ls hl => ?_)
  have hx := C.1
  have hb := C.2.1
  have hl : lv_has ls 1 [(0, .ref (g_ad G 2))] := hl
  have hS : va_S (g_A G) s.heap s.heap [] := va_S.rf
  unfold f_X6_isTold at h
  refine lv_aload_n hx hb dX6_isTold_0 rfl (lv_at hl 0 rfl) ?_
  refine gf_X6_11_2 C hP dX6_isTold_1 ?_
  refine lv_bipush (v := 77) hx hb dX6_isTold_4 (by decide) ?_
  refine r_aldc C hP 14 (by decide) rfl (j := 77) (by decide) (vp_in_iff.mpr (by decide)) dX6_isTold_6 ?_
  refine lv_if_le (tgt := 14) hx hb dX6_isTold_7 (by decide) (fun c2 => ?_) (fun c2 => ?_)
  · replace h := h_t c2 h
    refine lv_iconst (v := 0) hx hb dX6_isTold_14 (by decide) ?_
    exact ret_z C hr hlocks hP hS h (Or.inl rfl) dX6_isTold_15
  · replace h := h_f c2 h
    refine lv_iconst (v := 1) hx hb dX6_isTold_10 (by decide) ?_
    refine lv_goto (tgt := 15) hx hb dX6_isTold_11 (by decide) ?_
    exact ret_z C hr hlocks hP hS h (Or.inr rfl) dX6_isTold_15
set_option maxHeartbeats 4000000 in
set_option maxRecDepth 100000 in
theorem c_X6_shipCell_2 {l : Launch} {G : GT} {lam : Lm} {σ : St} {a1 : Int32} {q : Int32 × St} (h : f_X6_shipCell 14 σ a1 = some q) : Met l yX6_shipCell (Cond.code yX6_shipCell cX6_shipCell 2 ((some .int)) :: TB) ({ frames := 0, cells := 0, slots := 0, locals := 0 } : Room) (va_Pc [.ref (g_ad G 2), .int a1] (GW G lam σ)) (Ri q G lam) 0 0 (g_A G) := by
  refine mk_Qi (own := RX6) (by decide) (Nat.le_of_ble_eq_true rfl) rfl (fun p e s m args below meth c C hr hlocks hP ls hl => ?_)
  have hx := C.1
  have hb := C.2.1
  have hl : lv_has ls 2 [(0, .ref (g_ad G 2)), (1, .int a1)] := hl
  have hS : va_S (g_A G) s.heap s.heap [] := va_S.rf
  unfold f_X6_shipCell at h
  refine lv_iload_n hx hb dX6_shipCell_0 rfl (lv_at hl 1 rfl) ?_
  refine lv_if_lt (tgt := 18) hx hb dX6_shipCell_1 (by decide) (fun c4 => ?_) (fun c4 => ?_)
  · replace h := h_t c4 h
    refine lv_iconst (v := 0) hx hb dX6_shipCell_18 (by decide) ?_
    exact ret_i C hr hlocks hP hS h dX6_shipCell_19
  · replace h := h_f c4 h
    refine lv_iload_n hx hb dX6_shipCell_4 rfl (lv_at hl 1 rfl) ?_
    refine lv_iconst (v := 5) hx hb dX6_shipCell_5 (by decide) ?_
    refine lv_icmp_ge (tgt := 18) hx hb dX6_shipCell_6 (by decide) (fun c5 => ?_) (fun c5 => ?_)
    · replace h := h_t c5 h
      refine lv_iconst (v := 0) hx hb dX6_shipCell_18 (by decide) ?_
      exact ret_i C hr hlocks hP hS h dX6_shipCell_19
    · replace h := h_f c5 h
      refine lv_aload_n hx hb dX6_shipCell_9 rfl (lv_at hl 0 rfl) ?_
      refine gf_X6_11_2 C hP dX6_shipCell_10 ?_
      refine lv_iload_n hx hb dX6_shipCell_13 rfl (lv_at hl 1 rfl) ?_
      obtain ⟨g6, h⟩ := h_g h
      refine r_ald C hP 14 (by decide) rfl (vp_in_iff.mpr g6) dX6_shipCell_14 ?_
      refine lv_goto (tgt := 19) hx hb dX6_shipCell_15 (by decide) ?_
      exact ret_i C hr hlocks hP hS h dX6_shipCell_19
set_option maxHeartbeats 4000000 in
set_option maxRecDepth 100000 in
theorem c_X6_putShipCell_2 {l : Launch} {G : GT} {lam : Lm} {σ : St} {a1 : Int32} {a2 : Int32} {q : Int32 × St} (h : f_X6_putShipCell 14 σ a1 a2 = some q) : Met l yX6_putShipCell (Cond.code yX6_putShipCell cX6_putShipCell 4 ((some .int)) :: TB) ({ frames := 1, cells := 0, slots := 0, locals := 21 } : Room) (va_Pc [.ref (g_ad G 2), .int a1, .int a2] (GW G lam σ)) (Ri q G lam) 0 0 (g_A G) := by
  refine mk_Qi (own := RX6) (by decide) (Nat.le_of_ble_eq_true rfl) rfl (fun p e s m args below meth c C hr hlocks hP ls hl => ?_)
  have hx := C.1
  have hb := C.2.1
  have hl : lv_has ls 4 [(0, .ref (g_ad G 2)), (1, .int a1), (2, .int a2)] := hl
  have J22 : ∀ (σ : St) (x3 : Int32) (H : Heap) (locs : List Loc) (ls : Array Slot), f_X6_putShipCell_p22 14 σ x3 = some q → va_P (g_D G) vwCl (allW G lam σ) H → va_S (g_A G) s.heap H locs → lv_has ls 4 [(3, .int x3)] → W p l e ({ frames := 1, cells := 0, slots := 0, locals := 21 } : Room) s m args below meth c H locs 0 0 (Qi q below args s G lam) (F0 m 22 ls []) := by
    intro σ x3 H locs ls h hP hS hl
    unfold f_X6_putShipCell_p22 at h
    refine lv_iload_n hx hb dX6_putShipCell_22 rfl (lv_at hl 0 rfl) ?_
    exact ret_i C hr hlocks hP hS h dX6_putShipCell_23
  have hS : va_S (g_A G) s.heap s.heap [] := va_S.rf
  unfold f_X6_putShipCell at h
  obtain ⟨H, hH⟩ : ∃ H, H = s.heap := ⟨_, rfl⟩
  obtain ⟨locs, hlo⟩ : ∃ k : List Loc, k = [] := ⟨_, rfl⟩
  rw [← hH, ← hlo]
  rw [← hH] at hP
  replace hS : va_S (g_A G) s.heap H locs := by rw [hH, hlo]; exact hS
  refine lv_aload_n hx hb dX6_putShipCell_0 rfl (lv_at hl 0 rfl) ?_
  refine lv_iload_n hx hb dX6_putShipCell_1 rfl (lv_at hl 1 rfl) ?_
  obtain ⟨q8, e9, h⟩ := bnd h
  refine call_i C hP hS (c_X6_shipCell_2 e9) mi_X6_shipCell mw_478 2 (by decide) rfl rfl ⟨Nat.le_of_ble_eq_true rfl, Nat.le_of_ble_eq_true rfl⟩ (As := [.int a1]) rfl hl.1 rfl (lv_room (Nat.le_of_ble_eq_true rfl)) dX6_putShipCell_2 (fun H locs hP hS => ?_)
  refine lv_istore_n (lv' := [(3, .int q8.1), (0, .ref (g_ad G 2)), (1, .int a1), (2, .int a2)]) hx hb dX6_putShipCell_5 rfl hl (by decide) rfl (fun ls hl => ?_)
  refine lv_iload_n hx hb dX6_putShipCell_6 rfl (lv_at hl 2 rfl) ?_
  refine lv_if_lt (tgt := 22) hx hb dX6_putShipCell_7 (by decide) (fun c10 => ?_) (fun c10 => ?_)
  · replace h := h_t c10 h
    exact J22 _ _ H locs ls h hP hS (lv_sub hl [0] rfl)
  · replace h := h_f c10 h
    refine lv_iload_n hx hb dX6_putShipCell_10 rfl (lv_at hl 2 rfl) ?_
    refine lv_iconst (v := 5) hx hb dX6_putShipCell_11 (by decide) ?_
    refine lv_icmp_ge (tgt := 22) hx hb dX6_putShipCell_12 (by decide) (fun c11 => ?_) (fun c11 => ?_)
    · replace h := h_t c11 h
      exact J22 _ _ H locs ls h hP hS (lv_sub hl [0] rfl)
    · replace h := h_f c11 h
      refine lv_aload_n hx hb dX6_putShipCell_15 rfl (lv_at hl 1 rfl) ?_
      refine gf_X6_11_2 C hP dX6_putShipCell_16 ?_
      refine lv_iload_n hx hb dX6_putShipCell_19 rfl (lv_at hl 2 rfl) ?_
      refine lv_iload_n hx hb dX6_putShipCell_20 rfl (lv_at hl 3 rfl) ?_
      obtain ⟨g12, h⟩ := h_g h
      refine r_ast C hP hS 14 (by decide) (fun _ => rfl) (vp_in_iff.mpr g12) dX6_putShipCell_21 (fun H locs hP hS => ?_)
      obtain ⟨σ13, e14, h⟩ := bnd h
      have hP := hPn e14 hP
      exact J22 _ _ H locs ls h hP hS (lv_sub hl [0] rfl)
