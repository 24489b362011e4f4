set_option maxHeartbeats 4000000 in
set_option maxRecDepth 100000 in
theorem c_X10_ship {l : Launch} {G : GT} {lam : Lm} {σ : St} {a1 : Int32} {a2 : Int32} {q : Int32 × St} (h : f_X10_ship σ a1 a2 = some q) : Met l yX10_ship (Cond.code yX10_ship cX10_ship 3 ((some .int)) :: TB) ({ frames := 3, cells := 0, slots := 0, locals := 61 } : Room) (va_Pc [.ref (g_ad G 0), .int a1, .int a2] (GW G lam σ)) (Ri q G lam) 0 0 (g_A G) := by
  refine mk_Qi (own := RX10) (by decide) (Nat.le_of_ble_eq_true rfl) rfl (fun p e s m args below meth c C hr hlocks hP ls hl => ?_)
  have hx := C.1
  have hb := C.2.1
  have hl : lv_has ls 3 [(0, .ref (g_ad G 0)), (1, .int a1), (2, .int a2)] := hl
  have J38 : ∀ (σ : St) (x1 : Int32) (x2 : Int32) (t0 : Int32) (t1 : Int32) (t2 : Int32) (H : Heap) (locs : List Loc) (ls : Array Slot), f_X10_ship_p38 σ x1 x2 t0 t1 t2 = some q → va_P (g_D G) vwCl (allW G lam σ) H → va_S (g_A G) s.heap H locs → lv_has ls 3 [(0, .ref (g_ad G 0)), (1, .int x1), (2, .int x2)] → W p l e ({ frames := 3, cells := 0, slots := 0, locals := 61 } : Room) s m args below meth c H locs 0 0 (Qi q below args s G lam) (F0 m 38 ls [.int t0, .int t1, .int t2]) := by
    intro σ x1 x2 t0 t1 t2 H locs ls h hP hS hl
    unfold f_X10_ship_p38 at h
    obtain ⟨q15, e16, h⟩ := bnd h
    refine scall_i C hP hS (c_X10_isWithin e16) ms_X10_isWithin mw_408 ⟨Nat.le_of_ble_eq_true rfl, Nat.le_of_ble_eq_true rfl⟩ (As := [.int t2, .int t1, .int t0]) rfl hl.1 rfl (lv_room (Nat.le_of_ble_eq_true rfl)) dX10_ship_38 (fun H locs hP hS => ?_)
    refine lv_if_ne (tgt := 47) hx hb dX10_ship_41 (by decide) (fun c17 => ?_) (fun c17 => ?_)
    · replace h := h_f c17 h
      refine lv_aload_n hx hb dX10_ship_47 rfl (lv_at hl 0 rfl) ?_
      refine gf_X10_35_0 C hP dX10_ship_48 ?_
      refine lv_aload_n hx hb dX10_ship_51 rfl (lv_at hl 0 rfl) ?_
      refine gf_X10_19_0 C hP dX10_ship_52 ?_
      obtain ⟨q18, e19, h⟩ := bnd h
      refine call_v C hP hS (c_X4_keep e19) mi_X4_keep mw_734 4 (by decide) rfl rfl ⟨Nat.le_of_ble_eq_true rfl, Nat.le_of_ble_eq_true rfl⟩ (As := [.ref (g_ad G 2)]) rfl hl.1 rfl (lv_room (Nat.le_of_ble_eq_true rfl)) dX10_ship_55 (fun H locs hP hS => ?_)
      refine lv_aload_n hx hb dX10_ship_58 rfl (lv_at hl 0 rfl) ?_
      refine gf_X10_19_0 C hP dX10_ship_59 ?_
      refine lv_iload_n hx hb dX10_ship_62 rfl (lv_at hl 1 rfl) ?_
      refine lv_iload_n hx hb dX10_ship_63 rfl (lv_at hl 2 rfl) ?_
      obtain ⟨q20, e21, h⟩ := bnd h
      refine call_i C hP hS (c_X6_putShipCell_2 e21) mi_X6_putShipCell mw_757 2 (by decide) rfl rfl ⟨Nat.le_of_ble_eq_true rfl, Nat.le_of_ble_eq_true rfl⟩ (As := [.int x1, .int x2]) rfl hl.1 rfl (lv_room (Nat.le_of_ble_eq_true rfl)) dX10_ship_64 (fun H locs hP hS => ?_)
      exact ret_i C hr hlocks hP hS h dX10_ship_67
    · replace h := h_t c17 h
      refine lv_ldc hx hb C.2.2.2.1 (C.2.2.2.2.1 _ mw_411) dX10_ship_44 ?_
      exact ret_i C hr hlocks hP hS h dX10_ship_46
  have hS : va_S (g_A G) s.heap s.heap [] := va_S.rf
  unfold f_X10_ship at h
  obtain ⟨H, hH⟩ : ∃ H, H = s.heap := ⟨_, rfl⟩
  obtain ⟨locs, hlo⟩ : ∃ k : List Loc, k = [] := ⟨_, rfl⟩
  rw [← hH, ← hlo]
  rw [← hH] at hP
  replace hS : va_S (g_A G) s.heap H locs := by rw [hH, hlo]; exact hS
  refine lv_aload_n hx hb dX10_ship_0 rfl (lv_at hl 0 rfl) ?_
  refine gf_X10_19_0 C hP dX10_ship_1 ?_
  obtain ⟨q22, e23, h⟩ := bnd h
  refine call_i C hP hS (c_X6_isTold_2 e23) mi_X6_isTold mw_753 2 (by decide) rfl rfl ⟨Nat.le_of_ble_eq_true rfl, Nat.le_of_ble_eq_true rfl⟩ (As := []) rfl hl.1 rfl (lv_room (Nat.le_of_ble_eq_true rfl)) dX10_ship_4 (fun H locs hP hS => ?_)
  refine lv_if_ne (tgt := 13) hx hb dX10_ship_7 (by decide) (fun c24 => ?_) (fun c24 => ?_)
  · replace h := h_f c24 h
    refine lv_iload_n hx hb dX10_ship_13 rfl (lv_at hl 1 rfl) ?_
    refine lv_iconst (v := 0) hx hb dX10_ship_14 (by decide) ?_
    refine lv_iconst (v := 4) hx hb dX10_ship_15 (by decide) ?_
    obtain ⟨q25, e26, h⟩ := bnd h
    refine scall_i C hP hS (c_X10_isWithin e26) ms_X10_isWithin mw_408 ⟨Nat.le_of_ble_eq_true rfl, Nat.le_of_ble_eq_true rfl⟩ (As := [.int a1, .int 0, .int 4]) rfl hl.1 rfl (lv_room (Nat.le_of_ble_eq_true rfl)) dX10_ship_16 (fun H locs hP hS => ?_)
    refine lv_if_ne (tgt := 25) hx hb dX10_ship_19 (by decide) (fun c27 => ?_) (fun c27 => ?_)
    · replace h := h_f c27 h
      refine lv_iload_n hx hb dX10_ship_25 rfl (lv_at hl 2 rfl) ?_
      refine lv_iconst (v := 0) hx hb dX10_ship_26 (by decide) ?_
      refine lv_iload_n hx hb dX10_ship_27 rfl (lv_at hl 1 rfl) ?_
      refine lv_if_ne (tgt := 36) hx hb dX10_ship_28 (by decide) (fun c28 => ?_) (fun c28 => ?_)
      · replace h := h_f c28 h
        refine lv_bipush (v := 60) hx hb dX10_ship_36 (by decide) ?_
        exact J38 _ _ _ _ _ _ H locs ls h hP hS (lv_sub hl [0, 1, 2] rfl)
      · replace h := h_t c28 h
        refine lv_bipush (v := 20) hx hb dX10_ship_31 (by decide) ?_
        refine lv_goto (tgt := 38) hx hb dX10_ship_33 (by decide) ?_
        exact J38 _ _ _ _ _ _ H locs ls h hP hS (lv_sub hl [0, 1, 2] rfl)
    · replace h := h_t c27 h
      refine lv_ldc hx hb C.2.2.2.1 (C.2.2.2.2.1 _ mw_411) dX10_ship_22 ?_
      exact ret_i C hr hlocks hP hS h dX10_ship_24
  · replace h := h_t c24 h
    refine lv_ldc hx hb C.2.2.2.1 (C.2.2.2.2.1 _ mw_716) dX10_ship_10 ?_
    exact ret_i C hr hlocks hP hS h dX10_ship_12
set_option maxHeartbeats 4000000 in
set_option maxRecDepth 100000 in
theorem c_X6_heightCount_2 {l : Launch} {G : GT} {lam : Lm} {σ : St} {q : Int32 × St} (h : f_X6_heightCount 14 σ = some q) : Met l yX6_heightCount (Cond.code yX6_heightCount cX6_heightCount 1 ((some .int)) :: TB) ({ frames := 0, cells := 0, slots := 0, locals := 0 } : Room) (va_Pc [.ref (g_ad G 2)] (GW G lam σ)) (Ri q G lam) 0 0 (g_A G) := by
  refine mk_Qi (own := RX6) (by decide) (Nat.le_of_ble_eq_true rfl) rfl (fun p e s m args below meth c C hr hlocks hP ls hl => ?_)
  have hx := C.1
  have hb := C.2.1
  have hl : lv_has ls 1 [(0, .ref (g_ad G 2))] := hl
  have hS : va_S (g_A G) s.heap s.heap [] := va_S.rf
  unfold f_X6_heightCount at h
  refine lv_aload_n hx hb dX6_heightCount_0 rfl (lv_at hl 0 rfl) ?_
  refine gf_X6_11_2 C hP dX6_heightCount_1 ?_
  refine lv_bipush (v := 75) hx hb dX6_heightCount_4 (by decide) ?_
  refine r_aldc C hP 14 (by decide) rfl (j := 75) (by decide) (vp_in_iff.mpr (by decide)) dX6_heightCount_6 ?_
  exact ret_i C hr hlocks hP hS h dX6_heightCount_7
set_option maxHeartbeats 4000000 in
set_option maxRecDepth 100000 in
theorem c_X6_heightCell_2 {l : Launch} {G : GT} {lam : Lm} {σ : St} {a1 : Int32} {q : Int32 × St} (h : f_X6_heightCell 14 σ a1 = some q) : Met l yX6_heightCell (Cond.code yX6_heightCell cX6_heightCell 2 ((some .int)) :: TB) ({ frames := 0, cells := 0, slots := 0, locals := 0 } : Room) (va_Pc [.ref (g_ad G 2), .int a1] (GW G lam σ)) (Ri q G lam) 0 0 (g_A G) := by
  refine mk_Qi (own := RX6) (by decide) (Nat.le_of_ble_eq_true rfl) rfl (fun p e s m args below meth c C hr hlocks hP ls hl => ?_)
  have hx := C.1
  have hb := C.2.1
  have hl : lv_has ls 2 [(0, .ref (g_ad G 2)), (1, .int a1)] := hl
  have hS : va_S (g_A G) s.heap s.heap [] := va_S.rf
  unfold f_X6_heightCell at h
  refine lv_iload_n hx hb dX6_heightCell_0 rfl (lv_at hl 1 rfl) ?_
  refine lv_if_lt (tgt := 21) hx hb dX6_heightCell_1 (by decide) (fun c4 => ?_) (fun c4 => ?_)
  · replace h := h_t c4 h
    refine lv_iconst (v := 0) hx hb dX6_heightCell_21 (by decide) ?_
    exact ret_i C hr hlocks hP hS h dX6_heightCell_22
  · replace h := h_f c4 h
    refine lv_iload_n hx hb dX6_heightCell_4 rfl (lv_at hl 1 rfl) ?_
    refine lv_bipush (v := 6) hx hb dX6_heightCell_5 (by decide) ?_
    refine lv_icmp_ge (tgt := 21) hx hb dX6_heightCell_7 (by decide) (fun c5 => ?_) (fun c5 => ?_)
    · replace h := h_t c5 h
      refine lv_iconst (v := 0) hx hb dX6_heightCell_21 (by decide) ?_
      exact ret_i C hr hlocks hP hS h dX6_heightCell_22
    · replace h := h_f c5 h
      refine lv_aload_n hx hb dX6_heightCell_10 rfl (lv_at hl 0 rfl) ?_
      refine gf_X6_11_2 C hP dX6_heightCell_11 ?_
      refine lv_iconst (v := 5) hx hb dX6_heightCell_14 (by decide) ?_
      refine lv_iload_n hx hb dX6_heightCell_15 rfl (lv_at hl 1 rfl) ?_
      refine lv_iadd hx hb dX6_heightCell_16 ?_
      obtain ⟨g6, h⟩ := h_g h
      refine r_ald C hP 14 (by decide) rfl (vp_in_iff.mpr g6) dX6_heightCell_17 ?_
      refine lv_goto (tgt := 22) hx hb dX6_heightCell_18 (by decide) ?_
      exact ret_i C hr hlocks hP hS h dX6_heightCell_22
set_option maxHeartbeats 4000000 in
set_option maxRecDepth 100000 in
theorem c_X6_putHeightCell_2 {l : Launch} {G : GT} {lam : Lm} {σ : St} {a1 : Int32} {a2 : Int32} {q : Int32 × St} (h : f_X6_putHeightCell 14 σ a1 a2 = some q) : Met l yX6_putHeightCell (Cond.code yX6_putHeightCell cX6_putHeightCell 4 ((some .int)) :: TB) ({ frames := 1, cells := 0, slots := 0, locals := 21 } : Room) (va_Pc [.ref (g_ad G 2), .int a1, .int a2] (GW G lam σ)) (Ri q G lam) 0 0 (g_A G) := by
  refine mk_Qi (own := RX6) (by decide) (Nat.le_of_ble_eq_true rfl) rfl (fun p e s m args below meth c C hr hlocks hP ls hl => ?_)
  have hx := C.1
  have hb := C.2.1
  have hl : lv_has ls 4 [(0, .ref (g_ad G 2)), (1, .int a1), (2, .int a2)] := hl
  have J25 : ∀ (σ : St) (x3 : Int32) (H : Heap) (locs : List Loc) (ls : Array Slot), f_X6_putHeightCell_p25 14 σ x3 = some q → va_P (g_D G) vwCl (allW G lam σ) H → va_S (g_A G) s.heap H locs → lv_has ls 4 [(3, .int x3)] → W p l e ({ frames := 1, cells := 0, slots := 0, locals := 21 } : Room) s m args below meth c H locs 0 0 (Qi q below args s G lam) (F0 m 25 ls []) := by
    intro σ x3 H locs ls h hP hS hl
    unfold f_X6_putHeightCell_p25 at h
    refine lv_iload_n hx hb dX6_putHeightCell_25 rfl (lv_at hl 0 rfl) ?_
    exact ret_i C hr hlocks hP hS h dX6_putHeightCell_26
  have hS : va_S (g_A G) s.heap s.heap [] := va_S.rf
  unfold f_X6_putHeightCell at h
  obtain ⟨H, hH⟩ : ∃ H, H = s.heap := ⟨_, rfl⟩
  obtain ⟨locs, hlo⟩ : ∃ k : List Loc, k = [] := ⟨_, rfl⟩
  rw [← hH, ← hlo]
  rw [← hH] at hP
  replace hS : va_S (g_A G) s.heap H locs := by rw [hH, hlo]; exact hS
  refine lv_aload_n hx hb dX6_putHeightCell_0 rfl (lv_at hl 0 rfl) ?_
  refine lv_iload_n hx hb dX6_putHeightCell_1 rfl (lv_at hl 1 rfl) ?_
  obtain ⟨q8, e9, h⟩ := bnd h
  refine call_i C hP hS (c_X6_heightCell_2 e9) mi_X6_heightCell mw_490 2 (by decide) rfl rfl ⟨Nat.le_of_ble_eq_true rfl, Nat.le_of_ble_eq_true rfl⟩ (As := [.int a1]) rfl hl.1 rfl (lv_room (Nat.le_of_ble_eq_true rfl)) dX6_putHeightCell_2 (fun H locs hP hS => ?_)
  refine lv_istore_n (lv' := [(3, .int q8.1), (0, .ref (g_ad G 2)), (1, .int a1), (2, .int a2)]) hx hb dX6_putHeightCell_5 rfl hl (by decide) rfl (fun ls hl => ?_)
  refine lv_iload_n hx hb dX6_putHeightCell_6 rfl (lv_at hl 2 rfl) ?_
  refine lv_if_lt (tgt := 25) hx hb dX6_putHeightCell_7 (by decide) (fun c10 => ?_) (fun c10 => ?_)
  · replace h := h_t c10 h
    exact J25 _ _ H locs ls h hP hS (lv_sub hl [0] rfl)
  · replace h := h_f c10 h
    refine lv_iload_n hx hb dX6_putHeightCell_10 rfl (lv_at hl 2 rfl) ?_
    refine lv_bipush (v := 6) hx hb dX6_putHeightCell_11 (by decide) ?_
    refine lv_icmp_ge (tgt := 25) hx hb dX6_putHeightCell_13 (by decide) (fun c11 => ?_) (fun c11 => ?_)
    · replace h := h_t c11 h
      exact J25 _ _ H locs ls h hP hS (lv_sub hl [0] rfl)
    · replace h := h_f c11 h
      refine lv_aload_n hx hb dX6_putHeightCell_16 rfl (lv_at hl 1 rfl) ?_
      refine gf_X6_11_2 C hP dX6_putHeightCell_17 ?_
      refine lv_iconst (v := 5) hx hb dX6_putHeightCell_20 (by decide) ?_
      refine lv_iload_n hx hb dX6_putHeightCell_21 rfl (lv_at hl 2 rfl) ?_
      refine lv_iadd hx hb dX6_putHeightCell_22 ?_
      refine lv_iload_n hx hb dX6_putHeightCell_23 rfl (lv_at hl 3 rfl) ?_
      obtain ⟨g12, h⟩ := h_g h
      refine r_ast C hP hS 14 (by decide) (fun _ => rfl) (vp_in_iff.mpr g12) dX6_putHeightCell_24 (fun H locs hP hS => ?_)
      obtain ⟨σ13, e14, h⟩ := bnd h
      have hP := hPn e14 hP
      exact J25 _ _ H locs ls h hP hS (lv_sub hl [0] rfl)
set_option maxHeartbeats 4000000 in
set_option maxRecDepth 100000 in
theorem c_X10_tide {l : Launch} {G : GT} {lam : Lm} {σ : St} {a1 : Int32} {a2 : Int32} {q : Int32 × St} (h : f_X10_tide σ a1 a2 = some q) : Met l yX10_tide (Cond.code yX10_tide cX10_tide 3 ((some .int)) :: TB) ({ frames := 3, cells := 0, slots := 0, locals := 61 } : Room) (va_Pc [.ref (g_ad G 0), .int a1, .int a2] (GW G lam σ)) (Ri q G lam) 0 0 (g_A G) := by
  refine mk_Qi (own := RX10) (by decide) (Nat.le_of_ble_eq_true rfl) rfl (fun p e s m args below meth c C hr hlocks hP ls hl => ?_)
  have hx := C.1
  have hb := C.2.1
  have hl : lv_has ls 3 [(0, .ref (g_ad G 0)), (1, .int a1), (2, .int a2)] := hl
  have hS : va_S (g_A G) s.heap s.heap [] := va_S.rf
  unfold f_X10_tide at h
  refine lv_iload_n hx hb dX10_tide_0 rfl (lv_at hl 1 rfl) ?_
  refine lv_iconst (v := 0) hx hb dX10_tide_1 (by decide) ?_
  refine lv_aload_n hx hb dX10_tide_2 rfl (lv_at hl 0 rfl) ?_
  refine gf_X10_19_0 C hP dX10_tide_3 ?_
  obtain ⟨q13, e14, h⟩ := bnd h
  refine call_i C hP hS (c_X6_heightCount_2 e14) mi_X6_heightCount mw_762 2 (by decide) rfl rfl ⟨Nat.le_of_ble_eq_true rfl, Nat.le_of_ble_eq_true rfl⟩ (As := []) rfl hl.1 rfl (lv_room (Nat.le_of_ble_eq_true rfl)) dX10_tide_6 (fun H locs hP hS => ?_)
  refine lv_iconst (v := 1) hx hb dX10_tide_9 (by decide) ?_
  refine lv_isub hx hb dX10_tide_10 ?_
  obtain ⟨q15, e16, h⟩ := bnd h
  refine scall_i C hP hS (c_X10_isWithin e16) ms_X10_isWithin mw_408 ⟨Nat.le_of_ble_eq_true rfl, Nat.le_of_ble_eq_true rfl⟩ (As := [.int a1, .int 0, .int (q13.1 - 1)]) rfl hl.1 rfl (lv_room (Nat.le_of_ble_eq_true rfl)) dX10_tide_11 (fun H locs hP hS => ?_)
  refine lv_if_eq (tgt := 27) hx hb dX10_tide_14 (by decide) (fun c17 => ?_) (fun c17 => ?_)
  · replace h := h_t c17 h
    refine lv_ldc hx hb C.2.2.2.1 (C.2.2.2.2.1 _ mw_411) dX10_tide_27 ?_
    exact ret_i C hr hlocks hP hS h dX10_tide_29
  · replace h := h_f c17 h
    refine lv_iload_n hx hb dX10_tide_17 rfl (lv_at hl 2 rfl) ?_
    refine lv_iconst (v := 0) hx hb dX10_tide_18 (by decide) ?_
    refine lv_bipush (v := 20) hx hb dX10_tide_19 (by decide) ?_
    obtain ⟨q18, e19, h⟩ := bnd h
    refine scall_i C hP hS (c_X10_isWithin e19) ms_X10_isWithin mw_408 ⟨Nat.le_of_ble_eq_true rfl, Nat.le_of_ble_eq_true rfl⟩ (As := [.int a2, .int 0, .int 20]) rfl hl.1 rfl (lv_room (Nat.le_of_ble_eq_true rfl)) dX10_tide_21 (fun H locs hP hS => ?_)
    refine lv_if_ne (tgt := 30) hx hb dX10_tide_24 (by decide) (fun c20 => ?_) (fun c20 => ?_)
    · replace h := h_f c20 h
      refine lv_aload_n hx hb dX10_tide_30 rfl (lv_at hl 0 rfl) ?_
      refine gf_X10_35_0 C hP dX10_tide_31 ?_
      refine lv_aload_n hx hb dX10_tide_34 rfl (lv_at hl 0 rfl) ?_
      refine gf_X10_19_0 C hP dX10_tide_35 ?_
      obtain ⟨q21, e22, h⟩ := bnd h
      refine call_v C hP hS (c_X4_keep e22) mi_X4_keep mw_734 4 (by decide) rfl rfl ⟨Nat.le_of_ble_eq_true rfl, Nat.le_of_ble_eq_true rfl⟩ (As := [.ref (g_ad G 2)]) rfl hl.1 rfl (lv_room (Nat.le_of_ble_eq_true rfl)) dX10_tide_38 (fun H locs hP hS => ?_)
      refine lv_aload_n hx hb dX10_tide_41 rfl (lv_at hl 0 rfl) ?_
      refine gf_X10_19_0 C hP dX10_tide_42 ?_
      refine lv_iload_n hx hb dX10_tide_45 rfl (lv_at hl 1 rfl) ?_
      refine lv_iload_n hx hb dX10_tide_46 rfl (lv_at hl 2 rfl) ?_
      obtain ⟨q23, e24, h⟩ := bnd h
      refine call_i C hP hS (c_X6_putHeightCell_2 e24) mi_X6_putHeightCell mw_766 2 (by decide) rfl rfl ⟨Nat.le_of_ble_eq_true rfl, Nat.le_of_ble_eq_true rfl⟩ (As := [.int a1, .int a2]) rfl hl.1 rfl (lv_room (Nat.le_of_ble_eq_true rfl)) dX10_tide_47 (fun H locs hP hS => ?_)
      exact ret_i C hr hlocks hP hS h dX10_tide_50
    · replace h := h_t c20 h
      refine lv_ldc hx hb C.2.2.2.1 (C.2.2.2.2.1 _ mw_411) dX10_tide_27 ?_
      exact ret_i C hr hlocks hP hS h dX10_tide_29
set_option maxHeartbeats 4000000 in
set_option maxRecDepth 100000 in
theorem c_X6_hasLeg_2 {l : Launch} {G : GT} {lam : Lm} {σ : St} {a1 : Int32} {q : Int32 × St} (h : f_X6_hasLeg 14 σ a1 = some q) : Met l yX6_hasLeg (Cond.code yX6_hasLeg cX6_hasLeg 2 ((some .boolean)) :: TB) ({ frames := 0, cells := 0, slots := 0, locals := 0 } : Room) (va_Pc [.ref (g_ad G 2), .int a1] (GW G lam σ)) (Ri q G lam) 0 0 (g_A G) := by
  refine mk_Qi (own := RX6) (by decide) (Nat.le_of_ble_eq_true rfl) rfl (fun p e s m args below meth c C hr hlocks hP ls hl => ?_)
  have hx := C.1
  have hb := C.2.1
  have hl : lv_has ls 2 [(0, .ref (g_ad G 2)), (1, .int a1)] := hl
  have hS : va_S (g_A G) s.heap s.heap [] := va_S.rf
  unfold f_X6_hasLeg at h
  refine lv_iload_n hx hb dX6_hasLeg_0 rfl (lv_at hl 1 rfl) ?_
  refine lv_if_lt (tgt := 19) hx hb dX6_hasLeg_1 (by decide) (fun c3 => ?_) (fun c3 => ?_)
  · replace h := h_t c3 h
    refine lv_iconst (v := 0) hx hb dX6_hasLeg_19 (by decide) ?_
    exact ret_z C hr hlocks hP hS h (Or.inl rfl) dX6_hasLeg_20
  · replace h := h_f c3 h
    refine lv_iload_n hx hb dX6_hasLeg_4 rfl (lv_at hl 1 rfl) ?_
    refine lv_aload_n hx hb dX6_hasLeg_5 rfl (lv_at hl 0 rfl) ?_
    refine gf_X6_11_2 C hP dX6_hasLeg_6 ?_
    refine lv_bipush (v := 77) hx hb dX6_hasLeg_9 (by decide) ?_
    refine r_aldc C hP 14 (by decide) rfl (j := 77) (by decide) (vp_in_iff.mpr (by decide)) dX6_hasLeg_11 ?_
    refine lv_icmp_ge (tgt := 19) hx hb dX6_hasLeg_12 (by decide) (fun c4 => ?_) (fun c4 => ?_)
    · replace h := h_t c4 h
      refine lv_iconst (v := 0) hx hb dX6_hasLeg_19 (by decide) ?_
      exact ret_z C hr hlocks hP hS h (Or.inl rfl) dX6_hasLeg_20
    · replace h := h_f c4 h
      refine lv_iconst (v := 1) hx hb dX6_hasLeg_15 (by decide) ?_
      refine lv_goto (tgt := 20) hx hb dX6_hasLeg_16 (by decide) ?_
      exact ret_z C hr hlocks hP hS h (Or.inr rfl) dX6_hasLeg_20
set_option maxHeartbeats 4000000 in
set_option maxRecDepth 100000 in
theorem c_X10_isCourse {l : Launch} {G : GT} {lam : Lm} {σ : St} {a1 : Int32} {q : Int32 × St} (h : f_X10_isCourse σ a1 = some q) : Met l yX10_isCourse (Cond.code yX10_isCourse cX10_isCourse 1 ((some .boolean)) :: TB) ({ frames := 1, cells := 0, slots := 0, locals := 22 } : Room) (va_Pc [.int a1] (GW G lam σ)) (Ri q G lam) 0 0 (g_A G) := by
  refine mk_Qi (own := RX10) (by decide) (Nat.le_of_ble_eq_true rfl) rfl (fun p e s m args below meth c C hr hlocks hP ls hl => ?_)
  have hx := C.1
  have hb := C.2.1
  have hl : lv_has ls 1 [(0, .int a1)] := hl
  have hS : va_S (g_A G) s.heap s.heap [] := va_S.rf
  unfold f_X10_isCourse at h
  refine lv_iload_n hx hb dX10_isCourse_0 rfl (lv_at hl 0 rfl) ?_
  refine lv_iconst (v := 0) hx hb dX10_isCourse_1 (by decide) ?_
  refine lv_bipush (v := 15) hx hb dX10_isCourse_2 (by decide) ?_
  obtain ⟨q4, e5, h⟩ := bnd h
  refine scall_i C hP hS (c_X10_isWithin e5) ms_X10_isWithin mw_408 ⟨Nat.le_of_ble_eq_true rfl, Nat.le_of_ble_eq_true rfl⟩ (As := [.int a1, .int 0, .int 15]) rfl hl.1 rfl (lv_room (Nat.le_of_ble_eq_true rfl)) dX10_isCourse_4 (fun H locs hP hS => ?_)
  obtain ⟨g6, h⟩ := h_g h
  exact ret_z C hr hlocks hP hS h g6 dX10_isCourse_7
set_option maxHeartbeats 4000000 in
set_option maxRecDepth 100000 in
theorem c_X6_legCell_2 {l : Launch} {G : GT} {lam : Lm} {σ : St} {a1 : Int32} {a2 : Int32} {q : Int32 × St} (h : f_X6_legCell 14 σ a1 a2 = some q) : Met l yX6_legCell (Cond.code yX6_legCell cX6_legCell 3 ((some .int)) :: TB) ({ frames := 0, cells := 0, slots := 0, locals := 0 } : Room) (va_Pc [.ref (g_ad G 2), .int a1, .int a2] (GW G lam σ)) (Ri q G lam) 0 0 (g_A G) := by
  refine mk_Qi (own := RX6) (by decide) (Nat.le_of_ble_eq_true rfl) rfl (fun p e s m args below meth c C hr hlocks hP ls hl => ?_)
  have hx := C.1
  have hb := C.2.1
  have hl : lv_has ls 3 [(0, .ref (g_ad G 2)), (1, .int a1), (2, .int a2)] := hl
  have hS : va_S (g_A G) s.heap s.heap [] := va_S.rf
  unfold f_X6_legCell at h
  refine lv_iload_n hx hb dX6_legCell_0 rfl (lv_at hl 1 rfl) ?_
  refine lv_if_lt (tgt := 19) hx hb dX6_legCell_1 (by decide) (fun c6 => ?_) (fun c6 => ?_)
  · replace h := h_t c6 h
    refine lv_iconst (v := 0) hx hb dX6_legCell_19 (by decide) ?_
    exact ret_i C hr hlocks hP hS h dX6_legCell_20
  · replace h := h_f c6 h
    refine lv_iload_n hx hb dX6_legCell_4 rfl (lv_at hl 1 rfl) ?_
    refine lv_bipush (v := 6) hx hb dX6_legCell_5 (by decide) ?_
    refine lv_icmp_ge (tgt := 19) hx hb dX6_legCell_7 (by decide) (fun c7 => ?_) (fun c7 => ?_)
    · replace h := h_t c7 h
      refine lv_iconst (v := 0) hx hb dX6_legCell_19 (by decide) ?_
      exact ret_i C hr hlocks hP hS h dX6_legCell_20
    · replace h := h_f c7 h
      refine lv_iload_n hx hb dX6_legCell_10 rfl (lv_at hl 2 rfl) ?_
      refine lv_if_lt (tgt := 19) hx hb dX6_legCell_11 (by decide) (fun c8 => ?_) (fun c8 => ?_)
      · replace h := h_t c8 h
        refine lv_iconst (v := 0) hx hb dX6_legCell_19 (by decide) ?_
        exact ret_i C hr hlocks hP hS h dX6_legCell_20
      · replace h := h_f c8 h
        refine lv_iload_n hx hb dX6_legCell_14 rfl (lv_at hl 2 rfl) ?_
        refine lv_iconst (v := 4) hx hb dX6_legCell_15 (by decide) ?_
        refine lv_icmp_lt (tgt := 21) hx hb dX6_legCell_16 (by decide) (fun c9 => ?_) (fun c9 => ?_)
        · replace h := h_t c9 h
          refine lv_aload_n hx hb dX6_legCell_21 rfl (lv_at hl 0 rfl) ?_
          refine gf_X6_11_2 C hP dX6_legCell_22 ?_
          refine lv_bipush (v := 51) hx hb dX6_legCell_25 (by decide) ?_
          refine lv_iload_n hx hb dX6_legCell_27 rfl (lv_at hl 1 rfl) ?_
          refine lv_iconst (v := 4) hx hb dX6_legCell_28 (by decide) ?_
          refine lv_imul hx hb dX6_legCell_29 ?_
          refine lv_iadd hx hb dX6_legCell_30 ?_
          refine lv_iload_n hx hb dX6_legCell_31 rfl (lv_at hl 2 rfl) ?_
          refine lv_iadd hx hb dX6_legCell_32 ?_
          obtain ⟨g10, h⟩ := h_g h
          refine r_ald C hP 14 (by decide) rfl (vp_in_iff.mpr g10) dX6_legCell_33 ?_
          exact ret_i C hr hlocks hP hS h dX6_legCell_34
        · replace h := h_f c9 h
          refine lv_iconst (v := 0) hx hb dX6_legCell_19 (by decide) ?_
          exact ret_i C hr hlocks hP hS h dX6_legCell_20
set_option maxHeartbeats 4000000 in
set_option maxRecDepth 100000 in
theorem c_X6_putLegCell_2 {l : Launch} {G : GT} {lam : Lm} {σ : St} {a1 : Int32} {a2 : Int32} {a3 : Int32} {q : Int32 × St} (h : f_X6_putLegCell 14 σ a1 a2 a3 = some q) : Met l yX6_putLegCell (Cond.code yX6_putLegCell cX6_putLegCell 5 ((some .int)) :: TB) ({ frames := 1, cells := 0, slots := 0, locals := 22 } : Room) (va_Pc [.ref (g_ad G 2), .int a1, .int a2, .int a3] (GW G lam σ)) (Ri q G lam) 0 0 (g_A G) := by
  refine mk_Qi (own := RX6) (by decide) (Nat.le_of_ble_eq_true rfl) rfl (fun p e s m args below meth c C hr hlocks hP ls hl => ?_)
  have hx := C.1
  have hb := C.2.1
  have hl : lv_has ls 5 [(0, .ref (g_ad G 2)), (1, .int a1), (2, .int a2), (3, .int a3)] := hl
  have J41 : ∀ (σ : St) (x4 : Int32) (H : Heap) (locs : List Loc) (ls : Array Slot), f_X6_putLegCell_p41 14 σ x4 = some q → va_P (g_D G) vwCl (allW G lam σ) H → va_S (g_A G) s.heap H locs → lv_has ls 5 [(4, .int x4)] → W p l e ({ frames := 1, cells := 0, slots := 0, locals := 22 } : Room) s m args below meth c H locs 0 0 (Qi q below args s G lam) (F0 m 41 ls []) := by
    intro σ x4 H locs ls h hP hS hl
    unfold f_X6_putLegCell_p41 at h
    refine lv_iload hx hb dX6_putLegCell_41 (lv_at hl 0 rfl) ?_
    exact ret_i C hr hlocks hP hS h dX6_putLegCell_43
  have hS : va_S (g_A G) s.heap s.heap [] := va_S.rf
  unfold f_X6_putLegCell at h
  obtain ⟨H, hH⟩ : ∃ H, H = s.heap := ⟨_, rfl⟩
  obtain ⟨locs, hlo⟩ : ∃ k : List Loc, k = [] := ⟨_, rfl⟩
  rw [← hH, ← hlo]
  rw [← hH] at hP
  replace hS : va_S (g_A G) s.heap H locs := by rw [hH, hlo]; exact hS
  refine lv_aload_n hx hb dX6_putLegCell_0 rfl (lv_at hl 0 rfl) ?_
  refine lv_iload_n hx hb dX6_putLegCell_1 rfl (lv_at hl 1 rfl) ?_
  refine lv_iload_n hx hb dX6_putLegCell_2 rfl (lv_at hl 2 rfl) ?_
  obtain ⟨q10, e11, h⟩ := bnd h
  refine call_i C hP hS (c_X6_legCell_2 e11) mi_X6_legCell mw_616 2 (by decide) rfl rfl ⟨Nat.le_of_ble_eq_true rfl, Nat.le_of_ble_eq_true rfl⟩ (As := [.int a1, .int a2]) rfl hl.1 rfl (lv_room (Nat.le_of_ble_eq_true rfl)) dX6_putLegCell_3 (fun H locs hP hS => ?_)
  refine lv_istore (lv' := [(4, .int q10.1), (0, .ref (g_ad G 2)), (1, .int a1), (2, .int a2), (3, .int a3)]) hx hb dX6_putLegCell_6 hl (by decide) rfl (fun ls hl => ?_)
  refine lv_iload_n hx hb dX6_putLegCell_8 rfl (lv_at hl 2 rfl) ?_
  refine lv_if_lt (tgt := 41) hx hb dX6_putLegCell_9 (by decide) (fun c12 => ?_) (fun c12 => ?_)
  · replace h := h_t c12 h
    exact J41 _ _ H locs ls h hP hS (lv_sub hl [0] rfl)
  · replace h := h_f c12 h
    refine lv_iload_n hx hb dX6_putLegCell_12 rfl (lv_at hl 2 rfl) ?_
    refine lv_bipush (v := 6) hx hb dX6_putLegCell_13 (by decide) ?_
    refine lv_icmp_ge (tgt := 41) hx hb dX6_putLegCell_15 (by decide) (fun c13 => ?_) (fun c13 => ?_)
    · replace h := h_t c13 h
      exact J41 _ _ H locs ls h hP hS (lv_sub hl [0] rfl)
    · replace h := h_f c13 h
      refine lv_iload_n hx hb dX6_putLegCell_18 rfl (lv_at hl 3 rfl) ?_
      refine lv_if_lt (tgt := 41) hx hb dX6_putLegCell_19 (by decide) (fun c14 => ?_) (fun c14 => ?_)
      · replace h := h_t c14 h
        exact J41 _ _ H locs ls h hP hS (lv_sub hl [0] rfl)
      · replace h := h_f c14 h
        refine lv_iload_n hx hb dX6_putLegCell_22 rfl (lv_at hl 3 rfl) ?_
        refine lv_iconst (v := 4) hx hb dX6_putLegCell_23 (by decide) ?_
        refine lv_icmp_ge (tgt := 41) hx hb dX6_putLegCell_24 (by decide) (fun c15 => ?_) (fun c15 => ?_)
        · replace h := h_t c15 h
          exact J41 _ _ H locs ls h hP hS (lv_sub hl [0] rfl)
        · replace h := h_f c15 h
          refine lv_aload_n hx hb dX6_putLegCell_27 rfl (lv_at hl 1 rfl) ?_
          refine gf_X6_11_2 C hP dX6_putLegCell_28 ?_
          refine lv_bipush (v := 51) hx hb dX6_putLegCell_31 (by decide) ?_
          refine lv_iload_n hx hb dX6_putLegCell_33 rfl (lv_at hl 2 rfl) ?_
          refine lv_iconst (v := 4) hx hb dX6_putLegCell_34 (by decide) ?_
          refine lv_imul hx hb dX6_putLegCell_35 ?_
          refine lv_iadd hx hb dX6_putLegCell_36 ?_
          refine lv_iload_n hx hb dX6_putLegCell_37 rfl (lv_at hl 3 rfl) ?_
          refine lv_iadd hx hb dX6_putLegCell_38 ?_
          refine lv_iload_n hx hb dX6_putLegCell_39 rfl (lv_at hl 4 rfl) ?_
          obtain ⟨g16, h⟩ := h_g h
          refine r_ast C hP hS 14 (by decide) (fun _ => rfl) (vp_in_iff.mpr g16) dX6_putLegCell_40 (fun H locs hP hS => ?_)
          obtain ⟨σ17, e18, h⟩ := bnd h
          have hP := hPn e18 hP
          exact J41 _ _ H locs ls h hP hS (lv_sub hl [0] rfl)
set_option maxHeartbeats 4000000 in
set_option maxRecDepth 100000 in
theorem c_X10_steer {l : Launch} {G : GT} {lam : Lm} {σ : St} {a1 : Int32} {a2 : Int32} {q : Int32 × St} (h : f_X10_steer σ a1 a2 = some q) : Met l yX10_steer (Cond.code yX10_steer cX10_steer 3 ((some .int)) :: TB) ({ frames := 3, cells := 0, slots := 0, locals := 61 } : Room) (va_Pc [.ref (g_ad G 0), .int a1, .int a2] (GW G lam σ)) (Ri q G lam) 0 0 (g_A G) := by
  refine mk_Qi (own := RX10) (by decide) (Nat.le_of_ble_eq_true rfl) rfl (fun p e s m args below meth c C hr hlocks hP ls hl => ?_)
  have hx := C.1
  have hb := C.2.1
  have hl : lv_has ls 3 [(0, .ref (g_ad G 0)), (1, .int a1), (2, .int a2)] := hl
  have hS : va_S (g_A G) s.heap s.heap [] := va_S.rf
  unfold f_X10_steer at h
  refine lv_aload_n hx hb dX10_steer_0 rfl (lv_at hl 0 rfl) ?_
  refine gf_X10_19_0 C hP dX10_steer_1 ?_
  refine lv_iload_n hx hb dX10_steer_4 rfl (lv_at hl 1 rfl) ?_
  obtain ⟨q11, e12, h⟩ := bnd h
  refine call_i C hP hS (c_X6_hasLeg_2 e12) mi_X6_hasLeg mw_771 2 (by decide) rfl rfl ⟨Nat.le_of_ble_eq_true rfl, Nat.le_of_ble_eq_true rfl⟩ (As := [.int a1]) rfl hl.1 rfl (lv_room (Nat.le_of_ble_eq_true rfl)) dX10_steer_5 (fun H locs hP hS => ?_)
  refine lv_if_eq (tgt := 18) hx hb dX10_steer_8 (by decide) (fun c13 => ?_) (fun c13 => ?_)
  · replace h := h_t c13 h
    refine lv_ldc hx hb C.2.2.2.1 (C.2.2.2.2.1 _ mw_411) dX10_steer_18 ?_
    exact ret_i C hr hlocks hP hS h dX10_steer_20
  · replace h := h_f c13 h
    refine lv_iload_n hx hb dX10_steer_11 rfl (lv_at hl 2 rfl) ?_
    obtain ⟨q14, e15, h⟩ := bnd h
    refine scall_i C hP hS (c_X10_isCourse e15) ms_X10_isCourse mw_775 ⟨Nat.le_of_ble_eq_true rfl, Nat.le_of_ble_eq_true rfl⟩ (As := [.int a2]) rfl hl.1 rfl (lv_room (Nat.le_of_ble_eq_true rfl)) dX10_steer_12 (fun H locs hP hS => ?_)
    refine lv_if_ne (tgt := 21) hx hb dX10_steer_15 (by decide) (fun c16 => ?_) (fun c16 => ?_)
    · replace h := h_f c16 h
      refine lv_aload_n hx hb dX10_steer_21 rfl (lv_at hl 0 rfl) ?_
      refine gf_X10_35_0 C hP dX10_steer_22 ?_
      refine lv_aload_n hx hb dX10_steer_25 rfl (lv_at hl 0 rfl) ?_
      refine gf_X10_19_0 C hP dX10_steer_26 ?_
      obtain ⟨q17, e18, h⟩ := bnd h
      refine call_v C hP hS (c_X4_keep e18) mi_X4_keep mw_734 4 (by decide) rfl rfl ⟨Nat.le_of_ble_eq_true rfl, Nat.le_of_ble_eq_true rfl⟩ (As := [.ref (g_ad G 2)]) rfl hl.1 rfl (lv_room (Nat.le_of_ble_eq_true rfl)) dX10_steer_29 (fun H locs hP hS => ?_)
      refine lv_aload_n hx hb dX10_steer_32 rfl (lv_at hl 0 rfl) ?_
      refine gf_X10_19_0 C hP dX10_steer_33 ?_
      refine lv_iload_n hx hb dX10_steer_36 rfl (lv_at hl 1 rfl) ?_
      refine lv_iconst (v := 0) hx hb dX10_steer_37 (by decide) ?_
      refine lv_iload_n hx hb dX10_steer_38 rfl (lv_at hl 2 rfl) ?_
      obtain ⟨q19, e20, h⟩ := bnd h
      refine call_i C hP hS (c_X6_putLegCell_2 e20) mi_X6_putLegCell mw_778 2 (by decide) rfl rfl ⟨Nat.le_of_ble_eq_true rfl, Nat.le_of_ble_eq_true rfl⟩ (As := [.int a1, .int 0, .int a2]) rfl hl.1 rfl (lv_room (Nat.le_of_ble_eq_true rfl)) dX10_steer_39 (fun H locs hP hS => ?_)
      exact ret_i C hr hlocks hP hS h dX10_steer_42
    · replace h := h_t c16 h
      refine lv_ldc hx hb C.2.2.2.1 (C.2.2.2.2.1 _ mw_411) dX10_steer_18 ?_
      exact ret_i C hr hlocks hP hS h dX10_steer_20
set_option maxHeartbeats 4000000 in
set_option maxRecDepth 100000 in
theorem c_X10_isUntil {l : Launch} {G : GT} {lam : Lm} {σ : St} {a1 : Int32} {a2 : Int32} {a3 : Int32} {q : Int32 × St} (h : f_X10_isUntil σ a1 a2 a3 = some q) : Met l yX10_isUntil (Cond.code yX10_isUntil cX10_isUntil 3 ((some .boolean)) :: TB) ({ frames := 1, cells := 0, slots := 0, locals := 22 } : Room) (va_Pc [.int a1, .int a2, .int a3] (GW G lam σ)) (Ri q G lam) 0 0 (g_A G) := by
  refine mk_Qi (own := RX10) (by decide) (Nat.le_of_ble_eq_true rfl) rfl (fun p e s m args below meth c C hr hlocks hP ls hl => ?_)
  have hx := C.1
  have hb := C.2.1
  have hl : lv_has ls 3 [(0, .int a1), (1, .int a2), (2, .int a3)] := hl
  have hS : va_S (g_A G) s.heap s.heap [] := va_S.rf
  unfold f_X10_isUntil at h
  refine lv_iload_n hx hb dX10_isUntil_0 rfl (lv_at hl 0 rfl) ?_
  refine lv_iconst (v := 0) hx hb dX10_isUntil_1 (by decide) ?_
  refine lv_iconst (v := 4) hx hb dX10_isUntil_2 (by decide) ?_
  obtain ⟨q15, e16, h⟩ := bnd h
  refine scall_i C hP hS (c_X10_isWithin e16) ms_X10_isWithin mw_408 ⟨Nat.le_of_ble_eq_true rfl, Nat.le_of_ble_eq_true rfl⟩ (As := [.int a1, .int 0, .int 4]) rfl hl.1 rfl (lv_room (Nat.le_of_ble_eq_true rfl)) dX10_isUntil_3 (fun H locs hP hS => ?_)
  refine lv_if_ne (tgt := 11) hx hb dX10_isUntil_6 (by decide) (fun c17 => ?_) (fun c17 => ?_)
  · replace h := h_f c17 h
    refine lv_iload_n hx hb dX10_isUntil_11 rfl (lv_at hl 1 rfl) ?_
    refine lv_iload_n hx hb dX10_isUntil_12 rfl (lv_at hl 0 rfl) ?_
    obtain ⟨q18, e19, h⟩ := bnd h
    refine scall_i C hP hS (c_X6_untilLeast e19) ms_X6_untilLeast mw_786 ⟨Nat.le_of_ble_eq_true rfl, Nat.le_of_ble_eq_true rfl⟩ (As := [.int a1]) rfl hl.1 rfl (lv_room (Nat.le_of_ble_eq_true rfl)) dX10_isUntil_13 (fun H locs hP hS => ?_)
    refine lv_iload_n hx hb dX10_isUntil_16 rfl (lv_at hl 0 rfl) ?_
    obtain ⟨q20, e21, h⟩ := bnd h
    refine scall_i C hP hS (c_X6_untilMost e21) ms_X6_untilMost mw_787 ⟨Nat.le_of_ble_eq_true rfl, Nat.le_of_ble_eq_true rfl⟩ (As := [.int a1]) rfl hl.1 rfl (lv_room (Nat.le_of_ble_eq_true rfl)) dX10_isUntil_17 (fun H locs hP hS => ?_)
    obtain ⟨q22, e23, h⟩ := bnd h
    refine scall_i C hP hS (c_X10_isWithin e23) ms_X10_isWithin mw_408 ⟨Nat.le_of_ble_eq_true rfl, Nat.le_of_ble_eq_true rfl⟩ (As := [.int a2, .int q18.1, .int q20.1]) rfl hl.1 rfl (lv_room (Nat.le_of_ble_eq_true rfl)) dX10_isUntil_20 (fun H locs hP hS => ?_)
    refine lv_if_ne (tgt := 28) hx hb dX10_isUntil_23 (by decide) (fun c24 => ?_) (fun c24 => ?_)
    · replace h := h_f c24 h
      refine lv_iload_n hx hb dX10_isUntil_28 rfl (lv_at hl 0 rfl) ?_
      refine lv_iconst (v := 2) hx hb dX10_isUntil_29 (by decide) ?_
      refine lv_icmp_ne (tgt := 43) hx hb dX10_isUntil_30 (by decide) (fun c25 => ?_) (fun c25 => ?_)
      · replace h := h_f c25 h
        refine lv_iconst (v := 1) hx hb dX10_isUntil_43 (by decide) ?_
        refine lv_goto (tgt := 48) hx hb dX10_isUntil_44 (by decide) ?_
        exact ret_z C hr hlocks hP hS h (Or.inr rfl) dX10_isUntil_48
      · replace h := h_t c25 h
        refine lv_iload_n hx hb dX10_isUntil_33 rfl (lv_at hl 2 rfl) ?_
        refine lv_iconst (v := 0) hx hb dX10_isUntil_34 (by decide) ?_
        refine lv_bipush (v := 7) hx hb dX10_isUntil_35 (by decide) ?_
        obtain ⟨q26, e27, h⟩ := bnd h
        refine scall_i C hP hS (c_X10_isWithin e27) ms_X10_isWithin mw_408 ⟨Nat.le_of_ble_eq_true rfl, Nat.le_of_ble_eq_true rfl⟩ (As := [.int a3, .int 0, .int 7]) rfl hl.1 rfl (lv_room (Nat.le_of_ble_eq_true rfl)) dX10_isUntil_37 (fun H locs hP hS => ?_)
        refine lv_if_eq (tgt := 47) hx hb dX10_isUntil_40 (by decide) (fun c28 => ?_) (fun c28 => ?_)
        · replace h := h_t c28 h
          refine lv_iconst (v := 0) hx hb dX10_isUntil_47 (by decide) ?_
          exact ret_z C hr hlocks hP hS h (Or.inl rfl) dX10_isUntil_48
        · replace h := h_f c28 h
          refine lv_iconst (v := 1) hx hb dX10_isUntil_43 (by decide) ?_
          refine lv_goto (tgt := 48) hx hb dX10_isUntil_44 (by decide) ?_
          exact ret_z C hr hlocks hP hS h (Or.inr rfl) dX10_isUntil_48
    · replace h := h_t c24 h
      refine lv_iconst (v := 0) hx hb dX10_isUntil_26 (by decide) ?_
      exact ret_z C hr hlocks hP hS h (Or.inl rfl) dX10_isUntil_27
  · replace h := h_t c17 h
    refine lv_iconst (v := 0) hx hb dX10_isUntil_9 (by decide) ?_
    exact ret_z C hr hlocks hP hS h (Or.inl rfl) dX10_isUntil_10
set_option maxHeartbeats 4000000 in
set_option maxRecDepth 100000 in
theorem c_X6_putUntil_2 {l : Launch} {G : GT} {lam : Lm} {σ : St} {a1 : Int32} {a2 : Int32} {a3 : Int32} {a4 : Int32} {q : Int32 × St} (h : f_X6_putUntil 14 σ a1 a2 a3 a4 = some q) : Met l yX6_putUntil (Cond.code yX6_putUntil cX6_putUntil 5 ((some .int)) :: TB) ({ frames := 2, cells := 0, slots := 0, locals := 46 } : Room) (va_Pc [.ref (g_ad G 2), .int a1, .int a2, .int a3, .int a4] (GW G lam σ)) (Ri q G lam) 0 0 (g_A G) := by
  refine mk_Qi (own := RX6) (by decide) (Nat.le_of_ble_eq_true rfl) rfl (fun p e s m args below meth c C hr hlocks hP ls hl => ?_)
  have hx := C.1
  have hb := C.2.1
  have hl : lv_has ls 5 [(0, .ref (g_ad G 2)), (1, .int a1), (2, .int a2), (3, .int a3), (4, .int a4)] := hl
  have J23 : ∀ (σ : St) (x1 : Int32) (x2 : Int32) (t0 : Int32) (t1 : Int32) (t2 : Int32) (H : Heap) (locs : List Loc) (ls : Array Slot), f_X6_putUntil_p23 14 σ x1 x2 t0 t1 t2 = some q → va_P (g_D G) vwCl (allW G lam σ) H → va_S (g_A G) s.heap H locs → lv_has ls 5 [(0, .ref (g_ad G 2)), (1, .int x1), (2, .int x2)] → W p l e ({ frames := 2, cells := 0, slots := 0, locals := 46 } : Room) s m args below meth c H locs 0 0 (Qi q below args s G lam) (F0 m 23 ls [.int t0, .int t1, .int t2, .ref (g_ad G 2)]) := by
    intro σ x1 x2 t0 t1 t2 H locs ls h hP hS hl
    unfold f_X6_putUntil_p23 at h
    obtain ⟨q8, e9, h⟩ := bnd h
    refine call_i C hP hS (c_X6_putLegCell_2 e9) mi_X6_putLegCell mw_631 2 (by decide) rfl rfl ⟨Nat.le_of_ble_eq_true rfl, Nat.le_of_ble_eq_true rfl⟩ (As := [.int t2, .int t1, .int t0]) rfl hl.1 rfl (lv_room (Nat.le_of_ble_eq_true rfl)) dX6_putUntil_23 (fun H locs hP hS => ?_)
    refine lv_pop hx hb dX6_putUntil_26 rfl ?_
    refine lv_aload_n hx hb dX6_putUntil_27 rfl (lv_at hl 0 rfl) ?_
    refine lv_iload_n hx hb dX6_putUntil_28 rfl (lv_at hl 1 rfl) ?_
    refine lv_iconst (v := 1) hx hb dX6_putUntil_29 (by decide) ?_
    refine lv_iload_n hx hb dX6_putUntil_30 rfl (lv_at hl 2 rfl) ?_
    obtain ⟨q10, e11, h⟩ := bnd h
    refine call_i C hP hS (c_X6_putLegCell_2 e11) mi_X6_putLegCell mw_631 2 (by decide) rfl rfl ⟨Nat.le_of_ble_eq_true rfl, Nat.le_of_ble_eq_true rfl⟩ (As := [.int x1, .int 1, .int x2]) rfl hl.1 rfl (lv_room (Nat.le_of_ble_eq_true rfl)) dX6_putUntil_31 (fun H locs hP hS => ?_)
    exact ret_i C hr hlocks hP hS h dX6_putUntil_34
  have hS : va_S (g_A G) s.heap s.heap [] := va_S.rf
  unfold f_X6_putUntil at h
  obtain ⟨H, hH⟩ : ∃ H, H = s.heap := ⟨_, rfl⟩
  obtain ⟨locs, hlo⟩ : ∃ k : List Loc, k = [] := ⟨_, rfl⟩
  rw [← hH, ← hlo]
  rw [← hH] at hP
  replace hS : va_S (g_A G) s.heap H locs := by rw [hH, hlo]; exact hS
  refine lv_aload_n hx hb dX6_putUntil_0 rfl (lv_at hl 0 rfl) ?_
  refine lv_iload_n hx hb dX6_putUntil_1 rfl (lv_at hl 1 rfl) ?_
  refine lv_iconst (v := 2) hx hb dX6_putUntil_2 (by decide) ?_
  refine lv_iload_n hx hb dX6_putUntil_3 rfl (lv_at hl 3 rfl) ?_
  obtain ⟨q12, e13, h⟩ := bnd h
  refine call_i C hP hS (c_X6_putLegCell_2 e13) mi_X6_putLegCell mw_631 2 (by decide) rfl rfl ⟨Nat.le_of_ble_eq_true rfl, Nat.le_of_ble_eq_true rfl⟩ (As := [.int a1, .int 2, .int a3]) rfl hl.1 rfl (lv_room (Nat.le_of_ble_eq_true rfl)) dX6_putUntil_4 (fun H locs hP hS => ?_)
  refine lv_pop hx hb dX6_putUntil_7 rfl ?_
  refine lv_aload_n hx hb dX6_putUntil_8 rfl (lv_at hl 0 rfl) ?_
  refine lv_iload_n hx hb dX6_putUntil_9 rfl (lv_at hl 1 rfl) ?_
  refine lv_iconst (v := 3) hx hb dX6_putUntil_10 (by decide) ?_
  refine lv_iload_n hx hb dX6_putUntil_11 rfl (lv_at hl 2 rfl) ?_
  refine lv_iconst (v := 2) hx hb dX6_putUntil_12 (by decide) ?_
  refine lv_icmp_ne (tgt := 21) hx hb dX6_putUntil_13 (by decide) (fun c14 => ?_) (fun c14 => ?_)
  · replace h := h_f c14 h
    refine lv_ldc hx hb C.2.2.2.1 (C.2.2.2.2.1 _ mw_632) dX6_putUntil_21 ?_
    exact J23 _ _ _ _ _ _ H locs ls h hP hS (lv_sub hl [0, 1, 2] rfl)
  · replace h := h_t c14 h
    refine lv_iload hx hb dX6_putUntil_16 (lv_at hl 4 rfl) ?_
    refine lv_goto (tgt := 23) hx hb dX6_putUntil_18 (by decide) ?_
    exact J23 _ _ _ _ _ _ H locs ls h hP hS (lv_sub hl [0, 1, 2] rfl)
set_option maxHeartbeats 4000000 in
set_option maxRecDepth 100000 in
theorem c_X10_until {l : Launch} {G : GT} {lam : Lm} {σ : St} {a1 : Int32} {a2 : Int32} {a3 : Int32} {a4 : Int32} {q : Int32 × St} (h : f_X10_until σ a1 a2 a3 a4 = some q) : Met l yX10_until (Cond.code yX10_until cX10_until 5 ((some .int)) :: TB) ({ frames := 3, cells := 0, slots := 0, locals := 70 } : Room) (va_Pc [.ref (g_ad G 0), .int a1, .int a2, .int a3, .int a4] (GW G lam σ)) (Ri q G lam) 0 0 (g_A G) := by
  refine mk_Qi (own := RX10) (by decide) (Nat.le_of_ble_eq_true rfl) rfl (fun p e s m args below meth c C hr hlocks hP ls hl => ?_)
  have hx := C.1
  have hb := C.2.1
  have hl : lv_has ls 5 [(0, .ref (g_ad G 0)), (1, .int a1), (2, .int a2), (3, .int a3), (4, .int a4)] := hl
  have hS : va_S (g_A G) s.heap s.heap [] := va_S.rf
  unfold f_X10_until at h
  refine lv_aload_n hx hb dX10_until_0 rfl (lv_at hl 0 rfl) ?_
  refine gf_X10_19_0 C hP dX10_until_1 ?_
  refine lv_iload_n hx hb dX10_until_4 rfl (lv_at hl 1 rfl) ?_
  obtain ⟨q11, e12, h⟩ := bnd h
  refine call_i C hP hS (c_X6_hasLeg_2 e12) mi_X6_hasLeg mw_771 2 (by decide) rfl rfl ⟨Nat.le_of_ble_eq_true rfl, Nat.le_of_ble_eq_true rfl⟩ (As := [.int a1]) rfl hl.1 rfl (lv_room (Nat.le_of_ble_eq_true rfl)) dX10_until_5 (fun H locs hP hS => ?_)
  refine lv_if_eq (tgt := 21) hx hb dX10_until_8 (by decide) (fun c13 => ?_) (fun c13 => ?_)
  · replace h := h_t c13 h
    refine lv_ldc hx hb C.2.2.2.1 (C.2.2.2.2.1 _ mw_411) dX10_until_21 ?_
    exact ret_i C hr hlocks hP hS h dX10_until_23
  · replace h := h_f c13 h
    refine lv_iload_n hx hb dX10_until_11 rfl (lv_at hl 2 rfl) ?_
    refine lv_iload_n hx hb dX10_until_12 rfl (lv_at hl 3 rfl) ?_
    refine lv_iload hx hb dX10_until_13 (lv_at hl 4 rfl) ?_
    obtain ⟨q14, e15, h⟩ := bnd h
    refine scall_i C hP hS (c_X10_isUntil e15) ms_X10_isUntil mw_783 ⟨Nat.le_of_ble_eq_true rfl, Nat.le_of_ble_eq_true rfl⟩ (As := [.int a2, .int a3, .int a4]) rfl hl.1 rfl (lv_room (Nat.le_of_ble_eq_true rfl)) dX10_until_15 (fun H locs hP hS => ?_)
    refine lv_if_ne (tgt := 24) hx hb dX10_until_18 (by decide) (fun c16 => ?_) (fun c16 => ?_)
    · replace h := h_f c16 h
      refine lv_aload_n hx hb dX10_until_24 rfl (lv_at hl 0 rfl) ?_
      refine gf_X10_35_0 C hP dX10_until_25 ?_
      refine lv_aload_n hx hb dX10_until_28 rfl (lv_at hl 0 rfl) ?_
      refine gf_X10_19_0 C hP dX10_until_29 ?_
      obtain ⟨q17, e18, h⟩ := bnd h
      refine call_v C hP hS (c_X4_keep e18) mi_X4_keep mw_734 4 (by decide) rfl rfl ⟨Nat.le_of_ble_eq_true rfl, Nat.le_of_ble_eq_true rfl⟩ (As := [.ref (g_ad G 2)]) rfl hl.1 rfl (lv_room (Nat.le_of_ble_eq_true rfl)) dX10_until_32 (fun H locs hP hS => ?_)
      refine lv_aload_n hx hb dX10_until_35 rfl (lv_at hl 0 rfl) ?_
      refine gf_X10_19_0 C hP dX10_until_36 ?_
      refine lv_iload_n hx hb dX10_until_39 rfl (lv_at hl 1 rfl) ?_
      refine lv_iload_n hx hb dX10_until_40 rfl (lv_at hl 2 rfl) ?_
      refine lv_iload_n hx hb dX10_until_41 rfl (lv_at hl 3 rfl) ?_
      refine lv_iload hx hb dX10_until_42 (lv_at hl 4 rfl) ?_
      obtain ⟨q19, e20, h⟩ := bnd h
      refine call_i C hP hS (c_X6_putUntil_2 e20) mi_X6_putUntil mw_788 2 (by decide) rfl rfl ⟨Nat.le_of_ble_eq_true rfl, Nat.le_of_ble_eq_true rfl⟩ (As := [.int a1, .int a2, .int a3, .int a4]) rfl hl.1 rfl (lv_room (Nat.le_of_ble_eq_true rfl)) dX10_until_44 (fun H locs hP hS => ?_)
      exact ret_i C hr hlocks hP hS h dX10_until_47
    · replace h := h_t c16 h
      refine lv_ldc hx hb C.2.2.2.1 (C.2.2.2.2.1 _ mw_411) dX10_until_21 ?_
      exact ret_i C hr hlocks hP hS h dX10_until_23
set_option maxHeartbeats 4000000 in
set_option maxRecDepth 100000 in
theorem c_X6_countLegs_2 {l : Launch} {G : GT} {lam : Lm} {σ : St} {a1 : Int32} {q : St} (h : f_X6_countLegs 14 σ a1 = some q) : Met l yX6_countLegs (Cond.code yX6_countLegs cX6_countLegs 2 none :: TB) ({ frames := 1, cells := 0, slots := 0, locals := 16 } : Room) (va_Pc [.ref (g_ad G 2), .int a1] (GW G lam σ)) (Rv q G lam) 0 0 (g_A G) := by
  refine mk_Qv (own := RX6) (by decide) (Nat.le_of_ble_eq_true rfl) rfl (fun p e s m args below meth c C hr hlocks hP ls hl => ?_)
  have hx := C.1
  have hb := C.2.1
  have hl : lv_has ls 2 [(0, .ref (g_ad G 2)), (1, .int a1)] := hl
  have hS : va_S (g_A G) s.heap s.heap [] := va_S.rf
  unfold f_X6_countLegs at h
  refine lv_aload_n hx hb dX6_countLegs_0 rfl (lv_at hl 0 rfl) ?_
  refine gf_X6_11_2 C hP dX6_countLegs_1 ?_
  refine lv_bipush (v := 77) hx hb dX6_countLegs_4 (by decide) ?_
  refine lv_iconst (v := 0) hx hb dX6_countLegs_6 (by decide) ?_
  refine lv_iload_n hx hb dX6_countLegs_7 rfl (lv_at hl 1 rfl) ?_
  refine lv_bipush (v := 6) hx hb dX6_countLegs_8 (by decide) ?_
  refine va_mmin hx hb (by rw [C.2.2.1]; exact hl.1.symm) C.2.2.2.1 (C.2.2.2.2.1 _ mw_433) (C.2.2.2.2.1 _ mw_434) (C.2.2.2.2.1 _ mw_95) (C.2.2.2.2.1 _ mw_435) (Nat.le_of_ble_eq_true rfl) (Nat.le_of_ble_eq_true rfl) (Nat.zero_le _) (Nat.zero_le _) dX6_countLegs_10 ?_
  refine va_mmax hx hb (by rw [C.2.2.1]; exact hl.1.symm) C.2.2.2.1 (C.2.2.2.2.1 _ mw_436) (C.2.2.2.2.1 _ mw_437) (C.2.2.2.2.1 _ mw_95) (C.2.2.2.2.1 _ mw_438) (Nat.le_of_ble_eq_true rfl) (Nat.le_of_ble_eq_true rfl) (Nat.zero_le _) (Nat.zero_le _) dX6_countLegs_13 ?_
  refine r_astc C hP hS 14 (by decide) (fun _ => rfl) (j := 77) (by decide) (vp_in_iff.mpr (by decide)) dX6_countLegs_16 (fun H locs hP hS => ?_)
  obtain ⟨σ3, e4, h⟩ := bnd h
  have hP := hPn e4 hP
  exact ret_v C hr hlocks hP hS h dX6_countLegs_17
set_option maxHeartbeats 4000000 in
set_option maxRecDepth 100000 in
theorem c_X6_openLeg_2 {l : Launch} {G : GT} {lam : Lm} {σ : St} {a1 : Int32} {q : St} (h : f_X6_openLeg 14 σ a1 = some q) : Met l yX6_openLeg (Cond.code yX6_openLeg cX6_openLeg 4 none :: TB) ({ frames := 2, cells := 0, slots := 0, locals := 37 } : Room) (va_Pc [.ref (g_ad G 2), .int a1] (GW G lam σ)) (Rv q G lam) 0 0 (g_A G) := by
  refine mk_Qv (own := RX6) (by decide) (Nat.le_of_ble_eq_true rfl) rfl (fun p e s m args below meth c C hr hlocks hP ls hl => ?_)
  have hx := C.1
  have hb := C.2.1
  have hl : lv_has ls 4 [(0, .ref (g_ad G 2)), (1, .int a1)] := hl
  have L35 : ∀ (n35 : Nat) (σ : St) (x1 : Int32) (x2 : Int32) (x3 : Int32) (H : Heap) (locs : List Loc) (ls : Array Slot), fx (F_X6_openLeg_h35 14) z_X6_openLeg_h35 n35 σ x1 x2 x3 = some q → va_P (g_D G) vwCl (allW G lam σ) H → va_S (g_A G) s.heap H locs → lv_has ls 4 [(0, .ref (g_ad G 2)), (1, .int x1), (2, .int x2), (3, .int x3)] → W p l e ({ frames := 2, cells := 0, slots := 0, locals := 37 } : Room) s m args below meth c H locs 0 0 (Qv q below args s G lam) (F0 m 35 ls []) := by
    intro n35
    induction n35 with
    | zero => intro σ x1 x2 x3 H locs ls h hP hS hl; exact absurd h (by intro h9; cases h9)
    | succ n35 ih35 =>
      intro σ x1 x2 x3 H locs ls h hP hS hl
      change F_X6_openLeg_h35 14 (fx (F_X6_openLeg_h35 14) z_X6_openLeg_h35 n35) σ x1 x2 x3 = some q at h
      unfold F_X6_openLeg_h35 at h
      refine lv_iload_n hx hb dX6_openLeg_35 rfl (lv_at hl 3 rfl) ?_
      refine lv_bipush (v := 51) hx hb dX6_openLeg_36 (by decide) ?_
      refine lv_iload_n hx hb dX6_openLeg_38 rfl (lv_at hl 1 rfl) ?_
      refine lv_iconst (v := 1) hx hb dX6_openLeg_39 (by decide) ?_
      refine lv_iadd hx hb dX6_openLeg_40 ?_
      refine lv_iconst (v := 4) hx hb dX6_openLeg_41 (by decide) ?_
      refine lv_imul hx hb dX6_openLeg_42 ?_
      refine lv_iadd hx hb dX6_openLeg_43 ?_
      refine lv_icmp_lt (tgt := 67) hx hb dX6_openLeg_44 (by decide) (fun c13 => ?_) (fun c13 => ?_)
      · replace h := h_t c13 h
        refine lv_aload_n hx hb dX6_openLeg_67 rfl (lv_at hl 0 rfl) ?_
        refine lv_iload_n hx hb dX6_openLeg_68 rfl (lv_at hl 2 rfl) ?_
        refine lv_iconst (v := 1) hx hb dX6_openLeg_69 (by decide) ?_
        refine lv_iadd hx hb dX6_openLeg_70 ?_
        obtain ⟨q14, e15, h⟩ := bnd h
        refine call_v C hP hS (c_X6_countLegs_2 e15) mi_X6_countLegs mw_797 2 (by decide) rfl rfl ⟨Nat.le_of_ble_eq_true rfl, Nat.le_of_ble_eq_true rfl⟩ (As := [.int (x2 + 1)]) rfl hl.1 rfl (lv_room (Nat.le_of_ble_eq_true rfl)) dX6_openLeg_71 (fun H locs hP hS => ?_)
        exact ret_v C hr hlocks hP hS h dX6_openLeg_74
      · replace h := h_f c13 h
        refine lv_aload_n hx hb dX6_openLeg_47 rfl (lv_at hl 0 rfl) ?_
        refine gf_X6_11_2 C hP dX6_openLeg_48 ?_
        refine lv_iload_n hx hb dX6_openLeg_51 rfl (lv_at hl 3 rfl) ?_
        refine lv_aload_n hx hb dX6_openLeg_52 rfl (lv_at hl 0 rfl) ?_
        refine gf_X6_11_2 C hP dX6_openLeg_53 ?_
        refine lv_iload_n hx hb dX6_openLeg_56 rfl (lv_at hl 3 rfl) ?_
        refine lv_iconst (v := 4) hx hb dX6_openLeg_57 (by decide) ?_
        refine lv_isub hx hb dX6_openLeg_58 ?_
        obtain ⟨g16, h⟩ := h_g h
        refine r_ald C hP 14 (by decide) rfl (vp_in_iff.mpr g16) dX6_openLeg_59 ?_
        obtain ⟨g17, h⟩ := h_g h
        refine r_ast C hP hS 14 (by decide) (fun _ => rfl) (vp_in_iff.mpr g17) dX6_openLeg_60 (fun H locs hP hS => ?_)
        obtain ⟨σ18, e19, h⟩ := bnd h
        have hP := hPn e19 hP
        obtain ⟨y20, e21, h⟩ := bnd h
        refine lv_iinc (v := y20) (lv' := [(3, .int y20), (0, .ref (g_ad G 2)), (1, .int x1), (2, .int x2)]) hx hb dX6_openLeg_61 hl (k := 3) rfl (Option.some.inj e21) (by decide) rfl (fun ls hl => ?_)
        refine lv_goto (tgt := 35) hx hb dX6_openLeg_64 (by decide) ?_
        exact ih35 _ _ _ _ H locs ls h hP hS (lv_sub hl [1, 2, 3, 0] rfl)
  have hS : va_S (g_A G) s.heap s.heap [] := va_S.rf
  unfold f_X6_openLeg at h
  obtain ⟨H, hH⟩ : ∃ H, H = s.heap := ⟨_, rfl⟩
  obtain ⟨locs, hlo⟩ : ∃ k : List Loc, k = [] := ⟨_, rfl⟩
  rw [← hH, ← hlo]
  rw [← hH] at hP
  replace hS : va_S (g_A G) s.heap H locs := by rw [hH, hlo]; exact hS
  refine lv_aload_n hx hb dX6_openLeg_0 rfl (lv_at hl 0 rfl) ?_
  refine gf_X6_11_2 C hP dX6_openLeg_1 ?_
  refine lv_bipush (v := 77) hx hb dX6_openLeg_4 (by decide) ?_
  refine r_aldc C hP 14 (by decide) rfl (j := 77) (by decide) (vp_in_iff.mpr (by decide)) dX6_openLeg_6 ?_
  obtain ⟨y22, e23, h⟩ := bnd h
  refine r_nm e23 ?_
  refine lv_istore_n (lv' := [(2, .int y22), (0, .ref (g_ad G 2)), (1, .int a1)]) hx hb dX6_openLeg_7 rfl hl (by decide) rfl (fun ls hl => ?_)
  refine lv_iload_n hx hb dX6_openLeg_8 rfl (lv_at hl 2 rfl) ?_
  refine lv_if_lt (tgt := 23) hx hb dX6_openLeg_9 (by decide) (fun c24 => ?_) (fun c24 => ?_)
  · replace h := h_t c24 h
    exact ret_v C hr hlocks hP hS h dX6_openLeg_23
  · replace h := h_f c24 h
    refine lv_iload_n hx hb dX6_openLeg_12 rfl (lv_at hl 2 rfl) ?_
    refine lv_iload_n hx hb dX6_openLeg_13 rfl (lv_at hl 0 rfl) ?_
    refine lv_icmp_gt (tgt := 23) hx hb dX6_openLeg_14 (by decide) (fun c25 => ?_) (fun c25 => ?_)
    · replace h := h_t c25 h
      exact ret_v C hr hlocks hP hS h dX6_openLeg_23
    · replace h := h_f c25 h
      refine lv_iload_n hx hb dX6_openLeg_17 rfl (lv_at hl 0 rfl) ?_
      refine lv_bipush (v := 6) hx hb dX6_openLeg_18 (by decide) ?_
      refine lv_icmp_lt (tgt := 24) hx hb dX6_openLeg_20 (by decide) (fun c26 => ?_) (fun c26 => ?_)
      · replace h := h_t c26 h
        refine lv_bipush (v := 51) hx hb dX6_openLeg_24 (by decide) ?_
        refine lv_iload_n hx hb dX6_openLeg_26 rfl (lv_at hl 0 rfl) ?_
        refine lv_iconst (v := 1) hx hb dX6_openLeg_27 (by decide) ?_
        refine lv_iadd hx hb dX6_openLeg_28 ?_
        refine lv_iconst (v := 4) hx hb dX6_openLeg_29 (by decide) ?_
        refine lv_imul hx hb dX6_openLeg_30 ?_
        refine lv_iadd hx hb dX6_openLeg_31 ?_
        refine lv_iconst (v := 1) hx hb dX6_openLeg_32 (by decide) ?_
        refine lv_isub hx hb dX6_openLeg_33 ?_
        obtain ⟨y27, e28, h⟩ := bnd h
        refine r_nm e28 ?_
        refine lv_istore_n (lv' := [(3, .int y27), (2, .int y22), (0, .ref (g_ad G 2)), (1, .int a1)]) hx hb dX6_openLeg_34 rfl hl (by decide) rfl (fun ls hl => ?_)
        exact L35 FU _ _ _ _ H locs ls h hP hS (lv_sub hl [2, 3, 1, 0] rfl)
      · replace h := h_f c26 h
        exact ret_v C hr hlocks hP hS h dX6_openLeg_23
set_option maxHeartbeats 4000000 in
set_option maxRecDepth 100000 in
theorem c_X10_add {l : Launch} {G : GT} {lam : Lm} {σ : St} {a1 : Int32} {a2 : Int32} {a3 : Int32} {a4 : Int32} {a5 : Int32} {q : Int32 × St} (h : f_X10_add σ a1 a2 a3 a4 a5 = some q) : Met l yX10_add (Cond.code yX10_add cX10_add 6 ((some .int)) :: TB) ({ frames := 3, cells := 0, slots := 0, locals := 70 } : Room) (va_Pc [.ref (g_ad G 0), .int a1, .int a2, .int a3, .int a4, .int a5] (GW G lam σ)) (Ri q G lam) 0 0 (g_A G) := by
  refine mk_Qi (own := RX10) (by decide) (Nat.le_of_ble_eq_true rfl) rfl (fun p e s m args below meth c C hr hlocks hP ls hl => ?_)
  have hx := C.1
  have hb := C.2.1
  have hl : lv_has ls 6 [(0, .ref (g_ad G 0)), (1, .int a1), (2, .int a2), (3, .int a3), (4, .int a4), (5, .int a5)] := hl
  have hS : va_S (g_A G) s.heap s.heap [] := va_S.rf
  unfold f_X10_add at h
  refine lv_aload_n hx hb dX10_add_0 rfl (lv_at hl 0 rfl) ?_
  refine gf_X10_19_0 C hP dX10_add_1 ?_
  obtain ⟨q28, e29, h⟩ := bnd h
  refine call_i C hP hS (c_X6_isTold_2 e29) mi_X6_isTold mw_753 2 (by decide) rfl rfl ⟨Nat.le_of_ble_eq_true rfl, Nat.le_of_ble_eq_true rfl⟩ (As := []) rfl hl.1 rfl (lv_room (Nat.le_of_ble_eq_true rfl)) dX10_add_4 (fun H locs hP hS => ?_)
  refine lv_if_ne (tgt := 13) hx hb dX10_add_7 (by decide) (fun c30 => ?_) (fun c30 => ?_)
  · replace h := h_f c30 h
    refine lv_iload_n hx hb dX10_add_13 rfl (lv_at hl 1 rfl) ?_
    refine lv_iconst (v := 0) hx hb dX10_add_14 (by decide) ?_
    refine lv_aload_n hx hb dX10_add_15 rfl (lv_at hl 0 rfl) ?_
    refine gf_X10_19_0 C hP dX10_add_16 ?_
    obtain ⟨q31, e32, h⟩ := bnd h
    refine call_i C hP hS (c_X6_legCount_2 e32) mi_X6_legCount mw_649 2 (by decide) rfl rfl ⟨Nat.le_of_ble_eq_true rfl, Nat.le_of_ble_eq_true rfl⟩ (As := []) rfl hl.1 rfl (lv_room (Nat.le_of_ble_eq_true rfl)) dX10_add_19 (fun H locs hP hS => ?_)
    obtain ⟨q33, e34, h⟩ := bnd h
    refine scall_i C hP hS (c_X10_isWithin e34) ms_X10_isWithin mw_408 ⟨Nat.le_of_ble_eq_true rfl, Nat.le_of_ble_eq_true rfl⟩ (As := [.int a1, .int 0, .int q31.1]) rfl hl.1 rfl (lv_room (Nat.le_of_ble_eq_true rfl)) dX10_add_22 (fun H locs hP hS => ?_)
    refine lv_if_eq (tgt := 46) hx hb dX10_add_25 (by decide) (fun c35 => ?_) (fun c35 => ?_)
    · replace h := h_t c35 h
      refine lv_ldc hx hb C.2.2.2.1 (C.2.2.2.2.1 _ mw_411) dX10_add_46 ?_
      exact ret_i C hr hlocks hP hS h dX10_add_48
    · replace h := h_f c35 h
      refine lv_iload_n hx hb dX10_add_28 rfl (lv_at hl 2 rfl) ?_
      obtain ⟨q36, e37, h⟩ := bnd h
      refine scall_i C hP hS (c_X10_isCourse e37) ms_X10_isCourse mw_775 ⟨Nat.le_of_ble_eq_true rfl, Nat.le_of_ble_eq_true rfl⟩ (As := [.int a2]) rfl hl.1 rfl (lv_room (Nat.le_of_ble_eq_true rfl)) dX10_add_29 (fun H locs hP hS => ?_)
      refine lv_if_eq (tgt := 46) hx hb dX10_add_32 (by decide) (fun c38 => ?_) (fun c38 => ?_)
      · replace h := h_t c38 h
        refine lv_ldc hx hb C.2.2.2.1 (C.2.2.2.2.1 _ mw_411) dX10_add_46 ?_
        exact ret_i C hr hlocks hP hS h dX10_add_48
      · replace h := h_f c38 h
        refine lv_iload_n hx hb dX10_add_35 rfl (lv_at hl 3 rfl) ?_
        refine lv_iload hx hb dX10_add_36 (lv_at hl 4 rfl) ?_
        refine lv_iload hx hb dX10_add_38 (lv_at hl 5 rfl) ?_
        obtain ⟨q39, e40, h⟩ := bnd h
        refine scall_i C hP hS (c_X10_isUntil e40) ms_X10_isUntil mw_783 ⟨Nat.le_of_ble_eq_true rfl, Nat.le_of_ble_eq_true rfl⟩ (As := [.int a3, .int a4, .int a5]) rfl hl.1 rfl (lv_room (Nat.le_of_ble_eq_true rfl)) dX10_add_40 (fun H locs hP hS => ?_)
        refine lv_if_ne (tgt := 49) hx hb dX10_add_43 (by decide) (fun c41 => ?_) (fun c41 => ?_)
        · replace h := h_f c41 h
          refine lv_aload_n hx hb dX10_add_49 rfl (lv_at hl 0 rfl) ?_
          refine gf_X10_19_0 C hP dX10_add_50 ?_
          obtain ⟨q42, e43, h⟩ := bnd h
          refine call_i C hP hS (c_X6_legCount_2 e43) mi_X6_legCount mw_649 2 (by decide) rfl rfl ⟨Nat.le_of_ble_eq_true rfl, Nat.le_of_ble_eq_true rfl⟩ (As := []) rfl hl.1 rfl (lv_room (Nat.le_of_ble_eq_true rfl)) dX10_add_53 (fun H locs hP hS => ?_)
          refine lv_bipush (v := 6) hx hb dX10_add_56 (by decide) ?_
          refine lv_icmp_ne (tgt := 64) hx hb dX10_add_58 (by decide) (fun c44 => ?_) (fun c44 => ?_)
          · replace h := h_f c44 h
            refine lv_aload_n hx hb dX10_add_64 rfl (lv_at hl 0 rfl) ?_
            refine gf_X10_35_0 C hP dX10_add_65 ?_
            refine lv_aload_n hx hb dX10_add_68 rfl (lv_at hl 0 rfl) ?_
            refine gf_X10_19_0 C hP dX10_add_69 ?_
            obtain ⟨q45, e46, h⟩ := bnd h
            refine call_v C hP hS (c_X4_keep e46) mi_X4_keep mw_734 4 (by decide) rfl rfl ⟨Nat.le_of_ble_eq_true rfl, Nat.le_of_ble_eq_true rfl⟩ (As := [.ref (g_ad G 2)]) rfl hl.1 rfl (lv_room (Nat.le_of_ble_eq_true rfl)) dX10_add_72 (fun H locs hP hS => ?_)
            refine lv_aload_n hx hb dX10_add_75 rfl (lv_at hl 0 rfl) ?_
            refine gf_X10_19_0 C hP dX10_add_76 ?_
            refine lv_iload_n hx hb dX10_add_79 rfl (lv_at hl 1 rfl) ?_
            obtain ⟨q47, e48, h⟩ := bnd h
            refine call_v C hP hS (c_X6_openLeg_2 e48) mi_X6_openLeg mw_793 2 (by decide) rfl rfl ⟨Nat.le_of_ble_eq_true rfl, Nat.le_of_ble_eq_true rfl⟩ (As := [.int a1]) rfl hl.1 rfl (lv_room (Nat.le_of_ble_eq_true rfl)) dX10_add_80 (fun H locs hP hS => ?_)
            refine lv_aload_n hx hb dX10_add_83 rfl (lv_at hl 0 rfl) ?_
            refine gf_X10_19_0 C hP dX10_add_84 ?_
            refine lv_iload_n hx hb dX10_add_87 rfl (lv_at hl 1 rfl) ?_
            refine lv_iconst (v := 0) hx hb dX10_add_88 (by decide) ?_
            refine lv_iload_n hx hb dX10_add_89 rfl (lv_at hl 2 rfl) ?_
            obtain ⟨q49, e50, h⟩ := bnd h
            refine call_i C hP hS (c_X6_putLegCell_2 e50) mi_X6_putLegCell mw_778 2 (by decide) rfl rfl ⟨Nat.le_of_ble_eq_true rfl, Nat.le_of_ble_eq_true rfl⟩ (As := [.int a1, .int 0, .int a2]) rfl hl.1 rfl (lv_room (Nat.le_of_ble_eq_true rfl)) dX10_add_90 (fun H locs hP hS => ?_)
            refine lv_pop hx hb dX10_add_93 rfl ?_
            refine lv_aload_n hx hb dX10_add_94 rfl (lv_at hl 0 rfl) ?_
            refine gf_X10_19_0 C hP dX10_add_95 ?_
            refine lv_iload_n hx hb dX10_add_98 rfl (lv_at hl 1 rfl) ?_
            refine lv_iload_n hx hb dX10_add_99 rfl (lv_at hl 3 rfl) ?_
            refine lv_iload hx hb dX10_add_100 (lv_at hl 4 rfl) ?_
            refine lv_iload hx hb dX10_add_102 (lv_at hl 5 rfl) ?_
            obtain ⟨q51, e52, h⟩ := bnd h
            refine call_i C hP hS (c_X6_putUntil_2 e52) mi_X6_putUntil mw_788 2 (by decide) rfl rfl ⟨Nat.le_of_ble_eq_true rfl, Nat.le_of_ble_eq_true rfl⟩ (As := [.int a1, .int a3, .int a4, .int a5]) rfl hl.1 rfl (lv_room (Nat.le_of_ble_eq_true rfl)) dX10_add_104 (fun H locs hP hS => ?_)
            refine lv_pop hx hb dX10_add_107 rfl ?_
            refine lv_aload_n hx hb dX10_add_108 rfl (lv_at hl 0 rfl) ?_
            refine gf_X10_19_0 C hP dX10_add_109 ?_
            obtain ⟨q53, e54, h⟩ := bnd h
            refine call_i C hP hS (c_X6_legCount_2 e54) mi_X6_legCount mw_649 2 (by decide) rfl rfl ⟨Nat.le_of_ble_eq_true rfl, Nat.le_of_ble_eq_true rfl⟩ (As := []) rfl hl.1 rfl (lv_room (Nat.le_of_ble_eq_true rfl)) dX10_add_112 (fun H locs hP hS => ?_)
            exact ret_i C hr hlocks hP hS h dX10_add_115
          · replace h := h_t c44 h
            refine lv_ldc hx hb C.2.2.2.1 (C.2.2.2.2.1 _ mw_416) dX10_add_61 ?_
            exact ret_i C hr hlocks hP hS h dX10_add_63
        · replace h := h_t c41 h
          refine lv_ldc hx hb C.2.2.2.1 (C.2.2.2.2.1 _ mw_411) dX10_add_46 ?_
          exact ret_i C hr hlocks hP hS h dX10_add_48
  · replace h := h_t c30 h
    refine lv_ldc hx hb C.2.2.2.1 (C.2.2.2.2.1 _ mw_716) dX10_add_10 ?_
    exact ret_i C hr hlocks hP hS h dX10_add_12
set_option maxHeartbeats 4000000 in
set_option maxRecDepth 100000 in
theorem c_X6_closeLeg_2 {l : Launch} {G : GT} {lam : Lm} {σ : St} {a1 : Int32} {q : St} (h : f_X6_closeLeg 14 σ a1 = some q) : Met l yX6_closeLeg (Cond.code yX6_closeLeg cX6_closeLeg 4 none :: TB) ({ frames := 2, cells := 0, slots := 0, locals := 37 } : Room) (va_Pc [.ref (g_ad G 2), .int a1] (GW G lam σ)) (Rv q G lam) 0 0 (g_A G) := by
  refine mk_Qv (own := RX6) (by decide) (Nat.le_of_ble_eq_true rfl) rfl (fun p e s m args below meth c C hr hlocks hP ls hl => ?_)
  have hx := C.1
  have hb := C.2.1
  have hl : lv_has ls 4 [(0, .ref (g_ad G 2)), (1, .int a1)] := hl
  have L31 : ∀ (n31 : Nat) (σ : St) (x2 : Int32) (x3 : Int32) (H : Heap) (locs : List Loc) (ls : Array Slot), fx (F_X6_closeLeg_h31 14) z_X6_closeLeg_h31 n31 σ x2 x3 = some q → va_P (g_D G) vwCl (allW G lam σ) H → va_S (g_A G) s.heap H locs → lv_has ls 4 [(0, .ref (g_ad G 2)), (2, .int x2), (3, .int x3)] → W p l e ({ frames := 2, cells := 0, slots := 0, locals := 37 } : Room) s m args below meth c H locs 0 0 (Qv q below args s G lam) (F0 m 31 ls []) := by
    intro n31
    induction n31 with
    | zero => intro σ x2 x3 H locs ls h hP hS hl; exact absurd h (by intro h9; cases h9)
    | succ n31 ih31 =>
      intro σ x2 x3 H locs ls h hP hS hl
      change F_X6_closeLeg_h31 14 (fx (F_X6_closeLeg_h31 14) z_X6_closeLeg_h31 n31) σ x2 x3 = some q at h
      unfold F_X6_closeLeg_h31 at h
      refine lv_iload_n hx hb dX6_closeLeg_31 rfl (lv_at hl 2 rfl) ?_
      refine lv_bipush (v := 51) hx hb dX6_closeLeg_32 (by decide) ?_
      refine lv_iload_n hx hb dX6_closeLeg_34 rfl (lv_at hl 1 rfl) ?_
      refine lv_iconst (v := 1) hx hb dX6_closeLeg_35 (by decide) ?_
      refine lv_isub hx hb dX6_closeLeg_36 ?_
      refine lv_iconst (v := 4) hx hb dX6_closeLeg_37 (by decide) ?_
      refine lv_imul hx hb dX6_closeLeg_38 ?_
      refine lv_iadd hx hb dX6_closeLeg_39 ?_
      refine lv_icmp_ge (tgt := 63) hx hb dX6_closeLeg_40 (by decide) (fun c13 => ?_) (fun c13 => ?_)
      · replace h := h_t c13 h
        refine lv_aload_n hx hb dX6_closeLeg_63 rfl (lv_at hl 0 rfl) ?_
        refine lv_iload_n hx hb dX6_closeLeg_64 rfl (lv_at hl 1 rfl) ?_
        refine lv_iconst (v := 1) hx hb dX6_closeLeg_65 (by decide) ?_
        refine lv_isub hx hb dX6_closeLeg_66 ?_
        obtain ⟨q14, e15, h⟩ := bnd h
        refine call_v C hP hS (c_X6_countLegs_2 e15) mi_X6_countLegs mw_797 2 (by decide) rfl rfl ⟨Nat.le_of_ble_eq_true rfl, Nat.le_of_ble_eq_true rfl⟩ (As := [.int (x2 - 1)]) rfl hl.1 rfl (lv_room (Nat.le_of_ble_eq_true rfl)) dX6_closeLeg_67 (fun H locs hP hS => ?_)
        exact ret_v C hr hlocks hP hS h dX6_closeLeg_70
      · replace h := h_f c13 h
        refine lv_aload_n hx hb dX6_closeLeg_43 rfl (lv_at hl 0 rfl) ?_
        refine gf_X6_11_2 C hP dX6_closeLeg_44 ?_
        refine lv_iload_n hx hb dX6_closeLeg_47 rfl (lv_at hl 2 rfl) ?_
        refine lv_aload_n hx hb dX6_closeLeg_48 rfl (lv_at hl 0 rfl) ?_
        refine gf_X6_11_2 C hP dX6_closeLeg_49 ?_
        refine lv_iload_n hx hb dX6_closeLeg_52 rfl (lv_at hl 2 rfl) ?_
        refine lv_iconst (v := 4) hx hb dX6_closeLeg_53 (by decide) ?_
        refine lv_iadd hx hb dX6_closeLeg_54 ?_
        obtain ⟨g16, h⟩ := h_g h
        refine r_ald C hP 14 (by decide) rfl (vp_in_iff.mpr g16) dX6_closeLeg_55 ?_
        obtain ⟨g17, h⟩ := h_g h
        refine r_ast C hP hS 14 (by decide) (fun _ => rfl) (vp_in_iff.mpr g17) dX6_closeLeg_56 (fun H locs hP hS => ?_)
        obtain ⟨σ18, e19, h⟩ := bnd h
        have hP := hPn e19 hP
        obtain ⟨y20, e21, h⟩ := bnd h
        refine lv_iinc (v := y20) (lv' := [(3, .int y20), (0, .ref (g_ad G 2)), (2, .int x2)]) hx hb dX6_closeLeg_57 hl (k := 2) rfl (Option.some.inj e21) (by decide) rfl (fun ls hl => ?_)
        refine lv_goto (tgt := 31) hx hb dX6_closeLeg_60 (by decide) ?_
        exact ih31 _ _ _ H locs ls h hP hS (lv_sub hl [1, 2, 0] rfl)
  have hS : va_S (g_A G) s.heap s.heap [] := va_S.rf
  unfold f_X6_closeLeg at h
  obtain ⟨H, hH⟩ : ∃ H, H = s.heap := ⟨_, rfl⟩
  obtain ⟨locs, hlo⟩ : ∃ k : List Loc, k = [] := ⟨_, rfl⟩
  rw [← hH, ← hlo]
  rw [← hH] at hP
  replace hS : va_S (g_A G) s.heap H locs := by rw [hH, hlo]; exact hS
  refine lv_aload_n hx hb dX6_closeLeg_0 rfl (lv_at hl 0 rfl) ?_
  refine gf_X6_11_2 C hP dX6_closeLeg_1 ?_
  refine lv_bipush (v := 77) hx hb dX6_closeLeg_4 (by decide) ?_
  refine r_aldc C hP 14 (by decide) rfl (j := 77) (by decide) (vp_in_iff.mpr (by decide)) dX6_closeLeg_6 ?_
  obtain ⟨y22, e23, h⟩ := bnd h
  refine r_nm e23 ?_
  refine lv_istore_n (lv' := [(2, .int y22), (0, .ref (g_ad G 2)), (1, .int a1)]) hx hb dX6_closeLeg_7 rfl hl (by decide) rfl (fun ls hl => ?_)
  refine lv_iload_n hx hb dX6_closeLeg_8 rfl (lv_at hl 2 rfl) ?_
  refine lv_if_lt (tgt := 23) hx hb dX6_closeLeg_9 (by decide) (fun c24 => ?_) (fun c24 => ?_)
  · replace h := h_t c24 h
    exact ret_v C hr hlocks hP hS h dX6_closeLeg_23
  · replace h := h_f c24 h
    refine lv_iload_n hx hb dX6_closeLeg_12 rfl (lv_at hl 2 rfl) ?_
    refine lv_iload_n hx hb dX6_closeLeg_13 rfl (lv_at hl 0 rfl) ?_
    refine lv_icmp_ge (tgt := 23) hx hb dX6_closeLeg_14 (by decide) (fun c25 => ?_) (fun c25 => ?_)
    · replace h := h_t c25 h
      exact ret_v C hr hlocks hP hS h dX6_closeLeg_23
    · replace h := h_f c25 h
      refine lv_iload_n hx hb dX6_closeLeg_17 rfl (lv_at hl 0 rfl) ?_
      refine lv_bipush (v := 6) hx hb dX6_closeLeg_18 (by decide) ?_
      refine lv_icmp_le (tgt := 24) hx hb dX6_closeLeg_20 (by decide) (fun c26 => ?_) (fun c26 => ?_)
      · replace h := h_t c26 h
        refine lv_bipush (v := 51) hx hb dX6_closeLeg_24 (by decide) ?_
        refine lv_iload_n hx hb dX6_closeLeg_26 rfl (lv_at hl 2 rfl) ?_
        refine lv_iconst (v := 4) hx hb dX6_closeLeg_27 (by decide) ?_
        refine lv_imul hx hb dX6_closeLeg_28 ?_
        refine lv_iadd hx hb dX6_closeLeg_29 ?_
        obtain ⟨y27, e28, h⟩ := bnd h
        refine r_nm e28 ?_
        refine lv_istore_n (lv' := [(3, .int y27), (2, .int y22), (0, .ref (g_ad G 2)), (1, .int a1)]) hx hb dX6_closeLeg_30 rfl hl (by decide) rfl (fun ls hl => ?_)
        exact L31 FU _ _ _ H locs ls h hP hS (lv_sub hl [2, 1, 0] rfl)
      · replace h := h_f c26 h
        exact ret_v C hr hlocks hP hS h dX6_closeLeg_23
set_option maxHeartbeats 4000000 in
set_option maxRecDepth 100000 in
theorem c_X10_cut {l : Launch} {G : GT} {lam : Lm} {σ : St} {a1 : Int32} {q : Int32 × St} (h : f_X10_cut σ a1 = some q) : Met l yX10_cut (Cond.code yX10_cut cX10_cut 2 ((some .int)) :: TB) ({ frames := 3, cells := 0, slots := 0, locals := 61 } : Room) (va_Pc [.ref (g_ad G 0), .int a1] (GW G lam σ)) (Ri q G lam) 0 0 (g_A G) := by
  refine mk_Qi (own := RX10) (by decide) (Nat.le_of_ble_eq_true rfl) rfl (fun p e s m args below meth c C hr hlocks hP ls hl => ?_)
  have hx := C.1
  have hb := C.2.1
  have hl : lv_has ls 2 [(0, .ref (g_ad G 0)), (1, .int a1)] := hl
  have hS : va_S (g_A G) s.heap s.heap [] := va_S.rf
  unfold f_X10_cut at h
  refine lv_aload_n hx hb dX10_cut_0 rfl (lv_at hl 0 rfl) ?_
  refine gf_X10_19_0 C hP dX10_cut_1 ?_
  refine lv_iload_n hx hb dX10_cut_4 rfl (lv_at hl 1 rfl) ?_
  obtain ⟨q13, e14, h⟩ := bnd h
  refine call_i C hP hS (c_X6_hasLeg_2 e14) mi_X6_hasLeg mw_771 2 (by decide) rfl rfl ⟨Nat.le_of_ble_eq_true rfl, Nat.le_of_ble_eq_true rfl⟩ (As := [.int a1]) rfl hl.1 rfl (lv_room (Nat.le_of_ble_eq_true rfl)) dX10_cut_5 (fun H locs hP hS => ?_)
  refine lv_if_ne (tgt := 14) hx hb dX10_cut_8 (by decide) (fun c15 => ?_) (fun c15 => ?_)
  · replace h := h_f c15 h
    refine lv_aload_n hx hb dX10_cut_14 rfl (lv_at hl 0 rfl) ?_
    refine gf_X10_19_0 C hP dX10_cut_15 ?_
    obtain ⟨q16, e17, h⟩ := bnd h
    refine call_i C hP hS (c_X6_legCount_2 e17) mi_X6_legCount mw_649 2 (by decide) rfl rfl ⟨Nat.le_of_ble_eq_true rfl, Nat.le_of_ble_eq_true rfl⟩ (As := []) rfl hl.1 rfl (lv_room (Nat.le_of_ble_eq_true rfl)) dX10_cut_18 (fun H locs hP hS => ?_)
    refine lv_iconst (v := 1) hx hb dX10_cut_21 (by decide) ?_
    refine lv_icmp_ne (tgt := 28) hx hb dX10_cut_22 (by decide) (fun c18 => ?_) (fun c18 => ?_)
    · replace h := h_f c18 h
      refine lv_aload_n hx hb dX10_cut_28 rfl (lv_at hl 0 rfl) ?_
      refine gf_X10_35_0 C hP dX10_cut_29 ?_
      refine lv_aload_n hx hb dX10_cut_32 rfl (lv_at hl 0 rfl) ?_
      refine gf_X10_19_0 C hP dX10_cut_33 ?_
      obtain ⟨q19, e20, h⟩ := bnd h
      refine call_v C hP hS (c_X4_keep e20) mi_X4_keep mw_734 4 (by decide) rfl rfl ⟨Nat.le_of_ble_eq_true rfl, Nat.le_of_ble_eq_true rfl⟩ (As := [.ref (g_ad G 2)]) rfl hl.1 rfl (lv_room (Nat.le_of_ble_eq_true rfl)) dX10_cut_36 (fun H locs hP hS => ?_)
      refine lv_aload_n hx hb dX10_cut_39 rfl (lv_at hl 0 rfl) ?_
      refine gf_X10_19_0 C hP dX10_cut_40 ?_
      refine lv_iload_n hx hb dX10_cut_43 rfl (lv_at hl 1 rfl) ?_
      obtain ⟨q21, e22, h⟩ := bnd h
      refine call_v C hP hS (c_X6_closeLeg_2 e22) mi_X6_closeLeg mw_802 2 (by decide) rfl rfl ⟨Nat.le_of_ble_eq_true rfl, Nat.le_of_ble_eq_true rfl⟩ (As := [.int a1]) rfl hl.1 rfl (lv_room (Nat.le_of_ble_eq_true rfl)) dX10_cut_44 (fun H locs hP hS => ?_)
      refine lv_aload_n hx hb dX10_cut_47 rfl (lv_at hl 0 rfl) ?_
      refine gf_X10_19_0 C hP dX10_cut_48 ?_
      obtain ⟨q23, e24, h⟩ := bnd h
      refine call_i C hP hS (c_X6_legCount_2 e24) mi_X6_legCount mw_649 2 (by decide) rfl rfl ⟨Nat.le_of_ble_eq_true rfl, Nat.le_of_ble_eq_true rfl⟩ (As := []) rfl hl.1 rfl (lv_room (Nat.le_of_ble_eq_true rfl)) dX10_cut_51 (fun H locs hP hS => ?_)
      exact ret_i C hr hlocks hP hS h dX10_cut_54
    · replace h := h_t c18 h
      refine lv_ldc hx hb C.2.2.2.1 (C.2.2.2.2.1 _ mw_716) dX10_cut_25 ?_
      exact ret_i C hr hlocks hP hS h dX10_cut_27
  · replace h := h_t c15 h
    refine lv_ldc hx hb C.2.2.2.1 (C.2.2.2.2.1 _ mw_411) dX10_cut_11 ?_
    exact ret_i C hr hlocks hP hS h dX10_cut_13
set_option maxHeartbeats 4000000 in
set_option maxRecDepth 100000 in
theorem c_X10_thing {l : Launch} {G : GT} {lam : Lm} {σ : St} {a1 : Int32} {a2 : Int32} {q : Int32 × St} (h : f_X10_thing σ a1 a2 = some q) : Met l yX10_thing (Cond.code yX10_thing cX10_thing 3 ((some .int)) :: TB) ({ frames := 1, cells := 0, slots := 0, locals := 22 } : Room) (va_Pc [.ref (g_ad G 0), .int a1, .int a2] (GW G lam σ)) (Ri q G lam) 0 0 (g_A G) := by
  refine mk_Qi (own := RX10) (by decide) (Nat.le_of_ble_eq_true rfl) rfl (fun p e s m args below meth c C hr hlocks hP ls hl => ?_)
  have hx := C.1
  have hb := C.2.1
  have hl : lv_has ls 3 [(0, .ref (g_ad G 0)), (1, .int a1), (2, .int a2)] := hl
  have hS : va_S (g_A G) s.heap s.heap [] := va_S.rf
  unfold f_X10_thing at h
  refine lv_aload_n hx hb dX10_thing_0 rfl (lv_at hl 0 rfl) ?_
  refine gf_X10_19_0 C hP dX10_thing_1 ?_
  refine lv_iload_n hx hb dX10_thing_4 rfl (lv_at hl 1 rfl) ?_
  obtain ⟨q9, e10, h⟩ := bnd h
  refine call_i C hP hS (c_X6_hasThing_2 e10) mi_X6_hasThing mw_729 2 (by decide) rfl rfl ⟨Nat.le_of_ble_eq_true rfl, Nat.le_of_ble_eq_true rfl⟩ (As := [.int a1]) rfl hl.1 rfl (lv_room (Nat.le_of_ble_eq_true rfl)) dX10_thing_5 (fun H locs hP hS => ?_)
  refine lv_if_eq (tgt := 20) hx hb dX10_thing_8 (by decide) (fun c11 => ?_) (fun c11 => ?_)
  · replace h := h_t c11 h
    refine lv_ldc hx hb C.2.2.2.1 (C.2.2.2.2.1 _ mw_411) dX10_thing_20 ?_
    exact ret_i C hr hlocks hP hS h dX10_thing_22
  · replace h := h_f c11 h
    refine lv_iload_n hx hb dX10_thing_11 rfl (lv_at hl 2 rfl) ?_
    refine lv_iconst (v := 0) hx hb dX10_thing_12 (by decide) ?_
    refine lv_iconst (v := 4) hx hb dX10_thing_13 (by decide) ?_
    obtain ⟨q12, e13, h⟩ := bnd h
    refine scall_i C hP hS (c_X10_isWithin e13) ms_X10_isWithin mw_408 ⟨Nat.le_of_ble_eq_true rfl, Nat.le_of_ble_eq_true rfl⟩ (As := [.int a2, .int 0, .int 4]) rfl hl.1 rfl (lv_room (Nat.le_of_ble_eq_true rfl)) dX10_thing_14 (fun H locs hP hS => ?_)
    refine lv_if_ne (tgt := 23) hx hb dX10_thing_17 (by decide) (fun c14 => ?_) (fun c14 => ?_)
    · replace h := h_f c14 h
      refine lv_aload_n hx hb dX10_thing_23 rfl (lv_at hl 0 rfl) ?_
      refine gf_X10_19_0 C hP dX10_thing_24 ?_
      refine lv_iload_n hx hb dX10_thing_27 rfl (lv_at hl 1 rfl) ?_
      refine lv_iload_n hx hb dX10_thing_28 rfl (lv_at hl 2 rfl) ?_
      obtain ⟨q15, e16, h⟩ := bnd h
      refine call_i C hP hS (c_X6_thingCell_2 e16) mi_X6_thingCell mw_748 2 (by decide) rfl rfl ⟨Nat.le_of_ble_eq_true rfl, Nat.le_of_ble_eq_true rfl⟩ (As := [.int a1, .int a2]) rfl hl.1 rfl (lv_room (Nat.le_of_ble_eq_true rfl)) dX10_thing_29 (fun H locs hP hS => ?_)
      exact ret_i C hr hlocks hP hS h dX10_thing_32
    · replace h := h_t c14 h
      refine lv_ldc hx hb C.2.2.2.1 (C.2.2.2.2.1 _ mw_411) dX10_thing_20 ?_
      exact ret_i C hr hlocks hP hS h dX10_thing_22
set_option maxHeartbeats 4000000 in
set_option maxRecDepth 100000 in
theorem c_X10_leg {l : Launch} {G : GT} {lam : Lm} {σ : St} {a1 : Int32} {a2 : Int32} {q : Int32 × St} (h : f_X10_leg σ a1 a2 = some q) : Met l yX10_leg (Cond.code yX10_leg cX10_leg 3 ((some .int)) :: TB) ({ frames := 1, cells := 0, slots := 0, locals := 22 } : Room) (va_Pc [.ref (g_ad G 0), .int a1, .int a2] (GW G lam σ)) (Ri q G lam) 0 0 (g_A G) := by
  refine mk_Qi (own := RX10) (by decide) (Nat.le_of_ble_eq_true rfl) rfl (fun p e s m args below meth c C hr hlocks hP ls hl => ?_)
  have hx := C.1
  have hb := C.2.1
  have hl : lv_has ls 3 [(0, .ref (g_ad G 0)), (1, .int a1), (2, .int a2)] := hl
  have hS : va_S (g_A G) s.heap s.heap [] := va_S.rf
  unfold f_X10_leg at h
  refine lv_aload_n hx hb dX10_leg_0 rfl (lv_at hl 0 rfl) ?_
  refine gf_X10_19_0 C hP dX10_leg_1 ?_
  refine lv_iload_n hx hb dX10_leg_4 rfl (lv_at hl 1 rfl) ?_
  obtain ⟨q9, e10, h⟩ := bnd h
  refine call_i C hP hS (c_X6_hasLeg_2 e10) mi_X6_hasLeg mw_771 2 (by decide) rfl rfl ⟨Nat.le_of_ble_eq_true rfl, Nat.le_of_ble_eq_true rfl⟩ (As := [.int a1]) rfl hl.1 rfl (lv_room (Nat.le_of_ble_eq_true rfl)) dX10_leg_5 (fun H locs hP hS => ?_)
  refine lv_if_eq (tgt := 20) hx hb dX10_leg_8 (by decide) (fun c11 => ?_) (fun c11 => ?_)
  · replace h := h_t c11 h
    refine lv_ldc hx hb C.2.2.2.1 (C.2.2.2.2.1 _ mw_411) dX10_leg_20 ?_
    exact ret_i C hr hlocks hP hS h dX10_leg_22
  · replace h := h_f c11 h
    refine lv_iload_n hx hb dX10_leg_11 rfl (lv_at hl 2 rfl) ?_
    refine lv_iconst (v := 0) hx hb dX10_leg_12 (by decide) ?_
    refine lv_iconst (v := 3) hx hb dX10_leg_13 (by decide) ?_
    obtain ⟨q12, e13, h⟩ := bnd h
    refine scall_i C hP hS (c_X10_isWithin e13) ms_X10_isWithin mw_408 ⟨Nat.le_of_ble_eq_true rfl, Nat.le_of_ble_eq_true rfl⟩ (As := [.int a2, .int 0, .int 3]) rfl hl.1 rfl (lv_room (Nat.le_of_ble_eq_true rfl)) dX10_leg_14 (fun H locs hP hS => ?_)
    refine lv_if_ne (tgt := 23) hx hb dX10_leg_17 (by decide) (fun c14 => ?_) (fun c14 => ?_)
    · replace h := h_f c14 h
      refine lv_aload_n hx hb dX10_leg_23 rfl (lv_at hl 0 rfl) ?_
      refine gf_X10_19_0 C hP dX10_leg_24 ?_
      refine lv_iload_n hx hb dX10_leg_27 rfl (lv_at hl 1 rfl) ?_
      refine lv_iload_n hx hb dX10_leg_28 rfl (lv_at hl 2 rfl) ?_
      obtain ⟨q15, e16, h⟩ := bnd h
      refine call_i C hP hS (c_X6_legCell_2 e16) mi_X6_legCell mw_814 2 (by decide) rfl rfl ⟨Nat.le_of_ble_eq_true rfl, Nat.le_of_ble_eq_true rfl⟩ (As := [.int a1, .int a2]) rfl hl.1 rfl (lv_room (Nat.le_of_ble_eq_true rfl)) dX10_leg_29 (fun H locs hP hS => ?_)
      exact ret_i C hr hlocks hP hS h dX10_leg_32
    · replace h := h_t c14 h
      refine lv_ldc hx hb C.2.2.2.1 (C.2.2.2.2.1 _ mw_411) dX10_leg_20 ?_
      exact ret_i C hr hlocks hP hS h dX10_leg_22
set_option maxHeartbeats 4000000 in
set_option maxRecDepth 100000 in
theorem c_X1_heightAt {l : Launch} {G : GT} {lam : Lm} {σ : St} {a1 : Int32} {q : Int32 × St} (h : f_X1_heightAt σ a1 = some q) : Met l yX1_heightAt (Cond.code yX1_heightAt cX1_heightAt 6 ((some .int)) :: TB) ({ frames := 1, cells := 0, slots := 0, locals := 21 } : Room) (va_Pc [.ref (g_ad G 7), .int a1] (GW G lam σ)) (Ri q G lam) 0 0 (g_A G) := by
  refine mk_Qi (own := RX1) (by decide) (Nat.le_of_ble_eq_true rfl) rfl (fun p e s m args below meth c C hr hlocks hP ls hl => ?_)
  have hx := C.1
  have hb := C.2.1
  have hl : lv_has ls 6 [(0, .ref (g_ad G 7)), (1, .int a1)] := hl
  have J54 : ∀ (σ : St) (x1 : Int32) (x4 : Int32) (t0 : Int32) (H : Heap) (locs : List Loc) (ls : Array Slot), f_X1_heightAt_p54 σ x1 x4 t0 = some q → va_P (g_D G) vwCl (allW G lam σ) H → va_S (g_A G) s.heap H locs → lv_has ls 6 [(1, .int x1), (4, .int x4)] → W p l e ({ frames := 1, cells := 0, slots := 0, locals := 21 } : Room) s m args below meth c H locs 0 0 (Qi q below args s G lam) (F0 m 54 ls [.int t0, .ref (g_ad G 2)]) := by
    intro σ x1 x4 t0 H locs ls h hP hS hl
    unfold f_X1_heightAt_p54 at h
    obtain ⟨q11, e12, h⟩ := bnd h
    refine call_i C hP hS (c_X6_heightCell_2 e12) mi_X6_heightCell mw_824 2 (by decide) rfl rfl ⟨Nat.le_of_ble_eq_true rfl, Nat.le_of_ble_eq_true rfl⟩ (As := [.int t0]) rfl hl.1 rfl (lv_room (Nat.le_of_ble_eq_true rfl)) dX1_heightAt_54 (fun H locs hP hS => ?_)
    refine lv_istore (lv' := [(5, .int q11.1), (1, .int x1), (4, .int x4)]) hx hb dX1_heightAt_57 hl (by decide) rfl (fun ls hl => ?_)
    refine lv_iload hx hb dX1_heightAt_59 (lv_at hl 2 rfl) ?_
    refine lv_iload hx hb dX1_heightAt_61 (lv_at hl 0 rfl) ?_
    refine lv_iload hx hb dX1_heightAt_63 (lv_at hl 2 rfl) ?_
    refine lv_isub hx hb dX1_heightAt_65 ?_
    refine lv_iload_n hx hb dX1_heightAt_66 rfl (lv_at hl 1 rfl) ?_
    refine lv_bipush (v := 10) hx hb dX1_heightAt_67 (by decide) ?_
    refine lv_irem hx hb dX1_heightAt_69 (by decide) ?_
    refine lv_imul hx hb dX1_heightAt_70 ?_
    refine lv_bipush (v := 10) hx hb dX1_heightAt_71 (by decide) ?_
    refine lv_idiv hx hb dX1_heightAt_73 (by decide) ?_
    refine lv_iadd hx hb dX1_heightAt_74 ?_
    exact ret_i C hr hlocks hP hS h dX1_heightAt_75
  have hS : va_S (g_A G) s.heap s.heap [] := va_S.rf
  unfold f_X1_heightAt at h
  obtain ⟨H, hH⟩ : ∃ H, H = s.heap := ⟨_, rfl⟩
  obtain ⟨locs, hlo⟩ : ∃ k : List Loc, k = [] := ⟨_, rfl⟩
  rw [← hH, ← hlo]
  rw [← hH] at hP
  replace hS : va_S (g_A G) s.heap H locs := by rw [hH, hlo]; exact hS
  refine lv_aload_n hx hb dX1_heightAt_0 rfl (lv_at hl 0 rfl) ?_
  refine gf_X1_9_7 C hP dX1_heightAt_1 ?_
  obtain ⟨q13, e14, h⟩ := bnd h
  refine call_i C hP hS (c_X6_heightCount_2 e14) mi_X6_heightCount mw_823 2 (by decide) rfl rfl ⟨Nat.le_of_ble_eq_true rfl, Nat.le_of_ble_eq_true rfl⟩ (As := []) rfl hl.1 rfl (lv_room (Nat.le_of_ble_eq_true rfl)) dX1_heightAt_4 (fun H locs hP hS => ?_)
  refine lv_istore_n (lv' := [(2, .int q13.1), (0, .ref (g_ad G 7)), (1, .int a1)]) hx hb dX1_heightAt_7 rfl hl (by decide) rfl (fun ls hl => ?_)
  refine lv_iload_n hx hb dX1_heightAt_8 rfl (lv_at hl 0 rfl) ?_
  refine lv_iconst (v := 1) hx hb dX1_heightAt_9 (by decide) ?_
  refine lv_icmp_lt (tgt := 17) hx hb dX1_heightAt_10 (by decide) (fun c15 => ?_) (fun c15 => ?_)
  · replace h := h_t c15 h
    refine lv_iconst (v := 0) hx hb dX1_heightAt_17 (by decide) ?_
    exact ret_i C hr hlocks hP hS h dX1_heightAt_18
  · replace h := h_f c15 h
    refine lv_iload_n hx hb dX1_heightAt_13 rfl (lv_at hl 2 rfl) ?_
    refine lv_if_ge (tgt := 19) hx hb dX1_heightAt_14 (by decide) (fun c16 => ?_) (fun c16 => ?_)
    · replace h := h_t c16 h
      refine lv_iload_n hx hb dX1_heightAt_19 rfl (lv_at hl 2 rfl) ?_
      refine lv_bipush (v := 10) hx hb dX1_heightAt_20 (by decide) ?_
      refine lv_idiv hx hb dX1_heightAt_22 (by decide) ?_
      refine lv_iload_n hx hb dX1_heightAt_23 rfl (lv_at hl 0 rfl) ?_
      obtain ⟨g17, h⟩ := h_nz h
      refine lv_irem hx hb dX1_heightAt_24 g17 ?_
      obtain ⟨y18, e19, h⟩ := bnd h
      refine r_nm e19 ?_
      refine lv_istore_n (lv' := [(3, .int y18), (2, .int q13.1), (0, .ref (g_ad G 7)), (1, .int a1)]) hx hb dX1_heightAt_25 rfl hl (by decide) rfl (fun ls hl => ?_)
      refine lv_aload_n hx hb dX1_heightAt_26 rfl (lv_at hl 2 rfl) ?_
      refine gf_X1_9_7 C hP dX1_heightAt_27 ?_
      refine lv_iload_n hx hb dX1_heightAt_30 rfl (lv_at hl 0 rfl) ?_
      obtain ⟨q20, e21, h⟩ := bnd h
      refine call_i C hP hS (c_X6_heightCell_2 e21) mi_X6_heightCell mw_824 2 (by decide) rfl rfl ⟨Nat.le_of_ble_eq_true rfl, Nat.le_of_ble_eq_true rfl⟩ (As := [.int y18]) rfl hl.1 rfl (lv_room (Nat.le_of_ble_eq_true rfl)) dX1_heightAt_31 (fun H locs hP hS => ?_)
      refine lv_istore (lv' := [(4, .int q20.1), (3, .int y18), (2, .int q13.1), (0, .ref (g_ad G 7)), (1, .int a1)]) hx hb dX1_heightAt_34 hl (by decide) rfl (fun ls hl => ?_)
      refine lv_aload_n hx hb dX1_heightAt_36 rfl (lv_at hl 3 rfl) ?_
      refine gf_X1_9_7 C hP dX1_heightAt_37 ?_
      refine lv_iload_n hx hb dX1_heightAt_40 rfl (lv_at hl 1 rfl) ?_
      refine lv_iconst (v := 1) hx hb dX1_heightAt_41 (by decide) ?_
      refine lv_iadd hx hb dX1_heightAt_42 ?_
      refine lv_iload_n hx hb dX1_heightAt_43 rfl (lv_at hl 2 rfl) ?_
      refine lv_icmp_ge (tgt := 53) hx hb dX1_heightAt_44 (by decide) (fun c22 => ?_) (fun c22 => ?_)
      · replace h := h_t c22 h
        refine lv_iconst (v := 0) hx hb dX1_heightAt_53 (by decide) ?_
        exact J54 _ _ _ _ H locs ls h hP hS (lv_sub hl [4, 0] rfl)
      · replace h := h_f c22 h
        refine lv_iload_n hx hb dX1_heightAt_47 rfl (lv_at hl 1 rfl) ?_
        refine lv_iconst (v := 1) hx hb dX1_heightAt_48 (by decide) ?_
        refine lv_iadd hx hb dX1_heightAt_49 ?_
        refine lv_goto (tgt := 54) hx hb dX1_heightAt_50 (by decide) ?_
        exact J54 _ _ _ _ H locs ls h hP hS (lv_sub hl [4, 0] rfl)
    · replace h := h_f c16 h
      refine lv_iconst (v := 0) hx hb dX1_heightAt_17 (by decide) ?_
      exact ret_i C hr hlocks hP hS h dX1_heightAt_18
set_option maxHeartbeats 4000000 in
set_option maxRecDepth 100000 in
theorem c_X10_height {l : Launch} {G : GT} {lam : Lm} {σ : St} {a1 : Int32} {q : Int32 × St} (h : f_X10_height σ a1 = some q) : Met l yX10_height (Cond.code yX10_height cX10_height 2 ((some .int)) :: TB) ({ frames := 2, cells := 0, slots := 0, locals := 46 } : Room) (va_Pc [.ref (g_ad G 0), .int a1] (GW G lam σ)) (Ri q G lam) 0 0 (g_A G) := by
  refine mk_Qi (own := RX10) (by decide) (Nat.le_of_ble_eq_true rfl) rfl (fun p e s m args below meth c C hr hlocks hP ls hl => ?_)
  have hx := C.1
  have hb := C.2.1
  have hl : lv_has ls 2 [(0, .ref (g_ad G 0)), (1, .int a1)] := hl
  have hS : va_S (g_A G) s.heap s.heap [] := va_S.rf
  unfold f_X10_height at h
  refine lv_aload_n hx hb dX10_height_0 rfl (lv_at hl 0 rfl) ?_
  refine gf_X10_19_0 C hP dX10_height_1 ?_
  obtain ⟨q9, e10, h⟩ := bnd h
  refine call_i C hP hS (c_X6_isTold_2 e10) mi_X6_isTold mw_753 2 (by decide) rfl rfl ⟨Nat.le_of_ble_eq_true rfl, Nat.le_of_ble_eq_true rfl⟩ (As := []) rfl hl.1 rfl (lv_room (Nat.le_of_ble_eq_true rfl)) dX10_height_4 (fun H locs hP hS => ?_)
  refine lv_if_ne (tgt := 13) hx hb dX10_height_7 (by decide) (fun c11 => ?_) (fun c11 => ?_)
  · replace h := h_f c11 h
    refine lv_iload_n hx hb dX10_height_13 rfl (lv_at hl 1 rfl) ?_
    refine lv_iconst (v := 0) hx hb dX10_height_14 (by decide) ?_
    refine lv_sipush (v := 9999) hx hb dX10_height_15 (by decide) ?_
    obtain ⟨q12, e13, h⟩ := bnd h
    refine scall_i C hP hS (c_X10_isWithin e13) ms_X10_isWithin mw_408 ⟨Nat.le_of_ble_eq_true rfl, Nat.le_of_ble_eq_true rfl⟩ (As := [.int a1, .int 0, .int 9999]) rfl hl.1 rfl (lv_room (Nat.le_of_ble_eq_true rfl)) dX10_height_18 (fun H locs hP hS => ?_)
    refine lv_if_ne (tgt := 27) hx hb dX10_height_21 (by decide) (fun c14 => ?_) (fun c14 => ?_)
    · replace h := h_f c14 h
      refine lv_aload_n hx hb dX10_height_27 rfl (lv_at hl 0 rfl) ?_
      refine gf_X10_50_0 C hP dX10_height_28 ?_
      refine lv_iload_n hx hb dX10_height_31 rfl (lv_at hl 1 rfl) ?_
      obtain ⟨q15, e16, h⟩ := bnd h
      refine call_i C hP hS (c_X1_heightAt e16) mi_X1_heightAt mw_819 7 (by decide) rfl rfl ⟨Nat.le_of_ble_eq_true rfl, Nat.le_of_ble_eq_true rfl⟩ (As := [.int a1]) rfl hl.1 rfl (lv_room (Nat.le_of_ble_eq_true rfl)) dX10_height_32 (fun H locs hP hS => ?_)
      exact ret_i C hr hlocks hP hS h dX10_height_35
    · replace h := h_t c14 h
      refine lv_ldc hx hb C.2.2.2.1 (C.2.2.2.2.1 _ mw_411) dX10_height_24 ?_
      exact ret_i C hr hlocks hP hS h dX10_height_26
  · replace h := h_t c11 h
    refine lv_ldc hx hb C.2.2.2.1 (C.2.2.2.2.1 _ mw_716) dX10_height_10 ?_
    exact ret_i C hr hlocks hP hS h dX10_height_12
set_option maxHeartbeats 4000000 in
set_option maxRecDepth 100000 in
theorem c_X1_isCharted {l : Launch} {G : GT} {lam : Lm} {σ : St} {a1 : Int32} {a2 : Int32} {q : Int32 × St} (h : f_X1_isCharted σ a1 a2 = some q) : Met l yX1_isCharted (Cond.code yX1_isCharted cX1_isCharted 2 ((some .boolean)) :: TB) ({ frames := 0, cells := 0, slots := 0, locals := 0 } : Room) (va_Pc [.int a1, .int a2] (GW G lam σ)) (Ri q G lam) 0 0 (g_A G) := by
  refine mk_Qi (own := RX1) (by decide) (Nat.le_of_ble_eq_true rfl) rfl (fun p e s m args below meth c C hr hlocks hP ls hl => ?_)
  have hx := C.1
  have hb := C.2.1
  have hl : lv_has ls 2 [(0, .int a1), (1, .int a2)] := hl
  have hS : va_S (g_A G) s.heap s.heap [] := va_S.rf
  unfold f_X1_isCharted at h
  refine lv_iload_n hx hb dX1_isCharted_0 rfl (lv_at hl 0 rfl) ?_
  refine lv_if_lt (tgt := 24) hx hb dX1_isCharted_1 (by decide) (fun c5 => ?_) (fun c5 => ?_)
  · replace h := h_t c5 h
    refine lv_iconst (v := 0) hx hb dX1_isCharted_24 (by decide) ?_
    exact ret_z C hr hlocks hP hS h (Or.inl rfl) dX1_isCharted_25
  · replace h := h_f c5 h
    refine lv_iload_n hx hb dX1_isCharted_4 rfl (lv_at hl 0 rfl) ?_
    refine lv_bipush (v := 60) hx hb dX1_isCharted_5 (by decide) ?_
    refine lv_icmp_gt (tgt := 24) hx hb dX1_isCharted_7 (by decide) (fun c6 => ?_) (fun c6 => ?_)
    · replace h := h_t c6 h
      refine lv_iconst (v := 0) hx hb dX1_isCharted_24 (by decide) ?_
      exact ret_z C hr hlocks hP hS h (Or.inl rfl) dX1_isCharted_25
    · replace h := h_f c6 h
      refine lv_iload_n hx hb dX1_isCharted_10 rfl (lv_at hl 1 rfl) ?_
      refine lv_if_lt (tgt := 24) hx hb dX1_isCharted_11 (by decide) (fun c7 => ?_) (fun c7 => ?_)
      · replace h := h_t c7 h
        refine lv_iconst (v := 0) hx hb dX1_isCharted_24 (by decide) ?_
        exact ret_z C hr hlocks hP hS h (Or.inl rfl) dX1_isCharted_25
      · replace h := h_f c7 h
        refine lv_iload_n hx hb dX1_isCharted_14 rfl (lv_at hl 1 rfl) ?_
        refine lv_bipush (v := 60) hx hb dX1_isCharted_15 (by decide) ?_
        refine lv_icmp_gt (tgt := 24) hx hb dX1_isCharted_17 (by decide) (fun c8 => ?_) (fun c8 => ?_)
        · replace h := h_t c8 h
          refine lv_iconst (v := 0) hx hb dX1_isCharted_24 (by decide) ?_
          exact ret_z C hr hlocks hP hS h (Or.inl rfl) dX1_isCharted_25
        · replace h := h_f c8 h
          refine lv_iconst (v := 1) hx hb dX1_isCharted_20 (by decide) ?_
          refine lv_goto (tgt := 25) hx hb dX1_isCharted_21 (by decide) ?_
          exact ret_z C hr hlocks hP hS h (Or.inr rfl) dX1_isCharted_25
set_option maxHeartbeats 4000000 in
set_option maxRecDepth 100000 in
theorem c_X6_thingCount_2 {l : Launch} {G : GT} {lam : Lm} {σ : St} {q : Int32 × St} (h : f_X6_thingCount 14 σ = some q) : Met l yX6_thingCount (Cond.code yX6_thingCount cX6_thingCount 1 ((some .int)) :: TB) ({ frames := 0, cells := 0, slots := 0, locals := 0 } : Room) (va_Pc [.ref (g_ad G 2)] (GW G lam σ)) (Ri q G lam) 0 0 (g_A G) := by
  refine mk_Qi (own := RX6) (by decide) (Nat.le_of_ble_eq_true rfl) rfl (fun p e s m args below meth c C hr hlocks hP ls hl => ?_)
  have hx := C.1
  have hb := C.2.1
  have hl : lv_has ls 1 [(0, .ref (g_ad G 2))] := hl
  have hS : va_S (g_A G) s.heap s.heap [] := va_S.rf
  unfold f_X6_thingCount at h
  refine lv_aload_n hx hb dX6_thingCount_0 rfl (lv_at hl 0 rfl) ?_
  refine gf_X6_11_2 C hP dX6_thingCount_1 ?_
  refine lv_bipush (v := 76) hx hb dX6_thingCount_4 (by decide) ?_
  refine r_aldc C hP 14 (by decide) rfl (j := 76) (by decide) (vp_in_iff.mpr (by decide)) dX6_thingCount_6 ?_
  exact ret_i C hr hlocks hP hS h dX6_thingCount_7
set_option maxHeartbeats 4000000 in
set_option maxRecDepth 100000 in
theorem c_X1_liesIn {l : Launch} {G : GT} {lam : Lm} {σ : St} {a1 : Int32} {a2 : Int32} {a3 : Int32} {q : Int32 × St} (h : f_X1_liesIn σ a1 a2 a3 = some q) : Met l yX1_liesIn (Cond.code yX1_liesIn cX1_liesIn 8 ((some .boolean)) :: TB) ({ frames := 1, cells := 0, slots := 0, locals := 22 } : Room) (va_Pc [.ref (g_ad G 7), .int a1, .int a2, .int a3] (GW G lam σ)) (Ri q G lam) 0 0 (g_A G) := by
  refine mk_Qi (own := RX1) (by decide) (Nat.le_of_ble_eq_true rfl) rfl (fun p e s m args below meth c C hr hlocks hP ls hl => ?_)
  have hx := C.1
  have hb := C.2.1
  have hl : lv_has ls 8 [(0, .ref (g_ad G 7)), (1, .int a1), (2, .int a2), (3, .int a3)] := hl
  have hS : va_S (g_A G) s.heap s.heap [] := va_S.rf
  unfold f_X1_liesIn at h
  refine lv_aload_n hx hb dX1_liesIn_0 rfl (lv_at hl 0 rfl) ?_
  refine gf_X1_9_7 C hP dX1_liesIn_1 ?_
  refine lv_iload_n hx hb dX1_liesIn_4 rfl (lv_at hl 1 rfl) ?_
  refine lv_iconst (v := 0) hx hb dX1_liesIn_5 (by decide) ?_
  obtain ⟨q14, e15, h⟩ := bnd h
  refine call_i C hP hS (c_X6_thingCell_2 e15) mi_X6_thingCell mw_844 2 (by decide) rfl rfl ⟨Nat.le_of_ble_eq_true rfl, Nat.le_of_ble_eq_true rfl⟩ (As := [.int a1, .int 0]) rfl hl.1 rfl (lv_room (Nat.le_of_ble_eq_true rfl)) dX1_liesIn_6 (fun H locs hP hS => ?_)
  refine lv_istore (lv' := [(4, .int q14.1), (0, .ref (g_ad G 7)), (1, .int a1), (2, .int a2), (3, .int a3)]) hx hb dX1_liesIn_9 hl (by decide) rfl (fun ls hl => ?_)
  refine lv_iload hx hb dX1_liesIn_11 (lv_at hl 0 rfl) ?_
  refine lv_iconst (v := 4) hx hb dX1_liesIn_13 (by decide) ?_
  refine lv_icmp_ge (tgt := 19) hx hb dX1_liesIn_14 (by decide) (fun c16 => ?_) (fun c16 => ?_)
  · replace h := h_t c16 h
    refine lv_iload_n hx hb dX1_liesIn_19 rfl (lv_at hl 3 rfl) ?_
    refine lv_aload_n hx hb dX1_liesIn_20 rfl (lv_at hl 1 rfl) ?_
    refine gf_X1_9_7 C hP dX1_liesIn_21 ?_
    refine lv_iload_n hx hb dX1_liesIn_24 rfl (lv_at hl 2 rfl) ?_
    refine lv_iconst (v := 1) hx hb dX1_liesIn_25 (by decide) ?_
    obtain ⟨q17, e18, h⟩ := bnd h
    refine call_i C hP hS (c_X6_thingCell_2 e18) mi_X6_thingCell mw_844 2 (by decide) rfl rfl ⟨Nat.le_of_ble_eq_true rfl, Nat.le_of_ble_eq_true rfl⟩ (As := [.int a1, .int 1]) rfl hl.1 rfl (lv_room (Nat.le_of_ble_eq_true rfl)) dX1_liesIn_26 (fun H locs hP hS => ?_)
    refine lv_isub hx hb dX1_liesIn_29 ?_
    obtain ⟨y19, e20, h⟩ := bnd h
    refine r_nm e20 ?_
    refine lv_istore (lv' := [(5, .int y19), (4, .int q14.1), (0, .ref (g_ad G 7)), (1, .int a1), (2, .int a2), (3, .int a3)]) hx hb dX1_liesIn_30 hl (by decide) rfl (fun ls hl => ?_)
    refine lv_iload_n hx hb dX1_liesIn_32 rfl (lv_at hl 5 rfl) ?_
    refine lv_aload_n hx hb dX1_liesIn_33 rfl (lv_at hl 2 rfl) ?_
    refine gf_X1_9_7 C hP dX1_liesIn_34 ?_
    refine lv_iload_n hx hb dX1_liesIn_37 rfl (lv_at hl 3 rfl) ?_
    refine lv_iconst (v := 2) hx hb dX1_liesIn_38 (by decide) ?_
    obtain ⟨q21, e22, h⟩ := bnd h
    refine call_i C hP hS (c_X6_thingCell_2 e22) mi_X6_thingCell mw_844 2 (by decide) rfl rfl ⟨Nat.le_of_ble_eq_true rfl, Nat.le_of_ble_eq_true rfl⟩ (As := [.int a1, .int 2]) rfl hl.1 rfl (lv_room (Nat.le_of_ble_eq_true rfl)) dX1_liesIn_39 (fun H locs hP hS => ?_)
    refine lv_isub hx hb dX1_liesIn_42 ?_
    obtain ⟨y23, e24, h⟩ := bnd h
    refine r_nm e24 ?_
    refine lv_istore (lv' := [(6, .int y23), (5, .int y19), (4, .int q14.1), (0, .ref (g_ad G 7)), (1, .int a1), (2, .int a2), (3, .int a3)]) hx hb dX1_liesIn_43 hl (by decide) rfl (fun ls hl => ?_)
    refine lv_aload_n hx hb dX1_liesIn_45 rfl (lv_at hl 3 rfl) ?_
    refine gf_X1_9_7 C hP dX1_liesIn_46 ?_
    refine lv_iload_n hx hb dX1_liesIn_49 rfl (lv_at hl 4 rfl) ?_
    refine lv_iconst (v := 3) hx hb dX1_liesIn_50 (by decide) ?_
    obtain ⟨q25, e26, h⟩ := bnd h
    refine call_i C hP hS (c_X6_thingCell_2 e26) mi_X6_thingCell mw_844 2 (by decide) rfl rfl ⟨Nat.le_of_ble_eq_true rfl, Nat.le_of_ble_eq_true rfl⟩ (As := [.int a1, .int 3]) rfl hl.1 rfl (lv_room (Nat.le_of_ble_eq_true rfl)) dX1_liesIn_51 (fun H locs hP hS => ?_)
    refine lv_istore (lv' := [(7, .int q25.1), (6, .int y23), (5, .int y19), (4, .int q14.1), (0, .ref (g_ad G 7)), (1, .int a1), (2, .int a2), (3, .int a3)]) hx hb dX1_liesIn_54 hl (by decide) rfl (fun ls hl => ?_)
    refine lv_iload hx hb dX1_liesIn_56 (lv_at hl 3 rfl) ?_
    refine lv_bipush (v := 6) hx hb dX1_liesIn_58 (by decide) ?_
    refine lv_icmp_ne (tgt := 89) hx hb dX1_liesIn_60 (by decide) (fun c27 => ?_) (fun c27 => ?_)
    · replace h := h_f c27 h
      refine lv_iload hx hb dX1_liesIn_89 (lv_at hl 2 rfl) ?_
      refine lv_iload hx hb dX1_liesIn_91 (lv_at hl 2 rfl) ?_
      refine lv_imul hx hb dX1_liesIn_93 ?_
      refine lv_iload hx hb dX1_liesIn_94 (lv_at hl 1 rfl) ?_
      refine lv_iload hx hb dX1_liesIn_96 (lv_at hl 1 rfl) ?_
      refine lv_imul hx hb dX1_liesIn_98 ?_
      refine lv_iadd hx hb dX1_liesIn_99 ?_
      refine lv_iload hx hb dX1_liesIn_100 (lv_at hl 0 rfl) ?_
      refine lv_iload hx hb dX1_liesIn_102 (lv_at hl 0 rfl) ?_
      refine lv_imul hx hb dX1_liesIn_104 ?_
      refine lv_icmp_gt (tgt := 112) hx hb dX1_liesIn_105 (by decide) (fun c28 => ?_) (fun c28 => ?_)
      · replace h := h_t c28 h
        refine lv_iconst (v := 0) hx hb dX1_liesIn_112 (by decide) ?_
        exact ret_z C hr hlocks hP hS h (Or.inl rfl) dX1_liesIn_113
      · replace h := h_f c28 h
        refine lv_iconst (v := 1) hx hb dX1_liesIn_108 (by decide) ?_
        refine lv_goto (tgt := 113) hx hb dX1_liesIn_109 (by decide) ?_
        exact ret_z C hr hlocks hP hS h (Or.inr rfl) dX1_liesIn_113
    · replace h := h_t c27 h
      refine lv_iload hx hb dX1_liesIn_63 (lv_at hl 2 rfl) ?_
      refine va_mabs hx hb (by rw [C.2.2.1]; exact hl.1.symm) C.2.2.2.1 (C.2.2.2.2.1 _ mw_845) (C.2.2.2.2.1 _ mw_846) (C.2.2.2.2.1 _ mw_95) (C.2.2.2.2.1 _ mw_847) (Nat.le_of_ble_eq_true rfl) (Nat.le_of_ble_eq_true rfl) (Nat.zero_le _) (Nat.zero_le _) dX1_liesIn_65 ?_
      refine lv_iload hx hb dX1_liesIn_68 (lv_at hl 0 rfl) ?_
      refine lv_icmp_gt (tgt := 87) hx hb dX1_liesIn_70 (by decide) (fun c29 => ?_) (fun c29 => ?_)
      · replace h := h_t c29 h
        refine lv_iconst (v := 0) hx hb dX1_liesIn_87 (by decide) ?_
        exact ret_z C hr hlocks hP hS h (Or.inl rfl) dX1_liesIn_88
      · replace h := h_f c29 h
        refine lv_iload hx hb dX1_liesIn_73 (lv_at hl 1 rfl) ?_
        refine va_mabs hx hb (by rw [C.2.2.1]; exact hl.1.symm) C.2.2.2.1 (C.2.2.2.2.1 _ mw_845) (C.2.2.2.2.1 _ mw_846) (C.2.2.2.2.1 _ mw_95) (C.2.2.2.2.1 _ mw_847) (Nat.le_of_ble_eq_true rfl) (Nat.le_of_ble_eq_true rfl) (Nat.zero_le _) (Nat.zero_le _) dX1_liesIn_75 ?_
        refine lv_iload hx hb dX1_liesIn_78 (lv_at hl 0 rfl) ?_
        refine lv_icmp_gt (tgt := 87) hx hb dX1_liesIn_80 (by decide) (fun c30 => ?_) (fun c30 => ?_)
        · replace h := h_t c30 h
          refine lv_iconst (v := 0) hx hb dX1_liesIn_87 (by decide) ?_
          exact ret_z C hr hlocks hP hS h (Or.inl rfl) dX1_liesIn_88
        · replace h := h_f c30 h
          refine lv_iconst (v := 1) hx hb dX1_liesIn_83 (by decide) ?_
          refine lv_goto (tgt := 88) hx hb dX1_liesIn_84 (by decide) ?_
          exact ret_z C hr hlocks hP hS h (Or.inr rfl) dX1_liesIn_88
  · replace h := h_f c16 h
    refine lv_iconst (v := 0) hx hb dX1_liesIn_17 (by decide) ?_
    exact ret_z C hr hlocks hP hS h (Or.inl rfl) dX1_liesIn_18
set_option maxHeartbeats 4000000 in
set_option maxRecDepth 100000 in
theorem c_X1_depthOf {l : Launch} {G : GT} {lam : Lm} {σ : St} {a1 : Int32} {q : Int32 × St} (h : f_X1_depthOf σ a1 = some q) : Met l yX1_depthOf (Cond.code yX1_depthOf cX1_depthOf 3 ((some .int)) :: TB) ({ frames := 1, cells := 0, slots := 0, locals := 22 } : Room) (va_Pc [.ref (g_ad G 7), .int a1] (GW G lam σ)) (Ri q G lam) 0 0 (g_A G) := by
  refine mk_Qi (own := RX1) (by decide) (Nat.le_of_ble_eq_true rfl) rfl (fun p e s m args below meth c C hr hlocks hP ls hl => ?_)
  have hx := C.1
  have hb := C.2.1
  have hl : lv_has ls 3 [(0, .ref (g_ad G 7)), (1, .int a1)] := hl
  have hS : va_S (g_A G) s.heap s.heap [] := va_S.rf
  unfold f_X1_depthOf at h
  refine lv_aload_n hx hb dX1_depthOf_0 rfl (lv_at hl 0 rfl) ?_
  refine gf_X1_9_7 C hP dX1_depthOf_1 ?_
  refine lv_iload_n hx hb dX1_depthOf_4 rfl (lv_at hl 1 rfl) ?_
  refine lv_iconst (v := 4) hx hb dX1_depthOf_5 (by decide) ?_
  obtain ⟨q6, e7, h⟩ := bnd h
  refine call_i C hP hS (c_X6_thingCell_2 e7) mi_X6_thingCell mw_844 2 (by decide) rfl rfl ⟨Nat.le_of_ble_eq_true rfl, Nat.le_of_ble_eq_true rfl⟩ (As := [.int a1, .int 4]) rfl hl.1 rfl (lv_room (Nat.le_of_ble_eq_true rfl)) dX1_depthOf_6 (fun H locs hP hS => ?_)
  refine lv_istore_n (lv' := [(2, .int q6.1), (0, .ref (g_ad G 7)), (1, .int a1)]) hx hb dX1_depthOf_9 rfl hl (by decide) rfl (fun ls hl => ?_)
  refine lv_aload_n hx hb dX1_depthOf_10 rfl (lv_at hl 1 rfl) ?_
  refine gf_X1_9_7 C hP dX1_depthOf_11 ?_
  refine lv_iload_n hx hb dX1_depthOf_14 rfl (lv_at hl 2 rfl) ?_
  refine lv_iconst (v := 0) hx hb dX1_depthOf_15 (by decide) ?_
  obtain ⟨q8, e9, h⟩ := bnd h
  refine call_i C hP hS (c_X6_thingCell_2 e9) mi_X6_thingCell mw_844 2 (by decide) rfl rfl ⟨Nat.le_of_ble_eq_true rfl, Nat.le_of_ble_eq_true rfl⟩ (As := [.int a1, .int 0]) rfl hl.1 rfl (lv_room (Nat.le_of_ble_eq_true rfl)) dX1_depthOf_16 (fun H locs hP hS => ?_)
  refine lv_iconst (v := 5) hx hb dX1_depthOf_19 (by decide) ?_
  refine lv_icmp_ne (tgt := 28) hx hb dX1_depthOf_20 (by decide) (fun c10 => ?_) (fun c10 => ?_)
  · replace h := h_f c10 h
    refine lv_iload_n hx hb dX1_depthOf_28 rfl (lv_at hl 0 rfl) ?_
    exact ret_i C hr hlocks hP hS h dX1_depthOf_29
  · replace h := h_t c10 h
    refine lv_iload_n hx hb dX1_depthOf_23 rfl (lv_at hl 0 rfl) ?_
    refine lv_ineg hx hb dX1_depthOf_24 ?_
    refine lv_goto (tgt := 29) hx hb dX1_depthOf_25 (by decide) ?_
    exact ret_i C hr hlocks hP hS h dX1_depthOf_29
set_option maxHeartbeats 4000000 in
set_option maxRecDepth 100000 in
theorem c_X1_depthAt {l : Launch} {G : GT} {lam : Lm} {σ : St} {a1 : Int32} {a2 : Int32} {q : Int32 × St} (h : f_X1_depthAt σ a1 a2 = some q) : Met l yX1_depthAt (Cond.code yX1_depthAt cX1_depthAt 5 ((some .int)) :: TB) ({ frames := 2, cells := 0, slots := 0, locals := 49 } : Room) (va_Pc [.ref (g_ad G 7), .int a1, .int a2] (GW G lam σ)) (Ri q G lam) 0 0 (g_A G) := by
  refine mk_Qi (own := RX1) (by decide) (Nat.le_of_ble_eq_true rfl) rfl (fun p e s m args below meth c C hr hlocks hP ls hl => ?_)
  have hx := C.1
  have hb := C.2.1
  have hl : lv_has ls 5 [(0, .ref (g_ad G 7)), (1, .int a1), (2, .int a2)] := hl
  have L6 : ∀ (n6 : Nat) (σ : St) (x1 : Int32) (x2 : Int32) (x3 : Int32) (x4 : Int32) (H : Heap) (locs : List Loc) (ls : Array Slot), fx (F_X1_depthAt_h6) z_X1_depthAt_h6 n6 σ x1 x2 x3 x4 = some q → va_P (g_D G) vwCl (allW G lam σ) H → va_S (g_A G) s.heap H locs → lv_has ls 5 [(0, .ref (g_ad G 7)), (1, .int x1), (2, .int x2), (3, .int x3), (4, .int x4)] → W p l e ({ frames := 2, cells := 0, slots := 0, locals := 49 } : Room) s m args below meth c H locs 0 0 (Qi q below args s G lam) (F0 m 6 ls []) := by
    intro n6
    induction n6 with
    | zero => intro σ x1 x2 x3 x4 H locs ls h hP hS hl; exact absurd h (by intro h9; cases h9)
    | succ n6 ih6 =>
      have J40 : ∀ (σ : St) (x1 : Int32) (x2 : Int32) (x3 : Int32) (x4 : Int32) (H : Heap) (locs : List Loc) (ls : Array Slot), f_X1_depthAt_p40 (fx (F_X1_depthAt_h6) z_X1_depthAt_h6 n6) σ x1 x2 x3 x4 = some q → va_P (g_D G) vwCl (allW G lam σ) H → va_S (g_A G) s.heap H locs → lv_has ls 5 [(0, .ref (g_ad G 7)), (1, .int x1), (2, .int x2), (3, .int x3), (4, .int x4)] → W p l e ({ frames := 2, cells := 0, slots := 0, locals := 49 } : Room) s m args below meth c H locs 0 0 (Qi q below args s G lam) (F0 m 40 ls []) := by
        intro σ x1 x2 x3 x4 H locs ls h hP hS hl
        unfold f_X1_depthAt_p40 at h
        obtain ⟨y11, e12, h⟩ := bnd h
        refine lv_iinc (v := y11) (lv' := [(4, .int y11), (0, .ref (g_ad G 7)), (1, .int x1), (2, .int x2), (3, .int x3)]) hx hb dX1_depthAt_40 hl (k := 4) rfl (Option.some.inj e12) (by decide) rfl (fun ls hl => ?_)
        refine lv_goto (tgt := 6) hx hb dX1_depthAt_43 (by decide) ?_
        exact ih6 _ _ _ _ _ H locs ls h hP hS (lv_sub hl [1, 2, 3, 4, 0] rfl)
      intro σ x1 x2 x3 x4 H locs ls h hP hS hl
      change F_X1_depthAt_h6 (fx (F_X1_depthAt_h6) z_X1_depthAt_h6 n6) σ x1 x2 x3 x4 = some q at h
      unfold F_X1_depthAt_h6 at h
      refine lv_iload hx hb dX1_depthAt_6 (lv_at hl 4 rfl) ?_
      refine lv_aload_n hx hb dX1_depthAt_8 rfl (lv_at hl 0 rfl) ?_
      refine gf_X1_9_7 C hP dX1_depthAt_9 ?_
      obtain ⟨q13, e14, h⟩ := bnd h
      refine call_i C hP hS (c_X6_thingCount_2 e14) mi_X6_thingCount mw_836 2 (by decide) rfl rfl ⟨Nat.le_of_ble_eq_true rfl, Nat.le_of_ble_eq_true rfl⟩ (As := []) rfl hl.1 rfl (lv_room (Nat.le_of_ble_eq_true rfl)) dX1_depthAt_12 (fun H locs hP hS => ?_)
      refine lv_icmp_ge (tgt := 46) hx hb dX1_depthAt_15 (by decide) (fun c15 => ?_) (fun c15 => ?_)
      · replace h := h_t c15 h
        refine lv_iload_n hx hb dX1_depthAt_46 rfl (lv_at hl 3 rfl) ?_
        exact ret_i C hr hlocks hP hS h dX1_depthAt_47
      · replace h := h_f c15 h
        refine lv_aload_n hx hb dX1_depthAt_18 rfl (lv_at hl 0 rfl) ?_
        refine lv_iload hx hb dX1_depthAt_19 (lv_at hl 4 rfl) ?_
        refine lv_iload_n hx hb dX1_depthAt_21 rfl (lv_at hl 1 rfl) ?_
        refine lv_iload_n hx hb dX1_depthAt_22 rfl (lv_at hl 2 rfl) ?_
        obtain ⟨q16, e17, h⟩ := bnd h
        refine call_i C hP hS (c_X1_liesIn e17) mi_X1_liesIn mw_840 7 (by decide) rfl rfl ⟨Nat.le_of_ble_eq_true rfl, Nat.le_of_ble_eq_true rfl⟩ (As := [.int x4, .int x1, .int x2]) rfl hl.1 rfl (lv_room (Nat.le_of_ble_eq_true rfl)) dX1_depthAt_23 (fun H locs hP hS => ?_)
        refine lv_if_eq (tgt := 40) hx hb dX1_depthAt_26 (by decide) (fun c18 => ?_) (fun c18 => ?_)
        · replace h := h_t c18 h
          exact J40 _ _ _ _ _ H locs ls h hP hS (lv_sub hl [0, 1, 2, 3, 4] rfl)
        · replace h := h_f c18 h
          refine lv_iload_n hx hb dX1_depthAt_29 rfl (lv_at hl 3 rfl) ?_
          refine lv_aload_n hx hb dX1_depthAt_30 rfl (lv_at hl 0 rfl) ?_
          refine lv_iload hx hb dX1_depthAt_31 (lv_at hl 4 rfl) ?_
          obtain ⟨q19, e20, h⟩ := bnd h
          refine call_i C hP hS (c_X1_depthOf e20) mi_X1_depthOf mw_848 7 (by decide) rfl rfl ⟨Nat.le_of_ble_eq_true rfl, Nat.le_of_ble_eq_true rfl⟩ (As := [.int x4]) rfl hl.1 rfl (lv_room (Nat.le_of_ble_eq_true rfl)) dX1_depthAt_33 (fun H locs hP hS => ?_)
          refine va_mmin hx hb (by rw [C.2.2.1]; exact hl.1.symm) C.2.2.2.1 (C.2.2.2.2.1 _ mw_852) (C.2.2.2.2.1 _ mw_434) (C.2.2.2.2.1 _ mw_95) (C.2.2.2.2.1 _ mw_435) (Nat.le_of_ble_eq_true rfl) (Nat.le_of_ble_eq_true rfl) (Nat.zero_le _) (Nat.zero_le _) dX1_depthAt_36 ?_
          obtain ⟨y21, e22, h⟩ := bnd h
          refine r_nm e22 ?_
          refine lv_istore_n (lv' := [(3, .int y21), (0, .ref (g_ad G 7)), (1, .int x1), (2, .int x2), (4, .int x4)]) hx hb dX1_depthAt_39 rfl hl (by decide) rfl (fun ls hl => ?_)
          exact J40 _ _ _ _ _ H locs ls h hP hS (lv_sub hl [1, 2, 3, 0, 4] rfl)
  have hS : va_S (g_A G) s.heap s.heap [] := va_S.rf
  unfold f_X1_depthAt at h
  obtain ⟨H, hH⟩ : ∃ H, H = s.heap := ⟨_, rfl⟩
  obtain ⟨locs, hlo⟩ : ∃ k : List Loc, k = [] := ⟨_, rfl⟩
  rw [← hH, ← hlo]
  rw [← hH] at hP
  replace hS : va_S (g_A G) s.heap H locs := by rw [hH, hlo]; exact hS
  refine lv_bipush (v := 40) hx hb dX1_depthAt_0 (by decide) ?_
  refine lv_istore_n (lv' := [(3, .int 40), (0, .ref (g_ad G 7)), (1, .int a1), (2, .int a2)]) hx hb dX1_depthAt_2 rfl hl (by decide) rfl (fun ls hl => ?_)
  refine lv_iconst (v := 0) hx hb dX1_depthAt_3 (by decide) ?_
  refine lv_istore (lv' := [(4, .int 0), (3, .int 40), (0, .ref (g_ad G 7)), (1, .int a1), (2, .int a2)]) hx hb dX1_depthAt_4 hl (by decide) rfl (fun ls hl => ?_)
  exact L6 FU _ _ _ _ _ H locs ls h hP hS (lv_sub hl [2, 3, 4, 1, 0] rfl)
set_option maxHeartbeats 4000000 in
set_option maxRecDepth 100000 in
theorem c_X1_firstShoalAt {l : Launch} {G : GT} {lam : Lm} {σ : St} {a1 : Int32} {a2 : Int32} {q : Int32 × St} (h : f_X1_firstShoalAt σ a1 a2 = some q) : Met l yX1_firstShoalAt (Cond.code yX1_firstShoalAt cX1_firstShoalAt 5 ((some .int)) :: TB) ({ frames := 3, cells := 0, slots := 0, locals := 73 } : Room) (va_Pc [.ref (g_ad G 7), .int a1, .int a2] (GW G lam σ)) (Ri q G lam) 0 0 (g_A G) := by
  refine mk_Qi (own := RX1) (by decide) (Nat.le_of_ble_eq_true rfl) rfl (fun p e s m args below meth c C hr hlocks hP ls hl => ?_)
  have hx := C.1
  have hb := C.2.1
  have hl : lv_has ls 5 [(0, .ref (g_ad G 7)), (1, .int a1), (2, .int a2)] := hl
  have L10 : ∀ (n10 : Nat) (σ : St) (x1 : Int32) (x2 : Int32) (x3 : Int32) (x4 : Int32) (H : Heap) (locs : List Loc) (ls : Array Slot), fx (F_X1_firstShoalAt_h10) z_X1_firstShoalAt_h10 n10 σ x1 x2 x3 x4 = some q → va_P (g_D G) vwCl (allW G lam σ) H → va_S (g_A G) s.heap H locs → lv_has ls 5 [(0, .ref (g_ad G 7)), (1, .int x1), (2, .int x2), (3, .int x3), (4, .int x4)] → W p l e ({ frames := 3, cells := 0, slots := 0, locals := 73 } : Room) s m args below meth c H locs 0 0 (Qi q below args s G lam) (F0 m 10 ls []) := by
    intro n10
    induction n10 with
    | zero => intro σ x1 x2 x3 x4 H locs ls h hP hS hl; exact absurd h (by intro h9; cases h9)
    | succ n10 ih10 =>
      have J46 : ∀ (σ : St) (x1 : Int32) (x2 : Int32) (x3 : Int32) (x4 : Int32) (H : Heap) (locs : List Loc) (ls : Array Slot), f_X1_firstShoalAt_p46 (fx (F_X1_firstShoalAt_h10) z_X1_firstShoalAt_h10 n10) σ x1 x2 x3 x4 = some q → va_P (g_D G) vwCl (allW G lam σ) H → va_S (g_A G) s.heap H locs → lv_has ls 5 [(0, .ref (g_ad G 7)), (1, .int x1), (2, .int x2), (3, .int x3), (4, .int x4)] → W p l e ({ frames := 3, cells := 0, slots := 0, locals := 73 } : Room) s m args below meth c H locs 0 0 (Qi q below args s G lam) (F0 m 46 ls []) := by
        intro σ x1 x2 x3 x4 H locs ls h hP hS hl
        unfold f_X1_firstShoalAt_p46 at h
        obtain ⟨y14, e15, h⟩ := bnd h
        refine lv_iinc (v := y14) (lv' := [(4, .int y14), (0, .ref (g_ad G 7)), (1, .int x1), (2, .int x2), (3, .int x3)]) hx hb dX1_firstShoalAt_46 hl (k := 4) rfl (Option.some.inj e15) (by decide) rfl (fun ls hl => ?_)
        refine lv_goto (tgt := 10) hx hb dX1_firstShoalAt_49 (by decide) ?_
        exact ih10 _ _ _ _ _ H locs ls h hP hS (lv_sub hl [1, 2, 3, 4, 0] rfl)
      intro σ x1 x2 x3 x4 H locs ls h hP hS hl
      change F_X1_firstShoalAt_h10 (fx (F_X1_firstShoalAt_h10) z_X1_firstShoalAt_h10 n10) σ x1 x2 x3 x4 = some q at h
      unfold F_X1_firstShoalAt_h10 at h
      refine lv_iload hx hb dX1_firstShoalAt_10 (lv_at hl 4 rfl) ?_
      refine lv_aload_n hx hb dX1_firstShoalAt_12 rfl (lv_at hl 0 rfl) ?_
      refine gf_X1_9_7 C hP dX1_firstShoalAt_13 ?_
      obtain ⟨q16, e17, h⟩ := bnd h
      refine call_i C hP hS (c_X6_thingCount_2 e17) mi_X6_thingCount mw_836 2 (by decide) rfl rfl ⟨Nat.le_of_ble_eq_true rfl, Nat.le_of_ble_eq_true rfl⟩ (As := []) rfl hl.1 rfl (lv_room (Nat.le_of_ble_eq_true rfl)) dX1_firstShoalAt_16 (fun H locs hP hS => ?_)
      refine lv_icmp_ge (tgt := 52) hx hb dX1_firstShoalAt_19 (by decide) (fun c18 => ?_) (fun c18 => ?_)
      · replace h := h_t c18 h
        refine lv_ldc hx hb C.2.2.2.1 (C.2.2.2.2.1 _ mw_858) dX1_firstShoalAt_52 ?_
        exact ret_i C hr hlocks hP hS h dX1_firstShoalAt_54
      · replace h := h_f c18 h
        refine lv_aload_n hx hb dX1_firstShoalAt_22 rfl (lv_at hl 0 rfl) ?_
        refine lv_iload hx hb dX1_firstShoalAt_23 (lv_at hl 4 rfl) ?_
        refine lv_iload_n hx hb dX1_firstShoalAt_25 rfl (lv_at hl 1 rfl) ?_
        refine lv_iload_n hx hb dX1_firstShoalAt_26 rfl (lv_at hl 2 rfl) ?_
        obtain ⟨q19, e20, h⟩ := bnd h
        refine call_i C hP hS (c_X1_liesIn e20) mi_X1_liesIn mw_840 7 (by decide) rfl rfl ⟨Nat.le_of_ble_eq_true rfl, Nat.le_of_ble_eq_true rfl⟩ (As := [.int x4, .int x1, .int x2]) rfl hl.1 rfl (lv_room (Nat.le_of_ble_eq_true rfl)) dX1_firstShoalAt_27 (fun H locs hP hS => ?_)
        refine lv_if_eq (tgt := 46) hx hb dX1_firstShoalAt_30 (by decide) (fun c21 => ?_) (fun c21 => ?_)
        · replace h := h_t c21 h
          exact J46 _ _ _ _ _ H locs ls h hP hS (lv_sub hl [0, 1, 2, 3, 4] rfl)
        · replace h := h_f c21 h
          refine lv_aload_n hx hb dX1_firstShoalAt_33 rfl (lv_at hl 0 rfl) ?_
          refine lv_iload hx hb dX1_firstShoalAt_34 (lv_at hl 4 rfl) ?_
          obtain ⟨q22, e23, h⟩ := bnd h
          refine call_i C hP hS (c_X1_depthOf e23) mi_X1_depthOf mw_848 7 (by decide) rfl rfl ⟨Nat.le_of_ble_eq_true rfl, Nat.le_of_ble_eq_true rfl⟩ (As := [.int x4]) rfl hl.1 rfl (lv_room (Nat.le_of_ble_eq_true rfl)) dX1_firstShoalAt_36 (fun H locs hP hS => ?_)
          refine lv_iload_n hx hb dX1_firstShoalAt_39 rfl (lv_at hl 3 rfl) ?_
          refine lv_icmp_ne (tgt := 46) hx hb dX1_firstShoalAt_40 (by decide) (fun c24 => ?_) (fun c24 => ?_)
          · replace h := h_f c24 h
            exact J46 _ _ _ _ _ H locs ls h hP hS (lv_sub hl [0, 1, 2, 3, 4] rfl)
          · replace h := h_t c24 h
            refine lv_iload hx hb dX1_firstShoalAt_43 (lv_at hl 4 rfl) ?_
            exact ret_i C hr hlocks hP hS h dX1_firstShoalAt_45
  have hS : va_S (g_A G) s.heap s.heap [] := va_S.rf
  unfold f_X1_firstShoalAt at h
  obtain ⟨H, hH⟩ : ∃ H, H = s.heap := ⟨_, rfl⟩
  obtain ⟨locs, hlo⟩ : ∃ k : List Loc, k = [] := ⟨_, rfl⟩
  rw [← hH, ← hlo]
  rw [← hH] at hP
  replace hS : va_S (g_A G) s.heap H locs := by rw [hH, hlo]; exact hS
  refine lv_aload_n hx hb dX1_firstShoalAt_0 rfl (lv_at hl 0 rfl) ?_
  refine lv_iload_n hx hb dX1_firstShoalAt_1 rfl (lv_at hl 1 rfl) ?_
  refine lv_iload_n hx hb dX1_firstShoalAt_2 rfl (lv_at hl 2 rfl) ?_
  obtain ⟨q25, e26, h⟩ := bnd h
  refine call_i C hP hS (c_X1_depthAt e26) mi_X1_depthAt mw_857 7 (by decide) rfl rfl ⟨Nat.le_of_ble_eq_true rfl, Nat.le_of_ble_eq_true rfl⟩ (As := [.int a1, .int a2]) rfl hl.1 rfl (lv_room (Nat.le_of_ble_eq_true rfl)) dX1_firstShoalAt_3 (fun H locs hP hS => ?_)
  refine lv_istore_n (lv' := [(3, .int q25.1), (0, .ref (g_ad G 7)), (1, .int a1), (2, .int a2)]) hx hb dX1_firstShoalAt_6 rfl hl (by decide) rfl (fun ls hl => ?_)
  refine lv_iconst (v := 0) hx hb dX1_firstShoalAt_7 (by decide) ?_
  refine lv_istore (lv' := [(4, .int 0), (3, .int q25.1), (0, .ref (g_ad G 7)), (1, .int a1), (2, .int a2)]) hx hb dX1_firstShoalAt_8 hl (by decide) rfl (fun ls hl => ?_)
  exact L10 FU _ _ _ _ _ H locs ls h hP hS (lv_sub hl [2, 3, 4, 1, 0] rfl)
set_option maxHeartbeats 4000000 in
set_option maxRecDepth 100000 in
theorem c_X10_water {l : Launch} {G : GT} {lam : Lm} {σ : St} {a1 : Int32} {a2 : Int32} {a3 : Int32} {q : Int32 × St} (h : f_X10_water σ a1 a2 a3 = some q) : Met l yX10_water (Cond.code yX10_water cX10_water 4 ((some .int)) :: TB) ({ frames := 4, cells := 0, slots := 0, locals := 97 } : Room) (va_Pc [.ref (g_ad G 0), .int a1, .int a2, .int a3] (GW G lam σ)) (Ri q G lam) 0 0 (g_A G) := by
  refine mk_Qi (own := RX10) (by decide) (Nat.le_of_ble_eq_true rfl) rfl (fun p e s m args below meth c C hr hlocks hP ls hl => ?_)
  have hx := C.1
  have hb := C.2.1
  have hl : lv_has ls 4 [(0, .ref (g_ad G 0)), (1, .int a1), (2, .int a2), (3, .int a3)] := hl
  have hS : va_S (g_A G) s.heap s.heap [] := va_S.rf
  unfold f_X10_water at h
  refine lv_aload_n hx hb dX10_water_0 rfl (lv_at hl 0 rfl) ?_
  refine gf_X10_19_0 C hP dX10_water_1 ?_
  obtain ⟨q15, e16, h⟩ := bnd h
  refine call_i C hP hS (c_X6_isTold_2 e16) mi_X6_isTold mw_753 2 (by decide) rfl rfl ⟨Nat.le_of_ble_eq_true rfl, Nat.le_of_ble_eq_true rfl⟩ (As := []) rfl hl.1 rfl (lv_room (Nat.le_of_ble_eq_true rfl)) dX10_water_4 (fun H locs hP hS => ?_)
  refine lv_if_ne (tgt := 13) hx hb dX10_water_7 (by decide) (fun c17 => ?_) (fun c17 => ?_)
  · replace h := h_f c17 h
    refine lv_iload_n hx hb dX10_water_13 rfl (lv_at hl 1 rfl) ?_
    refine lv_iload_n hx hb dX10_water_14 rfl (lv_at hl 2 rfl) ?_
    obtain ⟨q18, e19, h⟩ := bnd h
    refine scall_i C hP hS (c_X1_isCharted e19) ms_X1_isCharted mw_829 ⟨Nat.le_of_ble_eq_true rfl, Nat.le_of_ble_eq_true rfl⟩ (As := [.int a1, .int a2]) rfl hl.1 rfl (lv_room (Nat.le_of_ble_eq_true rfl)) dX10_water_15 (fun H locs hP hS => ?_)
    refine lv_if_eq (tgt := 30) hx hb dX10_water_18 (by decide) (fun c20 => ?_) (fun c20 => ?_)
    · replace h := h_t c20 h
      refine lv_ldc hx hb C.2.2.2.1 (C.2.2.2.2.1 _ mw_411) dX10_water_30 ?_
      exact ret_i C hr hlocks hP hS h dX10_water_32
    · replace h := h_f c20 h
      refine lv_iload_n hx hb dX10_water_21 rfl (lv_at hl 3 rfl) ?_
      refine lv_iconst (v := 0) hx hb dX10_water_22 (by decide) ?_
      refine lv_iconst (v := 1) hx hb dX10_water_23 (by decide) ?_
      obtain ⟨q21, e22, h⟩ := bnd h
      refine scall_i C hP hS (c_X10_isWithin e22) ms_X10_isWithin mw_408 ⟨Nat.le_of_ble_eq_true rfl, Nat.le_of_ble_eq_true rfl⟩ (As := [.int a3, .int 0, .int 1]) rfl hl.1 rfl (lv_room (Nat.le_of_ble_eq_true rfl)) dX10_water_24 (fun H locs hP hS => ?_)
      refine lv_if_ne (tgt := 33) hx hb dX10_water_27 (by decide) (fun c23 => ?_) (fun c23 => ?_)
      · replace h := h_f c23 h
        refine lv_iload_n hx hb dX10_water_33 rfl (lv_at hl 3 rfl) ?_
        refine lv_if_ne (tgt := 49) hx hb dX10_water_34 (by decide) (fun c24 => ?_) (fun c24 => ?_)
        · replace h := h_f c24 h
          refine lv_aload_n hx hb dX10_water_49 rfl (lv_at hl 0 rfl) ?_
          refine gf_X10_50_0 C hP dX10_water_50 ?_
          refine lv_iload_n hx hb dX10_water_53 rfl (lv_at hl 1 rfl) ?_
          refine lv_iload_n hx hb dX10_water_54 rfl (lv_at hl 2 rfl) ?_
          obtain ⟨q25, e26, h⟩ := bnd h
          refine call_i C hP hS (c_X1_firstShoalAt e26) mi_X1_firstShoalAt mw_853 7 (by decide) rfl rfl ⟨Nat.le_of_ble_eq_true rfl, Nat.le_of_ble_eq_true rfl⟩ (As := [.int a1, .int a2]) rfl hl.1 rfl (lv_room (Nat.le_of_ble_eq_true rfl)) dX10_water_55 (fun H locs hP hS => ?_)
          exact ret_i C hr hlocks hP hS h dX10_water_58
        · replace h := h_t c24 h
          refine lv_aload_n hx hb dX10_water_37 rfl (lv_at hl 0 rfl) ?_
          refine gf_X10_50_0 C hP dX10_water_38 ?_
          refine lv_iload_n hx hb dX10_water_41 rfl (lv_at hl 1 rfl) ?_
          refine lv_iload_n hx hb dX10_water_42 rfl (lv_at hl 2 rfl) ?_
          obtain ⟨q27, e28, h⟩ := bnd h
          refine call_i C hP hS (c_X1_depthAt e28) mi_X1_depthAt mw_832 7 (by decide) rfl rfl ⟨Nat.le_of_ble_eq_true rfl, Nat.le_of_ble_eq_true rfl⟩ (As := [.int a1, .int a2]) rfl hl.1 rfl (lv_room (Nat.le_of_ble_eq_true rfl)) dX10_water_43 (fun H locs hP hS => ?_)
          refine lv_goto (tgt := 58) hx hb dX10_water_46 (by decide) ?_
          exact ret_i C hr hlocks hP hS h dX10_water_58
      · replace h := h_t c23 h
        refine lv_ldc hx hb C.2.2.2.1 (C.2.2.2.2.1 _ mw_411) dX10_water_30 ?_
        exact ret_i C hr hlocks hP hS h dX10_water_32
  · replace h := h_t c17 h
    refine lv_ldc hx hb C.2.2.2.1 (C.2.2.2.2.1 _ mw_716) dX10_water_10 ?_
    exact ret_i C hr hlocks hP hS h dX10_water_12
set_option maxHeartbeats 4000000 in
set_option maxRecDepth 100000 in
theorem c_X6_isMark_2 {l : Launch} {G : GT} {lam : Lm} {σ : St} {a1 : Int32} {q : Int32 × St} (h : f_X6_isMark 14 σ a1 = some q) : Met l yX6_isMark (Cond.code yX6_isMark cX6_isMark 2 ((some .boolean)) :: TB) ({ frames := 1, cells := 0, slots := 0, locals := 22 } : Room) (va_Pc [.ref (g_ad G 2), .int a1] (GW G lam σ)) (Ri q G lam) 0 0 (g_A G) := by
  refine mk_Qi (own := RX6) (by decide) (Nat.le_of_ble_eq_true rfl) rfl (fun p e s m args below meth c C hr hlocks hP ls hl => ?_)
  have hx := C.1
  have hb := C.2.1
  have hl : lv_has ls 2 [(0, .ref (g_ad G 2)), (1, .int a1)] := hl
  have hS : va_S (g_A G) s.heap s.heap [] := va_S.rf
  unfold f_X6_isMark at h
  refine lv_aload_n hx hb dX6_isMark_0 rfl (lv_at hl 0 rfl) ?_
  refine lv_iload_n hx hb dX6_isMark_1 rfl (lv_at hl 1 rfl) ?_
  obtain ⟨q7, e8, h⟩ := bnd h
  refine call_i C hP hS (c_X6_hasThing_2 e8) mi_X6_hasThing mw_867 2 (by decide) rfl rfl ⟨Nat.le_of_ble_eq_true rfl, Nat.le_of_ble_eq_true rfl⟩ (As := [.int a1]) rfl hl.1 rfl (lv_room (Nat.le_of_ble_eq_true rfl)) dX6_isMark_2 (fun H locs hP hS => ?_)
  refine lv_if_eq (tgt := 22) hx hb dX6_isMark_5 (by decide) (fun c9 => ?_) (fun c9 => ?_)
  · replace h := h_t c9 h
    refine lv_iconst (v := 0) hx hb dX6_isMark_22 (by decide) ?_
    exact ret_z C hr hlocks hP hS h (Or.inl rfl) dX6_isMark_23
  · replace h := h_f c9 h
    refine lv_aload_n hx hb dX6_isMark_8 rfl (lv_at hl 0 rfl) ?_
    refine lv_iload_n hx hb dX6_isMark_9 rfl (lv_at hl 1 rfl) ?_
    refine lv_iconst (v := 0) hx hb dX6_isMark_10 (by decide) ?_
    obtain ⟨q10, e11, h⟩ := bnd h
    refine call_i C hP hS (c_X6_thingCell_2 e11) mi_X6_thingCell mw_593 2 (by decide) rfl rfl ⟨Nat.le_of_ble_eq_true rfl, Nat.le_of_ble_eq_true rfl⟩ (As := [.int a1, .int 0]) rfl hl.1 rfl (lv_room (Nat.le_of_ble_eq_true rfl)) dX6_isMark_11 (fun H locs hP hS => ?_)
    refine lv_iconst (v := 3) hx hb dX6_isMark_14 (by decide) ?_
    refine lv_icmp_gt (tgt := 22) hx hb dX6_isMark_15 (by decide) (fun c12 => ?_) (fun c12 => ?_)
    · replace h := h_t c12 h
      refine lv_iconst (v := 0) hx hb dX6_isMark_22 (by decide) ?_
      exact ret_z C hr hlocks hP hS h (Or.inl rfl) dX6_isMark_23
    · replace h := h_f c12 h
      refine lv_iconst (v := 1) hx hb dX6_isMark_18 (by decide) ?_
      refine lv_goto (tgt := 23) hx hb dX6_isMark_19 (by decide) ?_
      exact ret_z C hr hlocks hP hS h (Or.inr rfl) dX6_isMark_23
set_option maxHeartbeats 4000000 in
set_option maxRecDepth 100000 in
theorem c_X1_markX {l : Launch} {G : GT} {lam : Lm} {σ : St} {a1 : Int32} {a2 : Int32} {q : Int32 × St} (h : f_X1_markX σ a1 a2 = some q) : Met l yX1_markX (Cond.code yX1_markX cX1_markX 4 ((some .int)) :: TB) ({ frames := 1, cells := 0, slots := 0, locals := 22 } : Room) (va_Pc [.ref (g_ad G 7), .int a1, .int a2] (GW G lam σ)) (Ri q G lam) 0 0 (g_A G) := by
  refine mk_Qi (own := RX1) (by decide) (Nat.le_of_ble_eq_true rfl) rfl (fun p e s m args below meth c C hr hlocks hP ls hl => ?_)
  have hx := C.1
  have hb := C.2.1
  have hl : lv_has ls 4 [(0, .ref (g_ad G 7)), (1, .int a1), (2, .int a2)] := hl
  have J20 : ∀ (σ : St) (x1 : Int32) (t0 : Int32) (H : Heap) (locs : List Loc) (ls : Array Slot), f_X1_markX_p20 σ x1 t0 = some q → va_P (g_D G) vwCl (allW G lam σ) H → va_S (g_A G) s.heap H locs → lv_has ls 4 [(0, .ref (g_ad G 7)), (1, .int x1)] → W p l e ({ frames := 1, cells := 0, slots := 0, locals := 22 } : Room) s m args below meth c H locs 0 0 (Qi q below args s G lam) (F0 m 20 ls [.int t0]) := by
    intro σ x1 t0 H locs ls h hP hS hl
    unfold f_X1_markX_p20 at h
    refine lv_istore_n (lv' := [(3, .int t0), (0, .ref (g_ad G 7)), (1, .int x1)]) hx hb dX1_markX_20 rfl hl (by decide) rfl (fun ls hl => ?_)
    refine lv_aload_n hx hb dX1_markX_21 rfl (lv_at hl 1 rfl) ?_
    refine gf_X1_9_7 C hP dX1_markX_22 ?_
    refine lv_iload_n hx hb dX1_markX_25 rfl (lv_at hl 2 rfl) ?_
    refine lv_iconst (v := 1) hx hb dX1_markX_26 (by decide) ?_
    obtain ⟨q6, e7, h⟩ := bnd h
    refine call_i C hP hS (c_X6_thingCell_2 e7) mi_X6_thingCell mw_844 2 (by decide) rfl rfl ⟨Nat.le_of_ble_eq_true rfl, Nat.le_of_ble_eq_true rfl⟩ (As := [.int x1, .int 1]) rfl hl.1 rfl (lv_room (Nat.le_of_ble_eq_true rfl)) dX1_markX_27 (fun H locs hP hS => ?_)
    refine lv_iload_n hx hb dX1_markX_30 rfl (lv_at hl 0 rfl) ?_
    refine lv_iadd hx hb dX1_markX_31 ?_
    exact ret_i C hr hlocks hP hS h dX1_markX_32
  have hS : va_S (g_A G) s.heap s.heap [] := va_S.rf
  unfold f_X1_markX at h
  obtain ⟨H, hH⟩ : ∃ H, H = s.heap := ⟨_, rfl⟩
  obtain ⟨locs, hlo⟩ : ∃ k : List Loc, k = [] := ⟨_, rfl⟩
  rw [← hH, ← hlo]
  rw [← hH] at hP
  replace hS : va_S (g_A G) s.heap H locs := by rw [hH, hlo]; exact hS
  refine lv_aload_n hx hb dX1_markX_0 rfl (lv_at hl 0 rfl) ?_
  refine gf_X1_9_7 C hP dX1_markX_1 ?_
  refine lv_iload_n hx hb dX1_markX_4 rfl (lv_at hl 1 rfl) ?_
  refine lv_iconst (v := 0) hx hb dX1_markX_5 (by decide) ?_
  obtain ⟨q8, e9, h⟩ := bnd h
  refine call_i C hP hS (c_X6_thingCell_2 e9) mi_X6_thingCell mw_844 2 (by decide) rfl rfl ⟨Nat.le_of_ble_eq_true rfl, Nat.le_of_ble_eq_true rfl⟩ (As := [.int a1, .int 0]) rfl hl.1 rfl (lv_room (Nat.le_of_ble_eq_true rfl)) dX1_markX_6 (fun H locs hP hS => ?_)
  refine lv_iconst (v := 3) hx hb dX1_markX_9 (by decide) ?_
  refine lv_icmp_ne (tgt := 19) hx hb dX1_markX_10 (by decide) (fun c10 => ?_) (fun c10 => ?_)
  · replace h := h_f c10 h
    refine lv_iconst (v := 0) hx hb dX1_markX_19 (by decide) ?_
    exact J20 _ _ _ H locs ls h hP hS (lv_sub hl [0, 1] rfl)
  · replace h := h_t c10 h
    refine lv_iload_n hx hb dX1_markX_13 rfl (lv_at hl 2 rfl) ?_
    refine lv_iconst (v := 4) hx hb dX1_markX_14 (by decide) ?_
    refine lv_idiv hx hb dX1_markX_15 (by decide) ?_
    refine lv_goto (tgt := 20) hx hb dX1_markX_16 (by decide) ?_
    exact J20 _ _ _ H locs ls h hP hS (lv_sub hl [0, 1] rfl)
