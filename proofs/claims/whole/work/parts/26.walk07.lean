set_option maxHeartbeats 4000000 in
set_option maxRecDepth 100000 in
theorem c_X10_imageOf {l : Launch} {G : GT} {lam : Lm} {σ : St} {a1 : Int32} {q : Nat × St} (h : f_X10_imageOf σ a1 = some q) : Met l yX10_imageOf (Cond.code yX10_imageOf cX10_imageOf 2 ((some (.object "SailingDirections$Sheet"))) :: TB) ({ frames := 0, cells := 0, slots := 0, locals := 0 } : Room) (va_Pc [.ref (g_ad G 0), .int a1] (GW G lam σ)) (Ro q G lam) 0 0 (g_A G) := by
  refine mk_Qo (own := RX10) (by decide) (Nat.le_of_ble_eq_true rfl) rfl (fun p e s m args below meth c C hr hlocks hP ls hl => ?_)
  have hx := C.1
  have hb := C.2.1
  have hl : lv_has ls 2 [(0, .ref (g_ad G 0)), (1, .int a1)] := hl
  have hS : va_S (g_A G) s.heap s.heap [] := va_S.rf
  unfold f_X10_imageOf at h
  refine lv_iload_n hx hb dX10_imageOf_0 rfl (lv_at hl 1 rfl) ?_
  refine lv_if_ne (tgt := 11) hx hb dX10_imageOf_1 (by decide) (fun c2 => ?_) (fun c2 => ?_)
  · replace h := h_f c2 h
    refine lv_aload_n hx hb dX10_imageOf_11 rfl (lv_at hl 0 rfl) ?_
    refine gf_X10_42_0 C hP dX10_imageOf_12 ?_
    exact ret_o C hr hlocks (Or.inl ⟨_, rfl⟩) hP hS h dX10_imageOf_15
  · replace h := h_t c2 h
    refine lv_aload_n hx hb dX10_imageOf_4 rfl (lv_at hl 0 rfl) ?_
    refine gf_X10_39_0 C hP dX10_imageOf_5 ?_
    refine lv_goto (tgt := 15) hx hb dX10_imageOf_8 (by decide) ?_
    exact ret_o C hr hlocks (Or.inl ⟨_, rfl⟩) hP hS h dX10_imageOf_15
set_option maxHeartbeats 4000000 in
set_option maxRecDepth 100000 in
theorem c_X6_copyFrom_5_2 {l : Launch} {G : GT} {lam : Lm} {σ : St} {q : St} (h : f_X6_copyFrom 15 14 σ = some q) : Met l yX6_copyFrom (Cond.code yX6_copyFrom cX6_copyFrom 2 none :: TB) ({ frames := 1, cells := 0, slots := 0, locals := 18 } : Room) (va_Pc [.ref (g_ad G 5), .ref (g_ad G 2)] (GW G lam σ)) (Rv q G lam) 0 0 (g_A G) := by
  refine mk_Qv (own := RX6) (by decide) (Nat.le_of_ble_eq_true rfl) rfl (fun p e s m args below meth c C hr hlocks hP ls hl => ?_)
  have hx := C.1
  have hb := C.2.1
  have hl : lv_has ls 2 [(0, .ref (g_ad G 5)), (1, .ref (g_ad G 2))] := hl
  have hS : va_S (g_A G) s.heap s.heap [] := va_S.rf
  unfold f_X6_copyFrom at h
  refine lv_aload_n hx hb dX6_copyFrom_0 rfl (lv_at hl 1 rfl) ?_
  refine gf_X6_11_2 C hP dX6_copyFrom_1 ?_
  refine lv_iconst (v := 0) hx hb dX6_copyFrom_4 (by decide) ?_
  refine lv_aload_n hx hb dX6_copyFrom_5 rfl (lv_at hl 0 rfl) ?_
  refine gf_X6_11_5 C hP dX6_copyFrom_6 ?_
  refine lv_iconst (v := 0) hx hb dX6_copyFrom_9 (by decide) ?_
  refine lv_bipush (v := 78) hx hb dX6_copyFrom_10 (by decide) ?_
  obtain ⟨g4, h⟩ := h_g h
  refine r_copy C hP hS hl.1 mw_642 mw_644 mw_643 mw_101 14 15 (by decide) (by decide) (fun _ => rfl) (fun _ => rfl) g4 (Nat.le_of_ble_eq_true rfl) (Nat.le_of_ble_eq_true rfl) dX6_copyFrom_12 (fun H locs hP hS => ?_)
  obtain ⟨σ5, e6, h⟩ := bnd h
  have hP := hPn e6 hP
  exact ret_v C hr hlocks hP hS h dX6_copyFrom_15
set_option maxHeartbeats 4000000 in
set_option maxRecDepth 100000 in
theorem c_X6_copyFrom_6_2 {l : Launch} {G : GT} {lam : Lm} {σ : St} {q : St} (h : f_X6_copyFrom 16 14 σ = some q) : Met l yX6_copyFrom (Cond.code yX6_copyFrom cX6_copyFrom 2 none :: TB) ({ frames := 1, cells := 0, slots := 0, locals := 18 } : Room) (va_Pc [.ref (g_ad G 6), .ref (g_ad G 2)] (GW G lam σ)) (Rv q G lam) 0 0 (g_A G) := by
  refine mk_Qv (own := RX6) (by decide) (Nat.le_of_ble_eq_true rfl) rfl (fun p e s m args below meth c C hr hlocks hP ls hl => ?_)
  have hx := C.1
  have hb := C.2.1
  have hl : lv_has ls 2 [(0, .ref (g_ad G 6)), (1, .ref (g_ad G 2))] := hl
  have hS : va_S (g_A G) s.heap s.heap [] := va_S.rf
  unfold f_X6_copyFrom at h
  refine lv_aload_n hx hb dX6_copyFrom_0 rfl (lv_at hl 1 rfl) ?_
  refine gf_X6_11_2 C hP dX6_copyFrom_1 ?_
  refine lv_iconst (v := 0) hx hb dX6_copyFrom_4 (by decide) ?_
  refine lv_aload_n hx hb dX6_copyFrom_5 rfl (lv_at hl 0 rfl) ?_
  refine gf_X6_11_6 C hP dX6_copyFrom_6 ?_
  refine lv_iconst (v := 0) hx hb dX6_copyFrom_9 (by decide) ?_
  refine lv_bipush (v := 78) hx hb dX6_copyFrom_10 (by decide) ?_
  obtain ⟨g4, h⟩ := h_g h
  refine r_copy C hP hS hl.1 mw_642 mw_644 mw_643 mw_101 14 16 (by decide) (by decide) (fun _ => rfl) (fun _ => rfl) g4 (Nat.le_of_ble_eq_true rfl) (Nat.le_of_ble_eq_true rfl) dX6_copyFrom_12 (fun H locs hP hS => ?_)
  obtain ⟨σ5, e6, h⟩ := bnd h
  have hP := hPn e6 hP
  exact ret_v C hr hlocks hP hS h dX6_copyFrom_15
set_option maxHeartbeats 4000000 in
set_option maxRecDepth 100000 in
theorem c_X10_image {l : Launch} {G : GT} {lam : Lm} {σ : St} {a1 : Int32} {q : Int32 × St} (h : f_X10_image σ a1 = some q) : Met l yX10_image (Cond.code yX10_image cX10_image 2 ((some .int)) :: TB) ({ frames := 2, cells := 0, slots := 0, locals := 39 } : Room) (va_Pc [.ref (g_ad G 0), .int a1] (GW G lam σ)) (Ri q G lam) 0 0 (g_A G) := by
  refine mk_Qi (own := RX10) (by decide) (Nat.le_of_ble_eq_true rfl) rfl (fun p e s m args below meth c C hr hlocks hP ls hl => ?_)
  have hx := C.1
  have hb := C.2.1
  have hl : lv_has ls 2 [(0, .ref (g_ad G 0)), (1, .int a1)] := hl
  have hS : va_S (g_A G) s.heap s.heap [] := va_S.rf
  unfold f_X10_image at h
  refine lv_iload_n hx hb dX10_image_0 rfl (lv_at hl 1 rfl) ?_
  refine lv_iconst (v := 0) hx hb dX10_image_1 (by decide) ?_
  refine lv_iconst (v := 1) hx hb dX10_image_2 (by decide) ?_
  obtain ⟨q15, e16, h⟩ := bnd h
  refine scall_i C hP hS (c_X10_isWithin e16) ms_X10_isWithin mw_408 ⟨Nat.le_of_ble_eq_true rfl, Nat.le_of_ble_eq_true rfl⟩ (As := [.int a1, .int 0, .int 1]) rfl hl.1 rfl (lv_room (Nat.le_of_ble_eq_true rfl)) dX10_image_3 (fun H locs hP hS => ?_)
  refine lv_if_ne (tgt := 12) hx hb dX10_image_6 (by decide) (fun c17 => ?_) (fun c17 => ?_)
  · replace h := h_f c17 h
    refine lv_aload_n hx hb dX10_image_12 rfl (lv_at hl 0 rfl) ?_
    refine gf_X10_19_0 C hP dX10_image_13 ?_
    obtain ⟨q18, e19, h⟩ := bnd h
    refine call_i C hP hS (c_X6_isTold_2 e19) mi_X6_isTold mw_753 2 (by decide) rfl rfl ⟨Nat.le_of_ble_eq_true rfl, Nat.le_of_ble_eq_true rfl⟩ (As := []) rfl hl.1 rfl (lv_room (Nat.le_of_ble_eq_true rfl)) dX10_image_16 (fun H locs hP hS => ?_)
    refine lv_if_ne (tgt := 25) hx hb dX10_image_19 (by decide) (fun c20 => ?_) (fun c20 => ?_)
    · replace h := h_f c20 h
      refine lv_aload_n hx hb dX10_image_25 rfl (lv_at hl 0 rfl) ?_
      refine lv_iload_n hx hb dX10_image_26 rfl (lv_at hl 1 rfl) ?_
      obtain ⟨q21, e22, h⟩ := bnd h
      refine call_o C hP hS (c_X10_imageOf e22) mi_X10_imageOf mw_1201 0 (by decide) rfl rfl ⟨Nat.le_of_ble_eq_true rfl, Nat.le_of_ble_eq_true rfl⟩ (As := [.int a1]) rfl hl.1 rfl (lv_room (Nat.le_of_ble_eq_true rfl)) dX10_image_27 (fun H locs hP hS => ?_)
      by_cases c27 : q21.1 = 5
      · replace h := h_t c27 h
        rw [c27]
        refine lv_aload_n hx hb dX10_image_30 rfl (lv_at hl 0 rfl) ?_
        refine gf_X10_19_0 C hP dX10_image_31 ?_
        obtain ⟨q23, e24, h⟩ := bnd h
        refine call_v C hP hS (c_X6_copyFrom_5_2 e24) mi_X6_copyFrom mw_638 5 (by decide) rfl rfl ⟨Nat.le_of_ble_eq_true rfl, Nat.le_of_ble_eq_true rfl⟩ (As := [.ref (g_ad G 2)]) rfl hl.1 rfl (lv_room (Nat.le_of_ble_eq_true rfl)) dX10_image_34 (fun H locs hP hS => ?_)
        refine lv_iconst (v := 1) hx hb dX10_image_37 (by decide) ?_
        exact ret_i C hr hlocks hP hS h dX10_image_38
      · replace h := h_f c27 h
        obtain ⟨c28, h⟩ := h_g h
        rw [c28]
        refine lv_aload_n hx hb dX10_image_30 rfl (lv_at hl 0 rfl) ?_
        refine gf_X10_19_0 C hP dX10_image_31 ?_
        obtain ⟨q25, e26, h⟩ := bnd h
        refine call_v C hP hS (c_X6_copyFrom_6_2 e26) mi_X6_copyFrom mw_638 6 (by decide) rfl rfl ⟨Nat.le_of_ble_eq_true rfl, Nat.le_of_ble_eq_true rfl⟩ (As := [.ref (g_ad G 2)]) rfl hl.1 rfl (lv_room (Nat.le_of_ble_eq_true rfl)) dX10_image_34 (fun H locs hP hS => ?_)
        refine lv_iconst (v := 1) hx hb dX10_image_37 (by decide) ?_
        exact ret_i C hr hlocks hP hS h dX10_image_38
    · replace h := h_t c20 h
      refine lv_ldc hx hb C.2.2.2.1 (C.2.2.2.2.1 _ mw_716) dX10_image_22 ?_
      exact ret_i C hr hlocks hP hS h dX10_image_24
  · replace h := h_t c17 h
    refine lv_ldc hx hb C.2.2.2.1 (C.2.2.2.2.1 _ mw_411) dX10_image_9 ?_
    exact ret_i C hr hlocks hP hS h dX10_image_11
set_option maxHeartbeats 4000000 in
set_option maxRecDepth 100000 in
theorem c_X6_isTold_5 {l : Launch} {G : GT} {lam : Lm} {σ : St} {q : Int32 × St} (h : f_X6_isTold 15 σ = some q) : Met l yX6_isTold (Cond.code yX6_isTold cX6_isTold 1 ((some .boolean)) :: TB) ({ frames := 0, cells := 0, slots := 0, locals := 0 } : Room) (va_Pc [.ref (g_ad G 5)] (GW G lam σ)) (Ri q G lam) 0 0 (g_A G) := by
  refine mk_Qi (own := RX6) (by decide) (Nat.le_of_ble_eq_true rfl) rfl (fun p e s m args below meth c C hr hlocks hP ls hl => ?_)
  have hx := C.1
  have hb := C.2.1
  have hl : lv_has ls 1 [(0, .ref (g_ad G 5))] := hl
  have hS : va_S (g_A G) s.heap s.heap [] := va_S.rf
  unfold f_X6_isTold at h
  refine lv_aload_n hx hb dX6_isTold_0 rfl (lv_at hl 0 rfl) ?_
  refine gf_X6_11_5 C hP dX6_isTold_1 ?_
  refine lv_bipush (v := 77) hx hb dX6_isTold_4 (by decide) ?_
  refine r_aldc C hP 15 (by decide) rfl (j := 77) (by decide) (vp_in_iff.mpr (by decide)) dX6_isTold_6 ?_
  refine lv_if_le (tgt := 14) hx hb dX6_isTold_7 (by decide) (fun c2 => ?_) (fun c2 => ?_)
  · replace h := h_t c2 h
    refine lv_iconst (v := 0) hx hb dX6_isTold_14 (by decide) ?_
    exact ret_z C hr hlocks hP hS h (Or.inl rfl) dX6_isTold_15
  · replace h := h_f c2 h
    refine lv_iconst (v := 1) hx hb dX6_isTold_10 (by decide) ?_
    refine lv_goto (tgt := 15) hx hb dX6_isTold_11 (by decide) ?_
    exact ret_z C hr hlocks hP hS h (Or.inr rfl) dX6_isTold_15
set_option maxHeartbeats 4000000 in
set_option maxRecDepth 100000 in
theorem c_X6_copyFrom_2_5 {l : Launch} {G : GT} {lam : Lm} {σ : St} {q : St} (h : f_X6_copyFrom 14 15 σ = some q) : Met l yX6_copyFrom (Cond.code yX6_copyFrom cX6_copyFrom 2 none :: TB) ({ frames := 1, cells := 0, slots := 0, locals := 18 } : Room) (va_Pc [.ref (g_ad G 2), .ref (g_ad G 5)] (GW G lam σ)) (Rv q G lam) 0 0 (g_A G) := by
  refine mk_Qv (own := RX6) (by decide) (Nat.le_of_ble_eq_true rfl) rfl (fun p e s m args below meth c C hr hlocks hP ls hl => ?_)
  have hx := C.1
  have hb := C.2.1
  have hl : lv_has ls 2 [(0, .ref (g_ad G 2)), (1, .ref (g_ad G 5))] := hl
  have hS : va_S (g_A G) s.heap s.heap [] := va_S.rf
  unfold f_X6_copyFrom at h
  refine lv_aload_n hx hb dX6_copyFrom_0 rfl (lv_at hl 1 rfl) ?_
  refine gf_X6_11_5 C hP dX6_copyFrom_1 ?_
  refine lv_iconst (v := 0) hx hb dX6_copyFrom_4 (by decide) ?_
  refine lv_aload_n hx hb dX6_copyFrom_5 rfl (lv_at hl 0 rfl) ?_
  refine gf_X6_11_2 C hP dX6_copyFrom_6 ?_
  refine lv_iconst (v := 0) hx hb dX6_copyFrom_9 (by decide) ?_
  refine lv_bipush (v := 78) hx hb dX6_copyFrom_10 (by decide) ?_
  obtain ⟨g4, h⟩ := h_g h
  refine r_copy C hP hS hl.1 mw_642 mw_644 mw_643 mw_101 15 14 (by decide) (by decide) (fun _ => rfl) (fun _ => rfl) g4 (Nat.le_of_ble_eq_true rfl) (Nat.le_of_ble_eq_true rfl) dX6_copyFrom_12 (fun H locs hP hS => ?_)
  obtain ⟨σ5, e6, h⟩ := bnd h
  have hP := hPn e6 hP
  exact ret_v C hr hlocks hP hS h dX6_copyFrom_15
set_option maxHeartbeats 4000000 in
set_option maxRecDepth 100000 in
theorem c_X6_copyFrom_2_6 {l : Launch} {G : GT} {lam : Lm} {σ : St} {q : St} (h : f_X6_copyFrom 14 16 σ = some q) : Met l yX6_copyFrom (Cond.code yX6_copyFrom cX6_copyFrom 2 none :: TB) ({ frames := 1, cells := 0, slots := 0, locals := 18 } : Room) (va_Pc [.ref (g_ad G 2), .ref (g_ad G 6)] (GW G lam σ)) (Rv q G lam) 0 0 (g_A G) := by
  refine mk_Qv (own := RX6) (by decide) (Nat.le_of_ble_eq_true rfl) rfl (fun p e s m args below meth c C hr hlocks hP ls hl => ?_)
  have hx := C.1
  have hb := C.2.1
  have hl : lv_has ls 2 [(0, .ref (g_ad G 2)), (1, .ref (g_ad G 6))] := hl
  have hS : va_S (g_A G) s.heap s.heap [] := va_S.rf
  unfold f_X6_copyFrom at h
  refine lv_aload_n hx hb dX6_copyFrom_0 rfl (lv_at hl 1 rfl) ?_
  refine gf_X6_11_6 C hP dX6_copyFrom_1 ?_
  refine lv_iconst (v := 0) hx hb dX6_copyFrom_4 (by decide) ?_
  refine lv_aload_n hx hb dX6_copyFrom_5 rfl (lv_at hl 0 rfl) ?_
  refine gf_X6_11_2 C hP dX6_copyFrom_6 ?_
  refine lv_iconst (v := 0) hx hb dX6_copyFrom_9 (by decide) ?_
  refine lv_bipush (v := 78) hx hb dX6_copyFrom_10 (by decide) ?_
  obtain ⟨g4, h⟩ := h_g h
  refine r_copy C hP hS hl.1 mw_642 mw_644 mw_643 mw_101 16 14 (by decide) (by decide) (fun _ => rfl) (fun _ => rfl) g4 (Nat.le_of_ble_eq_true rfl) (Nat.le_of_ble_eq_true rfl) dX6_copyFrom_12 (fun H locs hP hS => ?_)
  obtain ⟨σ5, e6, h⟩ := bnd h
  have hP := hPn e6 hP
  exact ret_v C hr hlocks hP hS h dX6_copyFrom_15
set_option maxHeartbeats 4000000 in
set_option maxRecDepth 100000 in
theorem c_X6_isTold_6 {l : Launch} {G : GT} {lam : Lm} {σ : St} {q : Int32 × St} (h : f_X6_isTold 16 σ = some q) : Met l yX6_isTold (Cond.code yX6_isTold cX6_isTold 1 ((some .boolean)) :: TB) ({ frames := 0, cells := 0, slots := 0, locals := 0 } : Room) (va_Pc [.ref (g_ad G 6)] (GW G lam σ)) (Ri q G lam) 0 0 (g_A G) := by
  refine mk_Qi (own := RX6) (by decide) (Nat.le_of_ble_eq_true rfl) rfl (fun p e s m args below meth c C hr hlocks hP ls hl => ?_)
  have hx := C.1
  have hb := C.2.1
  have hl : lv_has ls 1 [(0, .ref (g_ad G 6))] := hl
  have hS : va_S (g_A G) s.heap s.heap [] := va_S.rf
  unfold f_X6_isTold at h
  refine lv_aload_n hx hb dX6_isTold_0 rfl (lv_at hl 0 rfl) ?_
  refine gf_X6_11_6 C hP dX6_isTold_1 ?_
  refine lv_bipush (v := 77) hx hb dX6_isTold_4 (by decide) ?_
  refine r_aldc C hP 16 (by decide) rfl (j := 77) (by decide) (vp_in_iff.mpr (by decide)) dX6_isTold_6 ?_
  refine lv_if_le (tgt := 14) hx hb dX6_isTold_7 (by decide) (fun c2 => ?_) (fun c2 => ?_)
  · replace h := h_t c2 h
    refine lv_iconst (v := 0) hx hb dX6_isTold_14 (by decide) ?_
    exact ret_z C hr hlocks hP hS h (Or.inl rfl) dX6_isTold_15
  · replace h := h_f c2 h
    refine lv_iconst (v := 1) hx hb dX6_isTold_10 (by decide) ?_
    refine lv_goto (tgt := 15) hx hb dX6_isTold_11 (by decide) ?_
    exact ret_z C hr hlocks hP hS h (Or.inr rfl) dX6_isTold_15
set_option maxHeartbeats 4000000 in
set_option maxRecDepth 100000 in
theorem c_X10_restore {l : Launch} {G : GT} {lam : Lm} {σ : St} {a1 : Int32} {q : Int32 × St} (h : f_X10_restore σ a1 = some q) : Met l yX10_restore (Cond.code yX10_restore cX10_restore 2 ((some .int)) :: TB) ({ frames := 2, cells := 0, slots := 0, locals := 39 } : Room) (va_Pc [.ref (g_ad G 0), .int a1] (GW G lam σ)) (Ri q G lam) 0 0 (g_A G) := by
  refine mk_Qi (own := RX10) (by decide) (Nat.le_of_ble_eq_true rfl) rfl (fun p e s m args below meth c C hr hlocks hP ls hl => ?_)
  have hx := C.1
  have hb := C.2.1
  have hl : lv_has ls 2 [(0, .ref (g_ad G 0)), (1, .int a1)] := hl
  have hS : va_S (g_A G) s.heap s.heap [] := va_S.rf
  unfold f_X10_restore at h
  refine lv_iload_n hx hb dX10_restore_0 rfl (lv_at hl 1 rfl) ?_
  refine lv_iconst (v := 0) hx hb dX10_restore_1 (by decide) ?_
  refine lv_iconst (v := 1) hx hb dX10_restore_2 (by decide) ?_
  obtain ⟨q38, e39, h⟩ := bnd h
  refine scall_i C hP hS (c_X10_isWithin e39) ms_X10_isWithin mw_408 ⟨Nat.le_of_ble_eq_true rfl, Nat.le_of_ble_eq_true rfl⟩ (As := [.int a1, .int 0, .int 1]) rfl hl.1 rfl (lv_room (Nat.le_of_ble_eq_true rfl)) dX10_restore_3 (fun H locs hP hS => ?_)
  refine lv_if_ne (tgt := 12) hx hb dX10_restore_6 (by decide) (fun c40 => ?_) (fun c40 => ?_)
  · replace h := h_f c40 h
    refine lv_aload_n hx hb dX10_restore_12 rfl (lv_at hl 0 rfl) ?_
    refine lv_iload_n hx hb dX10_restore_13 rfl (lv_at hl 1 rfl) ?_
    obtain ⟨q41, e42, h⟩ := bnd h
    refine call_o C hP hS (c_X10_imageOf e42) mi_X10_imageOf mw_1201 0 (by decide) rfl rfl ⟨Nat.le_of_ble_eq_true rfl, Nat.le_of_ble_eq_true rfl⟩ (As := [.int a1]) rfl hl.1 rfl (lv_room (Nat.le_of_ble_eq_true rfl)) dX10_restore_14 (fun H locs hP hS => ?_)
    by_cases c73 : q41.1 = 5
    · replace h := h_t c73 h
      rw [c73]
      obtain ⟨q43, e44, h⟩ := bnd h
      refine call_i C hP hS (c_X6_isTold_5 e44) mi_X6_isTold mw_753 5 (by decide) rfl rfl ⟨Nat.le_of_ble_eq_true rfl, Nat.le_of_ble_eq_true rfl⟩ (As := []) rfl hl.1 rfl (lv_room (Nat.le_of_ble_eq_true rfl)) dX10_restore_17 (fun H locs hP hS => ?_)
      refine lv_if_ne (tgt := 26) hx hb dX10_restore_20 (by decide) (fun c45 => ?_) (fun c45 => ?_)
      · replace h := h_f c45 h
        refine lv_aload_n hx hb dX10_restore_26 rfl (lv_at hl 0 rfl) ?_
        refine gf_X10_19_0 C hP dX10_restore_27 ?_
        refine lv_aload_n hx hb dX10_restore_30 rfl (lv_at hl 0 rfl) ?_
        refine lv_iload_n hx hb dX10_restore_31 rfl (lv_at hl 1 rfl) ?_
        obtain ⟨q46, e47, h⟩ := bnd h
        refine call_o C hP hS (c_X10_imageOf e47) mi_X10_imageOf mw_1201 0 (by decide) rfl rfl ⟨Nat.le_of_ble_eq_true rfl, Nat.le_of_ble_eq_true rfl⟩ (As := [.int a1]) rfl hl.1 rfl (lv_room (Nat.le_of_ble_eq_true rfl)) dX10_restore_32 (fun H locs hP hS => ?_)
        by_cases c56 : q46.1 = 5
        · replace h := h_t c56 h
          rw [c56]
          obtain ⟨q48, e49, h⟩ := bnd h
          refine call_v C hP hS (c_X6_copyFrom_2_5 e49) mi_X6_copyFrom mw_638 2 (by decide) rfl rfl ⟨Nat.le_of_ble_eq_true rfl, Nat.le_of_ble_eq_true rfl⟩ (As := [.ref (g_ad G 5)]) rfl hl.1 rfl (lv_room (Nat.le_of_ble_eq_true rfl)) dX10_restore_35 (fun H locs hP hS => ?_)
          refine lv_aload_n hx hb dX10_restore_38 rfl (lv_at hl 0 rfl) ?_
          refine gf_X10_35_0 C hP dX10_restore_39 ?_
          obtain ⟨q50, e51, h⟩ := bnd h
          refine call_v C hP hS (c_X4_forget e51) mi_X4_forget mw_645 4 (by decide) rfl rfl ⟨Nat.le_of_ble_eq_true rfl, Nat.le_of_ble_eq_true rfl⟩ (As := []) rfl hl.1 rfl (lv_room (Nat.le_of_ble_eq_true rfl)) dX10_restore_42 (fun H locs hP hS => ?_)
          refine lv_iconst (v := 1) hx hb dX10_restore_45 (by decide) ?_
          exact ret_i C hr hlocks hP hS h dX10_restore_46
        · replace h := h_f c56 h
          obtain ⟨c57, h⟩ := h_g h
          rw [c57]
          obtain ⟨q52, e53, h⟩ := bnd h
          refine call_v C hP hS (c_X6_copyFrom_2_6 e53) mi_X6_copyFrom mw_638 2 (by decide) rfl rfl ⟨Nat.le_of_ble_eq_true rfl, Nat.le_of_ble_eq_true rfl⟩ (As := [.ref (g_ad G 6)]) rfl hl.1 rfl (lv_room (Nat.le_of_ble_eq_true rfl)) dX10_restore_35 (fun H locs hP hS => ?_)
          refine lv_aload_n hx hb dX10_restore_38 rfl (lv_at hl 0 rfl) ?_
          refine gf_X10_35_0 C hP dX10_restore_39 ?_
          obtain ⟨q54, e55, h⟩ := bnd h
          refine call_v C hP hS (c_X4_forget e55) mi_X4_forget mw_645 4 (by decide) rfl rfl ⟨Nat.le_of_ble_eq_true rfl, Nat.le_of_ble_eq_true rfl⟩ (As := []) rfl hl.1 rfl (lv_room (Nat.le_of_ble_eq_true rfl)) dX10_restore_42 (fun H locs hP hS => ?_)
          refine lv_iconst (v := 1) hx hb dX10_restore_45 (by decide) ?_
          exact ret_i C hr hlocks hP hS h dX10_restore_46
      · replace h := h_t c45 h
        refine lv_ldc hx hb C.2.2.2.1 (C.2.2.2.2.1 _ mw_716) dX10_restore_23 ?_
        exact ret_i C hr hlocks hP hS h dX10_restore_25
    · replace h := h_f c73 h
      obtain ⟨c74, h⟩ := h_g h
      rw [c74]
      obtain ⟨q58, e59, h⟩ := bnd h
      refine call_i C hP hS (c_X6_isTold_6 e59) mi_X6_isTold mw_753 6 (by decide) rfl rfl ⟨Nat.le_of_ble_eq_true rfl, Nat.le_of_ble_eq_true rfl⟩ (As := []) rfl hl.1 rfl (lv_room (Nat.le_of_ble_eq_true rfl)) dX10_restore_17 (fun H locs hP hS => ?_)
      refine lv_if_ne (tgt := 26) hx hb dX10_restore_20 (by decide) (fun c60 => ?_) (fun c60 => ?_)
      · replace h := h_f c60 h
        refine lv_aload_n hx hb dX10_restore_26 rfl (lv_at hl 0 rfl) ?_
        refine gf_X10_19_0 C hP dX10_restore_27 ?_
        refine lv_aload_n hx hb dX10_restore_30 rfl (lv_at hl 0 rfl) ?_
        refine lv_iload_n hx hb dX10_restore_31 rfl (lv_at hl 1 rfl) ?_
        obtain ⟨q61, e62, h⟩ := bnd h
        refine call_o C hP hS (c_X10_imageOf e62) mi_X10_imageOf mw_1201 0 (by decide) rfl rfl ⟨Nat.le_of_ble_eq_true rfl, Nat.le_of_ble_eq_true rfl⟩ (As := [.int a1]) rfl hl.1 rfl (lv_room (Nat.le_of_ble_eq_true rfl)) dX10_restore_32 (fun H locs hP hS => ?_)
        by_cases c71 : q61.1 = 5
        · replace h := h_t c71 h
          rw [c71]
          obtain ⟨q63, e64, h⟩ := bnd h
          refine call_v C hP hS (c_X6_copyFrom_2_5 e64) mi_X6_copyFrom mw_638 2 (by decide) rfl rfl ⟨Nat.le_of_ble_eq_true rfl, Nat.le_of_ble_eq_true rfl⟩ (As := [.ref (g_ad G 5)]) rfl hl.1 rfl (lv_room (Nat.le_of_ble_eq_true rfl)) dX10_restore_35 (fun H locs hP hS => ?_)
          refine lv_aload_n hx hb dX10_restore_38 rfl (lv_at hl 0 rfl) ?_
          refine gf_X10_35_0 C hP dX10_restore_39 ?_
          obtain ⟨q65, e66, h⟩ := bnd h
          refine call_v C hP hS (c_X4_forget e66) mi_X4_forget mw_645 4 (by decide) rfl rfl ⟨Nat.le_of_ble_eq_true rfl, Nat.le_of_ble_eq_true rfl⟩ (As := []) rfl hl.1 rfl (lv_room (Nat.le_of_ble_eq_true rfl)) dX10_restore_42 (fun H locs hP hS => ?_)
          refine lv_iconst (v := 1) hx hb dX10_restore_45 (by decide) ?_
          exact ret_i C hr hlocks hP hS h dX10_restore_46
        · replace h := h_f c71 h
          obtain ⟨c72, h⟩ := h_g h
          rw [c72]
          obtain ⟨q67, e68, h⟩ := bnd h
          refine call_v C hP hS (c_X6_copyFrom_2_6 e68) mi_X6_copyFrom mw_638 2 (by decide) rfl rfl ⟨Nat.le_of_ble_eq_true rfl, Nat.le_of_ble_eq_true rfl⟩ (As := [.ref (g_ad G 6)]) rfl hl.1 rfl (lv_room (Nat.le_of_ble_eq_true rfl)) dX10_restore_35 (fun H locs hP hS => ?_)
          refine lv_aload_n hx hb dX10_restore_38 rfl (lv_at hl 0 rfl) ?_
          refine gf_X10_35_0 C hP dX10_restore_39 ?_
          obtain ⟨q69, e70, h⟩ := bnd h
          refine call_v C hP hS (c_X4_forget e70) mi_X4_forget mw_645 4 (by decide) rfl rfl ⟨Nat.le_of_ble_eq_true rfl, Nat.le_of_ble_eq_true rfl⟩ (As := []) rfl hl.1 rfl (lv_room (Nat.le_of_ble_eq_true rfl)) dX10_restore_42 (fun H locs hP hS => ?_)
          refine lv_iconst (v := 1) hx hb dX10_restore_45 (by decide) ?_
          exact ret_i C hr hlocks hP hS h dX10_restore_46
      · replace h := h_t c60 h
        refine lv_ldc hx hb C.2.2.2.1 (C.2.2.2.2.1 _ mw_716) dX10_restore_23 ?_
        exact ret_i C hr hlocks hP hS h dX10_restore_25
  · replace h := h_t c40 h
    refine lv_ldc hx hb C.2.2.2.1 (C.2.2.2.2.1 _ mw_411) dX10_restore_9 ?_
    exact ret_i C hr hlocks hP hS h dX10_restore_11
set_option maxHeartbeats 4000000 in
set_option maxRecDepth 100000 in
theorem c_X6_markCount_2 {l : Launch} {G : GT} {lam : Lm} {σ : St} {q : Int32 × St} (h : f_X6_markCount 14 σ = some q) : Met l yX6_markCount (Cond.code yX6_markCount cX6_markCount 3 ((some .int)) :: TB) ({ frames := 2, cells := 0, slots := 0, locals := 43 } : Room) (va_Pc [.ref (g_ad G 2)] (GW G lam σ)) (Ri q G lam) 0 0 (g_A G) := by
  refine mk_Qi (own := RX6) (by decide) (Nat.le_of_ble_eq_true rfl) rfl (fun p e s m args below meth c C hr hlocks hP ls hl => ?_)
  have hx := C.1
  have hb := C.2.1
  have hl : lv_has ls 3 [(0, .ref (g_ad G 2))] := hl
  have L4 : ∀ (n4 : Nat) (σ : St) (x1 : Int32) (x2 : Int32) (H : Heap) (locs : List Loc) (ls : Array Slot), fx (F_X6_markCount_h4 14) z_X6_markCount_h4 n4 σ x1 x2 = some q → va_P (g_D G) vwCl (allW G lam σ) H → va_S (g_A G) s.heap H locs → lv_has ls 3 [(0, .ref (g_ad G 2)), (1, .int x1), (2, .int x2)] → W p l e ({ frames := 2, cells := 0, slots := 0, locals := 43 } : Room) s m args below meth c H locs 0 0 (Qi q below args s G lam) (F0 m 4 ls []) := by
    intro n4
    induction n4 with
    | zero => intro σ x1 x2 H locs ls h hP hS hl; exact absurd h (by intro h9; cases h9)
    | succ n4 ih4 =>
      have J21 : ∀ (σ : St) (x1 : Int32) (x2 : Int32) (H : Heap) (locs : List Loc) (ls : Array Slot), f_X6_markCount_p21 14 (fx (F_X6_markCount_h4 14) z_X6_markCount_h4 n4) σ x1 x2 = some q → va_P (g_D G) vwCl (allW G lam σ) H → va_S (g_A G) s.heap H locs → lv_has ls 3 [(0, .ref (g_ad G 2)), (1, .int x1), (2, .int x2)] → W p l e ({ frames := 2, cells := 0, slots := 0, locals := 43 } : Room) s m args below meth c H locs 0 0 (Qi q below args s G lam) (F0 m 21 ls []) := by
        intro σ x1 x2 H locs ls h hP hS hl
        unfold f_X6_markCount_p21 at h
        obtain ⟨y9, e10, h⟩ := bnd h
        refine lv_iinc (v := y9) (lv' := [(2, .int y9), (0, .ref (g_ad G 2)), (1, .int x1)]) hx hb dX6_markCount_21 hl (k := 2) rfl (Option.some.inj e10) (by decide) rfl (fun ls hl => ?_)
        refine lv_goto (tgt := 4) hx hb dX6_markCount_24 (by decide) ?_
        exact ih4 _ _ _ H locs ls h hP hS (lv_sub hl [1, 2, 0] rfl)
      intro σ x1 x2 H locs ls h hP hS hl
      change F_X6_markCount_h4 14 (fx (F_X6_markCount_h4 14) z_X6_markCount_h4 n4) σ x1 x2 = some q at h
      unfold F_X6_markCount_h4 at h
      refine lv_iload_n hx hb dX6_markCount_4 rfl (lv_at hl 2 rfl) ?_
      refine lv_bipush (v := 8) hx hb dX6_markCount_5 (by decide) ?_
      refine lv_icmp_ge (tgt := 27) hx hb dX6_markCount_7 (by decide) (fun c11 => ?_) (fun c11 => ?_)
      · replace h := h_t c11 h
        refine lv_iload_n hx hb dX6_markCount_27 rfl (lv_at hl 1 rfl) ?_
        exact ret_i C hr hlocks hP hS h dX6_markCount_28
      · replace h := h_f c11 h
        refine lv_aload_n hx hb dX6_markCount_10 rfl (lv_at hl 0 rfl) ?_
        refine lv_iload_n hx hb dX6_markCount_11 rfl (lv_at hl 2 rfl) ?_
        obtain ⟨q12, e13, h⟩ := bnd h
        refine call_i C hP hS (c_X6_isMark_2 e13) mi_X6_isMark mw_1218 2 (by decide) rfl rfl ⟨Nat.le_of_ble_eq_true rfl, Nat.le_of_ble_eq_true rfl⟩ (As := [.int x2]) rfl hl.1 rfl (lv_room (Nat.le_of_ble_eq_true rfl)) dX6_markCount_12 (fun H locs hP hS => ?_)
        refine lv_if_eq (tgt := 21) hx hb dX6_markCount_15 (by decide) (fun c14 => ?_) (fun c14 => ?_)
        · replace h := h_t c14 h
          exact J21 _ _ _ H locs ls h hP hS (lv_sub hl [0, 1, 2] rfl)
        · replace h := h_f c14 h
          obtain ⟨y15, e16, h⟩ := bnd h
          refine lv_iinc (v := y15) (lv' := [(1, .int y15), (0, .ref (g_ad G 2)), (2, .int x2)]) hx hb dX6_markCount_18 hl (k := 1) rfl (Option.some.inj e16) (by decide) rfl (fun ls hl => ?_)
          exact J21 _ _ _ H locs ls h hP hS (lv_sub hl [1, 0, 2] rfl)
  have hS : va_S (g_A G) s.heap s.heap [] := va_S.rf
  unfold f_X6_markCount at h
  obtain ⟨H, hH⟩ : ∃ H, H = s.heap := ⟨_, rfl⟩
  obtain ⟨locs, hlo⟩ : ∃ k : List Loc, k = [] := ⟨_, rfl⟩
  rw [← hH, ← hlo]
  rw [← hH] at hP
  replace hS : va_S (g_A G) s.heap H locs := by rw [hH, hlo]; exact hS
  refine lv_iconst (v := 0) hx hb dX6_markCount_0 (by decide) ?_
  refine lv_istore_n (lv' := [(1, .int 0), (0, .ref (g_ad G 2))]) hx hb dX6_markCount_1 rfl hl (by decide) rfl (fun ls hl => ?_)
  refine lv_iconst (v := 0) hx hb dX6_markCount_2 (by decide) ?_
  refine lv_istore_n (lv' := [(2, .int 0), (1, .int 0), (0, .ref (g_ad G 2))]) hx hb dX6_markCount_3 rfl hl (by decide) rfl (fun ls hl => ?_)
  exact L4 FU _ _ _ H locs ls h hP hS (lv_sub hl [2, 1, 0] rfl)
set_option maxHeartbeats 4000000 in
set_option maxRecDepth 100000 in
theorem c_X7_size {l : Launch} {G : GT} {lam : Lm} {σ : St} {q : Int32 × St} (h : f_X7_size σ = some q) : Met l yX7_size (Cond.code yX7_size cX7_size 1 ((some .int)) :: TB) ({ frames := 0, cells := 0, slots := 0, locals := 0 } : Room) (va_Pc [.ref (g_ad G 1)] (GW G lam σ)) (Ri q G lam) 0 0 (g_A G) := by
  refine mk_Qi (own := RX7) (by decide) (Nat.le_of_ble_eq_true rfl) rfl (fun p e s m args below meth c C hr hlocks hP ls hl => ?_)
  have hx := C.1
  have hb := C.2.1
  have hl : lv_has ls 1 [(0, .ref (g_ad G 1))] := hl
  have hS : va_S (g_A G) s.heap s.heap [] := va_S.rf
  unfold f_X7_size at h
  refine lv_aload_n hx hb dX7_size_0 rfl (lv_at hl 0 rfl) ?_
  refine gf_X7_13_1 C hP dX7_size_1 ?_
  exact ret_i C hr hlocks hP hS h dX7_size_4
set_option maxHeartbeats 4000000 in
set_option maxRecDepth 100000 in
theorem c_X10_count {l : Launch} {G : GT} {lam : Lm} {σ : St} {a1 : Int32} {q : Int32 × St} (h : f_X10_count σ a1 = some q) : Met l yX10_count (Cond.code yX10_count cX10_count 2 ((some .int)) :: TB) ({ frames := 3, cells := 0, slots := 0, locals := 65 } : Room) (va_Pc [.ref (g_ad G 0), .int a1] (GW G lam σ)) (Ri q G lam) 0 0 (g_A G) := by
  refine mk_Qi (own := RX10) (by decide) (Nat.le_of_ble_eq_true rfl) rfl (fun p e s m args below meth c C hr hlocks hP ls hl => ?_)
  have hx := C.1
  have hb := C.2.1
  have hl : lv_has ls 2 [(0, .ref (g_ad G 0)), (1, .int a1)] := hl
  have hS : va_S (g_A G) s.heap s.heap [] := va_S.rf
  unfold f_X10_count at h
  refine lv_iload_n hx hb dX10_count_0 rfl (lv_at hl 1 rfl) ?_
  by_cases c26 : a1 = 0
  · replace h := h_t c26 h
    refine r_eq c26 ?_
    refine lv_tableIn (off := 43) (tgt := 44) hx hb dX10_count_1 (by decide) (by decide) (by decide) (by decide) ?_
    refine lv_aload_n hx hb dX10_count_44 rfl (lv_at hl 0 rfl) ?_
    refine gf_X10_19_0 C hP dX10_count_45 ?_
    obtain ⟨q24, e25, h⟩ := bnd h
    refine call_i C hP hS (c_X6_thingCount_2 e25) mi_X6_thingCount mw_1213 2 (by decide) rfl rfl ⟨Nat.le_of_ble_eq_true rfl, Nat.le_of_ble_eq_true rfl⟩ (As := []) rfl hl.1 rfl (lv_room (Nat.le_of_ble_eq_true rfl)) dX10_count_48 (fun H locs hP hS => ?_)
    exact ret_i C hr hlocks hP hS h dX10_count_51
  replace h := h_f c26 h
  by_cases c29 : a1 = 1
  · replace h := h_t c29 h
    refine r_eq c29 ?_
    refine lv_tableIn (off := 51) (tgt := 52) hx hb dX10_count_1 (by decide) (by decide) (by decide) (by decide) ?_
    refine lv_aload_n hx hb dX10_count_52 rfl (lv_at hl 0 rfl) ?_
    refine gf_X10_19_0 C hP dX10_count_53 ?_
    obtain ⟨q27, e28, h⟩ := bnd h
    refine call_i C hP hS (c_X6_markCount_2 e28) mi_X6_markCount mw_1214 2 (by decide) rfl rfl ⟨Nat.le_of_ble_eq_true rfl, Nat.le_of_ble_eq_true rfl⟩ (As := []) rfl hl.1 rfl (lv_room (Nat.le_of_ble_eq_true rfl)) dX10_count_56 (fun H locs hP hS => ?_)
    exact ret_i C hr hlocks hP hS h dX10_count_59
  replace h := h_f c29 h
  by_cases c34 : a1 = 2
  · replace h := h_t c34 h
    refine r_eq c34 ?_
    refine lv_tableIn (off := 59) (tgt := 60) hx hb dX10_count_1 (by decide) (by decide) (by decide) (by decide) ?_
    refine lv_aload_n hx hb dX10_count_60 rfl (lv_at hl 0 rfl) ?_
    refine gf_X10_19_0 C hP dX10_count_61 ?_
    obtain ⟨q30, e31, h⟩ := bnd h
    refine call_i C hP hS (c_X6_thingCount_2 e31) mi_X6_thingCount mw_1213 2 (by decide) rfl rfl ⟨Nat.le_of_ble_eq_true rfl, Nat.le_of_ble_eq_true rfl⟩ (As := []) rfl hl.1 rfl (lv_room (Nat.le_of_ble_eq_true rfl)) dX10_count_64 (fun H locs hP hS => ?_)
    refine lv_aload_n hx hb dX10_count_67 rfl (lv_at hl 0 rfl) ?_
    refine gf_X10_19_0 C hP dX10_count_68 ?_
    obtain ⟨q32, e33, h⟩ := bnd h
    refine call_i C hP hS (c_X6_markCount_2 e33) mi_X6_markCount mw_1214 2 (by decide) rfl rfl ⟨Nat.le_of_ble_eq_true rfl, Nat.le_of_ble_eq_true rfl⟩ (As := []) rfl hl.1 rfl (lv_room (Nat.le_of_ble_eq_true rfl)) dX10_count_71 (fun H locs hP hS => ?_)
    refine lv_isub hx hb dX10_count_74 ?_
    exact ret_i C hr hlocks hP hS h dX10_count_75
  replace h := h_f c34 h
  by_cases c37 : a1 = 3
  · replace h := h_t c37 h
    refine r_eq c37 ?_
    refine lv_tableIn (off := 75) (tgt := 76) hx hb dX10_count_1 (by decide) (by decide) (by decide) (by decide) ?_
    refine lv_aload_n hx hb dX10_count_76 rfl (lv_at hl 0 rfl) ?_
    refine gf_X10_19_0 C hP dX10_count_77 ?_
    obtain ⟨q35, e36, h⟩ := bnd h
    refine call_i C hP hS (c_X6_legCount_2 e36) mi_X6_legCount mw_649 2 (by decide) rfl rfl ⟨Nat.le_of_ble_eq_true rfl, Nat.le_of_ble_eq_true rfl⟩ (As := []) rfl hl.1 rfl (lv_room (Nat.le_of_ble_eq_true rfl)) dX10_count_80 (fun H locs hP hS => ?_)
    exact ret_i C hr hlocks hP hS h dX10_count_83
  replace h := h_f c37 h
  by_cases c40 : a1 = 4
  · replace h := h_t c40 h
    refine r_eq c40 ?_
    refine lv_tableIn (off := 83) (tgt := 84) hx hb dX10_count_1 (by decide) (by decide) (by decide) (by decide) ?_
    refine lv_aload_n hx hb dX10_count_84 rfl (lv_at hl 0 rfl) ?_
    refine gf_X10_19_0 C hP dX10_count_85 ?_
    obtain ⟨q38, e39, h⟩ := bnd h
    refine call_i C hP hS (c_X6_heightCount_2 e39) mi_X6_heightCount mw_762 2 (by decide) rfl rfl ⟨Nat.le_of_ble_eq_true rfl, Nat.le_of_ble_eq_true rfl⟩ (As := []) rfl hl.1 rfl (lv_room (Nat.le_of_ble_eq_true rfl)) dX10_count_88 (fun H locs hP hS => ?_)
    exact ret_i C hr hlocks hP hS h dX10_count_91
  replace h := h_f c40 h
  by_cases c43 : a1 = 5
  · replace h := h_t c43 h
    refine r_eq c43 ?_
    refine lv_tableIn (off := 91) (tgt := 92) hx hb dX10_count_1 (by decide) (by decide) (by decide) (by decide) ?_
    refine lv_aload_n hx hb dX10_count_92 rfl (lv_at hl 0 rfl) ?_
    refine gf_X10_35_0 C hP dX10_count_93 ?_
    obtain ⟨q41, e42, h⟩ := bnd h
    refine call_i C hP hS (c_X4_size e42) mi_X4_size mw_712 4 (by decide) rfl rfl ⟨Nat.le_of_ble_eq_true rfl, Nat.le_of_ble_eq_true rfl⟩ (As := []) rfl hl.1 rfl (lv_room (Nat.le_of_ble_eq_true rfl)) dX10_count_96 (fun H locs hP hS => ?_)
    exact ret_i C hr hlocks hP hS h dX10_count_99
  replace h := h_f c43 h
  by_cases c46 : a1 = 6
  · replace h := h_t c46 h
    refine r_eq c46 ?_
    refine lv_tableIn (off := 99) (tgt := 100) hx hb dX10_count_1 (by decide) (by decide) (by decide) (by decide) ?_
    refine lv_aload_n hx hb dX10_count_100 rfl (lv_at hl 0 rfl) ?_
    refine gf_X10_10_0 C hP dX10_count_101 ?_
    obtain ⟨q44, e45, h⟩ := bnd h
    refine call_i C hP hS (c_X7_size e45) mi_X7_size mw_1219 1 (by decide) rfl rfl ⟨Nat.le_of_ble_eq_true rfl, Nat.le_of_ble_eq_true rfl⟩ (As := []) rfl hl.1 rfl (lv_room (Nat.le_of_ble_eq_true rfl)) dX10_count_104 (fun H locs hP hS => ?_)
    exact ret_i C hr hlocks hP hS h dX10_count_107
  replace h := h_f c46 h
  refine lv_tableOut (tgt := 108) hx hb dX10_count_1 (by have hz := And.intro (ne_i (z := 0) (by decide) c26) (And.intro (ne_i (z := 1) (by decide) c29) (And.intro (ne_i (z := 2) (by decide) c34) (And.intro (ne_i (z := 3) (by decide) c37) (And.intro (ne_i (z := 4) (by decide) c40) (And.intro (ne_i (z := 5) (by decide) c43) (ne_i (z := 6) (by decide) c46)))))); omega) (by decide) ?_
  refine lv_ldc hx hb C.2.2.2.1 (C.2.2.2.2.1 _ mw_411) dX10_count_108 ?_
  exact ret_i C hr hlocks hP hS h dX10_count_110
set_option maxHeartbeats 4000000 in
set_option maxRecDepth 100000 in
theorem c_X11_in {l : Launch} {G : GT} {lam : Lm} {σ : St} {a1 : Int64} {a2 : Int64} {a3 : Int64} {q : Int32 × St} (h : f_X11_in σ a1 a2 a3 = some q) : Met l yX11_in (Cond.code yX11_in cX11_in 6 ((some .boolean)) :: TB) ({ frames := 0, cells := 0, slots := 0, locals := 0 } : Room) (va_Pc [.long (a1), .long (a2), .long (a3)] (GW G lam σ)) (Ri q G lam) 0 0 (g_A G) := by
  refine mk_Qi (own := RX11) (by decide) (Nat.le_of_ble_eq_true rfl) rfl (fun p e s m args below meth c C hr hlocks hP ls hl => ?_)
  have hx := C.1
  have hb := C.2.1
  have hl : lv_has ls 6 [(0, .long (a1)), (2, .long (a2)), (4, .long (a3))] := hl
  have hS : va_S (g_A G) s.heap s.heap [] := va_S.rf
  unfold f_X11_in at h
  refine lv_lload_n hx hb dX11_in_0 rfl (lv_at hl 0 rfl) ?_
  refine lv_lload_n hx hb dX11_in_1 rfl (lv_at hl 1 rfl) ?_
  refine W.lcmp hx hb dX11_in_2 ?_
  refine lv_if_lt (tgt := 17) hx hb dX11_in_3 (by decide) (fun c3 => ?_) (fun c3 => ?_)
  · replace h := h_t c3 h
    refine lv_iconst (v := 0) hx hb dX11_in_17 (by decide) ?_
    exact ret_z C hr hlocks hP hS h (Or.inl rfl) dX11_in_18
  · replace h := h_f c3 h
    refine lv_lload_n hx hb dX11_in_6 rfl (lv_at hl 0 rfl) ?_
    refine lv_lload hx hb dX11_in_7 (lv_at hl 2 rfl) ?_
    refine W.lcmp hx hb dX11_in_9 ?_
    refine lv_if_gt (tgt := 17) hx hb dX11_in_10 (by decide) (fun c4 => ?_) (fun c4 => ?_)
    · replace h := h_t c4 h
      refine lv_iconst (v := 0) hx hb dX11_in_17 (by decide) ?_
      exact ret_z C hr hlocks hP hS h (Or.inl rfl) dX11_in_18
    · replace h := h_f c4 h
      refine lv_iconst (v := 1) hx hb dX11_in_13 (by decide) ?_
      refine lv_goto (tgt := 18) hx hb dX11_in_14 (by decide) ?_
      exact ret_z C hr hlocks hP hS h (Or.inr rfl) dX11_in_18
set_option maxHeartbeats 4000000 in
set_option maxRecDepth 100000 in
theorem c_X11_has {l : Launch} {G : GT} {lam : Lm} {σ : St} {a1 : Int32} {a2 : Int32} {q : Int32 × St} (h : f_X11_has σ a1 a2 = some q) : Met l yX11_has (Cond.code yX11_has cX11_has 2 ((some .boolean)) :: TB) ({ frames := 0, cells := 0, slots := 0, locals := 0 } : Room) (va_Pc [.int a1, .int a2] (GW G lam σ)) (Ri q G lam) 0 0 (g_A G) := by
  refine mk_Qi (own := RX11) (by decide) (Nat.le_of_ble_eq_true rfl) rfl (fun p e s m args below meth c C hr hlocks hP ls hl => ?_)
  have hx := C.1
  have hb := C.2.1
  have hl : lv_has ls 2 [(0, .int a1), (1, .int a2)] := hl
  have hS : va_S (g_A G) s.heap s.heap [] := va_S.rf
  unfold f_X11_has at h
  refine lv_iload_n hx hb dX11_has_0 rfl (lv_at hl 0 rfl) ?_
  refine lv_iload_n hx hb dX11_has_1 rfl (lv_at hl 1 rfl) ?_
  refine lv_ishr hx hb dX11_has_2 ?_
  refine lv_iconst (v := 1) hx hb dX11_has_3 (by decide) ?_
  refine lv_iand hx hb dX11_has_4 ?_
  refine lv_iconst (v := 1) hx hb dX11_has_5 (by decide) ?_
  refine lv_icmp_ne (tgt := 13) hx hb dX11_has_6 (by decide) (fun c2 => ?_) (fun c2 => ?_)
  · replace h := h_f c2 h
    refine lv_iconst (v := 0) hx hb dX11_has_13 (by decide) ?_
    exact ret_z C hr hlocks hP hS h (Or.inl rfl) dX11_has_14
  · replace h := h_t c2 h
    refine lv_iconst (v := 1) hx hb dX11_has_9 (by decide) ?_
    refine lv_goto (tgt := 14) hx hb dX11_has_10 (by decide) ?_
    exact ret_z C hr hlocks hP hS h (Or.inr rfl) dX11_has_14
set_option maxHeartbeats 4000000 in
set_option maxRecDepth 100000 in
theorem c_X11_copy {l : Launch} {G : GT} {lam : Lm} {σ : St} {a1 : Int32} {a2 : Int32} {q : St} (h : f_X11_copy σ a1 a2 = some q) : Met l yX11_copy (Cond.code yX11_copy cX11_copy 4 none :: TB) ({ frames := 0, cells := 0, slots := 0, locals := 0 } : Room) (va_Pc [.ref (g_ad G 26), .int a1, .int a2] (GW G lam σ)) (Rv q G lam) 0 0 (g_A G) := by
  refine mk_Qv (own := RX11) (by decide) (Nat.le_of_ble_eq_true rfl) rfl (fun p e s m args below meth c C hr hlocks hP ls hl => ?_)
  have hx := C.1
  have hb := C.2.1
  have hl : lv_has ls 4 [(0, .ref (g_ad G 26)), (1, .int a1), (2, .int a2)] := hl
  have L2 : ∀ (n2 : Nat) (σ : St) (x1 : Int32) (x2 : Int32) (x3 : Int32) (H : Heap) (locs : List Loc) (ls : Array Slot), fx (F_X11_copy_h2) z_X11_copy_h2 n2 σ x1 x2 x3 = some q → va_P (g_D G) vwCl (allW G lam σ) H → va_S (g_A G) s.heap H locs → lv_has ls 4 [(0, .ref (g_ad G 26)), (1, .int x1), (2, .int x2), (3, .int x3)] → W p l e ({ frames := 0, cells := 0, slots := 0, locals := 0 } : Room) s m args below meth c H locs 0 0 (Qv q below args s G lam) (F0 m 2 ls []) := by
    intro n2
    induction n2 with
    | zero => intro σ x1 x2 x3 H locs ls h hP hS hl; exact absurd h (by intro h9; cases h9)
    | succ n2 ih2 =>
      intro σ x1 x2 x3 H locs ls h hP hS hl
      change F_X11_copy_h2 (fx (F_X11_copy_h2) z_X11_copy_h2 n2) σ x1 x2 x3 = some q at h
      unfold F_X11_copy_h2 at h
      refine lv_iload_n hx hb dX11_copy_2 rfl (lv_at hl 3 rfl) ?_
      refine lv_bipush (v := 79) hx hb dX11_copy_3 (by decide) ?_
      refine lv_icmp_ge (tgt := 30) hx hb dX11_copy_5 (by decide) (fun c8 => ?_) (fun c8 => ?_)
      · replace h := h_t c8 h
        exact ret_v C hr hlocks hP hS h dX11_copy_30
      · replace h := h_f c8 h
        refine lv_aload_n hx hb dX11_copy_8 rfl (lv_at hl 0 rfl) ?_
        refine gf_X11_7_26 C hP dX11_copy_9 ?_
        refine lv_iload_n hx hb dX11_copy_12 rfl (lv_at hl 2 rfl) ?_
        refine lv_iload_n hx hb dX11_copy_13 rfl (lv_at hl 3 rfl) ?_
        refine lv_iadd hx hb dX11_copy_14 ?_
        refine lv_aload_n hx hb dX11_copy_15 rfl (lv_at hl 0 rfl) ?_
        refine gf_X11_7_26 C hP dX11_copy_16 ?_
        refine lv_iload_n hx hb dX11_copy_19 rfl (lv_at hl 1 rfl) ?_
        refine lv_iload_n hx hb dX11_copy_20 rfl (lv_at hl 3 rfl) ?_
        refine lv_iadd hx hb dX11_copy_21 ?_
        obtain ⟨g9, h⟩ := h_g h
        refine r_ald C hP 27 (by decide) rfl (vp_in_iff.mpr g9) dX11_copy_22 ?_
        obtain ⟨g10, h⟩ := h_g h
        refine r_ast C hP hS 27 (by decide) (fun _ => rfl) (vp_in_iff.mpr g10) dX11_copy_23 (fun H locs hP hS => ?_)
        obtain ⟨σ11, e12, h⟩ := bnd h
        have hP := hPn e12 hP
        obtain ⟨y13, e14, h⟩ := bnd h
        refine lv_iinc (v := y13) (lv' := [(3, .int y13), (0, .ref (g_ad G 26)), (1, .int x1), (2, .int x2)]) hx hb dX11_copy_24 hl (k := 3) rfl (Option.some.inj e14) (by decide) rfl (fun ls hl => ?_)
        refine lv_goto (tgt := 2) hx hb dX11_copy_27 (by decide) ?_
        exact ih2 _ _ _ _ H locs ls h hP hS (lv_sub hl [1, 2, 3, 0] rfl)
  have hS : va_S (g_A G) s.heap s.heap [] := va_S.rf
  unfold f_X11_copy at h
  obtain ⟨H, hH⟩ : ∃ H, H = s.heap := ⟨_, rfl⟩
  obtain ⟨locs, hlo⟩ : ∃ k : List Loc, k = [] := ⟨_, rfl⟩
  rw [← hH, ← hlo]
  rw [← hH] at hP
  replace hS : va_S (g_A G) s.heap H locs := by rw [hH, hlo]; exact hS
  refine lv_iconst (v := 0) hx hb dX11_copy_0 (by decide) ?_
  refine lv_istore_n (lv' := [(3, .int 0), (0, .ref (g_ad G 26)), (1, .int a1), (2, .int a2)]) hx hb dX11_copy_1 rfl hl (by decide) rfl (fun ls hl => ?_)
  exact L2 FU _ _ _ _ H locs ls h hP hS (lv_sub hl [1, 2, 3, 0] rfl)
set_option maxHeartbeats 4000000 in
set_option maxRecDepth 100000 in
theorem c_X11_minds {l : Launch} {G : GT} {lam : Lm} {σ : St} {q : St} (h : f_X11_minds σ = some q) : Met l yX11_minds (Cond.code yX11_minds cX11_minds 2 none :: TB) ({ frames := 1, cells := 0, slots := 0, locals := 23 } : Room) (va_Pc [.ref (g_ad G 26)] (GW G lam σ)) (Rv q G lam) 0 0 (g_A G) := by
  refine mk_Qv (own := RX11) (by decide) (Nat.le_of_ble_eq_true rfl) rfl (fun p e s m args below meth c C hr hlocks hP ls hl => ?_)
  have hx := C.1
  have hb := C.2.1
  have hl : lv_has ls 2 [(0, .ref (g_ad G 26))] := hl
  have J54 : ∀ (σ : St) (H : Heap) (locs : List Loc) (ls : Array Slot), f_X11_minds_p54 σ = some q → va_P (g_D G) vwCl (allW G lam σ) H → va_S (g_A G) s.heap H locs → lv_has ls 2 [(0, .ref (g_ad G 26))] → W p l e ({ frames := 1, cells := 0, slots := 0, locals := 23 } : Room) s m args below meth c H locs 0 0 (Qv q below args s G lam) (F0 m 54 ls []) := by
    intro σ H locs ls h hP hS hl
    unfold f_X11_minds_p54 at h
    refine lv_aload_n hx hb dX11_minds_54 rfl (lv_at hl 0 rfl) ?_
    refine lv_iconst (v := 0) hx hb dX11_minds_55 (by decide) ?_
    refine lv_sipush (v := 237) hx hb dX11_minds_56 (by decide) ?_
    refine lv_bipush (v := 79) hx hb dX11_minds_59 (by decide) ?_
    refine lv_aload_n hx hb dX11_minds_61 rfl (lv_at hl 0 rfl) ?_
    refine gf_X11_50_26 C hP dX11_minds_62 ?_
    refine lv_imul hx hb dX11_minds_65 ?_
    refine lv_iadd hx hb dX11_minds_66 ?_
    obtain ⟨q15, e16, h⟩ := bnd h
    refine call_v C hP hS (c_X11_copy e16) mi_X11_copy mw_1404 26 (by decide) rfl rfl ⟨Nat.le_of_ble_eq_true rfl, Nat.le_of_ble_eq_true rfl⟩ (As := [.int 0, .int (237 + (79 * (σ 26 2)))]) rfl hl.1 rfl (lv_room (Nat.le_of_ble_eq_true rfl)) dX11_minds_67 (fun H locs hP hS => ?_)
    refine lv_aload_n hx hb dX11_minds_70 rfl (lv_at hl 0 rfl) ?_
    refine lv_dup hx hb dX11_minds_71 rfl ?_
    refine gf_X11_50_26 C hP dX11_minds_72 ?_
    refine lv_iconst (v := 1) hx hb dX11_minds_75 (by decide) ?_
    refine lv_iadd hx hb dX11_minds_76 ?_
    refine pf_X11_50_26 C hP hS dX11_minds_77 (fun H locs hP hS => ?_)
    obtain ⟨σ17, e18, h⟩ := bnd h
    have hP := hPn e18 hP
    exact ret_v C hr hlocks hP hS h dX11_minds_80
  have L11 : ∀ (n11 : Nat) (σ : St) (x1 : Int32) (H : Heap) (locs : List Loc) (ls : Array Slot), fx (F_X11_minds_h11) z_X11_minds_h11 n11 σ x1 = some q → va_P (g_D G) vwCl (allW G lam σ) H → va_S (g_A G) s.heap H locs → lv_has ls 2 [(0, .ref (g_ad G 26)), (1, .int x1)] → W p l e ({ frames := 1, cells := 0, slots := 0, locals := 23 } : Room) s m args below meth c H locs 0 0 (Qv q below args s G lam) (F0 m 11 ls []) := by
    intro n11
    induction n11 with
    | zero => intro σ x1 H locs ls h hP hS hl; exact absurd h (by intro h9; cases h9)
    | succ n11 ih11 =>
      intro σ x1 H locs ls h hP hS hl
      change F_X11_minds_h11 (fx (F_X11_minds_h11) z_X11_minds_h11 n11) σ x1 = some q at h
      unfold F_X11_minds_h11 at h
      refine lv_iload_n hx hb dX11_minds_11 rfl (lv_at hl 1 rfl) ?_
      refine lv_sipush (v := 1501) hx hb dX11_minds_12 (by decide) ?_
      refine lv_icmp_ge (tgt := 44) hx hb dX11_minds_15 (by decide) (fun c19 => ?_) (fun c19 => ?_)
      · replace h := h_t c19 h
        refine lv_aload_n hx hb dX11_minds_44 rfl (lv_at hl 0 rfl) ?_
        refine lv_dup hx hb dX11_minds_45 rfl ?_
        refine gf_X11_50_26 C hP dX11_minds_46 ?_
        refine lv_iconst (v := 1) hx hb dX11_minds_49 (by decide) ?_
        refine lv_isub hx hb dX11_minds_50 ?_
        refine pf_X11_50_26 C hP hS dX11_minds_51 (fun H locs hP hS => ?_)
        obtain ⟨σ20, e21, h⟩ := bnd h
        have hP := hPn e21 hP
        exact J54 _ H locs ls h hP hS (lv_sub hl [0] rfl)
      · replace h := h_f c19 h
        refine lv_aload_n hx hb dX11_minds_18 rfl (lv_at hl 0 rfl) ?_
        refine gf_X11_7_26 C hP dX11_minds_19 ?_
        refine lv_sipush (v := 237) hx hb dX11_minds_22 (by decide) ?_
        refine lv_iload_n hx hb dX11_minds_25 rfl (lv_at hl 1 rfl) ?_
        refine lv_iadd hx hb dX11_minds_26 ?_
        refine lv_aload_n hx hb dX11_minds_27 rfl (lv_at hl 0 rfl) ?_
        refine gf_X11_7_26 C hP dX11_minds_28 ?_
        refine lv_sipush (v := 316) hx hb dX11_minds_31 (by decide) ?_
        refine lv_iload_n hx hb dX11_minds_34 rfl (lv_at hl 1 rfl) ?_
        refine lv_iadd hx hb dX11_minds_35 ?_
        obtain ⟨g22, h⟩ := h_g h
        refine r_ald C hP 27 (by decide) rfl (vp_in_iff.mpr g22) dX11_minds_36 ?_
        obtain ⟨g23, h⟩ := h_g h
        refine r_ast C hP hS 27 (by decide) (fun _ => rfl) (vp_in_iff.mpr g23) dX11_minds_37 (fun H locs hP hS => ?_)
        obtain ⟨σ24, e25, h⟩ := bnd h
        have hP := hPn e25 hP
        obtain ⟨y26, e27, h⟩ := bnd h
        refine lv_iinc (v := y26) (lv' := [(1, .int y26), (0, .ref (g_ad G 26))]) hx hb dX11_minds_38 hl (k := 1) rfl (Option.some.inj e27) (by decide) rfl (fun ls hl => ?_)
        refine lv_goto (tgt := 11) hx hb dX11_minds_41 (by decide) ?_
        exact ih11 _ _ H locs ls h hP hS (lv_sub hl [1, 0] rfl)
  have hS : va_S (g_A G) s.heap s.heap [] := va_S.rf
  unfold f_X11_minds at h
  obtain ⟨H, hH⟩ : ∃ H, H = s.heap := ⟨_, rfl⟩
  obtain ⟨locs, hlo⟩ : ∃ k : List Loc, k = [] := ⟨_, rfl⟩
  rw [← hH, ← hlo]
  rw [← hH] at hP
  replace hS : va_S (g_A G) s.heap H locs := by rw [hH, hlo]; exact hS
  refine lv_aload_n hx hb dX11_minds_0 rfl (lv_at hl 0 rfl) ?_
  refine gf_X11_50_26 C hP dX11_minds_1 ?_
  refine lv_bipush (v := 20) hx hb dX11_minds_4 (by decide) ?_
  refine lv_icmp_ne (tgt := 54) hx hb dX11_minds_6 (by decide) (fun c28 => ?_) (fun c28 => ?_)
  · replace h := h_f c28 h
    exact J54 _ H locs ls h hP hS (lv_sub hl [0] rfl)
  · replace h := h_t c28 h
    refine lv_iconst (v := 0) hx hb dX11_minds_9 (by decide) ?_
    refine lv_istore_n (lv' := [(1, .int 0), (0, .ref (g_ad G 26))]) hx hb dX11_minds_10 rfl hl (by decide) rfl (fun ls hl => ?_)
    exact L11 FU _ _ H locs ls h hP hS (lv_sub hl [1, 0] rfl)
set_option maxHeartbeats 4000000 in
set_option maxRecDepth 100000 in
theorem c_X11_isFigure {l : Launch} {G : GT} {lam : Lm} {σ : St} {a1 : Int32} {q : Int32 × St} (h : f_X11_isFigure σ a1 = some q) : Met l yX11_isFigure (Cond.code yX11_isFigure cX11_isFigure 1 ((some .boolean)) :: TB) ({ frames := 1, cells := 0, slots := 0, locals := 25 } : Room) (va_Pc [.int a1] (GW G lam σ)) (Ri q G lam) 0 0 (g_A G) := by
  refine mk_Qi (own := RX11) (by decide) (Nat.le_of_ble_eq_true rfl) rfl (fun p e s m args below meth c C hr hlocks hP ls hl => ?_)
  have hx := C.1
  have hb := C.2.1
  have hl : lv_has ls 1 [(0, .int a1)] := hl
  have hS : va_S (g_A G) s.heap s.heap [] := va_S.rf
  unfold f_X11_isFigure at h
  refine lv_iload_n hx hb dX11_isFigure_0 rfl (lv_at hl 0 rfl) ?_
  refine lv_i2l hx hb dX11_isFigure_1 rfl ?_
  refine lv_ldc2 hx hb C.2.2.2.1 (C.2.2.2.2.1 _ mw_1343) dX11_isFigure_2 ?_
  refine lv_ldc2 hx hb C.2.2.2.1 (C.2.2.2.2.1 _ mw_1344) dX11_isFigure_5 ?_
  obtain ⟨q4, e5, h⟩ := bnd h
  refine scall_i C hP hS (c_X11_in e5) ms_X11_in mw_1320 ⟨Nat.le_of_ble_eq_true rfl, Nat.le_of_ble_eq_true rfl⟩ (As := [.long ((a1 : Int32).toInt64), .long (48), .long (57)]) rfl hl.1 rfl (lv_room (Nat.le_of_ble_eq_true rfl)) dX11_isFigure_8 (fun H locs hP hS => ?_)
  obtain ⟨g6, h⟩ := h_g h
  exact ret_z C hr hlocks hP hS h g6 dX11_isFigure_11
set_option maxHeartbeats 4000000 in
set_option maxRecDepth 100000 in
theorem c_X11_take {l : Launch} {G : GT} {lam : Lm} {σ : St} {q : St} (h : f_X11_take σ = some q) : Met l yX11_take (Cond.code yX11_take cX11_take 3 none :: TB) ({ frames := 2, cells := 0, slots := 0, locals := 45 } : Room) (va_Pc [.ref (g_ad G 26)] (GW G lam σ)) (Rv q G lam) 0 0 (g_A G) := by
  refine mk_Qv (own := RX11) (by decide) (Nat.le_of_ble_eq_true rfl) rfl (fun p e s m args below meth c C hr hlocks hP ls hl => ?_)
  have hx := C.1
  have hb := C.2.1
  have hl : lv_has ls 3 [(0, .ref (g_ad G 26))] := hl
  have J186 : ∀ (σ : St) (t0 : Int32) (H : Heap) (locs : List Loc) (ls : Array Slot), f_X11_take_p186 σ t0 = some q → va_P (g_D G) vwCl (allW G lam σ) H → va_S (g_A G) s.heap H locs → lv_has ls 3 [] → W p l e ({ frames := 2, cells := 0, slots := 0, locals := 45 } : Room) s m args below meth c H locs 0 0 (Qv q below args s G lam) (F0 m 186 ls [.int t0, .ref (g_ad G 26)]) := by
    intro σ t0 H locs ls h hP hS hl
    unfold f_X11_take_p186 at h
    refine pf_X11_76_26 C hP hS dX11_take_186 (fun H locs hP hS => ?_)
    obtain ⟨σ31, e32, h⟩ := bnd h
    have hP := hPn e32 hP
    exact ret_v C hr hlocks hP hS h dX11_take_189
  have J169 : ∀ (σ : St) (x2 : Int32) (H : Heap) (locs : List Loc) (ls : Array Slot), f_X11_take_p169 σ x2 = some q → va_P (g_D G) vwCl (allW G lam σ) H → va_S (g_A G) s.heap H locs → lv_has ls 3 [(0, .ref (g_ad G 26)), (2, .int x2)] → W p l e ({ frames := 2, cells := 0, slots := 0, locals := 45 } : Room) s m args below meth c H locs 0 0 (Qv q below args s G lam) (F0 m 169 ls []) := by
    intro σ x2 H locs ls h hP hS hl
    unfold f_X11_take_p169 at h
    refine lv_aload_n hx hb dX11_take_169 rfl (lv_at hl 0 rfl) ?_
    refine lv_iload_n hx hb dX11_take_170 rfl (lv_at hl 1 rfl) ?_
    refine lv_sipush (v := 1000) hx hb dX11_take_171 (by decide) ?_
    refine lv_icmp_ge (tgt := 185) hx hb dX11_take_174 (by decide) (fun c33 => ?_) (fun c33 => ?_)
    · replace h := h_t c33 h
      refine lv_iconst (v := 0) hx hb dX11_take_185 (by decide) ?_
      exact J186 _ _ H locs ls h hP hS (lv_sub hl [] rfl)
    · replace h := h_f c33 h
      refine lv_sipush (v := 1000) hx hb dX11_take_177 (by decide) ?_
      refine lv_iload_n hx hb dX11_take_180 rfl (lv_at hl 1 rfl) ?_
      refine lv_iadd hx hb dX11_take_181 ?_
      refine lv_goto (tgt := 186) hx hb dX11_take_182 (by decide) ?_
      exact J186 _ _ H locs ls h hP hS (lv_sub hl [] rfl)
  have L93 : ∀ (n93 : Nat) (σ : St) (x2 : Int32) (H : Heap) (locs : List Loc) (ls : Array Slot), fx (F_X11_take_h93) z_X11_take_h93 n93 σ x2 = some q → va_P (g_D G) vwCl (allW G lam σ) H → va_S (g_A G) s.heap H locs → lv_has ls 3 [(0, .ref (g_ad G 26)), (2, .int x2)] → W p l e ({ frames := 2, cells := 0, slots := 0, locals := 45 } : Room) s m args below meth c H locs 0 0 (Qv q below args s G lam) (F0 m 93 ls []) := by
    intro n93
    induction n93 with
    | zero => intro σ x2 H locs ls h hP hS hl; exact absurd h (by intro h9; cases h9)
    | succ n93 ih93 =>
      have J155 : ∀ (σ : St) (t0 : Int32) (H : Heap) (locs : List Loc) (ls : Array Slot), f_X11_take_p155 (fx (F_X11_take_h93) z_X11_take_h93 n93) σ t0 = some q → va_P (g_D G) vwCl (allW G lam σ) H → va_S (g_A G) s.heap H locs → lv_has ls 3 [(0, .ref (g_ad G 26))] → W p l e ({ frames := 2, cells := 0, slots := 0, locals := 45 } : Room) s m args below meth c H locs 0 0 (Qv q below args s G lam) (F0 m 155 ls [.int t0]) := by
        intro σ t0 H locs ls h hP hS hl
        unfold f_X11_take_p155 at h
        refine lv_istore_n (lv' := [(2, .int t0), (0, .ref (g_ad G 26))]) hx hb dX11_take_155 rfl hl (by decide) rfl (fun ls hl => ?_)
        refine lv_aload_n hx hb dX11_take_156 rfl (lv_at hl 1 rfl) ?_
        refine lv_dup hx hb dX11_take_157 rfl ?_
        refine gf_X11_66_26 C hP dX11_take_158 ?_
        refine lv_iconst (v := 1) hx hb dX11_take_161 (by decide) ?_
        refine lv_iadd hx hb dX11_take_162 ?_
        refine pf_X11_66_26 C hP hS dX11_take_163 (fun H locs hP hS => ?_)
        obtain ⟨σ34, e35, h⟩ := bnd h
        have hP := hPn e35 hP
        refine lv_goto (tgt := 93) hx hb dX11_take_166 (by decide) ?_
        exact ih93 _ _ H locs ls h hP hS (lv_sub hl [1, 0] rfl)
      intro σ x2 H locs ls h hP hS hl
      change F_X11_take_h93 (fx (F_X11_take_h93) z_X11_take_h93 n93) σ x2 = some q at h
      unfold F_X11_take_h93 at h
      refine lv_aload_n hx hb dX11_take_93 rfl (lv_at hl 0 rfl) ?_
      refine gf_X11_66_26 C hP dX11_take_94 ?_
      refine lv_aload_n hx hb dX11_take_97 rfl (lv_at hl 0 rfl) ?_
      refine gf_X11_72_26 C hP dX11_take_98 ?_
      refine lv_icmp_ge (tgt := 169) hx hb dX11_take_101 (by decide) (fun c36 => ?_) (fun c36 => ?_)
      · replace h := h_t c36 h
        exact J169 _ _ H locs ls h hP hS (lv_sub hl [0, 1] rfl)
      · replace h := h_f c36 h
        refine lv_aload_n hx hb dX11_take_104 rfl (lv_at hl 0 rfl) ?_
        refine gf_X11_17_26 C hP dX11_take_105 ?_
        refine lv_aload_n hx hb dX11_take_108 rfl (lv_at hl 0 rfl) ?_
        refine gf_X11_66_26 C hP dX11_take_109 ?_
        obtain ⟨g37, h⟩ := h_g h
        refine r_ald C hP 29 (by decide) rfl (vp_in_iff.mpr g37) dX11_take_112 ?_
        obtain ⟨q38, e39, h⟩ := bnd h
        refine scall_i C hP hS (c_X11_isFigure e39) ms_X11_isFigure mw_1340 ⟨Nat.le_of_ble_eq_true rfl, Nat.le_of_ble_eq_true rfl⟩ (As := [.int (σ 29 (σ 26 9).toNatClampNeg)]) rfl hl.1 rfl (lv_room (Nat.le_of_ble_eq_true rfl)) dX11_take_113 (fun H locs hP hS => ?_)
        refine lv_if_eq (tgt := 169) hx hb dX11_take_116 (by decide) (fun c40 => ?_) (fun c40 => ?_)
        · replace h := h_t c40 h
          exact J169 _ _ H locs ls h hP hS (lv_sub hl [0, 1] rfl)
        · replace h := h_f c40 h
          refine lv_aload_n hx hb dX11_take_119 rfl (lv_at hl 0 rfl) ?_
          refine gf_X11_66_26 C hP dX11_take_120 ?_
          refine lv_aload_n hx hb dX11_take_123 rfl (lv_at hl 0 rfl) ?_
          refine gf_X11_69_26 C hP dX11_take_124 ?_
          refine lv_iconst (v := 1) hx hb dX11_take_127 (by decide) ?_
          refine lv_iadd hx hb dX11_take_128 ?_
          refine lv_icmp_ne (tgt := 152) hx hb dX11_take_129 (by decide) (fun c41 => ?_) (fun c41 => ?_)
          · replace h := h_f c41 h
            refine lv_sipush (v := 1000) hx hb dX11_take_152 (by decide) ?_
            exact J155 _ _ H locs ls h hP hS (lv_sub hl [0] rfl)
          · replace h := h_t c41 h
            refine lv_bipush (v := 10) hx hb dX11_take_132 (by decide) ?_
            refine lv_iload_n hx hb dX11_take_134 rfl (lv_at hl 1 rfl) ?_
            refine lv_imul hx hb dX11_take_135 ?_
            refine lv_aload_n hx hb dX11_take_136 rfl (lv_at hl 0 rfl) ?_
            refine gf_X11_17_26 C hP dX11_take_137 ?_
            refine lv_aload_n hx hb dX11_take_140 rfl (lv_at hl 0 rfl) ?_
            refine gf_X11_66_26 C hP dX11_take_141 ?_
            obtain ⟨g42, h⟩ := h_g h
            refine r_ald C hP 29 (by decide) rfl (vp_in_iff.mpr g42) dX11_take_144 ?_
            refine lv_iadd hx hb dX11_take_145 ?_
            refine lv_bipush (v := 48) hx hb dX11_take_146 (by decide) ?_
            refine lv_isub hx hb dX11_take_148 ?_
            refine lv_goto (tgt := 155) hx hb dX11_take_149 (by decide) ?_
            exact J155 _ _ H locs ls h hP hS (lv_sub hl [0] rfl)
  have J78 : ∀ (σ : St) (x1 : Int32) (t0 : Int32) (H : Heap) (locs : List Loc) (ls : Array Slot), f_X11_take_p78 σ x1 t0 = some q → va_P (g_D G) vwCl (allW G lam σ) H → va_S (g_A G) s.heap H locs → lv_has ls 3 [(0, .ref (g_ad G 26)), (1, .int x1)] → W p l e ({ frames := 2, cells := 0, slots := 0, locals := 45 } : Room) s m args below meth c H locs 0 0 (Qv q below args s G lam) (F0 m 78 ls [.int t0, .ref (g_ad G 26)]) := by
    intro σ x1 t0 H locs ls h hP hS hl
    unfold f_X11_take_p78 at h
    refine pf_X11_76_26 C hP hS dX11_take_78 (fun H locs hP hS => ?_)
    obtain ⟨σ43, e44, h⟩ := bnd h
    have hP := hPn e44 hP
    refine lv_iload_n hx hb dX11_take_81 rfl (lv_at hl 1 rfl) ?_
    obtain ⟨q45, e46, h⟩ := bnd h
    refine scall_i C hP hS (c_X11_isFigure e46) ms_X11_isFigure mw_1340 ⟨Nat.le_of_ble_eq_true rfl, Nat.le_of_ble_eq_true rfl⟩ (As := [.int x1]) rfl hl.1 rfl (lv_room (Nat.le_of_ble_eq_true rfl)) dX11_take_82 (fun H locs hP hS => ?_)
    refine lv_if_eq (tgt := 189) hx hb dX11_take_85 (by decide) (fun c47 => ?_) (fun c47 => ?_)
    · replace h := h_t c47 h
      exact ret_v C hr hlocks hP hS h dX11_take_189
    · replace h := h_f c47 h
      refine lv_iload_n hx hb dX11_take_88 rfl (lv_at hl 1 rfl) ?_
      refine lv_bipush (v := 48) hx hb dX11_take_89 (by decide) ?_
      refine lv_isub hx hb dX11_take_91 ?_
      obtain ⟨y48, e49, h⟩ := bnd h
      refine r_nm e49 ?_
      refine lv_istore_n (lv' := [(2, .int y48), (0, .ref (g_ad G 26)), (1, .int x1)]) hx hb dX11_take_92 rfl hl (by decide) rfl (fun ls hl => ?_)
      exact L93 FU _ _ H locs ls h hP hS (lv_sub hl [1, 0] rfl)
  have J73 : ∀ (σ : St) (x1 : Int32) (H : Heap) (locs : List Loc) (ls : Array Slot), f_X11_take_p73 σ x1 = some q → va_P (g_D G) vwCl (allW G lam σ) H → va_S (g_A G) s.heap H locs → lv_has ls 3 [(0, .ref (g_ad G 26)), (1, .int x1)] → W p l e ({ frames := 2, cells := 0, slots := 0, locals := 45 } : Room) s m args below meth c H locs 0 0 (Qv q below args s G lam) (F0 m 73 ls [.ref (g_ad G 26)]) := by
    intro σ x1 H locs ls h hP hS hl
    unfold f_X11_take_p73 at h
    refine lv_iload_n hx hb dX11_take_73 rfl (lv_at hl 1 rfl) ?_
    refine lv_goto (tgt := 78) hx hb dX11_take_74 (by decide) ?_
    exact J78 _ _ _ H locs ls h hP hS (lv_sub hl [0, 1] rfl)
  have hS : va_S (g_A G) s.heap s.heap [] := va_S.rf
  unfold f_X11_take at h
  obtain ⟨H, hH⟩ : ∃ H, H = s.heap := ⟨_, rfl⟩
  obtain ⟨locs, hlo⟩ : ∃ k : List Loc, k = [] := ⟨_, rfl⟩
  rw [← hH, ← hlo]
  rw [← hH] at hP
  replace hS : va_S (g_A G) s.heap H locs := by rw [hH, hlo]; exact hS
  refine lv_aload_n hx hb dX11_take_0 rfl (lv_at hl 0 rfl) ?_
  refine lv_aload_n hx hb dX11_take_1 rfl (lv_at hl 0 rfl) ?_
  refine gf_X11_66_26 C hP dX11_take_2 ?_
  refine pf_X11_69_26 C hP hS dX11_take_5 (fun H locs hP hS => ?_)
  obtain ⟨σ50, e51, h⟩ := bnd h
  have hP := hPn e51 hP
  refine lv_aload_n hx hb dX11_take_8 rfl (lv_at hl 0 rfl) ?_
  refine gf_X11_66_26 C hP dX11_take_9 ?_
  refine lv_aload_n hx hb dX11_take_12 rfl (lv_at hl 0 rfl) ?_
  refine gf_X11_72_26 C hP dX11_take_13 ?_
  refine lv_icmp_ne (tgt := 26) hx hb dX11_take_16 (by decide) (fun c52 => ?_) (fun c52 => ?_)
  · replace h := h_f c52 h
    refine lv_aload_n hx hb dX11_take_26 rfl (lv_at hl 0 rfl) ?_
    refine gf_X11_17_26 C hP dX11_take_27 ?_
    refine lv_aload_n hx hb dX11_take_30 rfl (lv_at hl 0 rfl) ?_
    refine gf_X11_66_26 C hP dX11_take_31 ?_
    obtain ⟨g53, h⟩ := h_g h
    refine r_ald C hP 29 (by decide) rfl (vp_in_iff.mpr g53) dX11_take_34 ?_
    obtain ⟨y54, e55, h⟩ := bnd h
    refine r_nm e55 ?_
    refine lv_istore_n (lv' := [(1, .int y54), (0, .ref (g_ad G 26))]) hx hb dX11_take_35 rfl hl (by decide) rfl (fun ls hl => ?_)
    refine lv_aload_n hx hb dX11_take_36 rfl (lv_at hl 1 rfl) ?_
    refine lv_dup hx hb dX11_take_37 rfl ?_
    refine gf_X11_66_26 C hP dX11_take_38 ?_
    refine lv_iconst (v := 1) hx hb dX11_take_41 (by decide) ?_
    refine lv_iadd hx hb dX11_take_42 ?_
    refine pf_X11_66_26 C hP hS dX11_take_43 (fun H locs hP hS => ?_)
    obtain ⟨σ56, e57, h⟩ := bnd h
    have hP := hPn e57 hP
    refine lv_aload_n hx hb dX11_take_46 rfl (lv_at hl 1 rfl) ?_
    refine lv_iload_n hx hb dX11_take_47 rfl (lv_at hl 0 rfl) ?_
    refine lv_i2l hx hb dX11_take_48 rfl ?_
    refine lv_ldc2 hx hb C.2.2.2.1 (C.2.2.2.2.1 _ mw_1338) dX11_take_49 ?_
    refine lv_ldc2 hx hb C.2.2.2.1 (C.2.2.2.2.1 _ mw_1339) dX11_take_52 ?_
    obtain ⟨q58, e59, h⟩ := bnd h
    refine scall_i C hP hS (c_X11_in e59) ms_X11_in mw_1320 ⟨Nat.le_of_ble_eq_true rfl, Nat.le_of_ble_eq_true rfl⟩ (As := [.long ((y54 : Int32).toInt64), .long (97), .long (122)]) rfl hl.1 rfl (lv_room (Nat.le_of_ble_eq_true rfl)) dX11_take_55 (fun H locs hP hS => ?_)
    refine lv_if_ne (tgt := 73) hx hb dX11_take_58 (by decide) (fun c60 => ?_) (fun c60 => ?_)
    · replace h := h_f c60 h
      exact J73 _ _ H locs ls h hP hS (lv_sub hl [1, 0] rfl)
    · replace h := h_t c60 h
      refine lv_iload_n hx hb dX11_take_61 rfl (lv_at hl 0 rfl) ?_
      refine lv_bipush (v := 44) hx hb dX11_take_62 (by decide) ?_
      refine lv_icmp_eq (tgt := 73) hx hb dX11_take_64 (by decide) (fun c61 => ?_) (fun c61 => ?_)
      · replace h := h_t c61 h
        exact J73 _ _ H locs ls h hP hS (lv_sub hl [1, 0] rfl)
      · replace h := h_f c61 h
        refine lv_iload_n hx hb dX11_take_67 rfl (lv_at hl 0 rfl) ?_
        refine lv_bipush (v := 59) hx hb dX11_take_68 (by decide) ?_
        refine lv_icmp_ne (tgt := 77) hx hb dX11_take_70 (by decide) (fun c62 => ?_) (fun c62 => ?_)
        · replace h := h_f c62 h
          refine lv_iconst (v := 0) hx hb dX11_take_77 (by decide) ?_
          exact J78 _ _ _ H locs ls h hP hS (lv_sub hl [1, 0] rfl)
        · replace h := h_t c62 h
          exact J73 _ _ H locs ls h hP hS (lv_sub hl [1, 0] rfl)
  · replace h := h_t c52 h
    refine lv_aload_n hx hb dX11_take_19 rfl (lv_at hl 0 rfl) ?_
    refine lv_ldc hx hb C.2.2.2.1 (C.2.2.2.2.1 _ mw_1337) dX11_take_20 ?_
    refine pf_X11_76_26 C hP hS dX11_take_22 (fun H locs hP hS => ?_)
    obtain ⟨σ63, e64, h⟩ := bnd h
    have hP := hPn e64 hP
    exact ret_v C hr hlocks hP hS h dX11_take_25
set_option maxHeartbeats 4000000 in
set_option maxRecDepth 100000 in
theorem c_X11_isWell {l : Launch} {G : GT} {lam : Lm} {σ : St} {q : Int32 × St} (h : f_X11_isWell σ = some q) : Met l yX11_isWell (Cond.code yX11_isWell cX11_isWell 1 ((some .boolean)) :: TB) ({ frames := 0, cells := 0, slots := 0, locals := 0 } : Room) (va_Pc [.ref (g_ad G 26)] (GW G lam σ)) (Ri q G lam) 0 0 (g_A G) := by
  refine mk_Qi (own := RX11) (by decide) (Nat.le_of_ble_eq_true rfl) rfl (fun p e s m args below meth c C hr hlocks hP ls hl => ?_)
  have hx := C.1
  have hb := C.2.1
  have hl : lv_has ls 1 [(0, .ref (g_ad G 26))] := hl
  have hS : va_S (g_A G) s.heap s.heap [] := va_S.rf
  unfold f_X11_isWell at h
  refine lv_aload_n hx hb dX11_isWell_0 rfl (lv_at hl 0 rfl) ?_
  refine gf_X11_87_26 C hP dX11_isWell_1 ?_
  refine lv_if_ne (tgt := 11) hx hb dX11_isWell_4 (by decide) (fun c2 => ?_) (fun c2 => ?_)
  · replace h := h_f c2 h
    refine lv_iconst (v := 0) hx hb dX11_isWell_11 (by decide) ?_
    exact ret_z C hr hlocks hP hS h (Or.inl rfl) dX11_isWell_12
  · replace h := h_t c2 h
    refine lv_iconst (v := 1) hx hb dX11_isWell_7 (by decide) ?_
    refine lv_goto (tgt := 12) hx hb dX11_isWell_8 (by decide) ?_
    exact ret_z C hr hlocks hP hS h (Or.inr rfl) dX11_isWell_12
set_option maxHeartbeats 4000000 in
set_option maxRecDepth 100000 in
theorem c_X11_wants {l : Launch} {G : GT} {lam : Lm} {σ : St} {a1 : Int32} {a2 : Int32} {q : St} (h : f_X11_wants σ a1 a2 = some q) : Met l yX11_wants (Cond.code yX11_wants cX11_wants 3 none :: TB) ({ frames := 0, cells := 0, slots := 0, locals := 0 } : Room) (va_Pc [.ref (g_ad G 26), .int a1, .int a2] (GW G lam σ)) (Rv q G lam) 0 0 (g_A G) := by
  refine mk_Qv (own := RX11) (by decide) (Nat.le_of_ble_eq_true rfl) rfl (fun p e s m args below meth c C hr hlocks hP ls hl => ?_)
  have hx := C.1
  have hb := C.2.1
  have hl : lv_has ls 3 [(0, .ref (g_ad G 26)), (1, .int a1), (2, .int a2)] := hl
  have J20 : ∀ (σ : St) (t0 : Int32) (H : Heap) (locs : List Loc) (ls : Array Slot), f_X11_wants_p20 σ t0 = some q → va_P (g_D G) vwCl (allW G lam σ) H → va_S (g_A G) s.heap H locs → lv_has ls 3 [] → W p l e ({ frames := 0, cells := 0, slots := 0, locals := 0 } : Room) s m args below meth c H locs 0 0 (Qv q below args s G lam) (F0 m 20 ls [.int t0, .ref (g_ad G 26)]) := by
    intro σ t0 H locs ls h hP hS hl
    unfold f_X11_wants_p20 at h
    refine pf_X11_87_26 C hP hS dX11_wants_20 (fun H locs hP hS => ?_)
    obtain ⟨σ5, e6, h⟩ := bnd h
    have hP := hPn e6 hP
    exact ret_v C hr hlocks hP hS h dX11_wants_23
  have J16 : ∀ (σ : St) (H : Heap) (locs : List Loc) (ls : Array Slot), f_X11_wants_p16 σ = some q → va_P (g_D G) vwCl (allW G lam σ) H → va_S (g_A G) s.heap H locs → lv_has ls 3 [(0, .ref (g_ad G 26))] → W p l e ({ frames := 0, cells := 0, slots := 0, locals := 0 } : Room) s m args below meth c H locs 0 0 (Qv q below args s G lam) (F0 m 16 ls [.ref (g_ad G 26)]) := by
    intro σ H locs ls h hP hS hl
    unfold f_X11_wants_p16 at h
    refine lv_aload_n hx hb dX11_wants_16 rfl (lv_at hl 0 rfl) ?_
    refine gf_X11_87_26 C hP dX11_wants_17 ?_
    exact J20 _ _ H locs ls h hP hS (lv_sub hl [] rfl)
  have hS : va_S (g_A G) s.heap s.heap [] := va_S.rf
  unfold f_X11_wants at h
  obtain ⟨H, hH⟩ : ∃ H, H = s.heap := ⟨_, rfl⟩
  obtain ⟨locs, hlo⟩ : ∃ k : List Loc, k = [] := ⟨_, rfl⟩
  rw [← hH, ← hlo]
  rw [← hH] at hP
  replace hS : va_S (g_A G) s.heap H locs := by rw [hH, hlo]; exact hS
  refine lv_aload_n hx hb dX11_wants_0 rfl (lv_at hl 0 rfl) ?_
  refine lv_aload_n hx hb dX11_wants_1 rfl (lv_at hl 0 rfl) ?_
  refine gf_X11_87_26 C hP dX11_wants_2 ?_
  refine lv_if_ne (tgt := 16) hx hb dX11_wants_5 (by decide) (fun c7 => ?_) (fun c7 => ?_)
  · replace h := h_f c7 h
    exact J16 _ H locs ls h hP hS (lv_sub hl [0] rfl)
  · replace h := h_t c7 h
    refine lv_iload_n hx hb dX11_wants_8 rfl (lv_at hl 1 rfl) ?_
    refine lv_if_ne (tgt := 16) hx hb dX11_wants_9 (by decide) (fun c8 => ?_) (fun c8 => ?_)
    · replace h := h_f c8 h
      exact J16 _ H locs ls h hP hS (lv_sub hl [0] rfl)
    · replace h := h_t c8 h
      refine lv_iload_n hx hb dX11_wants_12 rfl (lv_at hl 2 rfl) ?_
      refine lv_goto (tgt := 20) hx hb dX11_wants_13 (by decide) ?_
      exact J20 _ _ H locs ls h hP hS (lv_sub hl [] rfl)
set_option maxHeartbeats 4000000 in
set_option maxRecDepth 100000 in
theorem c_X11_reads {l : Launch} {G : GT} {lam : Lm} {σ : St} {a1 : Int32} {q : St} (h : f_X11_reads σ a1 = some q) : Met l yX11_reads (Cond.code yX11_reads cX11_reads 2 none :: TB) ({ frames := 3, cells := 0, slots := 0, locals := 67 } : Room) (va_Pc [.ref (g_ad G 26), .int a1] (GW G lam σ)) (Rv q G lam) 0 0 (g_A G) := by
  refine mk_Qv (own := RX11) (by decide) (Nat.le_of_ble_eq_true rfl) rfl (fun p e s m args below meth c C hr hlocks hP ls hl => ?_)
  have hx := C.1
  have hb := C.2.1
  have hl : lv_has ls 2 [(0, .ref (g_ad G 26)), (1, .int a1)] := hl
  have J25 : ∀ (σ : St) (H : Heap) (locs : List Loc) (ls : Array Slot), f_X11_reads_p25 σ = some q → va_P (g_D G) vwCl (allW G lam σ) H → va_S (g_A G) s.heap H locs → lv_has ls 2 [(0, .ref (g_ad G 26))] → W p l e ({ frames := 3, cells := 0, slots := 0, locals := 67 } : Room) s m args below meth c H locs 0 0 (Qv q below args s G lam) (F0 m 25 ls []) := by
    intro σ H locs ls h hP hS hl
    unfold f_X11_reads_p25 at h
    refine lv_aload_n hx hb dX11_reads_25 rfl (lv_at hl 0 rfl) ?_
    obtain ⟨q12, e13, h⟩ := bnd h
    refine call_i C hP hS (c_X11_isWell e13) mi_X11_isWell mw_1353 26 (by decide) rfl rfl ⟨Nat.le_of_ble_eq_true rfl, Nat.le_of_ble_eq_true rfl⟩ (As := []) rfl hl.1 rfl (lv_room (Nat.le_of_ble_eq_true rfl)) dX11_reads_26 (fun H locs hP hS => ?_)
    refine lv_if_eq (tgt := 36) hx hb dX11_reads_29 (by decide) (fun c14 => ?_) (fun c14 => ?_)
    · replace h := h_t c14 h
      exact ret_v C hr hlocks hP hS h dX11_reads_36
    · replace h := h_f c14 h
      refine lv_aload_n hx hb dX11_reads_32 rfl (lv_at hl 0 rfl) ?_
      obtain ⟨q15, e16, h⟩ := bnd h
      refine call_v C hP hS (c_X11_take e16) mi_X11_take mw_1333 26 (by decide) rfl rfl ⟨Nat.le_of_ble_eq_true rfl, Nat.le_of_ble_eq_true rfl⟩ (As := []) rfl hl.1 rfl (lv_room (Nat.le_of_ble_eq_true rfl)) dX11_reads_33 (fun H locs hP hS => ?_)
      exact ret_v C hr hlocks hP hS h dX11_reads_36
  have J21 : ∀ (σ : St) (t0 : Int32) (H : Heap) (locs : List Loc) (ls : Array Slot), f_X11_reads_p21 σ t0 = some q → va_P (g_D G) vwCl (allW G lam σ) H → va_S (g_A G) s.heap H locs → lv_has ls 2 [(0, .ref (g_ad G 26))] → W p l e ({ frames := 3, cells := 0, slots := 0, locals := 67 } : Room) s m args below meth c H locs 0 0 (Qv q below args s G lam) (F0 m 21 ls [.int t0, .ref (g_ad G 26)]) := by
    intro σ t0 H locs ls h hP hS hl
    unfold f_X11_reads_p21 at h
    refine lv_iconst (v := 1) hx hb dX11_reads_21 (by decide) ?_
    obtain ⟨q17, e18, h⟩ := bnd h
    refine call_v C hP hS (c_X11_wants e18) mi_X11_wants mw_1357 26 (by decide) rfl rfl ⟨Nat.le_of_ble_eq_true rfl, Nat.le_of_ble_eq_true rfl⟩ (As := [.int t0, .int 1]) rfl hl.1 rfl (lv_room (Nat.le_of_ble_eq_true rfl)) dX11_reads_22 (fun H locs hP hS => ?_)
    exact J25 _ H locs ls h hP hS (lv_sub hl [0] rfl)
  have hS : va_S (g_A G) s.heap s.heap [] := va_S.rf
  unfold f_X11_reads at h
  obtain ⟨H, hH⟩ : ∃ H, H = s.heap := ⟨_, rfl⟩
  obtain ⟨locs, hlo⟩ : ∃ k : List Loc, k = [] := ⟨_, rfl⟩
  rw [← hH, ← hlo]
  rw [← hH] at hP
  replace hS : va_S (g_A G) s.heap H locs := by rw [hH, hlo]; exact hS
  refine lv_aload_n hx hb dX11_reads_0 rfl (lv_at hl 0 rfl) ?_
  obtain ⟨q19, e20, h⟩ := bnd h
  refine call_i C hP hS (c_X11_isWell e20) mi_X11_isWell mw_1353 26 (by decide) rfl rfl ⟨Nat.le_of_ble_eq_true rfl, Nat.le_of_ble_eq_true rfl⟩ (As := []) rfl hl.1 rfl (lv_room (Nat.le_of_ble_eq_true rfl)) dX11_reads_1 (fun H locs hP hS => ?_)
  refine lv_if_eq (tgt := 25) hx hb dX11_reads_4 (by decide) (fun c21 => ?_) (fun c21 => ?_)
  · replace h := h_t c21 h
    exact J25 _ H locs ls h hP hS (lv_sub hl [0] rfl)
  · replace h := h_f c21 h
    refine lv_aload_n hx hb dX11_reads_7 rfl (lv_at hl 0 rfl) ?_
    refine lv_aload_n hx hb dX11_reads_8 rfl (lv_at hl 0 rfl) ?_
    refine gf_X11_76_26 C hP dX11_reads_9 ?_
    refine lv_iload_n hx hb dX11_reads_12 rfl (lv_at hl 1 rfl) ?_
    refine lv_icmp_ne (tgt := 20) hx hb dX11_reads_13 (by decide) (fun c22 => ?_) (fun c22 => ?_)
    · replace h := h_f c22 h
      refine lv_iconst (v := 0) hx hb dX11_reads_20 (by decide) ?_
      exact J21 _ _ H locs ls h hP hS (lv_sub hl [0] rfl)
    · replace h := h_t c22 h
      refine lv_iconst (v := 1) hx hb dX11_reads_16 (by decide) ?_
      refine lv_goto (tgt := 21) hx hb dX11_reads_17 (by decide) ?_
      exact J21 _ _ H locs ls h hP hS (lv_sub hl [0] rfl)
set_option maxHeartbeats 4000000 in
set_option maxRecDepth 100000 in
theorem c_X11_number {l : Launch} {G : GT} {lam : Lm} {σ : St} {a1 : Int32} {a2 : Int32} {a3 : Int32} {q : St} (h : f_X11_number σ a1 a2 a3 = some q) : Met l yX11_number (Cond.code yX11_number cX11_number 4 none :: TB) ({ frames := 3, cells := 0, slots := 0, locals := 67 } : Room) (va_Pc [.ref (g_ad G 26), .int a1, .int a2, .int a3] (GW G lam σ)) (Rv q G lam) 0 0 (g_A G) := by
  refine mk_Qv (own := RX11) (by decide) (Nat.le_of_ble_eq_true rfl) rfl (fun p e s m args below meth c C hr hlocks hP ls hl => ?_)
  have hx := C.1
  have hb := C.2.1
  have hl : lv_has ls 4 [(0, .ref (g_ad G 26)), (1, .int a1), (2, .int a2), (3, .int a3)] := hl
  have J48 : ∀ (σ : St) (x1 : Int32) (H : Heap) (locs : List Loc) (ls : Array Slot), f_X11_number_p48 σ x1 = some q → va_P (g_D G) vwCl (allW G lam σ) H → va_S (g_A G) s.heap H locs → lv_has ls 4 [(0, .ref (g_ad G 26)), (1, .int x1)] → W p l e ({ frames := 3, cells := 0, slots := 0, locals := 67 } : Room) s m args below meth c H locs 0 0 (Qv q below args s G lam) (F0 m 48 ls []) := by
    intro σ x1 H locs ls h hP hS hl
    unfold f_X11_number_p48 at h
    refine lv_aload_n hx hb dX11_number_48 rfl (lv_at hl 0 rfl) ?_
    obtain ⟨q19, e20, h⟩ := bnd h
    refine call_i C hP hS (c_X11_isWell e20) mi_X11_isWell mw_1353 26 (by decide) rfl rfl ⟨Nat.le_of_ble_eq_true rfl, Nat.le_of_ble_eq_true rfl⟩ (As := []) rfl hl.1 rfl (lv_room (Nat.le_of_ble_eq_true rfl)) dX11_number_49 (fun H locs hP hS => ?_)
    refine lv_if_eq (tgt := 73) hx hb dX11_number_52 (by decide) (fun c21 => ?_) (fun c21 => ?_)
    · replace h := h_t c21 h
      exact ret_v C hr hlocks hP hS h dX11_number_73
    · replace h := h_f c21 h
      refine lv_aload_n hx hb dX11_number_55 rfl (lv_at hl 0 rfl) ?_
      refine gf_X11_26_26 C hP dX11_number_56 ?_
      refine lv_iload_n hx hb dX11_number_59 rfl (lv_at hl 1 rfl) ?_
      refine lv_aload_n hx hb dX11_number_60 rfl (lv_at hl 0 rfl) ?_
      refine gf_X11_76_26 C hP dX11_number_61 ?_
      refine lv_sipush (v := 1000) hx hb dX11_number_64 (by decide) ?_
      refine lv_isub hx hb dX11_number_67 ?_
      obtain ⟨g22, h⟩ := h_g h
      refine r_ast C hP hS 32 (by decide) (fun _ => rfl) (vp_in_iff.mpr g22) dX11_number_68 (fun H locs hP hS => ?_)
      obtain ⟨σ23, e24, h⟩ := bnd h
      have hP := hPn e24 hP
      refine lv_aload_n hx hb dX11_number_69 rfl (lv_at hl 0 rfl) ?_
      obtain ⟨q25, e26, h⟩ := bnd h
      refine call_v C hP hS (c_X11_take e26) mi_X11_take mw_1333 26 (by decide) rfl rfl ⟨Nat.le_of_ble_eq_true rfl, Nat.le_of_ble_eq_true rfl⟩ (As := []) rfl hl.1 rfl (lv_room (Nat.le_of_ble_eq_true rfl)) dX11_number_70 (fun H locs hP hS => ?_)
      exact ret_v C hr hlocks hP hS h dX11_number_73
  have J23 : ∀ (σ : St) (x1 : Int32) (x2 : Int32) (x3 : Int32) (t0 : Int32) (H : Heap) (locs : List Loc) (ls : Array Slot), f_X11_number_p23 σ x1 x2 x3 t0 = some q → va_P (g_D G) vwCl (allW G lam σ) H → va_S (g_A G) s.heap H locs → lv_has ls 4 [(0, .ref (g_ad G 26)), (1, .int x1), (2, .int x2), (3, .int x3)] → W p l e ({ frames := 3, cells := 0, slots := 0, locals := 67 } : Room) s m args below meth c H locs 0 0 (Qv q below args s G lam) (F0 m 23 ls [.int t0, .ref (g_ad G 26)]) := by
    intro σ x1 x2 x3 t0 H locs ls h hP hS hl
    unfold f_X11_number_p23 at h
    refine lv_iconst (v := 1) hx hb dX11_number_23 (by decide) ?_
    obtain ⟨q27, e28, h⟩ := bnd h
    refine call_v C hP hS (c_X11_wants e28) mi_X11_wants mw_1357 26 (by decide) rfl rfl ⟨Nat.le_of_ble_eq_true rfl, Nat.le_of_ble_eq_true rfl⟩ (As := [.int t0, .int 1]) rfl hl.1 rfl (lv_room (Nat.le_of_ble_eq_true rfl)) dX11_number_24 (fun H locs hP hS => ?_)
    refine lv_aload_n hx hb dX11_number_27 rfl (lv_at hl 0 rfl) ?_
    refine lv_aload_n hx hb dX11_number_28 rfl (lv_at hl 0 rfl) ?_
    refine gf_X11_76_26 C hP dX11_number_29 ?_
    refine lv_sipush (v := 1000) hx hb dX11_number_32 (by decide) ?_
    refine lv_isub hx hb dX11_number_35 ?_
    refine lv_i2l hx hb dX11_number_36 rfl ?_
    refine lv_iload_n hx hb dX11_number_37 rfl (lv_at hl 2 rfl) ?_
    refine lv_i2l hx hb dX11_number_38 rfl ?_
    refine lv_iload_n hx hb dX11_number_39 rfl (lv_at hl 3 rfl) ?_
    refine lv_i2l hx hb dX11_number_40 rfl ?_
    obtain ⟨q29, e30, h⟩ := bnd h
    refine scall_i C hP hS (c_X11_in e30) ms_X11_in mw_1320 ⟨Nat.le_of_ble_eq_true rfl, Nat.le_of_ble_eq_true rfl⟩ (As := [.long (((q27 26 11) - 1000 : Int32).toInt64), .long ((x2 : Int32).toInt64), .long ((x3 : Int32).toInt64)]) rfl hl.1 rfl (lv_room (Nat.le_of_ble_eq_true rfl)) dX11_number_41 (fun H locs hP hS => ?_)
    refine lv_iconst (v := 2) hx hb dX11_number_44 (by decide) ?_
    obtain ⟨q31, e32, h⟩ := bnd h
    refine call_v C hP hS (c_X11_wants e32) mi_X11_wants mw_1357 26 (by decide) rfl rfl ⟨Nat.le_of_ble_eq_true rfl, Nat.le_of_ble_eq_true rfl⟩ (As := [.int q29.1, .int 2]) rfl hl.1 rfl (lv_room (Nat.le_of_ble_eq_true rfl)) dX11_number_45 (fun H locs hP hS => ?_)
    exact J48 _ _ H locs ls h hP hS (lv_sub hl [0, 1] rfl)
  have hS : va_S (g_A G) s.heap s.heap [] := va_S.rf
  unfold f_X11_number at h
  obtain ⟨H, hH⟩ : ∃ H, H = s.heap := ⟨_, rfl⟩
  obtain ⟨locs, hlo⟩ : ∃ k : List Loc, k = [] := ⟨_, rfl⟩
  rw [← hH, ← hlo]
  rw [← hH] at hP
  replace hS : va_S (g_A G) s.heap H locs := by rw [hH, hlo]; exact hS
  refine lv_aload_n hx hb dX11_number_0 rfl (lv_at hl 0 rfl) ?_
  obtain ⟨q33, e34, h⟩ := bnd h
  refine call_i C hP hS (c_X11_isWell e34) mi_X11_isWell mw_1353 26 (by decide) rfl rfl ⟨Nat.le_of_ble_eq_true rfl, Nat.le_of_ble_eq_true rfl⟩ (As := []) rfl hl.1 rfl (lv_room (Nat.le_of_ble_eq_true rfl)) dX11_number_1 (fun H locs hP hS => ?_)
  refine lv_if_eq (tgt := 48) hx hb dX11_number_4 (by decide) (fun c35 => ?_) (fun c35 => ?_)
  · replace h := h_t c35 h
    exact J48 _ _ H locs ls h hP hS (lv_sub hl [0, 1] rfl)
  · replace h := h_f c35 h
    refine lv_aload_n hx hb dX11_number_7 rfl (lv_at hl 0 rfl) ?_
    refine lv_aload_n hx hb dX11_number_8 rfl (lv_at hl 0 rfl) ?_
    refine gf_X11_76_26 C hP dX11_number_9 ?_
    refine lv_sipush (v := 1000) hx hb dX11_number_12 (by decide) ?_
    refine lv_icmp_lt (tgt := 22) hx hb dX11_number_15 (by decide) (fun c36 => ?_) (fun c36 => ?_)
    · replace h := h_t c36 h
      refine lv_iconst (v := 0) hx hb dX11_number_22 (by decide) ?_
      exact J23 _ _ _ _ _ H locs ls h hP hS (lv_sub hl [0, 1, 2, 3] rfl)
    · replace h := h_f c36 h
      refine lv_iconst (v := 1) hx hb dX11_number_18 (by decide) ?_
      refine lv_goto (tgt := 23) hx hb dX11_number_19 (by decide) ?_
      exact J23 _ _ _ _ _ H locs ls h hP hS (lv_sub hl [0, 1, 2, 3] rfl)
set_option maxHeartbeats 4000000 in
set_option maxRecDepth 100000 in
theorem c_X11_readsShip {l : Launch} {G : GT} {lam : Lm} {σ : St} {q : St} (h : f_X11_readsShip σ = some q) : Met l yX11_readsShip (Cond.code yX11_readsShip cX11_readsShip 1 none :: TB) ({ frames := 4, cells := 0, slots := 0, locals := 90 } : Room) (va_Pc [.ref (g_ad G 26)] (GW G lam σ)) (Rv q G lam) 0 0 (g_A G) := by
  refine mk_Qv (own := RX11) (by decide) (Nat.le_of_ble_eq_true rfl) rfl (fun p e s m args below meth c C hr hlocks hP ls hl => ?_)
  have hx := C.1
  have hb := C.2.1
  have hl : lv_has ls 1 [(0, .ref (g_ad G 26))] := hl
  have hS : va_S (g_A G) s.heap s.heap [] := va_S.rf
  unfold f_X11_readsShip at h
  refine lv_aload_n hx hb dX11_readsShip_0 rfl (lv_at hl 0 rfl) ?_
  refine lv_bipush (v := 104) hx hb dX11_readsShip_1 (by decide) ?_
  obtain ⟨q15, e16, h⟩ := bnd h
  refine call_v C hP hS (c_X11_reads e16) mi_X11_reads mw_1349 26 (by decide) rfl rfl ⟨Nat.le_of_ble_eq_true rfl, Nat.le_of_ble_eq_true rfl⟩ (As := [.int 104]) rfl hl.1 rfl (lv_room (Nat.le_of_ble_eq_true rfl)) dX11_readsShip_3 (fun H locs hP hS => ?_)
  refine lv_aload_n hx hb dX11_readsShip_6 rfl (lv_at hl 0 rfl) ?_
  refine lv_iconst (v := 1) hx hb dX11_readsShip_7 (by decide) ?_
  refine lv_iconst (v := 0) hx hb dX11_readsShip_8 (by decide) ?_
  refine lv_bipush (v := 20) hx hb dX11_readsShip_9 (by decide) ?_
  obtain ⟨q17, e18, h⟩ := bnd h
  refine call_v C hP hS (c_X11_number e18) mi_X11_number mw_1361 26 (by decide) rfl rfl ⟨Nat.le_of_ble_eq_true rfl, Nat.le_of_ble_eq_true rfl⟩ (As := [.int 1, .int 0, .int 20]) rfl hl.1 rfl (lv_room (Nat.le_of_ble_eq_true rfl)) dX11_readsShip_11 (fun H locs hP hS => ?_)
  refine lv_aload_n hx hb dX11_readsShip_14 rfl (lv_at hl 0 rfl) ?_
  refine lv_bipush (v := 44) hx hb dX11_readsShip_15 (by decide) ?_
  obtain ⟨q19, e20, h⟩ := bnd h
  refine call_v C hP hS (c_X11_reads e20) mi_X11_reads mw_1349 26 (by decide) rfl rfl ⟨Nat.le_of_ble_eq_true rfl, Nat.le_of_ble_eq_true rfl⟩ (As := [.int 44]) rfl hl.1 rfl (lv_room (Nat.le_of_ble_eq_true rfl)) dX11_readsShip_17 (fun H locs hP hS => ?_)
  refine lv_aload_n hx hb dX11_readsShip_20 rfl (lv_at hl 0 rfl) ?_
  refine lv_iconst (v := 2) hx hb dX11_readsShip_21 (by decide) ?_
  refine lv_iconst (v := 0) hx hb dX11_readsShip_22 (by decide) ?_
  refine lv_bipush (v := 60) hx hb dX11_readsShip_23 (by decide) ?_
  obtain ⟨q21, e22, h⟩ := bnd h
  refine call_v C hP hS (c_X11_number e22) mi_X11_number mw_1361 26 (by decide) rfl rfl ⟨Nat.le_of_ble_eq_true rfl, Nat.le_of_ble_eq_true rfl⟩ (As := [.int 2, .int 0, .int 60]) rfl hl.1 rfl (lv_room (Nat.le_of_ble_eq_true rfl)) dX11_readsShip_25 (fun H locs hP hS => ?_)
  refine lv_aload_n hx hb dX11_readsShip_28 rfl (lv_at hl 0 rfl) ?_
  refine lv_bipush (v := 44) hx hb dX11_readsShip_29 (by decide) ?_
  obtain ⟨q23, e24, h⟩ := bnd h
  refine call_v C hP hS (c_X11_reads e24) mi_X11_reads mw_1349 26 (by decide) rfl rfl ⟨Nat.le_of_ble_eq_true rfl, Nat.le_of_ble_eq_true rfl⟩ (As := [.int 44]) rfl hl.1 rfl (lv_room (Nat.le_of_ble_eq_true rfl)) dX11_readsShip_31 (fun H locs hP hS => ?_)
  refine lv_aload_n hx hb dX11_readsShip_34 rfl (lv_at hl 0 rfl) ?_
  refine lv_iconst (v := 3) hx hb dX11_readsShip_35 (by decide) ?_
  refine lv_iconst (v := 0) hx hb dX11_readsShip_36 (by decide) ?_
  refine lv_bipush (v := 60) hx hb dX11_readsShip_37 (by decide) ?_
  obtain ⟨q25, e26, h⟩ := bnd h
  refine call_v C hP hS (c_X11_number e26) mi_X11_number mw_1361 26 (by decide) rfl rfl ⟨Nat.le_of_ble_eq_true rfl, Nat.le_of_ble_eq_true rfl⟩ (As := [.int 3, .int 0, .int 60]) rfl hl.1 rfl (lv_room (Nat.le_of_ble_eq_true rfl)) dX11_readsShip_39 (fun H locs hP hS => ?_)
  refine lv_aload_n hx hb dX11_readsShip_42 rfl (lv_at hl 0 rfl) ?_
  refine lv_bipush (v := 59) hx hb dX11_readsShip_43 (by decide) ?_
  obtain ⟨q27, e28, h⟩ := bnd h
  refine call_v C hP hS (c_X11_reads e28) mi_X11_reads mw_1349 26 (by decide) rfl rfl ⟨Nat.le_of_ble_eq_true rfl, Nat.le_of_ble_eq_true rfl⟩ (As := [.int 59]) rfl hl.1 rfl (lv_room (Nat.le_of_ble_eq_true rfl)) dX11_readsShip_45 (fun H locs hP hS => ?_)
  exact ret_v C hr hlocks hP hS h dX11_readsShip_48
set_option maxHeartbeats 4000000 in
set_option maxRecDepth 100000 in
theorem c_X11_readsTide {l : Launch} {G : GT} {lam : Lm} {σ : St} {q : St} (h : f_X11_readsTide σ = some q) : Met l yX11_readsTide (Cond.code yX11_readsTide cX11_readsTide 1 none :: TB) ({ frames := 4, cells := 0, slots := 0, locals := 90 } : Room) (va_Pc [.ref (g_ad G 26)] (GW G lam σ)) (Rv q G lam) 0 0 (g_A G) := by
  refine mk_Qv (own := RX11) (by decide) (Nat.le_of_ble_eq_true rfl) rfl (fun p e s m args below meth c C hr hlocks hP ls hl => ?_)
  have hx := C.1
  have hb := C.2.1
  have hl : lv_has ls 1 [(0, .ref (g_ad G 26))] := hl
  have J86 : ∀ (σ : St) (H : Heap) (locs : List Loc) (ls : Array Slot), f_X11_readsTide_p86 σ = some q → va_P (g_D G) vwCl (allW G lam σ) H → va_S (g_A G) s.heap H locs → lv_has ls 1 [(0, .ref (g_ad G 26))] → W p l e ({ frames := 4, cells := 0, slots := 0, locals := 90 } : Room) s m args below meth c H locs 0 0 (Qv q below args s G lam) (F0 m 86 ls []) := by
    intro σ H locs ls h hP hS hl
    unfold f_X11_readsTide_p86 at h
    refine lv_aload_n hx hb dX11_readsTide_86 rfl (lv_at hl 0 rfl) ?_
    refine lv_bipush (v := 59) hx hb dX11_readsTide_87 (by decide) ?_
    obtain ⟨q20, e21, h⟩ := bnd h
    refine call_v C hP hS (c_X11_reads e21) mi_X11_reads mw_1349 26 (by decide) rfl rfl ⟨Nat.le_of_ble_eq_true rfl, Nat.le_of_ble_eq_true rfl⟩ (As := [.int 59]) rfl hl.1 rfl (lv_room (Nat.le_of_ble_eq_true rfl)) dX11_readsTide_89 (fun H locs hP hS => ?_)
    exact ret_v C hr hlocks hP hS h dX11_readsTide_92
  have L23 : ∀ (n23 : Nat) (σ : St) (H : Heap) (locs : List Loc) (ls : Array Slot), fx (F_X11_readsTide_h23) z_X11_readsTide_h23 n23 σ = some q → va_P (g_D G) vwCl (allW G lam σ) H → va_S (g_A G) s.heap H locs → lv_has ls 1 [(0, .ref (g_ad G 26))] → W p l e ({ frames := 4, cells := 0, slots := 0, locals := 90 } : Room) s m args below meth c H locs 0 0 (Qv q below args s G lam) (F0 m 23 ls []) := by
    intro n23
    induction n23 with
    | zero => intro σ H locs ls h hP hS hl; exact absurd h (by intro h9; cases h9)
    | succ n23 ih23 =>
      intro σ H locs ls h hP hS hl
      change F_X11_readsTide_h23 (fx (F_X11_readsTide_h23) z_X11_readsTide_h23 n23) σ = some q at h
      unfold F_X11_readsTide_h23 at h
      refine lv_aload_n hx hb dX11_readsTide_23 rfl (lv_at hl 0 rfl) ?_
      obtain ⟨q22, e23, h⟩ := bnd h
      refine call_i C hP hS (c_X11_isWell e23) mi_X11_isWell mw_1353 26 (by decide) rfl rfl ⟨Nat.le_of_ble_eq_true rfl, Nat.le_of_ble_eq_true rfl⟩ (As := []) rfl hl.1 rfl (lv_room (Nat.le_of_ble_eq_true rfl)) dX11_readsTide_24 (fun H locs hP hS => ?_)
      refine lv_if_eq (tgt := 86) hx hb dX11_readsTide_27 (by decide) (fun c24 => ?_) (fun c24 => ?_)
      · replace h := h_t c24 h
        exact J86 _ H locs ls h hP hS (lv_sub hl [0] rfl)
      · replace h := h_f c24 h
        refine lv_aload_n hx hb dX11_readsTide_30 rfl (lv_at hl 0 rfl) ?_
        refine gf_X11_76_26 C hP dX11_readsTide_31 ?_
        refine lv_bipush (v := 44) hx hb dX11_readsTide_34 (by decide) ?_
        refine lv_icmp_ne (tgt := 86) hx hb dX11_readsTide_36 (by decide) (fun c25 => ?_) (fun c25 => ?_)
        · replace h := h_f c25 h
          exact J86 _ H locs ls h hP hS (lv_sub hl [0] rfl)
        · replace h := h_t c25 h
          refine lv_aload_n hx hb dX11_readsTide_39 rfl (lv_at hl 0 rfl) ?_
          refine gf_X11_26_26 C hP dX11_readsTide_40 ?_
          refine lv_bipush (v := 6) hx hb dX11_readsTide_43 (by decide) ?_
          refine r_aldc C hP 32 (by decide) rfl (j := 6) (by decide) (vp_in_iff.mpr (by decide)) dX11_readsTide_45 ?_
          refine lv_bipush (v := 6) hx hb dX11_readsTide_46 (by decide) ?_
          refine lv_icmp_ge (tgt := 86) hx hb dX11_readsTide_48 (by decide) (fun c26 => ?_) (fun c26 => ?_)
          · replace h := h_t c26 h
            exact J86 _ H locs ls h hP hS (lv_sub hl [0] rfl)
          · replace h := h_f c26 h
            refine lv_aload_n hx hb dX11_readsTide_51 rfl (lv_at hl 0 rfl) ?_
            obtain ⟨q27, e28, h⟩ := bnd h
            refine call_v C hP hS (c_X11_take e28) mi_X11_take mw_1333 26 (by decide) rfl rfl ⟨Nat.le_of_ble_eq_true rfl, Nat.le_of_ble_eq_true rfl⟩ (As := []) rfl hl.1 rfl (lv_room (Nat.le_of_ble_eq_true rfl)) dX11_readsTide_52 (fun H locs hP hS => ?_)
            refine lv_aload_n hx hb dX11_readsTide_55 rfl (lv_at hl 0 rfl) ?_
            refine lv_bipush (v := 7) hx hb dX11_readsTide_56 (by decide) ?_
            refine lv_aload_n hx hb dX11_readsTide_58 rfl (lv_at hl 0 rfl) ?_
            refine gf_X11_26_26 C hP dX11_readsTide_59 ?_
            refine lv_bipush (v := 6) hx hb dX11_readsTide_62 (by decide) ?_
            refine r_aldc C hP 32 (by decide) rfl (j := 6) (by decide) (vp_in_iff.mpr (by decide)) dX11_readsTide_64 ?_
            refine lv_iadd hx hb dX11_readsTide_65 ?_
            refine lv_iconst (v := 0) hx hb dX11_readsTide_66 (by decide) ?_
            refine lv_bipush (v := 20) hx hb dX11_readsTide_67 (by decide) ?_
            obtain ⟨q29, e30, h⟩ := bnd h
            refine call_v C hP hS (c_X11_number e30) mi_X11_number mw_1361 26 (by decide) rfl rfl ⟨Nat.le_of_ble_eq_true rfl, Nat.le_of_ble_eq_true rfl⟩ (As := [.int (7 + (q27 32 6)), .int 0, .int 20]) rfl hl.1 rfl (lv_room (Nat.le_of_ble_eq_true rfl)) dX11_readsTide_69 (fun H locs hP hS => ?_)
            refine lv_aload_n hx hb dX11_readsTide_72 rfl (lv_at hl 0 rfl) ?_
            refine gf_X11_26_26 C hP dX11_readsTide_73 ?_
            refine lv_bipush (v := 6) hx hb dX11_readsTide_76 (by decide) ?_
            refine lv_dup2_11 hx hb dX11_readsTide_78 rfl rfl ?_
            refine r_aldc C hP 32 (by decide) rfl (j := 6) (by decide) (vp_in_iff.mpr (by decide)) dX11_readsTide_79 ?_
            refine lv_iconst (v := 1) hx hb dX11_readsTide_80 (by decide) ?_
            refine lv_iadd hx hb dX11_readsTide_81 ?_
            refine r_astc C hP hS 32 (by decide) (fun _ => rfl) (j := 6) (by decide) (vp_in_iff.mpr (by decide)) dX11_readsTide_82 (fun H locs hP hS => ?_)
            obtain ⟨σ31, e32, h⟩ := bnd h
            have hP := hPn e32 hP
            refine lv_goto (tgt := 23) hx hb dX11_readsTide_83 (by decide) ?_
            exact ih23 _ H locs ls h hP hS (lv_sub hl [0] rfl)
  have hS : va_S (g_A G) s.heap s.heap [] := va_S.rf
  unfold f_X11_readsTide at h
  obtain ⟨H, hH⟩ : ∃ H, H = s.heap := ⟨_, rfl⟩
  obtain ⟨locs, hlo⟩ : ∃ k : List Loc, k = [] := ⟨_, rfl⟩
  rw [← hH, ← hlo]
  rw [← hH] at hP
  replace hS : va_S (g_A G) s.heap H locs := by rw [hH, hlo]; exact hS
  refine lv_aload_n hx hb dX11_readsTide_0 rfl (lv_at hl 0 rfl) ?_
  refine lv_bipush (v := 116) hx hb dX11_readsTide_1 (by decide) ?_
  obtain ⟨q33, e34, h⟩ := bnd h
  refine call_v C hP hS (c_X11_reads e34) mi_X11_reads mw_1349 26 (by decide) rfl rfl ⟨Nat.le_of_ble_eq_true rfl, Nat.le_of_ble_eq_true rfl⟩ (As := [.int 116]) rfl hl.1 rfl (lv_room (Nat.le_of_ble_eq_true rfl)) dX11_readsTide_3 (fun H locs hP hS => ?_)
  refine lv_aload_n hx hb dX11_readsTide_6 rfl (lv_at hl 0 rfl) ?_
  refine lv_bipush (v := 7) hx hb dX11_readsTide_7 (by decide) ?_
  refine lv_iconst (v := 0) hx hb dX11_readsTide_9 (by decide) ?_
  refine lv_bipush (v := 20) hx hb dX11_readsTide_10 (by decide) ?_
  obtain ⟨q35, e36, h⟩ := bnd h
  refine call_v C hP hS (c_X11_number e36) mi_X11_number mw_1361 26 (by decide) rfl rfl ⟨Nat.le_of_ble_eq_true rfl, Nat.le_of_ble_eq_true rfl⟩ (As := [.int 7, .int 0, .int 20]) rfl hl.1 rfl (lv_room (Nat.le_of_ble_eq_true rfl)) dX11_readsTide_12 (fun H locs hP hS => ?_)
  refine lv_aload_n hx hb dX11_readsTide_15 rfl (lv_at hl 0 rfl) ?_
  refine gf_X11_26_26 C hP dX11_readsTide_16 ?_
  refine lv_bipush (v := 6) hx hb dX11_readsTide_19 (by decide) ?_
  refine lv_iconst (v := 1) hx hb dX11_readsTide_21 (by decide) ?_
  refine r_astc C hP hS 32 (by decide) (fun _ => rfl) (j := 6) (by decide) (vp_in_iff.mpr (by decide)) dX11_readsTide_22 (fun H locs hP hS => ?_)
  obtain ⟨σ37, e38, h⟩ := bnd h
  have hP := hPn e38 hP
  exact L23 FU _ H locs ls h hP hS (lv_sub hl [0] rfl)
set_option maxHeartbeats 4000000 in
set_option maxRecDepth 100000 in
theorem c_X11_sortOf {l : Launch} {G : GT} {lam : Lm} {σ : St} {a1 : Int32} {q : Int32 × St} (h : f_X11_sortOf σ a1 = some q) : Met l yX11_sortOf (Cond.code yX11_sortOf cX11_sortOf 1 ((some .int)) :: TB) ({ frames := 0, cells := 0, slots := 0, locals := 0 } : Room) (va_Pc [.int a1] (GW G lam σ)) (Ri q G lam) 0 0 (g_A G) := by
  refine mk_Qi (own := RX11) (by decide) (Nat.le_of_ble_eq_true rfl) rfl (fun p e s m args below meth c C hr hlocks hP ls hl => ?_)
  have hx := C.1
  have hb := C.2.1
  have hl : lv_has ls 1 [(0, .int a1)] := hl
  have hS : va_S (g_A G) s.heap s.heap [] := va_S.rf
  unfold f_X11_sortOf at h
  refine lv_iload_n hx hb dX11_sortOf_0 rfl (lv_at hl 0 rfl) ?_
  by_cases c21 : a1 = 98
  · replace h := h_t c21 h
    refine r_eq c21 ?_
    refine lv_tableIn (off := 95) (tgt := 96) hx hb dX11_sortOf_1 (by decide) (by decide) (by decide) (by decide) ?_
    refine lv_iconst (v := 1) hx hb dX11_sortOf_96 (by decide) ?_
    exact ret_i C hr hlocks hP hS h dX11_sortOf_97
  replace h := h_f c21 h
  by_cases c22 : a1 = 99
  · replace h := h_t c22 h
    refine r_eq c22 ?_
    refine lv_tableIn (off := 108) (tgt := 109) hx hb dX11_sortOf_1 (by decide) (by decide) (by decide) (by decide) ?_
    refine lv_iconst (v := 0) hx hb dX11_sortOf_109 (by decide) ?_
    exact ret_i C hr hlocks hP hS h dX11_sortOf_110
  replace h := h_f c22 h
  by_cases c23 : a1 = 100
  · replace h := h_t c23 h
    refine r_eq c23 ?_
    refine lv_tableIn (off := 108) (tgt := 109) hx hb dX11_sortOf_1 (by decide) (by decide) (by decide) (by decide) ?_
    refine lv_iconst (v := 0) hx hb dX11_sortOf_109 (by decide) ?_
    exact ret_i C hr hlocks hP hS h dX11_sortOf_110
  replace h := h_f c23 h
  by_cases c24 : a1 = 101
  · replace h := h_t c24 h
    refine r_eq c24 ?_
    refine lv_tableIn (off := 108) (tgt := 109) hx hb dX11_sortOf_1 (by decide) (by decide) (by decide) (by decide) ?_
    refine lv_iconst (v := 0) hx hb dX11_sortOf_109 (by decide) ?_
    exact ret_i C hr hlocks hP hS h dX11_sortOf_110
  replace h := h_f c24 h
  by_cases c25 : a1 = 102
  · replace h := h_t c25 h
    refine r_eq c25 ?_
    refine lv_tableIn (off := 108) (tgt := 109) hx hb dX11_sortOf_1 (by decide) (by decide) (by decide) (by decide) ?_
    refine lv_iconst (v := 0) hx hb dX11_sortOf_109 (by decide) ?_
    exact ret_i C hr hlocks hP hS h dX11_sortOf_110
  replace h := h_f c25 h
  by_cases c26 : a1 = 103
  · replace h := h_t c26 h
    refine r_eq c26 ?_
    refine lv_tableIn (off := 108) (tgt := 109) hx hb dX11_sortOf_1 (by decide) (by decide) (by decide) (by decide) ?_
    refine lv_iconst (v := 0) hx hb dX11_sortOf_109 (by decide) ?_
    exact ret_i C hr hlocks hP hS h dX11_sortOf_110
  replace h := h_f c26 h
  by_cases c27 : a1 = 104
  · replace h := h_t c27 h
    refine r_eq c27 ?_
    refine lv_tableIn (off := 108) (tgt := 109) hx hb dX11_sortOf_1 (by decide) (by decide) (by decide) (by decide) ?_
    refine lv_iconst (v := 0) hx hb dX11_sortOf_109 (by decide) ?_
    exact ret_i C hr hlocks hP hS h dX11_sortOf_110
  replace h := h_f c27 h
  by_cases c28 : a1 = 105
  · replace h := h_t c28 h
    refine r_eq c28 ?_
    refine lv_tableIn (off := 108) (tgt := 109) hx hb dX11_sortOf_1 (by decide) (by decide) (by decide) (by decide) ?_
    refine lv_iconst (v := 0) hx hb dX11_sortOf_109 (by decide) ?_
    exact ret_i C hr hlocks hP hS h dX11_sortOf_110
  replace h := h_f c28 h
  by_cases c29 : a1 = 106
  · replace h := h_t c29 h
    refine r_eq c29 ?_
    refine lv_tableIn (off := 108) (tgt := 109) hx hb dX11_sortOf_1 (by decide) (by decide) (by decide) (by decide) ?_
    refine lv_iconst (v := 0) hx hb dX11_sortOf_109 (by decide) ?_
    exact ret_i C hr hlocks hP hS h dX11_sortOf_110
  replace h := h_f c29 h
  by_cases c30 : a1 = 107
  · replace h := h_t c30 h
    refine r_eq c30 ?_
    refine lv_tableIn (off := 105) (tgt := 106) hx hb dX11_sortOf_1 (by decide) (by decide) (by decide) (by decide) ?_
    refine lv_bipush (v := 6) hx hb dX11_sortOf_106 (by decide) ?_
    exact ret_i C hr hlocks hP hS h dX11_sortOf_108
  replace h := h_f c30 h
  by_cases c31 : a1 = 108
  · replace h := h_t c31 h
    refine r_eq c31 ?_
    refine lv_tableIn (off := 97) (tgt := 98) hx hb dX11_sortOf_1 (by decide) (by decide) (by decide) (by decide) ?_
    refine lv_iconst (v := 2) hx hb dX11_sortOf_98 (by decide) ?_
    exact ret_i C hr hlocks hP hS h dX11_sortOf_99
  replace h := h_f c31 h
  by_cases c32 : a1 = 109
  · replace h := h_t c32 h
    refine r_eq c32 ?_
    refine lv_tableIn (off := 108) (tgt := 109) hx hb dX11_sortOf_1 (by decide) (by decide) (by decide) (by decide) ?_
    refine lv_iconst (v := 0) hx hb dX11_sortOf_109 (by decide) ?_
    exact ret_i C hr hlocks hP hS h dX11_sortOf_110
  replace h := h_f c32 h
  by_cases c33 : a1 = 110
  · replace h := h_t c33 h
    refine r_eq c33 ?_
    refine lv_tableIn (off := 108) (tgt := 109) hx hb dX11_sortOf_1 (by decide) (by decide) (by decide) (by decide) ?_
    refine lv_iconst (v := 0) hx hb dX11_sortOf_109 (by decide) ?_
    exact ret_i C hr hlocks hP hS h dX11_sortOf_110
  replace h := h_f c33 h
  by_cases c34 : a1 = 111
  · replace h := h_t c34 h
    refine r_eq c34 ?_
    refine lv_tableIn (off := 108) (tgt := 109) hx hb dX11_sortOf_1 (by decide) (by decide) (by decide) (by decide) ?_
    refine lv_iconst (v := 0) hx hb dX11_sortOf_109 (by decide) ?_
    exact ret_i C hr hlocks hP hS h dX11_sortOf_110
  replace h := h_f c34 h
  by_cases c35 : a1 = 112
  · replace h := h_t c35 h
    refine r_eq c35 ?_
    refine lv_tableIn (off := 108) (tgt := 109) hx hb dX11_sortOf_1 (by decide) (by decide) (by decide) (by decide) ?_
    refine lv_iconst (v := 0) hx hb dX11_sortOf_109 (by decide) ?_
    exact ret_i C hr hlocks hP hS h dX11_sortOf_110
  replace h := h_f c35 h
  by_cases c36 : a1 = 113
  · replace h := h_t c36 h
    refine r_eq c36 ?_
    refine lv_tableIn (off := 108) (tgt := 109) hx hb dX11_sortOf_1 (by decide) (by decide) (by decide) (by decide) ?_
    refine lv_iconst (v := 0) hx hb dX11_sortOf_109 (by decide) ?_
    exact ret_i C hr hlocks hP hS h dX11_sortOf_110
  replace h := h_f c36 h
  by_cases c37 : a1 = 114
  · replace h := h_t c37 h
    refine r_eq c37 ?_
    refine lv_tableIn (off := 103) (tgt := 104) hx hb dX11_sortOf_1 (by decide) (by decide) (by decide) (by decide) ?_
    refine lv_iconst (v := 5) hx hb dX11_sortOf_104 (by decide) ?_
    exact ret_i C hr hlocks hP hS h dX11_sortOf_105
  replace h := h_f c37 h
  by_cases c38 : a1 = 115
  · replace h := h_t c38 h
    refine r_eq c38 ?_
    refine lv_tableIn (off := 101) (tgt := 102) hx hb dX11_sortOf_1 (by decide) (by decide) (by decide) (by decide) ?_
    refine lv_iconst (v := 4) hx hb dX11_sortOf_102 (by decide) ?_
    exact ret_i C hr hlocks hP hS h dX11_sortOf_103
  replace h := h_f c38 h
  by_cases c39 : a1 = 116
  · replace h := h_t c39 h
    refine r_eq c39 ?_
    refine lv_tableIn (off := 108) (tgt := 109) hx hb dX11_sortOf_1 (by decide) (by decide) (by decide) (by decide) ?_
    refine lv_iconst (v := 0) hx hb dX11_sortOf_109 (by decide) ?_
    exact ret_i C hr hlocks hP hS h dX11_sortOf_110
  replace h := h_f c39 h
  by_cases c40 : a1 = 117
  · replace h := h_t c40 h
    refine r_eq c40 ?_
    refine lv_tableIn (off := 99) (tgt := 100) hx hb dX11_sortOf_1 (by decide) (by decide) (by decide) (by decide) ?_
    refine lv_iconst (v := 3) hx hb dX11_sortOf_100 (by decide) ?_
    exact ret_i C hr hlocks hP hS h dX11_sortOf_101
  replace h := h_f c40 h
  refine lv_tableOut (tgt := 109) hx hb dX11_sortOf_1 (by have hz := And.intro (ne_i (z := 98) (by decide) c21) (And.intro (ne_i (z := 99) (by decide) c22) (And.intro (ne_i (z := 100) (by decide) c23) (And.intro (ne_i (z := 101) (by decide) c24) (And.intro (ne_i (z := 102) (by decide) c25) (And.intro (ne_i (z := 103) (by decide) c26) (And.intro (ne_i (z := 104) (by decide) c27) (And.intro (ne_i (z := 105) (by decide) c28) (And.intro (ne_i (z := 106) (by decide) c29) (And.intro (ne_i (z := 107) (by decide) c30) (And.intro (ne_i (z := 108) (by decide) c31) (And.intro (ne_i (z := 109) (by decide) c32) (And.intro (ne_i (z := 110) (by decide) c33) (And.intro (ne_i (z := 111) (by decide) c34) (And.intro (ne_i (z := 112) (by decide) c35) (And.intro (ne_i (z := 113) (by decide) c36) (And.intro (ne_i (z := 114) (by decide) c37) (And.intro (ne_i (z := 115) (by decide) c38) (And.intro (ne_i (z := 116) (by decide) c39) (ne_i (z := 117) (by decide) c40))))))))))))))))))); omega) (by decide) ?_
  refine lv_iconst (v := 0) hx hb dX11_sortOf_109 (by decide) ?_
  exact ret_i C hr hlocks hP hS h dX11_sortOf_110
set_option maxHeartbeats 4000000 in
set_option maxRecDepth 100000 in
theorem c_X11_readsThing {l : Launch} {G : GT} {lam : Lm} {σ : St} {q : St} (h : f_X11_readsThing σ = some q) : Met l yX11_readsThing (Cond.code yX11_readsThing cX11_readsThing 2 none :: TB) ({ frames := 4, cells := 0, slots := 0, locals := 90 } : Room) (va_Pc [.ref (g_ad G 26)] (GW G lam σ)) (Rv q G lam) 0 0 (g_A G) := by
  refine mk_Qv (own := RX11) (by decide) (Nat.le_of_ble_eq_true rfl) rfl (fun p e s m args below meth c C hr hlocks hP ls hl => ?_)
  have hx := C.1
  have hb := C.2.1
  have hl : lv_has ls 2 [(0, .ref (g_ad G 26))] := hl
  have J18 : ∀ (σ : St) (t0 : Int32) (H : Heap) (locs : List Loc) (ls : Array Slot), f_X11_readsThing_p18 σ t0 = some q → va_P (g_D G) vwCl (allW G lam σ) H → va_S (g_A G) s.heap H locs → lv_has ls 2 [(0, .ref (g_ad G 26))] → W p l e ({ frames := 4, cells := 0, slots := 0, locals := 90 } : Room) s m args below meth c H locs 0 0 (Qv q below args s G lam) (F0 m 18 ls [.int t0, .ref (g_ad G 26)]) := by
    intro σ t0 H locs ls h hP hS hl
    unfold f_X11_readsThing_p18 at h
    refine lv_iconst (v := 3) hx hb dX11_readsThing_18 (by decide) ?_
    obtain ⟨q32, e33, h⟩ := bnd h
    refine call_v C hP hS (c_X11_wants e33) mi_X11_wants mw_1357 26 (by decide) rfl rfl ⟨Nat.le_of_ble_eq_true rfl, Nat.le_of_ble_eq_true rfl⟩ (As := [.int t0, .int 3]) rfl hl.1 rfl (lv_room (Nat.le_of_ble_eq_true rfl)) dX11_readsThing_19 (fun H locs hP hS => ?_)
    refine lv_aload_n hx hb dX11_readsThing_22 rfl (lv_at hl 0 rfl) ?_
    obtain ⟨q34, e35, h⟩ := bnd h
    refine call_i C hP hS (c_X11_isWell e35) mi_X11_isWell mw_1353 26 (by decide) rfl rfl ⟨Nat.le_of_ble_eq_true rfl, Nat.le_of_ble_eq_true rfl⟩ (As := []) rfl hl.1 rfl (lv_room (Nat.le_of_ble_eq_true rfl)) dX11_readsThing_23 (fun H locs hP hS => ?_)
    refine lv_if_eq (tgt := 134) hx hb dX11_readsThing_26 (by decide) (fun c36 => ?_) (fun c36 => ?_)
    · replace h := h_t c36 h
      exact ret_v C hr hlocks hP hS h dX11_readsThing_134
    · replace h := h_f c36 h
      refine lv_bipush (v := 14) hx hb dX11_readsThing_29 (by decide) ?_
      refine lv_iconst (v := 5) hx hb dX11_readsThing_31 (by decide) ?_
      refine lv_aload_n hx hb dX11_readsThing_32 rfl (lv_at hl 0 rfl) ?_
      refine gf_X11_26_26 C hP dX11_readsThing_33 ?_
      refine lv_bipush (v := 13) hx hb dX11_readsThing_36 (by decide) ?_
      refine r_aldc C hP 32 (by decide) rfl (j := 13) (by decide) (vp_in_iff.mpr (by decide)) dX11_readsThing_38 ?_
      refine lv_imul hx hb dX11_readsThing_39 ?_
      refine lv_iadd hx hb dX11_readsThing_40 ?_
      obtain ⟨y37, e38, h⟩ := bnd h
      refine r_nm e38 ?_
      refine lv_istore_n (lv' := [(1, .int y37), (0, .ref (g_ad G 26))]) hx hb dX11_readsThing_41 rfl hl (by decide) rfl (fun ls hl => ?_)
      refine lv_aload_n hx hb dX11_readsThing_42 rfl (lv_at hl 1 rfl) ?_
      refine gf_X11_26_26 C hP dX11_readsThing_43 ?_
      refine lv_iload_n hx hb dX11_readsThing_46 rfl (lv_at hl 0 rfl) ?_
      refine lv_aload_n hx hb dX11_readsThing_47 rfl (lv_at hl 1 rfl) ?_
      refine gf_X11_76_26 C hP dX11_readsThing_48 ?_
      obtain ⟨q39, e40, h⟩ := bnd h
      refine scall_i C hP hS (c_X11_sortOf e40) ms_X11_sortOf mw_1369 ⟨Nat.le_of_ble_eq_true rfl, Nat.le_of_ble_eq_true rfl⟩ (As := [.int (q34.2 26 11)]) rfl hl.1 rfl (lv_room (Nat.le_of_ble_eq_true rfl)) dX11_readsThing_51 (fun H locs hP hS => ?_)
      obtain ⟨g41, h⟩ := h_g h
      refine r_ast C hP hS 32 (by decide) (fun _ => rfl) (vp_in_iff.mpr g41) dX11_readsThing_54 (fun H locs hP hS => ?_)
      obtain ⟨σ42, e43, h⟩ := bnd h
      have hP := hPn e43 hP
      refine lv_aload_n hx hb dX11_readsThing_55 rfl (lv_at hl 1 rfl) ?_
      obtain ⟨q44, e45, h⟩ := bnd h
      refine call_v C hP hS (c_X11_take e45) mi_X11_take mw_1333 26 (by decide) rfl rfl ⟨Nat.le_of_ble_eq_true rfl, Nat.le_of_ble_eq_true rfl⟩ (As := []) rfl hl.1 rfl (lv_room (Nat.le_of_ble_eq_true rfl)) dX11_readsThing_56 (fun H locs hP hS => ?_)
      refine lv_aload_n hx hb dX11_readsThing_59 rfl (lv_at hl 1 rfl) ?_
      refine lv_iload_n hx hb dX11_readsThing_60 rfl (lv_at hl 0 rfl) ?_
      refine lv_iconst (v := 1) hx hb dX11_readsThing_61 (by decide) ?_
      refine lv_iadd hx hb dX11_readsThing_62 ?_
      refine lv_iconst (v := 0) hx hb dX11_readsThing_63 (by decide) ?_
      refine lv_bipush (v := 60) hx hb dX11_readsThing_64 (by decide) ?_
      obtain ⟨q46, e47, h⟩ := bnd h
      refine call_v C hP hS (c_X11_number e47) mi_X11_number mw_1361 26 (by decide) rfl rfl ⟨Nat.le_of_ble_eq_true rfl, Nat.le_of_ble_eq_true rfl⟩ (As := [.int (y37 + 1), .int 0, .int 60]) rfl hl.1 rfl (lv_room (Nat.le_of_ble_eq_true rfl)) dX11_readsThing_66 (fun H locs hP hS => ?_)
      refine lv_aload_n hx hb dX11_readsThing_69 rfl (lv_at hl 1 rfl) ?_
      refine lv_bipush (v := 44) hx hb dX11_readsThing_70 (by decide) ?_
      obtain ⟨q48, e49, h⟩ := bnd h
      refine call_v C hP hS (c_X11_reads e49) mi_X11_reads mw_1349 26 (by decide) rfl rfl ⟨Nat.le_of_ble_eq_true rfl, Nat.le_of_ble_eq_true rfl⟩ (As := [.int 44]) rfl hl.1 rfl (lv_room (Nat.le_of_ble_eq_true rfl)) dX11_readsThing_72 (fun H locs hP hS => ?_)
      refine lv_aload_n hx hb dX11_readsThing_75 rfl (lv_at hl 1 rfl) ?_
      refine lv_iload_n hx hb dX11_readsThing_76 rfl (lv_at hl 0 rfl) ?_
      refine lv_iconst (v := 2) hx hb dX11_readsThing_77 (by decide) ?_
      refine lv_iadd hx hb dX11_readsThing_78 ?_
      refine lv_iconst (v := 0) hx hb dX11_readsThing_79 (by decide) ?_
      refine lv_bipush (v := 60) hx hb dX11_readsThing_80 (by decide) ?_
      obtain ⟨q50, e51, h⟩ := bnd h
      refine call_v C hP hS (c_X11_number e51) mi_X11_number mw_1361 26 (by decide) rfl rfl ⟨Nat.le_of_ble_eq_true rfl, Nat.le_of_ble_eq_true rfl⟩ (As := [.int (y37 + 2), .int 0, .int 60]) rfl hl.1 rfl (lv_room (Nat.le_of_ble_eq_true rfl)) dX11_readsThing_82 (fun H locs hP hS => ?_)
      refine lv_aload_n hx hb dX11_readsThing_85 rfl (lv_at hl 1 rfl) ?_
      refine lv_bipush (v := 44) hx hb dX11_readsThing_86 (by decide) ?_
      obtain ⟨q52, e53, h⟩ := bnd h
      refine call_v C hP hS (c_X11_reads e53) mi_X11_reads mw_1349 26 (by decide) rfl rfl ⟨Nat.le_of_ble_eq_true rfl, Nat.le_of_ble_eq_true rfl⟩ (As := [.int 44]) rfl hl.1 rfl (lv_room (Nat.le_of_ble_eq_true rfl)) dX11_readsThing_88 (fun H locs hP hS => ?_)
      refine lv_aload_n hx hb dX11_readsThing_91 rfl (lv_at hl 1 rfl) ?_
      refine lv_iload_n hx hb dX11_readsThing_92 rfl (lv_at hl 0 rfl) ?_
      refine lv_iconst (v := 3) hx hb dX11_readsThing_93 (by decide) ?_
      refine lv_iadd hx hb dX11_readsThing_94 ?_
      refine lv_iconst (v := 0) hx hb dX11_readsThing_95 (by decide) ?_
      refine lv_bipush (v := 15) hx hb dX11_readsThing_96 (by decide) ?_
      obtain ⟨q54, e55, h⟩ := bnd h
      refine call_v C hP hS (c_X11_number e55) mi_X11_number mw_1361 26 (by decide) rfl rfl ⟨Nat.le_of_ble_eq_true rfl, Nat.le_of_ble_eq_true rfl⟩ (As := [.int (y37 + 3), .int 0, .int 15]) rfl hl.1 rfl (lv_room (Nat.le_of_ble_eq_true rfl)) dX11_readsThing_98 (fun H locs hP hS => ?_)
      refine lv_aload_n hx hb dX11_readsThing_101 rfl (lv_at hl 1 rfl) ?_
      refine lv_bipush (v := 44) hx hb dX11_readsThing_102 (by decide) ?_
      obtain ⟨q56, e57, h⟩ := bnd h
      refine call_v C hP hS (c_X11_reads e57) mi_X11_reads mw_1349 26 (by decide) rfl rfl ⟨Nat.le_of_ble_eq_true rfl, Nat.le_of_ble_eq_true rfl⟩ (As := [.int 44]) rfl hl.1 rfl (lv_room (Nat.le_of_ble_eq_true rfl)) dX11_readsThing_104 (fun H locs hP hS => ?_)
      refine lv_aload_n hx hb dX11_readsThing_107 rfl (lv_at hl 1 rfl) ?_
      refine lv_iload_n hx hb dX11_readsThing_108 rfl (lv_at hl 0 rfl) ?_
      refine lv_iconst (v := 4) hx hb dX11_readsThing_109 (by decide) ?_
      refine lv_iadd hx hb dX11_readsThing_110 ?_
      refine lv_iconst (v := 0) hx hb dX11_readsThing_111 (by decide) ?_
      refine lv_bipush (v := 20) hx hb dX11_readsThing_112 (by decide) ?_
      obtain ⟨q58, e59, h⟩ := bnd h
      refine call_v C hP hS (c_X11_number e59) mi_X11_number mw_1361 26 (by decide) rfl rfl ⟨Nat.le_of_ble_eq_true rfl, Nat.le_of_ble_eq_true rfl⟩ (As := [.int (y37 + 4), .int 0, .int 20]) rfl hl.1 rfl (lv_room (Nat.le_of_ble_eq_true rfl)) dX11_readsThing_114 (fun H locs hP hS => ?_)
      refine lv_aload_n hx hb dX11_readsThing_117 rfl (lv_at hl 1 rfl) ?_
      refine lv_bipush (v := 59) hx hb dX11_readsThing_118 (by decide) ?_
      obtain ⟨q60, e61, h⟩ := bnd h
      refine call_v C hP hS (c_X11_reads e61) mi_X11_reads mw_1349 26 (by decide) rfl rfl ⟨Nat.le_of_ble_eq_true rfl, Nat.le_of_ble_eq_true rfl⟩ (As := [.int 59]) rfl hl.1 rfl (lv_room (Nat.le_of_ble_eq_true rfl)) dX11_readsThing_120 (fun H locs hP hS => ?_)
      refine lv_aload_n hx hb dX11_readsThing_123 rfl (lv_at hl 1 rfl) ?_
      refine gf_X11_26_26 C hP dX11_readsThing_124 ?_
      refine lv_bipush (v := 13) hx hb dX11_readsThing_127 (by decide) ?_
      refine lv_dup2_11 hx hb dX11_readsThing_129 rfl rfl ?_
      refine r_aldc C hP 32 (by decide) rfl (j := 13) (by decide) (vp_in_iff.mpr (by decide)) dX11_readsThing_130 ?_
      refine lv_iconst (v := 1) hx hb dX11_readsThing_131 (by decide) ?_
      refine lv_iadd hx hb dX11_readsThing_132 ?_
      refine r_astc C hP hS 32 (by decide) (fun _ => rfl) (j := 13) (by decide) (vp_in_iff.mpr (by decide)) dX11_readsThing_133 (fun H locs hP hS => ?_)
      obtain ⟨σ62, e63, h⟩ := bnd h
      have hP := hPn e63 hP
      exact ret_v C hr hlocks hP hS h dX11_readsThing_134
  have hS : va_S (g_A G) s.heap s.heap [] := va_S.rf
  unfold f_X11_readsThing at h
  obtain ⟨H, hH⟩ : ∃ H, H = s.heap := ⟨_, rfl⟩
  obtain ⟨locs, hlo⟩ : ∃ k : List Loc, k = [] := ⟨_, rfl⟩
  rw [← hH, ← hlo]
  rw [← hH] at hP
  replace hS : va_S (g_A G) s.heap H locs := by rw [hH, hlo]; exact hS
  refine lv_aload_n hx hb dX11_readsThing_0 rfl (lv_at hl 0 rfl) ?_
  refine lv_aload_n hx hb dX11_readsThing_1 rfl (lv_at hl 0 rfl) ?_
  refine gf_X11_26_26 C hP dX11_readsThing_2 ?_
  refine lv_bipush (v := 13) hx hb dX11_readsThing_5 (by decide) ?_
  refine r_aldc C hP 32 (by decide) rfl (j := 13) (by decide) (vp_in_iff.mpr (by decide)) dX11_readsThing_7 ?_
  refine lv_bipush (v := 8) hx hb dX11_readsThing_8 (by decide) ?_
  refine lv_icmp_ge (tgt := 17) hx hb dX11_readsThing_10 (by decide) (fun c64 => ?_) (fun c64 => ?_)
  · replace h := h_t c64 h
    refine lv_iconst (v := 0) hx hb dX11_readsThing_17 (by decide) ?_
    exact J18 _ _ H locs ls h hP hS (lv_sub hl [0] rfl)
  · replace h := h_f c64 h
    refine lv_iconst (v := 1) hx hb dX11_readsThing_13 (by decide) ?_
    refine lv_goto (tgt := 18) hx hb dX11_readsThing_14 (by decide) ?_
    exact J18 _ _ H locs ls h hP hS (lv_sub hl [0] rfl)
set_option maxHeartbeats 4000000 in
set_option maxRecDepth 100000 in
theorem c_X11_untilOf {l : Launch} {G : GT} {lam : Lm} {σ : St} {a1 : Int32} {q : Int32 × St} (h : f_X11_untilOf σ a1 = some q) : Met l yX11_untilOf (Cond.code yX11_untilOf cX11_untilOf 1 ((some .int)) :: TB) ({ frames := 0, cells := 0, slots := 0, locals := 0 } : Room) (va_Pc [.int a1] (GW G lam σ)) (Ri q G lam) 0 0 (g_A G) := by
  refine mk_Qi (own := RX11) (by decide) (Nat.le_of_ble_eq_true rfl) rfl (fun p e s m args below meth c C hr hlocks hP ls hl => ?_)
  have hx := C.1
  have hb := C.2.1
  have hl : lv_has ls 1 [(0, .int a1)] := hl
  have hS : va_S (g_A G) s.heap s.heap [] := va_S.rf
  unfold f_X11_untilOf at h
  refine lv_iload_n hx hb dX11_untilOf_0 rfl (lv_at hl 0 rfl) ?_
  by_cases c14 : a1 = 97
  · replace h := h_t c14 h
    refine r_eq c14 ?_
    refine lv_tableIn (off := 69) (tgt := 70) hx hb dX11_untilOf_1 (by decide) (by decide) (by decide) (by decide) ?_
    refine lv_iconst (v := 1) hx hb dX11_untilOf_70 (by decide) ?_
    exact ret_i C hr hlocks hP hS h dX11_untilOf_71
  replace h := h_f c14 h
  by_cases c15 : a1 = 98
  · replace h := h_t c15 h
    refine r_eq c15 ?_
    refine lv_tableIn (off := 77) (tgt := 78) hx hb dX11_untilOf_1 (by decide) (by decide) (by decide) (by decide) ?_
    refine lv_ldc hx hb C.2.2.2.1 (C.2.2.2.2.1 _ mw_1337) dX11_untilOf_78 ?_
    exact ret_i C hr hlocks hP hS h dX11_untilOf_80
  replace h := h_f c15 h
  by_cases c16 : a1 = 99
  · replace h := h_t c16 h
    refine r_eq c16 ?_
    refine lv_tableIn (off := 77) (tgt := 78) hx hb dX11_untilOf_1 (by decide) (by decide) (by decide) (by decide) ?_
    refine lv_ldc hx hb C.2.2.2.1 (C.2.2.2.2.1 _ mw_1337) dX11_untilOf_78 ?_
    exact ret_i C hr hlocks hP hS h dX11_untilOf_80
  replace h := h_f c16 h
  by_cases c17 : a1 = 100
  · replace h := h_t c17 h
    refine r_eq c17 ?_
    refine lv_tableIn (off := 75) (tgt := 76) hx hb dX11_untilOf_1 (by decide) (by decide) (by decide) (by decide) ?_
    refine lv_iconst (v := 4) hx hb dX11_untilOf_76 (by decide) ?_
    exact ret_i C hr hlocks hP hS h dX11_untilOf_77
  replace h := h_f c17 h
  by_cases c18 : a1 = 101
  · replace h := h_t c18 h
    refine r_eq c18 ?_
    refine lv_tableIn (off := 73) (tgt := 74) hx hb dX11_untilOf_1 (by decide) (by decide) (by decide) (by decide) ?_
    refine lv_iconst (v := 3) hx hb dX11_untilOf_74 (by decide) ?_
    exact ret_i C hr hlocks hP hS h dX11_untilOf_75
  replace h := h_f c18 h
  by_cases c19 : a1 = 102
  · replace h := h_t c19 h
    refine r_eq c19 ?_
    refine lv_tableIn (off := 77) (tgt := 78) hx hb dX11_untilOf_1 (by decide) (by decide) (by decide) (by decide) ?_
    refine lv_ldc hx hb C.2.2.2.1 (C.2.2.2.2.1 _ mw_1337) dX11_untilOf_78 ?_
    exact ret_i C hr hlocks hP hS h dX11_untilOf_80
  replace h := h_f c19 h
  by_cases c20 : a1 = 103
  · replace h := h_t c20 h
    refine r_eq c20 ?_
    refine lv_tableIn (off := 77) (tgt := 78) hx hb dX11_untilOf_1 (by decide) (by decide) (by decide) (by decide) ?_
    refine lv_ldc hx hb C.2.2.2.1 (C.2.2.2.2.1 _ mw_1337) dX11_untilOf_78 ?_
    exact ret_i C hr hlocks hP hS h dX11_untilOf_80
  replace h := h_f c20 h
  by_cases c21 : a1 = 104
  · replace h := h_t c21 h
    refine r_eq c21 ?_
    refine lv_tableIn (off := 77) (tgt := 78) hx hb dX11_untilOf_1 (by decide) (by decide) (by decide) (by decide) ?_
    refine lv_ldc hx hb C.2.2.2.1 (C.2.2.2.2.1 _ mw_1337) dX11_untilOf_78 ?_
    exact ret_i C hr hlocks hP hS h dX11_untilOf_80
  replace h := h_f c21 h
  by_cases c22 : a1 = 105
  · replace h := h_t c22 h
    refine r_eq c22 ?_
    refine lv_tableIn (off := 71) (tgt := 72) hx hb dX11_untilOf_1 (by decide) (by decide) (by decide) (by decide) ?_
    refine lv_iconst (v := 2) hx hb dX11_untilOf_72 (by decide) ?_
    exact ret_i C hr hlocks hP hS h dX11_untilOf_73
  replace h := h_f c22 h
  by_cases c23 : a1 = 106
  · replace h := h_t c23 h
    refine r_eq c23 ?_
    refine lv_tableIn (off := 77) (tgt := 78) hx hb dX11_untilOf_1 (by decide) (by decide) (by decide) (by decide) ?_
    refine lv_ldc hx hb C.2.2.2.1 (C.2.2.2.2.1 _ mw_1337) dX11_untilOf_78 ?_
    exact ret_i C hr hlocks hP hS h dX11_untilOf_80
  replace h := h_f c23 h
  by_cases c24 : a1 = 107
  · replace h := h_t c24 h
    refine r_eq c24 ?_
    refine lv_tableIn (off := 77) (tgt := 78) hx hb dX11_untilOf_1 (by decide) (by decide) (by decide) (by decide) ?_
    refine lv_ldc hx hb C.2.2.2.1 (C.2.2.2.2.1 _ mw_1337) dX11_untilOf_78 ?_
    exact ret_i C hr hlocks hP hS h dX11_untilOf_80
  replace h := h_f c24 h
  by_cases c25 : a1 = 108
  · replace h := h_t c25 h
    refine r_eq c25 ?_
    refine lv_tableIn (off := 77) (tgt := 78) hx hb dX11_untilOf_1 (by decide) (by decide) (by decide) (by decide) ?_
    refine lv_ldc hx hb C.2.2.2.1 (C.2.2.2.2.1 _ mw_1337) dX11_untilOf_78 ?_
    exact ret_i C hr hlocks hP hS h dX11_untilOf_80
  replace h := h_f c25 h
  by_cases c26 : a1 = 109
  · replace h := h_t c26 h
    refine r_eq c26 ?_
    refine lv_tableIn (off := 67) (tgt := 68) hx hb dX11_untilOf_1 (by decide) (by decide) (by decide) (by decide) ?_
    refine lv_iconst (v := 0) hx hb dX11_untilOf_68 (by decide) ?_
    exact ret_i C hr hlocks hP hS h dX11_untilOf_69
  replace h := h_f c26 h
  refine lv_tableOut (tgt := 78) hx hb dX11_untilOf_1 (by have hz := And.intro (ne_i (z := 97) (by decide) c14) (And.intro (ne_i (z := 98) (by decide) c15) (And.intro (ne_i (z := 99) (by decide) c16) (And.intro (ne_i (z := 100) (by decide) c17) (And.intro (ne_i (z := 101) (by decide) c18) (And.intro (ne_i (z := 102) (by decide) c19) (And.intro (ne_i (z := 103) (by decide) c20) (And.intro (ne_i (z := 104) (by decide) c21) (And.intro (ne_i (z := 105) (by decide) c22) (And.intro (ne_i (z := 106) (by decide) c23) (And.intro (ne_i (z := 107) (by decide) c24) (And.intro (ne_i (z := 108) (by decide) c25) (ne_i (z := 109) (by decide) c26)))))))))))); omega) (by decide) ?_
  refine lv_ldc hx hb C.2.2.2.1 (C.2.2.2.2.1 _ mw_1337) dX11_untilOf_78 ?_
  exact ret_i C hr hlocks hP hS h dX11_untilOf_80
