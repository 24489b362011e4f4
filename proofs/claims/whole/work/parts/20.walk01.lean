set_option maxHeartbeats 4000000 in
set_option maxRecDepth 100000 in
theorem c_X10_isWithin {l : Launch} {G : GT} {lam : Lm} {σ : St} {a1 : Int32} {a2 : Int32} {a3 : Int32} {q : Int32 × St} (h : f_X10_isWithin σ a1 a2 a3 = some q) : Met l yX10_isWithin (Cond.code yX10_isWithin cX10_isWithin 3 ((some .boolean)) :: TB) ({ frames := 0, cells := 0, slots := 0, locals := 0 } : Room) (va_Pc [.int a1, .int a2, .int a3] (GW G lam σ)) (Ri q G lam) 0 0 (g_A G) := by
  refine mk_Qi (own := RX10) (by decide) (Nat.le_of_ble_eq_true rfl) rfl (fun p e s m args below meth c C hr hlocks hP ls hl => ?_)
  have hx := C.1
  have hb := C.2.1
  have hl : lv_has ls 3 [(0, .int a1), (1, .int a2), (2, .int a3)] := hl
  have hS : va_S (g_A G) s.heap s.heap [] := va_S.rf
  unfold f_X10_isWithin at h
  refine lv_iload_n hx hb dX10_isWithin_0 rfl (lv_at hl 0 rfl) ?_
  refine lv_iload_n hx hb dX10_isWithin_1 rfl (lv_at hl 1 rfl) ?_
  refine lv_icmp_lt (tgt := 14) hx hb dX10_isWithin_2 (by decide) (fun c3 => ?_) (fun c3 => ?_)
  · replace h := h_t c3 h
    refine lv_iconst (v := 0) hx hb dX10_isWithin_14 (by decide) ?_
    exact ret_z C hr hlocks hP hS h (Or.inl rfl) dX10_isWithin_15
  · replace h := h_f c3 h
    refine lv_iload_n hx hb dX10_isWithin_5 rfl (lv_at hl 0 rfl) ?_
    refine lv_iload_n hx hb dX10_isWithin_6 rfl (lv_at hl 2 rfl) ?_
    refine lv_icmp_gt (tgt := 14) hx hb dX10_isWithin_7 (by decide) (fun c4 => ?_) (fun c4 => ?_)
    · replace h := h_t c4 h
      refine lv_iconst (v := 0) hx hb dX10_isWithin_14 (by decide) ?_
      exact ret_z C hr hlocks hP hS h (Or.inl rfl) dX10_isWithin_15
    · replace h := h_f c4 h
      refine lv_iconst (v := 1) hx hb dX10_isWithin_10 (by decide) ?_
      refine lv_goto (tgt := 15) hx hb dX10_isWithin_11 (by decide) ?_
      exact ret_z C hr hlocks hP hS h (Or.inr rfl) dX10_isWithin_15
set_option maxHeartbeats 4000000 in
set_option maxRecDepth 100000 in
theorem c_X7_isFull {l : Launch} {G : GT} {lam : Lm} {σ : St} {q : Int32 × St} (h : f_X7_isFull σ = some q) : Met l yX7_isFull (Cond.code yX7_isFull cX7_isFull 1 ((some .boolean)) :: TB) ({ frames := 0, cells := 0, slots := 0, locals := 0 } : Room) (va_Pc [.ref (g_ad G 1)] (GW G lam σ)) (Ri q G lam) 0 0 (g_A G) := by
  refine mk_Qi (own := RX7) (by decide) (Nat.le_of_ble_eq_true rfl) rfl (fun p e s m args below meth c C hr hlocks hP ls hl => ?_)
  have hx := C.1
  have hb := C.2.1
  have hl : lv_has ls 1 [(0, .ref (g_ad G 1))] := hl
  have hS : va_S (g_A G) s.heap s.heap [] := va_S.rf
  unfold f_X7_isFull at h
  refine lv_aload_n hx hb dX7_isFull_0 rfl (lv_at hl 0 rfl) ?_
  refine gf_X7_13_1 C hP dX7_isFull_1 ?_
  refine lv_sipush (v := 160) hx hb dX7_isFull_4 (by decide) ?_
  refine lv_icmp_lt (tgt := 14) hx hb dX7_isFull_7 (by decide) (fun c2 => ?_) (fun c2 => ?_)
  · replace h := h_t c2 h
    refine lv_iconst (v := 0) hx hb dX7_isFull_14 (by decide) ?_
    exact ret_z C hr hlocks hP hS h (Or.inl rfl) dX7_isFull_15
  · replace h := h_f c2 h
    refine lv_iconst (v := 1) hx hb dX7_isFull_10 (by decide) ?_
    refine lv_goto (tgt := 15) hx hb dX7_isFull_11 (by decide) ?_
    exact ret_z C hr hlocks hP hS h (Or.inr rfl) dX7_isFull_15
set_option maxHeartbeats 4000000 in
set_option maxRecDepth 100000 in
theorem c_X7_append {l : Launch} {G : GT} {lam : Lm} {σ : St} {a1 : Int32} {q : Int32 × St} (h : f_X7_append σ a1 = some q) : Met l yX7_append (Cond.code yX7_append cX7_append 2 ((some .int)) :: TB) ({ frames := 0, cells := 0, slots := 0, locals := 0 } : Room) (va_Pc [.ref (g_ad G 1), .int a1] (GW G lam σ)) (Ri q G lam) 0 0 (g_A G) := by
  refine mk_Qi (own := RX7) (by decide) (Nat.le_of_ble_eq_true rfl) rfl (fun p e s m args below meth c C hr hlocks hP ls hl => ?_)
  have hx := C.1
  have hb := C.2.1
  have hl : lv_has ls 2 [(0, .ref (g_ad G 1)), (1, .int a1)] := hl
  have J30 : ∀ (σ : St) (H : Heap) (locs : List Loc) (ls : Array Slot), f_X7_append_p30 σ = some q → va_P (g_D G) vwCl (allW G lam σ) H → va_S (g_A G) s.heap H locs → lv_has ls 2 [(0, .ref (g_ad G 1))] → W p l e ({ frames := 0, cells := 0, slots := 0, locals := 0 } : Room) s m args below meth c H locs 0 0 (Qi q below args s G lam) (F0 m 30 ls []) := by
    intro σ H locs ls h hP hS hl
    unfold f_X7_append_p30 at h
    refine lv_aload_n hx hb dX7_append_30 rfl (lv_at hl 0 rfl) ?_
    refine gf_X7_13_1 C hP dX7_append_31 ?_
    exact ret_i C hr hlocks hP hS h dX7_append_34
  have hS : va_S (g_A G) s.heap s.heap [] := va_S.rf
  unfold f_X7_append at h
  obtain ⟨H, hH⟩ : ∃ H, H = s.heap := ⟨_, rfl⟩
  obtain ⟨locs, hlo⟩ : ∃ k : List Loc, k = [] := ⟨_, rfl⟩
  rw [← hH, ← hlo]
  rw [← hH] at hP
  replace hS : va_S (g_A G) s.heap H locs := by rw [hH, hlo]; exact hS
  refine lv_aload_n hx hb dX7_append_0 rfl (lv_at hl 0 rfl) ?_
  refine gf_X7_13_1 C hP dX7_append_1 ?_
  refine lv_sipush (v := 160) hx hb dX7_append_4 (by decide) ?_
  refine lv_icmp_ge (tgt := 30) hx hb dX7_append_7 (by decide) (fun c7 => ?_) (fun c7 => ?_)
  · replace h := h_t c7 h
    exact J30 _ H locs ls h hP hS (lv_sub hl [0] rfl)
  · replace h := h_f c7 h
    refine lv_aload_n hx hb dX7_append_10 rfl (lv_at hl 0 rfl) ?_
    refine gf_X7_9_1 C hP dX7_append_11 ?_
    refine lv_aload_n hx hb dX7_append_14 rfl (lv_at hl 0 rfl) ?_
    refine gf_X7_13_1 C hP dX7_append_15 ?_
    refine lv_iload_n hx hb dX7_append_18 rfl (lv_at hl 1 rfl) ?_
    obtain ⟨g8, h⟩ := h_g h
    refine r_ast C hP hS 13 (by decide) (fun _ => rfl) (vp_in_iff.mpr g8) dX7_append_19 (fun H locs hP hS => ?_)
    obtain ⟨σ9, e10, h⟩ := bnd h
    have hP := hPn e10 hP
    refine lv_aload_n hx hb dX7_append_20 rfl (lv_at hl 0 rfl) ?_
    refine lv_dup hx hb dX7_append_21 rfl ?_
    refine gf_X7_13_1 C hP dX7_append_22 ?_
    refine lv_iconst (v := 1) hx hb dX7_append_25 (by decide) ?_
    refine lv_iadd hx hb dX7_append_26 ?_
    refine pf_X7_13_1 C hP hS dX7_append_27 (fun H locs hP hS => ?_)
    obtain ⟨σ11, e12, h⟩ := bnd h
    have hP := hPn e12 hP
    exact J30 _ H locs ls h hP hS (lv_sub hl [0] rfl)
set_option maxHeartbeats 4000000 in
set_option maxRecDepth 100000 in
theorem c_X10_feed {l : Launch} {G : GT} {lam : Lm} {σ : St} {a1 : Int32} {q : Int32 × St} (h : f_X10_feed σ a1 = some q) : Met l yX10_feed (Cond.code yX10_feed cX10_feed 2 ((some .int)) :: TB) ({ frames := 1, cells := 0, slots := 0, locals := 22 } : Room) (va_Pc [.ref (g_ad G 0), .int a1] (GW G lam σ)) (Ri q G lam) 0 0 (g_A G) := by
  refine mk_Qi (own := RX10) (by decide) (Nat.le_of_ble_eq_true rfl) rfl (fun p e s m args below meth c C hr hlocks hP ls hl => ?_)
  have hx := C.1
  have hb := C.2.1
  have hl : lv_has ls 2 [(0, .ref (g_ad G 0)), (1, .int a1)] := hl
  have hS : va_S (g_A G) s.heap s.heap [] := va_S.rf
  unfold f_X10_feed at h
  refine lv_iload_n hx hb dX10_feed_0 rfl (lv_at hl 1 rfl) ?_
  refine lv_iconst (v := 0) hx hb dX10_feed_1 (by decide) ?_
  refine lv_sipush (v := 255) hx hb dX10_feed_2 (by decide) ?_
  obtain ⟨q9, e10, h⟩ := bnd h
  refine scall_i C hP hS (c_X10_isWithin e10) ms_X10_isWithin mw_408 ⟨Nat.le_of_ble_eq_true rfl, Nat.le_of_ble_eq_true rfl⟩ (As := [.int a1, .int 0, .int 255]) rfl hl.1 rfl (lv_room (Nat.le_of_ble_eq_true rfl)) dX10_feed_5 (fun H locs hP hS => ?_)
  refine lv_if_ne (tgt := 14) hx hb dX10_feed_8 (by decide) (fun c11 => ?_) (fun c11 => ?_)
  · replace h := h_f c11 h
    refine lv_aload_n hx hb dX10_feed_14 rfl (lv_at hl 0 rfl) ?_
    refine gf_X10_10_0 C hP dX10_feed_15 ?_
    obtain ⟨q12, e13, h⟩ := bnd h
    refine call_i C hP hS (c_X7_isFull e13) mi_X7_isFull mw_412 1 (by decide) rfl rfl ⟨Nat.le_of_ble_eq_true rfl, Nat.le_of_ble_eq_true rfl⟩ (As := []) rfl hl.1 rfl (lv_room (Nat.le_of_ble_eq_true rfl)) dX10_feed_18 (fun H locs hP hS => ?_)
    refine lv_if_eq (tgt := 27) hx hb dX10_feed_21 (by decide) (fun c14 => ?_) (fun c14 => ?_)
    · replace h := h_t c14 h
      refine lv_aload_n hx hb dX10_feed_27 rfl (lv_at hl 0 rfl) ?_
      refine gf_X10_10_0 C hP dX10_feed_28 ?_
      refine lv_iload_n hx hb dX10_feed_31 rfl (lv_at hl 1 rfl) ?_
      obtain ⟨q15, e16, h⟩ := bnd h
      refine call_i C hP hS (c_X7_append e16) mi_X7_append mw_417 1 (by decide) rfl rfl ⟨Nat.le_of_ble_eq_true rfl, Nat.le_of_ble_eq_true rfl⟩ (As := [.int a1]) rfl hl.1 rfl (lv_room (Nat.le_of_ble_eq_true rfl)) dX10_feed_32 (fun H locs hP hS => ?_)
      exact ret_i C hr hlocks hP hS h dX10_feed_35
    · replace h := h_f c14 h
      refine lv_ldc hx hb C.2.2.2.1 (C.2.2.2.2.1 _ mw_416) dX10_feed_24 ?_
      exact ret_i C hr hlocks hP hS h dX10_feed_26
  · replace h := h_t c11 h
    refine lv_ldc hx hb C.2.2.2.1 (C.2.2.2.2.1 _ mw_411) dX10_feed_11 ?_
    exact ret_i C hr hlocks hP hS h dX10_feed_13
set_option maxHeartbeats 4000000 in
set_option maxRecDepth 100000 in
theorem c_X6_countHeights_11 {l : Launch} {G : GT} {lam : Lm} {σ : St} {a1 : Int32} {q : St} (h : f_X6_countHeights 17 σ a1 = some q) : Met l yX6_countHeights (Cond.code yX6_countHeights cX6_countHeights 2 none :: TB) ({ frames := 1, cells := 0, slots := 0, locals := 16 } : Room) (va_Pc [.ref (g_ad G 11), .int a1] (GW G lam σ)) (Rv q G lam) 0 0 (g_A G) := by
  refine mk_Qv (own := RX6) (by decide) (Nat.le_of_ble_eq_true rfl) rfl (fun p e s m args below meth c C hr hlocks hP ls hl => ?_)
  have hx := C.1
  have hb := C.2.1
  have hl : lv_has ls 2 [(0, .ref (g_ad G 11)), (1, .int a1)] := hl
  have hS : va_S (g_A G) s.heap s.heap [] := va_S.rf
  unfold f_X6_countHeights at h
  refine lv_aload_n hx hb dX6_countHeights_0 rfl (lv_at hl 0 rfl) ?_
  refine gf_X6_11_11 C hP dX6_countHeights_1 ?_
  refine lv_bipush (v := 75) hx hb dX6_countHeights_4 (by decide) ?_
  refine lv_iconst (v := 0) hx hb dX6_countHeights_6 (by decide) ?_
  refine lv_iload_n hx hb dX6_countHeights_7 rfl (lv_at hl 1 rfl) ?_
  refine lv_bipush (v := 6) hx hb dX6_countHeights_8 (by decide) ?_
  refine va_mmin hx hb (by rw [C.2.2.1]; exact hl.1.symm) C.2.2.2.1 (C.2.2.2.2.1 _ mw_433) (C.2.2.2.2.1 _ mw_434) (C.2.2.2.2.1 _ mw_95) (C.2.2.2.2.1 _ mw_435) (Nat.le_of_ble_eq_true rfl) (Nat.le_of_ble_eq_true rfl) (Nat.zero_le _) (Nat.zero_le _) dX6_countHeights_10 ?_
  refine va_mmax hx hb (by rw [C.2.2.1]; exact hl.1.symm) C.2.2.2.1 (C.2.2.2.2.1 _ mw_436) (C.2.2.2.2.1 _ mw_437) (C.2.2.2.2.1 _ mw_95) (C.2.2.2.2.1 _ mw_438) (Nat.le_of_ble_eq_true rfl) (Nat.le_of_ble_eq_true rfl) (Nat.zero_le _) (Nat.zero_le _) dX6_countHeights_13 ?_
  refine r_astc C hP hS 17 (by decide) (fun _ => rfl) (j := 75) (by decide) (vp_in_iff.mpr (by decide)) dX6_countHeights_16 (fun H locs hP hS => ?_)
  obtain ⟨σ3, e4, h⟩ := bnd h
  have hP := hPn e4 hP
  exact ret_v C hr hlocks hP hS h dX6_countHeights_17
set_option maxHeartbeats 4000000 in
set_option maxRecDepth 100000 in
theorem c_X6_countThings_11 {l : Launch} {G : GT} {lam : Lm} {σ : St} {a1 : Int32} {q : St} (h : f_X6_countThings 17 σ a1 = some q) : Met l yX6_countThings (Cond.code yX6_countThings cX6_countThings 2 none :: TB) ({ frames := 1, cells := 0, slots := 0, locals := 16 } : Room) (va_Pc [.ref (g_ad G 11), .int a1] (GW G lam σ)) (Rv q G lam) 0 0 (g_A G) := by
  refine mk_Qv (own := RX6) (by decide) (Nat.le_of_ble_eq_true rfl) rfl (fun p e s m args below meth c C hr hlocks hP ls hl => ?_)
  have hx := C.1
  have hb := C.2.1
  have hl : lv_has ls 2 [(0, .ref (g_ad G 11)), (1, .int a1)] := hl
  have hS : va_S (g_A G) s.heap s.heap [] := va_S.rf
  unfold f_X6_countThings at h
  refine lv_aload_n hx hb dX6_countThings_0 rfl (lv_at hl 0 rfl) ?_
  refine gf_X6_11_11 C hP dX6_countThings_1 ?_
  refine lv_bipush (v := 76) hx hb dX6_countThings_4 (by decide) ?_
  refine lv_iconst (v := 0) hx hb dX6_countThings_6 (by decide) ?_
  refine lv_iload_n hx hb dX6_countThings_7 rfl (lv_at hl 1 rfl) ?_
  refine lv_bipush (v := 8) hx hb dX6_countThings_8 (by decide) ?_
  refine va_mmin hx hb (by rw [C.2.2.1]; exact hl.1.symm) C.2.2.2.1 (C.2.2.2.2.1 _ mw_433) (C.2.2.2.2.1 _ mw_434) (C.2.2.2.2.1 _ mw_95) (C.2.2.2.2.1 _ mw_435) (Nat.le_of_ble_eq_true rfl) (Nat.le_of_ble_eq_true rfl) (Nat.zero_le _) (Nat.zero_le _) dX6_countThings_10 ?_
  refine va_mmax hx hb (by rw [C.2.2.1]; exact hl.1.symm) C.2.2.2.1 (C.2.2.2.2.1 _ mw_436) (C.2.2.2.2.1 _ mw_437) (C.2.2.2.2.1 _ mw_95) (C.2.2.2.2.1 _ mw_438) (Nat.le_of_ble_eq_true rfl) (Nat.le_of_ble_eq_true rfl) (Nat.zero_le _) (Nat.zero_le _) dX6_countThings_13 ?_
  refine r_astc C hP hS 17 (by decide) (fun _ => rfl) (j := 76) (by decide) (vp_in_iff.mpr (by decide)) dX6_countThings_16 (fun H locs hP hS => ?_)
  obtain ⟨σ3, e4, h⟩ := bnd h
  have hP := hPn e4 hP
  exact ret_v C hr hlocks hP hS h dX6_countThings_17
set_option maxHeartbeats 4000000 in
set_option maxRecDepth 100000 in
theorem c_X6_countLegs_11 {l : Launch} {G : GT} {lam : Lm} {σ : St} {a1 : Int32} {q : St} (h : f_X6_countLegs 17 σ a1 = some q) : Met l yX6_countLegs (Cond.code yX6_countLegs cX6_countLegs 2 none :: TB) ({ frames := 1, cells := 0, slots := 0, locals := 16 } : Room) (va_Pc [.ref (g_ad G 11), .int a1] (GW G lam σ)) (Rv q G lam) 0 0 (g_A G) := by
  refine mk_Qv (own := RX6) (by decide) (Nat.le_of_ble_eq_true rfl) rfl (fun p e s m args below meth c C hr hlocks hP ls hl => ?_)
  have hx := C.1
  have hb := C.2.1
  have hl : lv_has ls 2 [(0, .ref (g_ad G 11)), (1, .int a1)] := hl
  have hS : va_S (g_A G) s.heap s.heap [] := va_S.rf
  unfold f_X6_countLegs at h
  refine lv_aload_n hx hb dX6_countLegs_0 rfl (lv_at hl 0 rfl) ?_
  refine gf_X6_11_11 C hP dX6_countLegs_1 ?_
  refine lv_bipush (v := 77) hx hb dX6_countLegs_4 (by decide) ?_
  refine lv_iconst (v := 0) hx hb dX6_countLegs_6 (by decide) ?_
  refine lv_iload_n hx hb dX6_countLegs_7 rfl (lv_at hl 1 rfl) ?_
  refine lv_bipush (v := 6) hx hb dX6_countLegs_8 (by decide) ?_
  refine va_mmin hx hb (by rw [C.2.2.1]; exact hl.1.symm) C.2.2.2.1 (C.2.2.2.2.1 _ mw_433) (C.2.2.2.2.1 _ mw_434) (C.2.2.2.2.1 _ mw_95) (C.2.2.2.2.1 _ mw_435) (Nat.le_of_ble_eq_true rfl) (Nat.le_of_ble_eq_true rfl) (Nat.zero_le _) (Nat.zero_le _) dX6_countLegs_10 ?_
  refine va_mmax hx hb (by rw [C.2.2.1]; exact hl.1.symm) C.2.2.2.1 (C.2.2.2.2.1 _ mw_436) (C.2.2.2.2.1 _ mw_437) (C.2.2.2.2.1 _ mw_95) (C.2.2.2.2.1 _ mw_438) (Nat.le_of_ble_eq_true rfl) (Nat.le_of_ble_eq_true rfl) (Nat.zero_le _) (Nat.zero_le _) dX6_countLegs_13 ?_
  refine r_astc C hP hS 17 (by decide) (fun _ => rfl) (j := 77) (by decide) (vp_in_iff.mpr (by decide)) dX6_countLegs_16 (fun H locs hP hS => ?_)
  obtain ⟨σ3, e4, h⟩ := bnd h
  have hP := hPn e4 hP
  exact ret_v C hr hlocks hP hS h dX6_countLegs_17
set_option maxHeartbeats 4000000 in
set_option maxRecDepth 100000 in
theorem c_X7_byteAt {l : Launch} {G : GT} {lam : Lm} {σ : St} {a1 : Int32} {q : Int32 × St} (h : f_X7_byteAt σ a1 = some q) : Met l yX7_byteAt (Cond.code yX7_byteAt cX7_byteAt 2 ((some .int)) :: TB) ({ frames := 0, cells := 0, slots := 0, locals := 0 } : Room) (va_Pc [.ref (g_ad G 1), .int a1] (GW G lam σ)) (Ri q G lam) 0 0 (g_A G) := by
  refine mk_Qi (own := RX7) (by decide) (Nat.le_of_ble_eq_true rfl) rfl (fun p e s m args below meth c C hr hlocks hP ls hl => ?_)
  have hx := C.1
  have hb := C.2.1
  have hl : lv_has ls 2 [(0, .ref (g_ad G 1)), (1, .int a1)] := hl
  have hS : va_S (g_A G) s.heap s.heap [] := va_S.rf
  unfold f_X7_byteAt at h
  refine lv_iload_n hx hb dX7_byteAt_0 rfl (lv_at hl 1 rfl) ?_
  refine lv_if_lt (tgt := 28) hx hb dX7_byteAt_1 (by decide) (fun c5 => ?_) (fun c5 => ?_)
  · replace h := h_t c5 h
    refine lv_iconst (v := (-1)) hx hb dX7_byteAt_28 (by decide) ?_
    exact ret_i C hr hlocks hP hS h dX7_byteAt_29
  · replace h := h_f c5 h
    refine lv_iload_n hx hb dX7_byteAt_4 rfl (lv_at hl 1 rfl) ?_
    refine lv_aload_n hx hb dX7_byteAt_5 rfl (lv_at hl 0 rfl) ?_
    refine gf_X7_13_1 C hP dX7_byteAt_6 ?_
    refine lv_icmp_ge (tgt := 28) hx hb dX7_byteAt_9 (by decide) (fun c6 => ?_) (fun c6 => ?_)
    · replace h := h_t c6 h
      refine lv_iconst (v := (-1)) hx hb dX7_byteAt_28 (by decide) ?_
      exact ret_i C hr hlocks hP hS h dX7_byteAt_29
    · replace h := h_f c6 h
      refine lv_iload_n hx hb dX7_byteAt_12 rfl (lv_at hl 1 rfl) ?_
      refine lv_sipush (v := 160) hx hb dX7_byteAt_13 (by decide) ?_
      refine lv_icmp_ge (tgt := 28) hx hb dX7_byteAt_16 (by decide) (fun c7 => ?_) (fun c7 => ?_)
      · replace h := h_t c7 h
        refine lv_iconst (v := (-1)) hx hb dX7_byteAt_28 (by decide) ?_
        exact ret_i C hr hlocks hP hS h dX7_byteAt_29
      · replace h := h_f c7 h
        refine lv_aload_n hx hb dX7_byteAt_19 rfl (lv_at hl 0 rfl) ?_
        refine gf_X7_9_1 C hP dX7_byteAt_20 ?_
        refine lv_iload_n hx hb dX7_byteAt_23 rfl (lv_at hl 1 rfl) ?_
        obtain ⟨g8, h⟩ := h_g h
        refine r_ald C hP 13 (by decide) rfl (vp_in_iff.mpr g8) dX7_byteAt_24 ?_
        refine lv_goto (tgt := 29) hx hb dX7_byteAt_25 (by decide) ?_
        exact ret_i C hr hlocks hP hS h dX7_byteAt_29
set_option maxHeartbeats 4000000 in
set_option maxRecDepth 100000 in
theorem c_X5_faultHere {l : Launch} {G : GT} {lam : Lm} {σ : St} {a1 : Int32} {q : Int32 × St} (h : f_X5_faultHere σ a1 = some q) : Met l yX5_faultHere (Cond.code yX5_faultHere cX5_faultHere 2 ((some .boolean)) :: TB) ({ frames := 0, cells := 0, slots := 0, locals := 0 } : Room) (va_Pc [.ref (g_ad G 3), .int a1] (GW G lam σ)) (Ri q G lam) 0 0 (g_A G) := by
  refine mk_Qi (own := RX5) (by decide) (Nat.le_of_ble_eq_true rfl) rfl (fun p e s m args below meth c C hr hlocks hP ls hl => ?_)
  have hx := C.1
  have hb := C.2.1
  have hl : lv_has ls 2 [(0, .ref (g_ad G 3)), (1, .int a1)] := hl
  have hS : va_S (g_A G) s.heap s.heap [] := va_S.rf
  unfold f_X5_faultHere at h
  refine lv_aload_n hx hb dX5_faultHere_0 rfl (lv_at hl 0 rfl) ?_
  refine lv_iload_n hx hb dX5_faultHere_1 rfl (lv_at hl 1 rfl) ?_
  refine pf_X5_16_3 C hP hS dX5_faultHere_2 (fun H locs hP hS => ?_)
  obtain ⟨σ5, e6, h⟩ := bnd h
  have hP := hPn e6 hP
  refine lv_aload_n hx hb dX5_faultHere_5 rfl (lv_at hl 0 rfl) ?_
  refine lv_aload_n hx hb dX5_faultHere_6 rfl (lv_at hl 0 rfl) ?_
  refine gf_X5_23_3 C hP dX5_faultHere_7 ?_
  refine pf_X5_20_3 C hP hS dX5_faultHere_10 (fun H locs hP hS => ?_)
  obtain ⟨σ7, e8, h⟩ := bnd h
  have hP := hPn e8 hP
  refine lv_iconst (v := 0) hx hb dX5_faultHere_13 (by decide) ?_
  exact ret_z C hr hlocks hP hS h (Or.inl rfl) dX5_faultHere_14
set_option maxHeartbeats 4000000 in
set_option maxRecDepth 100000 in
theorem c_X5_readByte {l : Launch} {G : GT} {lam : Lm} {σ : St} {a1 : Int32} {q : Int32 × St} (h : f_X5_readByte σ a1 = some q) : Met l yX5_readByte (Cond.code yX5_readByte cX5_readByte 2 ((some .boolean)) :: TB) ({ frames := 1, cells := 0, slots := 0, locals := 21 } : Room) (va_Pc [.ref (g_ad G 3), .int a1] (GW G lam σ)) (Ri q G lam) 0 0 (g_A G) := by
  refine mk_Qi (own := RX5) (by decide) (Nat.le_of_ble_eq_true rfl) rfl (fun p e s m args below meth c C hr hlocks hP ls hl => ?_)
  have hx := C.1
  have hb := C.2.1
  have hl : lv_has ls 2 [(0, .ref (g_ad G 3)), (1, .int a1)] := hl
  have hS : va_S (g_A G) s.heap s.heap [] := va_S.rf
  unfold f_X5_readByte at h
  refine lv_aload_n hx hb dX5_readByte_0 rfl (lv_at hl 0 rfl) ?_
  refine gf_X5_29_3 C hP dX5_readByte_1 ?_
  refine lv_aload_n hx hb dX5_readByte_4 rfl (lv_at hl 0 rfl) ?_
  refine gf_X5_23_3 C hP dX5_readByte_5 ?_
  obtain ⟨q9, e10, h⟩ := bnd h
  refine call_i C hP hS (c_X7_byteAt e10) mi_X7_byteAt mw_455 1 (by decide) rfl rfl ⟨Nat.le_of_ble_eq_true rfl, Nat.le_of_ble_eq_true rfl⟩ (As := [.int (σ 3 4)]) rfl hl.1 rfl (lv_room (Nat.le_of_ble_eq_true rfl)) dX5_readByte_8 (fun H locs hP hS => ?_)
  refine lv_iload_n hx hb dX5_readByte_11 rfl (lv_at hl 1 rfl) ?_
  refine lv_icmp_eq (tgt := 21) hx hb dX5_readByte_12 (by decide) (fun c11 => ?_) (fun c11 => ?_)
  · replace h := h_t c11 h
    refine lv_aload_n hx hb dX5_readByte_21 rfl (lv_at hl 0 rfl) ?_
    refine lv_dup hx hb dX5_readByte_22 rfl ?_
    refine gf_X5_23_3 C hP dX5_readByte_23 ?_
    refine lv_iconst (v := 1) hx hb dX5_readByte_26 (by decide) ?_
    refine lv_iadd hx hb dX5_readByte_27 ?_
    refine pf_X5_23_3 C hP hS dX5_readByte_28 (fun H locs hP hS => ?_)
    obtain ⟨σ12, e13, h⟩ := bnd h
    have hP := hPn e13 hP
    refine lv_iconst (v := 1) hx hb dX5_readByte_31 (by decide) ?_
    exact ret_z C hr hlocks hP hS h (Or.inr rfl) dX5_readByte_32
  · replace h := h_f c11 h
    refine lv_aload_n hx hb dX5_readByte_15 rfl (lv_at hl 0 rfl) ?_
    refine lv_iconst (v := 1) hx hb dX5_readByte_16 (by decide) ?_
    obtain ⟨q14, e15, h⟩ := bnd h
    refine call_i C hP hS (c_X5_faultHere e15) mi_X5_faultHere mw_459 3 (by decide) rfl rfl ⟨Nat.le_of_ble_eq_true rfl, Nat.le_of_ble_eq_true rfl⟩ (As := [.int 1]) rfl hl.1 rfl (lv_room (Nat.le_of_ble_eq_true rfl)) dX5_readByte_17 (fun H locs hP hS => ?_)
    obtain ⟨g16, h⟩ := h_g h
    exact ret_z C hr hlocks hP hS h g16 dX5_readByte_20
set_option maxHeartbeats 4000000 in
set_option maxRecDepth 100000 in
theorem c_X5_isFigure {l : Launch} {G : GT} {lam : Lm} {σ : St} {a1 : Int32} {q : Int32 × St} (h : f_X5_isFigure σ a1 = some q) : Met l yX5_isFigure (Cond.code yX5_isFigure cX5_isFigure 1 ((some .boolean)) :: TB) ({ frames := 0, cells := 0, slots := 0, locals := 0 } : Room) (va_Pc [.int a1] (GW G lam σ)) (Ri q G lam) 0 0 (g_A G) := by
  refine mk_Qi (own := RX5) (by decide) (Nat.le_of_ble_eq_true rfl) rfl (fun p e s m args below meth c C hr hlocks hP ls hl => ?_)
  have hx := C.1
  have hb := C.2.1
  have hl : lv_has ls 1 [(0, .int a1)] := hl
  have hS : va_S (g_A G) s.heap s.heap [] := va_S.rf
  unfold f_X5_isFigure at h
  refine lv_iload_n hx hb dX5_isFigure_0 rfl (lv_at hl 0 rfl) ?_
  refine lv_bipush (v := 48) hx hb dX5_isFigure_1 (by decide) ?_
  refine lv_icmp_lt (tgt := 16) hx hb dX5_isFigure_3 (by decide) (fun c3 => ?_) (fun c3 => ?_)
  · replace h := h_t c3 h
    refine lv_iconst (v := 0) hx hb dX5_isFigure_16 (by decide) ?_
    exact ret_z C hr hlocks hP hS h (Or.inl rfl) dX5_isFigure_17
  · replace h := h_f c3 h
    refine lv_iload_n hx hb dX5_isFigure_6 rfl (lv_at hl 0 rfl) ?_
    refine lv_bipush (v := 57) hx hb dX5_isFigure_7 (by decide) ?_
    refine lv_icmp_gt (tgt := 16) hx hb dX5_isFigure_9 (by decide) (fun c4 => ?_) (fun c4 => ?_)
    · replace h := h_t c4 h
      refine lv_iconst (v := 0) hx hb dX5_isFigure_16 (by decide) ?_
      exact ret_z C hr hlocks hP hS h (Or.inl rfl) dX5_isFigure_17
    · replace h := h_f c4 h
      refine lv_iconst (v := 1) hx hb dX5_isFigure_12 (by decide) ?_
      refine lv_goto (tgt := 17) hx hb dX5_isFigure_13 (by decide) ?_
      exact ret_z C hr hlocks hP hS h (Or.inr rfl) dX5_isFigure_17
set_option maxHeartbeats 4000000 in
set_option maxRecDepth 100000 in
theorem c_X5_readNumber {l : Launch} {G : GT} {lam : Lm} {σ : St} {a1 : Int32} {a2 : Int32} {q : Int32 × St} (h : f_X5_readNumber σ a1 a2 = some q) : Met l yX5_readNumber (Cond.code yX5_readNumber cX5_readNumber 5 ((some .boolean)) :: TB) ({ frames := 1, cells := 0, slots := 0, locals := 21 } : Room) (va_Pc [.ref (g_ad G 3), .int a1, .int a2] (GW G lam σ)) (Ri q G lam) 0 0 (g_A G) := by
  refine mk_Qi (own := RX5) (by decide) (Nat.le_of_ble_eq_true rfl) rfl (fun p e s m args below meth c C hr hlocks hP ls hl => ?_)
  have hx := C.1
  have hb := C.2.1
  have hl : lv_has ls 5 [(0, .ref (g_ad G 3)), (1, .int a1), (2, .int a2)] := hl
  have J86 : ∀ (σ : St) (H : Heap) (locs : List Loc) (ls : Array Slot), f_X5_readNumber_p86 σ = some q → va_P (g_D G) vwCl (allW G lam σ) H → va_S (g_A G) s.heap H locs → lv_has ls 5 [(0, .ref (g_ad G 3))] → W p l e ({ frames := 1, cells := 0, slots := 0, locals := 21 } : Room) s m args below meth c H locs 0 0 (Qi q below args s G lam) (F0 m 86 ls []) := by
    intro σ H locs ls h hP hS hl
    unfold f_X5_readNumber_p86 at h
    refine lv_aload_n hx hb dX5_readNumber_86 rfl (lv_at hl 0 rfl) ?_
    refine lv_iconst (v := 2) hx hb dX5_readNumber_87 (by decide) ?_
    obtain ⟨q25, e26, h⟩ := bnd h
    refine call_i C hP hS (c_X5_faultHere e26) mi_X5_faultHere mw_459 3 (by decide) rfl rfl ⟨Nat.le_of_ble_eq_true rfl, Nat.le_of_ble_eq_true rfl⟩ (As := [.int 2]) rfl hl.1 rfl (lv_room (Nat.le_of_ble_eq_true rfl)) dX5_readNumber_88 (fun H locs hP hS => ?_)
    obtain ⟨g27, h⟩ := h_g h
    exact ret_z C hr hlocks hP hS h g27 dX5_readNumber_91
  have J68 : ∀ (σ : St) (H : Heap) (locs : List Loc) (ls : Array Slot), f_X5_readNumber_p68 σ = some q → va_P (g_D G) vwCl (allW G lam σ) H → va_S (g_A G) s.heap H locs → lv_has ls 5 [(0, .ref (g_ad G 3))] → W p l e ({ frames := 1, cells := 0, slots := 0, locals := 21 } : Room) s m args below meth c H locs 0 0 (Qi q below args s G lam) (F0 m 68 ls []) := by
    intro σ H locs ls h hP hS hl
    unfold f_X5_readNumber_p68 at h
    refine lv_aload_n hx hb dX5_readNumber_68 rfl (lv_at hl 0 rfl) ?_
    refine lv_iconst (v := 1) hx hb dX5_readNumber_69 (by decide) ?_
    obtain ⟨q28, e29, h⟩ := bnd h
    refine call_i C hP hS (c_X5_faultHere e29) mi_X5_faultHere mw_459 3 (by decide) rfl rfl ⟨Nat.le_of_ble_eq_true rfl, Nat.le_of_ble_eq_true rfl⟩ (As := [.int 1]) rfl hl.1 rfl (lv_room (Nat.le_of_ble_eq_true rfl)) dX5_readNumber_70 (fun H locs hP hS => ?_)
    obtain ⟨g30, h⟩ := h_g h
    exact ret_z C hr hlocks hP hS h g30 dX5_readNumber_73
  have J59 : ∀ (σ : St) (x1 : Int32) (x2 : Int32) (x3 : Int32) (x4 : Int32) (H : Heap) (locs : List Loc) (ls : Array Slot), f_X5_readNumber_p59 σ x1 x2 x3 x4 = some q → va_P (g_D G) vwCl (allW G lam σ) H → va_S (g_A G) s.heap H locs → lv_has ls 5 [(0, .ref (g_ad G 3)), (1, .int x1), (2, .int x2), (3, .int x3), (4, .int x4)] → W p l e ({ frames := 1, cells := 0, slots := 0, locals := 21 } : Room) s m args below meth c H locs 0 0 (Qi q below args s G lam) (F0 m 59 ls []) := by
    intro σ x1 x2 x3 x4 H locs ls h hP hS hl
    unfold f_X5_readNumber_p59 at h
    refine lv_iload_n hx hb dX5_readNumber_59 rfl (lv_at hl 3 rfl) ?_
    refine lv_if_eq (tgt := 68) hx hb dX5_readNumber_60 (by decide) (fun c31 => ?_) (fun c31 => ?_)
    · replace h := h_t c31 h
      exact J68 _ H locs ls h hP hS (lv_sub hl [0] rfl)
    · replace h := h_f c31 h
      refine lv_iload_n hx hb dX5_readNumber_63 rfl (lv_at hl 3 rfl) ?_
      refine lv_iconst (v := 2) hx hb dX5_readNumber_64 (by decide) ?_
      refine lv_icmp_le (tgt := 74) hx hb dX5_readNumber_65 (by decide) (fun c32 => ?_) (fun c32 => ?_)
      · replace h := h_t c32 h
        refine lv_iload hx hb dX5_readNumber_74 (lv_at hl 4 rfl) ?_
        refine lv_iload_n hx hb dX5_readNumber_76 rfl (lv_at hl 1 rfl) ?_
        refine lv_icmp_lt (tgt := 86) hx hb dX5_readNumber_77 (by decide) (fun c33 => ?_) (fun c33 => ?_)
        · replace h := h_t c33 h
          exact J86 _ H locs ls h hP hS (lv_sub hl [0] rfl)
        · replace h := h_f c33 h
          refine lv_iload hx hb dX5_readNumber_80 (lv_at hl 4 rfl) ?_
          refine lv_iload_n hx hb dX5_readNumber_82 rfl (lv_at hl 2 rfl) ?_
          refine lv_icmp_le (tgt := 92) hx hb dX5_readNumber_83 (by decide) (fun c34 => ?_) (fun c34 => ?_)
          · replace h := h_t c34 h
            refine lv_aload_n hx hb dX5_readNumber_92 rfl (lv_at hl 0 rfl) ?_
            refine lv_dup hx hb dX5_readNumber_93 rfl ?_
            refine gf_X5_23_3 C hP dX5_readNumber_94 ?_
            refine lv_iload_n hx hb dX5_readNumber_97 rfl (lv_at hl 3 rfl) ?_
            refine lv_iadd hx hb dX5_readNumber_98 ?_
            refine pf_X5_23_3 C hP hS dX5_readNumber_99 (fun H locs hP hS => ?_)
            obtain ⟨σ35, e36, h⟩ := bnd h
            have hP := hPn e36 hP
            refine lv_aload_n hx hb dX5_readNumber_102 rfl (lv_at hl 0 rfl) ?_
            refine lv_iload hx hb dX5_readNumber_103 (lv_at hl 4 rfl) ?_
            refine pf_X5_26_3 C hP hS dX5_readNumber_105 (fun H locs hP hS => ?_)
            obtain ⟨σ37, e38, h⟩ := bnd h
            have hP := hPn e38 hP
            refine lv_iconst (v := 1) hx hb dX5_readNumber_108 (by decide) ?_
            exact ret_z C hr hlocks hP hS h (Or.inr rfl) dX5_readNumber_109
          · replace h := h_f c34 h
            exact J86 _ H locs ls h hP hS (lv_sub hl [0] rfl)
      · replace h := h_f c32 h
        exact J68 _ H locs ls h hP hS (lv_sub hl [0] rfl)
  have L5 : ∀ (n5 : Nat) (σ : St) (x1 : Int32) (x2 : Int32) (x3 : Int32) (x4 : Int32) (H : Heap) (locs : List Loc) (ls : Array Slot), fx (F_X5_readNumber_h5) z_X5_readNumber_h5 n5 σ x1 x2 x3 x4 = some q → va_P (g_D G) vwCl (allW G lam σ) H → va_S (g_A G) s.heap H locs → lv_has ls 5 [(0, .ref (g_ad G 3)), (1, .int x1), (2, .int x2), (3, .int x3), (4, .int x4)] → W p l e ({ frames := 1, cells := 0, slots := 0, locals := 21 } : Room) s m args below meth c H locs 0 0 (Qi q below args s G lam) (F0 m 5 ls []) := by
    intro n5
    induction n5 with
    | zero => intro σ x1 x2 x3 x4 H locs ls h hP hS hl; exact absurd h (by intro h9; cases h9)
    | succ n5 ih5 =>
      intro σ x1 x2 x3 x4 H locs ls h hP hS hl
      change F_X5_readNumber_h5 (fx (F_X5_readNumber_h5) z_X5_readNumber_h5 n5) σ x1 x2 x3 x4 = some q at h
      unfold F_X5_readNumber_h5 at h
      refine lv_iload_n hx hb dX5_readNumber_5 rfl (lv_at hl 3 rfl) ?_
      refine lv_iconst (v := 2) hx hb dX5_readNumber_6 (by decide) ?_
      refine lv_icmp_gt (tgt := 59) hx hb dX5_readNumber_7 (by decide) (fun c39 => ?_) (fun c39 => ?_)
      · replace h := h_t c39 h
        exact J59 _ _ _ _ _ H locs ls h hP hS (lv_sub hl [0, 1, 2, 3, 4] rfl)
      · replace h := h_f c39 h
        refine lv_aload_n hx hb dX5_readNumber_10 rfl (lv_at hl 0 rfl) ?_
        refine gf_X5_29_3 C hP dX5_readNumber_11 ?_
        refine lv_aload_n hx hb dX5_readNumber_14 rfl (lv_at hl 0 rfl) ?_
        refine gf_X5_23_3 C hP dX5_readNumber_15 ?_
        refine lv_iload_n hx hb dX5_readNumber_18 rfl (lv_at hl 3 rfl) ?_
        refine lv_iadd hx hb dX5_readNumber_19 ?_
        obtain ⟨q40, e41, h⟩ := bnd h
        refine call_i C hP hS (c_X7_byteAt e41) mi_X7_byteAt mw_455 1 (by decide) rfl rfl ⟨Nat.le_of_ble_eq_true rfl, Nat.le_of_ble_eq_true rfl⟩ (As := [.int ((σ 3 4) + x3)]) rfl hl.1 rfl (lv_room (Nat.le_of_ble_eq_true rfl)) dX5_readNumber_20 (fun H locs hP hS => ?_)
        obtain ⟨q42, e43, h⟩ := bnd h
        refine scall_i C hP hS (c_X5_isFigure e43) ms_X5_isFigure mw_471 ⟨Nat.le_of_ble_eq_true rfl, Nat.le_of_ble_eq_true rfl⟩ (As := [.int q40.1]) rfl hl.1 rfl (lv_room (Nat.le_of_ble_eq_true rfl)) dX5_readNumber_23 (fun H locs hP hS => ?_)
        refine lv_if_eq (tgt := 59) hx hb dX5_readNumber_26 (by decide) (fun c44 => ?_) (fun c44 => ?_)
        · replace h := h_t c44 h
          exact J59 _ _ _ _ _ H locs ls h hP hS (lv_sub hl [0, 1, 2, 3, 4] rfl)
        · replace h := h_f c44 h
          refine lv_iload hx hb dX5_readNumber_29 (lv_at hl 4 rfl) ?_
          refine lv_bipush (v := 10) hx hb dX5_readNumber_31 (by decide) ?_
          refine lv_imul hx hb dX5_readNumber_33 ?_
          refine lv_aload_n hx hb dX5_readNumber_34 rfl (lv_at hl 0 rfl) ?_
          refine gf_X5_29_3 C hP dX5_readNumber_35 ?_
          refine lv_aload_n hx hb dX5_readNumber_38 rfl (lv_at hl 0 rfl) ?_
          refine gf_X5_23_3 C hP dX5_readNumber_39 ?_
          refine lv_iload_n hx hb dX5_readNumber_42 rfl (lv_at hl 3 rfl) ?_
          refine lv_iadd hx hb dX5_readNumber_43 ?_
          obtain ⟨q45, e46, h⟩ := bnd h
          refine call_i C hP hS (c_X7_byteAt e46) mi_X7_byteAt mw_455 1 (by decide) rfl rfl ⟨Nat.le_of_ble_eq_true rfl, Nat.le_of_ble_eq_true rfl⟩ (As := [.int ((q42.2 3 4) + x3)]) rfl hl.1 rfl (lv_room (Nat.le_of_ble_eq_true rfl)) dX5_readNumber_44 (fun H locs hP hS => ?_)
          refine lv_iadd hx hb dX5_readNumber_47 ?_
          refine lv_bipush (v := 48) hx hb dX5_readNumber_48 (by decide) ?_
          refine lv_isub hx hb dX5_readNumber_50 ?_
          obtain ⟨y47, e48, h⟩ := bnd h
          refine r_nm e48 ?_
          refine lv_istore (lv' := [(4, .int y47), (0, .ref (g_ad G 3)), (1, .int x1), (2, .int x2), (3, .int x3)]) hx hb dX5_readNumber_51 hl (by decide) rfl (fun ls hl => ?_)
          obtain ⟨y49, e50, h⟩ := bnd h
          refine lv_iinc (v := y49) (lv' := [(3, .int y49), (4, .int y47), (0, .ref (g_ad G 3)), (1, .int x1), (2, .int x2)]) hx hb dX5_readNumber_53 hl (k := 4) rfl (Option.some.inj e50) (by decide) rfl (fun ls hl => ?_)
          refine lv_goto (tgt := 5) hx hb dX5_readNumber_56 (by decide) ?_
          exact ih5 _ _ _ _ _ H locs ls h hP hS (lv_sub hl [2, 3, 4, 0, 1] rfl)
  have hS : va_S (g_A G) s.heap s.heap [] := va_S.rf
  unfold f_X5_readNumber at h
  obtain ⟨H, hH⟩ : ∃ H, H = s.heap := ⟨_, rfl⟩
  obtain ⟨locs, hlo⟩ : ∃ k : List Loc, k = [] := ⟨_, rfl⟩
  rw [← hH, ← hlo]
  rw [← hH] at hP
  replace hS : va_S (g_A G) s.heap H locs := by rw [hH, hlo]; exact hS
  refine lv_iconst (v := 0) hx hb dX5_readNumber_0 (by decide) ?_
  refine lv_istore_n (lv' := [(3, .int 0), (0, .ref (g_ad G 3)), (1, .int a1), (2, .int a2)]) hx hb dX5_readNumber_1 rfl hl (by decide) rfl (fun ls hl => ?_)
  refine lv_iconst (v := 0) hx hb dX5_readNumber_2 (by decide) ?_
  refine lv_istore (lv' := [(4, .int 0), (3, .int 0), (0, .ref (g_ad G 3)), (1, .int a1), (2, .int a2)]) hx hb dX5_readNumber_3 hl (by decide) rfl (fun ls hl => ?_)
  exact L5 FU _ _ _ _ _ H locs ls h hP hS (lv_sub hl [2, 3, 4, 1, 0] rfl)
set_option maxHeartbeats 4000000 in
set_option maxRecDepth 100000 in
theorem c_X6_shipCell_11 {l : Launch} {G : GT} {lam : Lm} {σ : St} {a1 : Int32} {q : Int32 × St} (h : f_X6_shipCell 17 σ a1 = some q) : Met l yX6_shipCell (Cond.code yX6_shipCell cX6_shipCell 2 ((some .int)) :: TB) ({ frames := 0, cells := 0, slots := 0, locals := 0 } : Room) (va_Pc [.ref (g_ad G 11), .int a1] (GW G lam σ)) (Ri q G lam) 0 0 (g_A G) := by
  refine mk_Qi (own := RX6) (by decide) (Nat.le_of_ble_eq_true rfl) rfl (fun p e s m args below meth c C hr hlocks hP ls hl => ?_)
  have hx := C.1
  have hb := C.2.1
  have hl : lv_has ls 2 [(0, .ref (g_ad G 11)), (1, .int a1)] := hl
  have hS : va_S (g_A G) s.heap s.heap [] := va_S.rf
  unfold f_X6_shipCell at h
  refine lv_iload_n hx hb dX6_shipCell_0 rfl (lv_at hl 1 rfl) ?_
  refine lv_if_lt (tgt := 18) hx hb dX6_shipCell_1 (by decide) (fun c4 => ?_) (fun c4 => ?_)
  · replace h := h_t c4 h
    refine lv_iconst (v := 0) hx hb dX6_shipCell_18 (by decide) ?_
    exact ret_i C hr hlocks hP hS h dX6_shipCell_19
  · replace h := h_f c4 h
    refine lv_iload_n hx hb dX6_shipCell_4 rfl (lv_at hl 1 rfl) ?_
    refine lv_iconst (v := 5) hx hb dX6_shipCell_5 (by decide) ?_
    refine lv_icmp_ge (tgt := 18) hx hb dX6_shipCell_6 (by decide) (fun c5 => ?_) (fun c5 => ?_)
    · replace h := h_t c5 h
      refine lv_iconst (v := 0) hx hb dX6_shipCell_18 (by decide) ?_
      exact ret_i C hr hlocks hP hS h dX6_shipCell_19
    · replace h := h_f c5 h
      refine lv_aload_n hx hb dX6_shipCell_9 rfl (lv_at hl 0 rfl) ?_
      refine gf_X6_11_11 C hP dX6_shipCell_10 ?_
      refine lv_iload_n hx hb dX6_shipCell_13 rfl (lv_at hl 1 rfl) ?_
      obtain ⟨g6, h⟩ := h_g h
      refine r_ald C hP 17 (by decide) rfl (vp_in_iff.mpr g6) dX6_shipCell_14 ?_
      refine lv_goto (tgt := 19) hx hb dX6_shipCell_15 (by decide) ?_
      exact ret_i C hr hlocks hP hS h dX6_shipCell_19
set_option maxHeartbeats 4000000 in
set_option maxRecDepth 100000 in
theorem c_X6_putShipCell_11 {l : Launch} {G : GT} {lam : Lm} {σ : St} {a1 : Int32} {a2 : Int32} {q : Int32 × St} (h : f_X6_putShipCell 17 σ a1 a2 = some q) : Met l yX6_putShipCell (Cond.code yX6_putShipCell cX6_putShipCell 4 ((some .int)) :: TB) ({ frames := 1, cells := 0, slots := 0, locals := 21 } : Room) (va_Pc [.ref (g_ad G 11), .int a1, .int a2] (GW G lam σ)) (Ri q G lam) 0 0 (g_A G) := by
  refine mk_Qi (own := RX6) (by decide) (Nat.le_of_ble_eq_true rfl) rfl (fun p e s m args below meth c C hr hlocks hP ls hl => ?_)
  have hx := C.1
  have hb := C.2.1
  have hl : lv_has ls 4 [(0, .ref (g_ad G 11)), (1, .int a1), (2, .int a2)] := hl
  have J22 : ∀ (σ : St) (x3 : Int32) (H : Heap) (locs : List Loc) (ls : Array Slot), f_X6_putShipCell_p22 17 σ x3 = some q → va_P (g_D G) vwCl (allW G lam σ) H → va_S (g_A G) s.heap H locs → lv_has ls 4 [(3, .int x3)] → W p l e ({ frames := 1, cells := 0, slots := 0, locals := 21 } : Room) s m args below meth c H locs 0 0 (Qi q below args s G lam) (F0 m 22 ls []) := by
    intro σ x3 H locs ls h hP hS hl
    unfold f_X6_putShipCell_p22 at h
    refine lv_iload_n hx hb dX6_putShipCell_22 rfl (lv_at hl 0 rfl) ?_
    exact ret_i C hr hlocks hP hS h dX6_putShipCell_23
  have hS : va_S (g_A G) s.heap s.heap [] := va_S.rf
  unfold f_X6_putShipCell at h
  obtain ⟨H, hH⟩ : ∃ H, H = s.heap := ⟨_, rfl⟩
  obtain ⟨locs, hlo⟩ : ∃ k : List Loc, k = [] := ⟨_, rfl⟩
  rw [← hH, ← hlo]
  rw [← hH] at hP
  replace hS : va_S (g_A G) s.heap H locs := by rw [hH, hlo]; exact hS
  refine lv_aload_n hx hb dX6_putShipCell_0 rfl (lv_at hl 0 rfl) ?_
  refine lv_iload_n hx hb dX6_putShipCell_1 rfl (lv_at hl 1 rfl) ?_
  obtain ⟨q8, e9, h⟩ := bnd h
  refine call_i C hP hS (c_X6_shipCell_11 e9) mi_X6_shipCell mw_478 11 (by decide) rfl rfl ⟨Nat.le_of_ble_eq_true rfl, Nat.le_of_ble_eq_true rfl⟩ (As := [.int a1]) rfl hl.1 rfl (lv_room (Nat.le_of_ble_eq_true rfl)) dX6_putShipCell_2 (fun H locs hP hS => ?_)
  refine lv_istore_n (lv' := [(3, .int q8.1), (0, .ref (g_ad G 11)), (1, .int a1), (2, .int a2)]) hx hb dX6_putShipCell_5 rfl hl (by decide) rfl (fun ls hl => ?_)
  refine lv_iload_n hx hb dX6_putShipCell_6 rfl (lv_at hl 2 rfl) ?_
  refine lv_if_lt (tgt := 22) hx hb dX6_putShipCell_7 (by decide) (fun c10 => ?_) (fun c10 => ?_)
  · replace h := h_t c10 h
    exact J22 _ _ H locs ls h hP hS (lv_sub hl [0] rfl)
  · replace h := h_f c10 h
    refine lv_iload_n hx hb dX6_putShipCell_10 rfl (lv_at hl 2 rfl) ?_
    refine lv_iconst (v := 5) hx hb dX6_putShipCell_11 (by decide) ?_
    refine lv_icmp_ge (tgt := 22) hx hb dX6_putShipCell_12 (by decide) (fun c11 => ?_) (fun c11 => ?_)
    · replace h := h_t c11 h
      exact J22 _ _ H locs ls h hP hS (lv_sub hl [0] rfl)
    · replace h := h_f c11 h
      refine lv_aload_n hx hb dX6_putShipCell_15 rfl (lv_at hl 1 rfl) ?_
      refine gf_X6_11_11 C hP dX6_putShipCell_16 ?_
      refine lv_iload_n hx hb dX6_putShipCell_19 rfl (lv_at hl 2 rfl) ?_
      refine lv_iload_n hx hb dX6_putShipCell_20 rfl (lv_at hl 3 rfl) ?_
      obtain ⟨g12, h⟩ := h_g h
      refine r_ast C hP hS 17 (by decide) (fun _ => rfl) (vp_in_iff.mpr g12) dX6_putShipCell_21 (fun H locs hP hS => ?_)
      obtain ⟨σ13, e14, h⟩ := bnd h
      have hP := hPn e14 hP
      exact J22 _ _ H locs ls h hP hS (lv_sub hl [0] rfl)
set_option maxHeartbeats 4000000 in
set_option maxRecDepth 100000 in
theorem c_X5_readShipCell {l : Launch} {G : GT} {lam : Lm} {σ : St} {a1 : Int32} {a2 : Int32} {q : Int32 × St} (h : f_X5_readShipCell σ a1 a2 = some q) : Met l yX5_readShipCell (Cond.code yX5_readShipCell cX5_readShipCell 3 ((some .boolean)) :: TB) ({ frames := 2, cells := 0, slots := 0, locals := 45 } : Room) (va_Pc [.ref (g_ad G 3), .int a1, .int a2] (GW G lam σ)) (Ri q G lam) 0 0 (g_A G) := by
  refine mk_Qi (own := RX5) (by decide) (Nat.le_of_ble_eq_true rfl) rfl (fun p e s m args below meth c C hr hlocks hP ls hl => ?_)
  have hx := C.1
  have hb := C.2.1
  have hl : lv_has ls 3 [(0, .ref (g_ad G 3)), (1, .int a1), (2, .int a2)] := hl
  have hS : va_S (g_A G) s.heap s.heap [] := va_S.rf
  unfold f_X5_readShipCell at h
  refine lv_aload_n hx hb dX5_readShipCell_0 rfl (lv_at hl 0 rfl) ?_
  refine lv_iconst (v := 0) hx hb dX5_readShipCell_1 (by decide) ?_
  refine lv_iload_n hx hb dX5_readShipCell_2 rfl (lv_at hl 2 rfl) ?_
  obtain ⟨q6, e7, h⟩ := bnd h
  refine call_i C hP hS (c_X5_readNumber e7) mi_X5_readNumber mw_467 3 (by decide) rfl rfl ⟨Nat.le_of_ble_eq_true rfl, Nat.le_of_ble_eq_true rfl⟩ (As := [.int 0, .int a2]) rfl hl.1 rfl (lv_room (Nat.le_of_ble_eq_true rfl)) dX5_readShipCell_3 (fun H locs hP hS => ?_)
  refine lv_if_ne (tgt := 11) hx hb dX5_readShipCell_6 (by decide) (fun c8 => ?_) (fun c8 => ?_)
  · replace h := h_f c8 h
    refine lv_aload_n hx hb dX5_readShipCell_11 rfl (lv_at hl 0 rfl) ?_
    refine gf_X5_10_3 C hP dX5_readShipCell_12 ?_
    refine lv_iload_n hx hb dX5_readShipCell_15 rfl (lv_at hl 1 rfl) ?_
    refine lv_aload_n hx hb dX5_readShipCell_16 rfl (lv_at hl 0 rfl) ?_
    refine gf_X5_26_3 C hP dX5_readShipCell_17 ?_
    obtain ⟨q9, e10, h⟩ := bnd h
    refine call_i C hP hS (c_X6_putShipCell_11 e10) mi_X6_putShipCell mw_474 11 (by decide) rfl rfl ⟨Nat.le_of_ble_eq_true rfl, Nat.le_of_ble_eq_true rfl⟩ (As := [.int a1, .int (q6.2 3 5)]) rfl hl.1 rfl (lv_room (Nat.le_of_ble_eq_true rfl)) dX5_readShipCell_20 (fun H locs hP hS => ?_)
    refine lv_pop hx hb dX5_readShipCell_23 rfl ?_
    refine lv_iconst (v := 1) hx hb dX5_readShipCell_24 (by decide) ?_
    exact ret_z C hr hlocks hP hS h (Or.inr rfl) dX5_readShipCell_25
  · replace h := h_t c8 h
    refine lv_iconst (v := 0) hx hb dX5_readShipCell_9 (by decide) ?_
    exact ret_z C hr hlocks hP hS h (Or.inl rfl) dX5_readShipCell_10
set_option maxHeartbeats 4000000 in
set_option maxRecDepth 100000 in
theorem c_X5_readShip {l : Launch} {G : GT} {lam : Lm} {σ : St} {q : Int32 × St} (h : f_X5_readShip σ = some q) : Met l yX5_readShip (Cond.code yX5_readShip cX5_readShip 1 ((some .boolean)) :: TB) ({ frames := 3, cells := 0, slots := 0, locals := 67 } : Room) (va_Pc [.ref (g_ad G 3)] (GW G lam σ)) (Ri q G lam) 0 0 (g_A G) := by
  refine mk_Qi (own := RX5) (by decide) (Nat.le_of_ble_eq_true rfl) rfl (fun p e s m args below meth c C hr hlocks hP ls hl => ?_)
  have hx := C.1
  have hb := C.2.1
  have hl : lv_has ls 1 [(0, .ref (g_ad G 3))] := hl
  have hS : va_S (g_A G) s.heap s.heap [] := va_S.rf
  unfold f_X5_readShip at h
  refine lv_aload_n hx hb dX5_readShip_0 rfl (lv_at hl 0 rfl) ?_
  refine lv_bipush (v := 104) hx hb dX5_readShip_1 (by decide) ?_
  obtain ⟨q22, e23, h⟩ := bnd h
  refine call_i C hP hS (c_X5_readByte e23) mi_X5_readByte mw_451 3 (by decide) rfl rfl ⟨Nat.le_of_ble_eq_true rfl, Nat.le_of_ble_eq_true rfl⟩ (As := [.int 104]) rfl hl.1 rfl (lv_room (Nat.le_of_ble_eq_true rfl)) dX5_readShip_3 (fun H locs hP hS => ?_)
  refine lv_if_eq (tgt := 70) hx hb dX5_readShip_6 (by decide) (fun c24 => ?_) (fun c24 => ?_)
  · replace h := h_t c24 h
    refine lv_iconst (v := 0) hx hb dX5_readShip_70 (by decide) ?_
    exact ret_z C hr hlocks hP hS h (Or.inl rfl) dX5_readShip_71
  · replace h := h_f c24 h
    refine lv_aload_n hx hb dX5_readShip_9 rfl (lv_at hl 0 rfl) ?_
    refine lv_iconst (v := 0) hx hb dX5_readShip_10 (by decide) ?_
    refine lv_bipush (v := 20) hx hb dX5_readShip_11 (by decide) ?_
    obtain ⟨q25, e26, h⟩ := bnd h
    refine call_i C hP hS (c_X5_readShipCell e26) mi_X5_readShipCell mw_463 3 (by decide) rfl rfl ⟨Nat.le_of_ble_eq_true rfl, Nat.le_of_ble_eq_true rfl⟩ (As := [.int 0, .int 20]) rfl hl.1 rfl (lv_room (Nat.le_of_ble_eq_true rfl)) dX5_readShip_13 (fun H locs hP hS => ?_)
    refine lv_if_eq (tgt := 70) hx hb dX5_readShip_16 (by decide) (fun c27 => ?_) (fun c27 => ?_)
    · replace h := h_t c27 h
      refine lv_iconst (v := 0) hx hb dX5_readShip_70 (by decide) ?_
      exact ret_z C hr hlocks hP hS h (Or.inl rfl) dX5_readShip_71
    · replace h := h_f c27 h
      refine lv_aload_n hx hb dX5_readShip_19 rfl (lv_at hl 0 rfl) ?_
      refine lv_bipush (v := 44) hx hb dX5_readShip_20 (by decide) ?_
      obtain ⟨q28, e29, h⟩ := bnd h
      refine call_i C hP hS (c_X5_readByte e29) mi_X5_readByte mw_451 3 (by decide) rfl rfl ⟨Nat.le_of_ble_eq_true rfl, Nat.le_of_ble_eq_true rfl⟩ (As := [.int 44]) rfl hl.1 rfl (lv_room (Nat.le_of_ble_eq_true rfl)) dX5_readShip_22 (fun H locs hP hS => ?_)
      refine lv_if_eq (tgt := 70) hx hb dX5_readShip_25 (by decide) (fun c30 => ?_) (fun c30 => ?_)
      · replace h := h_t c30 h
        refine lv_iconst (v := 0) hx hb dX5_readShip_70 (by decide) ?_
        exact ret_z C hr hlocks hP hS h (Or.inl rfl) dX5_readShip_71
      · replace h := h_f c30 h
        refine lv_aload_n hx hb dX5_readShip_28 rfl (lv_at hl 0 rfl) ?_
        refine lv_iconst (v := 1) hx hb dX5_readShip_29 (by decide) ?_
        refine lv_bipush (v := 60) hx hb dX5_readShip_30 (by decide) ?_
        obtain ⟨q31, e32, h⟩ := bnd h
        refine call_i C hP hS (c_X5_readShipCell e32) mi_X5_readShipCell mw_463 3 (by decide) rfl rfl ⟨Nat.le_of_ble_eq_true rfl, Nat.le_of_ble_eq_true rfl⟩ (As := [.int 1, .int 60]) rfl hl.1 rfl (lv_room (Nat.le_of_ble_eq_true rfl)) dX5_readShip_32 (fun H locs hP hS => ?_)
        refine lv_if_eq (tgt := 70) hx hb dX5_readShip_35 (by decide) (fun c33 => ?_) (fun c33 => ?_)
        · replace h := h_t c33 h
          refine lv_iconst (v := 0) hx hb dX5_readShip_70 (by decide) ?_
          exact ret_z C hr hlocks hP hS h (Or.inl rfl) dX5_readShip_71
        · replace h := h_f c33 h
          refine lv_aload_n hx hb dX5_readShip_38 rfl (lv_at hl 0 rfl) ?_
          refine lv_bipush (v := 44) hx hb dX5_readShip_39 (by decide) ?_
          obtain ⟨q34, e35, h⟩ := bnd h
          refine call_i C hP hS (c_X5_readByte e35) mi_X5_readByte mw_451 3 (by decide) rfl rfl ⟨Nat.le_of_ble_eq_true rfl, Nat.le_of_ble_eq_true rfl⟩ (As := [.int 44]) rfl hl.1 rfl (lv_room (Nat.le_of_ble_eq_true rfl)) dX5_readShip_41 (fun H locs hP hS => ?_)
          refine lv_if_eq (tgt := 70) hx hb dX5_readShip_44 (by decide) (fun c36 => ?_) (fun c36 => ?_)
          · replace h := h_t c36 h
            refine lv_iconst (v := 0) hx hb dX5_readShip_70 (by decide) ?_
            exact ret_z C hr hlocks hP hS h (Or.inl rfl) dX5_readShip_71
          · replace h := h_f c36 h
            refine lv_aload_n hx hb dX5_readShip_47 rfl (lv_at hl 0 rfl) ?_
            refine lv_iconst (v := 2) hx hb dX5_readShip_48 (by decide) ?_
            refine lv_bipush (v := 60) hx hb dX5_readShip_49 (by decide) ?_
            obtain ⟨q37, e38, h⟩ := bnd h
            refine call_i C hP hS (c_X5_readShipCell e38) mi_X5_readShipCell mw_463 3 (by decide) rfl rfl ⟨Nat.le_of_ble_eq_true rfl, Nat.le_of_ble_eq_true rfl⟩ (As := [.int 2, .int 60]) rfl hl.1 rfl (lv_room (Nat.le_of_ble_eq_true rfl)) dX5_readShip_51 (fun H locs hP hS => ?_)
            refine lv_if_eq (tgt := 70) hx hb dX5_readShip_54 (by decide) (fun c39 => ?_) (fun c39 => ?_)
            · replace h := h_t c39 h
              refine lv_iconst (v := 0) hx hb dX5_readShip_70 (by decide) ?_
              exact ret_z C hr hlocks hP hS h (Or.inl rfl) dX5_readShip_71
            · replace h := h_f c39 h
              refine lv_aload_n hx hb dX5_readShip_57 rfl (lv_at hl 0 rfl) ?_
              refine lv_bipush (v := 59) hx hb dX5_readShip_58 (by decide) ?_
              obtain ⟨q40, e41, h⟩ := bnd h
              refine call_i C hP hS (c_X5_readByte e41) mi_X5_readByte mw_451 3 (by decide) rfl rfl ⟨Nat.le_of_ble_eq_true rfl, Nat.le_of_ble_eq_true rfl⟩ (As := [.int 59]) rfl hl.1 rfl (lv_room (Nat.le_of_ble_eq_true rfl)) dX5_readShip_60 (fun H locs hP hS => ?_)
              refine lv_if_eq (tgt := 70) hx hb dX5_readShip_63 (by decide) (fun c42 => ?_) (fun c42 => ?_)
              · replace h := h_t c42 h
                refine lv_iconst (v := 0) hx hb dX5_readShip_70 (by decide) ?_
                exact ret_z C hr hlocks hP hS h (Or.inl rfl) dX5_readShip_71
              · replace h := h_f c42 h
                refine lv_iconst (v := 1) hx hb dX5_readShip_66 (by decide) ?_
                refine lv_goto (tgt := 71) hx hb dX5_readShip_67 (by decide) ?_
                exact ret_z C hr hlocks hP hS h (Or.inr rfl) dX5_readShip_71
set_option maxHeartbeats 4000000 in
set_option maxRecDepth 100000 in
theorem c_X6_heightCell_11 {l : Launch} {G : GT} {lam : Lm} {σ : St} {a1 : Int32} {q : Int32 × St} (h : f_X6_heightCell 17 σ a1 = some q) : Met l yX6_heightCell (Cond.code yX6_heightCell cX6_heightCell 2 ((some .int)) :: TB) ({ frames := 0, cells := 0, slots := 0, locals := 0 } : Room) (va_Pc [.ref (g_ad G 11), .int a1] (GW G lam σ)) (Ri q G lam) 0 0 (g_A G) := by
  refine mk_Qi (own := RX6) (by decide) (Nat.le_of_ble_eq_true rfl) rfl (fun p e s m args below meth c C hr hlocks hP ls hl => ?_)
  have hx := C.1
  have hb := C.2.1
  have hl : lv_has ls 2 [(0, .ref (g_ad G 11)), (1, .int a1)] := hl
  have hS : va_S (g_A G) s.heap s.heap [] := va_S.rf
  unfold f_X6_heightCell at h
  refine lv_iload_n hx hb dX6_heightCell_0 rfl (lv_at hl 1 rfl) ?_
  refine lv_if_lt (tgt := 21) hx hb dX6_heightCell_1 (by decide) (fun c4 => ?_) (fun c4 => ?_)
  · replace h := h_t c4 h
    refine lv_iconst (v := 0) hx hb dX6_heightCell_21 (by decide) ?_
    exact ret_i C hr hlocks hP hS h dX6_heightCell_22
  · replace h := h_f c4 h
    refine lv_iload_n hx hb dX6_heightCell_4 rfl (lv_at hl 1 rfl) ?_
    refine lv_bipush (v := 6) hx hb dX6_heightCell_5 (by decide) ?_
    refine lv_icmp_ge (tgt := 21) hx hb dX6_heightCell_7 (by decide) (fun c5 => ?_) (fun c5 => ?_)
    · replace h := h_t c5 h
      refine lv_iconst (v := 0) hx hb dX6_heightCell_21 (by decide) ?_
      exact ret_i C hr hlocks hP hS h dX6_heightCell_22
    · replace h := h_f c5 h
      refine lv_aload_n hx hb dX6_heightCell_10 rfl (lv_at hl 0 rfl) ?_
      refine gf_X6_11_11 C hP dX6_heightCell_11 ?_
      refine lv_iconst (v := 5) hx hb dX6_heightCell_14 (by decide) ?_
      refine lv_iload_n hx hb dX6_heightCell_15 rfl (lv_at hl 1 rfl) ?_
      refine lv_iadd hx hb dX6_heightCell_16 ?_
      obtain ⟨g6, h⟩ := h_g h
      refine r_ald C hP 17 (by decide) rfl (vp_in_iff.mpr g6) dX6_heightCell_17 ?_
      refine lv_goto (tgt := 22) hx hb dX6_heightCell_18 (by decide) ?_
      exact ret_i C hr hlocks hP hS h dX6_heightCell_22
set_option maxHeartbeats 4000000 in
set_option maxRecDepth 100000 in
theorem c_X6_putHeightCell_11 {l : Launch} {G : GT} {lam : Lm} {σ : St} {a1 : Int32} {a2 : Int32} {q : Int32 × St} (h : f_X6_putHeightCell 17 σ a1 a2 = some q) : Met l yX6_putHeightCell (Cond.code yX6_putHeightCell cX6_putHeightCell 4 ((some .int)) :: TB) ({ frames := 1, cells := 0, slots := 0, locals := 21 } : Room) (va_Pc [.ref (g_ad G 11), .int a1, .int a2] (GW G lam σ)) (Ri q G lam) 0 0 (g_A G) := by
  refine mk_Qi (own := RX6) (by decide) (Nat.le_of_ble_eq_true rfl) rfl (fun p e s m args below meth c C hr hlocks hP ls hl => ?_)
  have hx := C.1
  have hb := C.2.1
  have hl : lv_has ls 4 [(0, .ref (g_ad G 11)), (1, .int a1), (2, .int a2)] := hl
  have J25 : ∀ (σ : St) (x3 : Int32) (H : Heap) (locs : List Loc) (ls : Array Slot), f_X6_putHeightCell_p25 17 σ x3 = some q → va_P (g_D G) vwCl (allW G lam σ) H → va_S (g_A G) s.heap H locs → lv_has ls 4 [(3, .int x3)] → W p l e ({ frames := 1, cells := 0, slots := 0, locals := 21 } : Room) s m args below meth c H locs 0 0 (Qi q below args s G lam) (F0 m 25 ls []) := by
    intro σ x3 H locs ls h hP hS hl
    unfold f_X6_putHeightCell_p25 at h
    refine lv_iload_n hx hb dX6_putHeightCell_25 rfl (lv_at hl 0 rfl) ?_
    exact ret_i C hr hlocks hP hS h dX6_putHeightCell_26
  have hS : va_S (g_A G) s.heap s.heap [] := va_S.rf
  unfold f_X6_putHeightCell at h
  obtain ⟨H, hH⟩ : ∃ H, H = s.heap := ⟨_, rfl⟩
  obtain ⟨locs, hlo⟩ : ∃ k : List Loc, k = [] := ⟨_, rfl⟩
  rw [← hH, ← hlo]
  rw [← hH] at hP
  replace hS : va_S (g_A G) s.heap H locs := by rw [hH, hlo]; exact hS
  refine lv_aload_n hx hb dX6_putHeightCell_0 rfl (lv_at hl 0 rfl) ?_
  refine lv_iload_n hx hb dX6_putHeightCell_1 rfl (lv_at hl 1 rfl) ?_
  obtain ⟨q8, e9, h⟩ := bnd h
  refine call_i C hP hS (c_X6_heightCell_11 e9) mi_X6_heightCell mw_490 11 (by decide) rfl rfl ⟨Nat.le_of_ble_eq_true rfl, Nat.le_of_ble_eq_true rfl⟩ (As := [.int a1]) rfl hl.1 rfl (lv_room (Nat.le_of_ble_eq_true rfl)) dX6_putHeightCell_2 (fun H locs hP hS => ?_)
  refine lv_istore_n (lv' := [(3, .int q8.1), (0, .ref (g_ad G 11)), (1, .int a1), (2, .int a2)]) hx hb dX6_putHeightCell_5 rfl hl (by decide) rfl (fun ls hl => ?_)
  refine lv_iload_n hx hb dX6_putHeightCell_6 rfl (lv_at hl 2 rfl) ?_
  refine lv_if_lt (tgt := 25) hx hb dX6_putHeightCell_7 (by decide) (fun c10 => ?_) (fun c10 => ?_)
  · replace h := h_t c10 h
    exact J25 _ _ H locs ls h hP hS (lv_sub hl [0] rfl)
  · replace h := h_f c10 h
    refine lv_iload_n hx hb dX6_putHeightCell_10 rfl (lv_at hl 2 rfl) ?_
    refine lv_bipush (v := 6) hx hb dX6_putHeightCell_11 (by decide) ?_
    refine lv_icmp_ge (tgt := 25) hx hb dX6_putHeightCell_13 (by decide) (fun c11 => ?_) (fun c11 => ?_)
    · replace h := h_t c11 h
      exact J25 _ _ H locs ls h hP hS (lv_sub hl [0] rfl)
    · replace h := h_f c11 h
      refine lv_aload_n hx hb dX6_putHeightCell_16 rfl (lv_at hl 1 rfl) ?_
      refine gf_X6_11_11 C hP dX6_putHeightCell_17 ?_
      refine lv_iconst (v := 5) hx hb dX6_putHeightCell_20 (by decide) ?_
      refine lv_iload_n hx hb dX6_putHeightCell_21 rfl (lv_at hl 2 rfl) ?_
      refine lv_iadd hx hb dX6_putHeightCell_22 ?_
      refine lv_iload_n hx hb dX6_putHeightCell_23 rfl (lv_at hl 3 rfl) ?_
      obtain ⟨g12, h⟩ := h_g h
      refine r_ast C hP hS 17 (by decide) (fun _ => rfl) (vp_in_iff.mpr g12) dX6_putHeightCell_24 (fun H locs hP hS => ?_)
      obtain ⟨σ13, e14, h⟩ := bnd h
      have hP := hPn e14 hP
      exact J25 _ _ H locs ls h hP hS (lv_sub hl [0] rfl)
set_option maxHeartbeats 4000000 in
set_option maxRecDepth 100000 in
theorem c_X5_readTide {l : Launch} {G : GT} {lam : Lm} {σ : St} {q : Int32 × St} (h : f_X5_readTide σ = some q) : Met l yX5_readTide (Cond.code yX5_readTide cX5_readTide 3 ((some .boolean)) :: TB) ({ frames := 2, cells := 0, slots := 0, locals := 45 } : Room) (va_Pc [.ref (g_ad G 3)] (GW G lam σ)) (Ri q G lam) 0 0 (g_A G) := by
  refine mk_Qi (own := RX5) (by decide) (Nat.le_of_ble_eq_true rfl) rfl (fun p e s m args below meth c C hr hlocks hP ls hl => ?_)
  have hx := C.1
  have hb := C.2.1
  have hl : lv_has ls 3 [(0, .ref (g_ad G 3))] := hl
  have J110 : ∀ (σ : St) (H : Heap) (locs : List Loc) (ls : Array Slot), f_X5_readTide_p110 σ = some q → va_P (g_D G) vwCl (allW G lam σ) H → va_S (g_A G) s.heap H locs → lv_has ls 3 [(0, .ref (g_ad G 3))] → W p l e ({ frames := 2, cells := 0, slots := 0, locals := 45 } : Room) s m args below meth c H locs 0 0 (Qi q below args s G lam) (F0 m 110 ls []) := by
    intro σ H locs ls h hP hS hl
    unfold f_X5_readTide_p110 at h
    refine lv_aload_n hx hb dX5_readTide_110 rfl (lv_at hl 0 rfl) ?_
    refine lv_bipush (v := 59) hx hb dX5_readTide_111 (by decide) ?_
    obtain ⟨q25, e26, h⟩ := bnd h
    refine call_i C hP hS (c_X5_readByte e26) mi_X5_readByte mw_451 3 (by decide) rfl rfl ⟨Nat.le_of_ble_eq_true rfl, Nat.le_of_ble_eq_true rfl⟩ (As := [.int 59]) rfl hl.1 rfl (lv_room (Nat.le_of_ble_eq_true rfl)) dX5_readTide_113 (fun H locs hP hS => ?_)
    obtain ⟨g27, h⟩ := h_g h
    exact ret_z C hr hlocks hP hS h g27 dX5_readTide_116
  have L15 : ∀ (n15 : Nat) (σ : St) (x1 : Int32) (x2 : Int32) (H : Heap) (locs : List Loc) (ls : Array Slot), fx (F_X5_readTide_h15) z_X5_readTide_h15 n15 σ x1 x2 = some q → va_P (g_D G) vwCl (allW G lam σ) H → va_S (g_A G) s.heap H locs → lv_has ls 3 [(0, .ref (g_ad G 3)), (1, .int x1), (2, .int x2)] → W p l e ({ frames := 2, cells := 0, slots := 0, locals := 45 } : Room) s m args below meth c H locs 0 0 (Qi q below args s G lam) (F0 m 15 ls []) := by
    intro n15
    induction n15 with
    | zero => intro σ x1 x2 H locs ls h hP hS hl; exact absurd h (by intro h9; cases h9)
    | succ n15 ih15 =>
      have J104 : ∀ (σ : St) (x1 : Int32) (x2 : Int32) (H : Heap) (locs : List Loc) (ls : Array Slot), f_X5_readTide_p104 (fx (F_X5_readTide_h15) z_X5_readTide_h15 n15) σ x1 x2 = some q → va_P (g_D G) vwCl (allW G lam σ) H → va_S (g_A G) s.heap H locs → lv_has ls 3 [(0, .ref (g_ad G 3)), (1, .int x1), (2, .int x2)] → W p l e ({ frames := 2, cells := 0, slots := 0, locals := 45 } : Room) s m args below meth c H locs 0 0 (Qi q below args s G lam) (F0 m 104 ls []) := by
        intro σ x1 x2 H locs ls h hP hS hl
        unfold f_X5_readTide_p104 at h
        obtain ⟨y28, e29, h⟩ := bnd h
        refine lv_iinc (v := y28) (lv' := [(2, .int y28), (0, .ref (g_ad G 3)), (1, .int x1)]) hx hb dX5_readTide_104 hl (k := 2) rfl (Option.some.inj e29) (by decide) rfl (fun ls hl => ?_)
        refine lv_goto (tgt := 15) hx hb dX5_readTide_107 (by decide) ?_
        exact ih15 _ _ _ H locs ls h hP hS (lv_sub hl [1, 2, 0] rfl)
      have J89 : ∀ (σ : St) (x2 : Int32) (t0 : Int32) (H : Heap) (locs : List Loc) (ls : Array Slot), f_X5_readTide_p89 (fx (F_X5_readTide_h15) z_X5_readTide_h15 n15) σ x2 t0 = some q → va_P (g_D G) vwCl (allW G lam σ) H → va_S (g_A G) s.heap H locs → lv_has ls 3 [(0, .ref (g_ad G 3)), (2, .int x2)] → W p l e ({ frames := 2, cells := 0, slots := 0, locals := 45 } : Room) s m args below meth c H locs 0 0 (Qi q below args s G lam) (F0 m 89 ls [.int t0]) := by
        intro σ x2 t0 H locs ls h hP hS hl
        unfold f_X5_readTide_p89 at h
        refine lv_istore_n (lv' := [(1, .int t0), (0, .ref (g_ad G 3)), (2, .int x2)]) hx hb dX5_readTide_89 rfl hl (by decide) rfl (fun ls hl => ?_)
        refine lv_iload_n hx hb dX5_readTide_90 rfl (lv_at hl 0 rfl) ?_
        refine lv_if_eq (tgt := 104) hx hb dX5_readTide_91 (by decide) (fun c30 => ?_) (fun c30 => ?_)
        · replace h := h_t c30 h
          exact J104 _ _ _ H locs ls h hP hS (lv_sub hl [1, 0, 2] rfl)
        · replace h := h_f c30 h
          refine lv_aload_n hx hb dX5_readTide_94 rfl (lv_at hl 1 rfl) ?_
          refine lv_dup hx hb dX5_readTide_95 rfl ?_
          refine gf_X5_23_3 C hP dX5_readTide_96 ?_
          refine lv_iconst (v := 1) hx hb dX5_readTide_99 (by decide) ?_
          refine lv_iadd hx hb dX5_readTide_100 ?_
          refine pf_X5_23_3 C hP hS dX5_readTide_101 (fun H locs hP hS => ?_)
          obtain ⟨σ31, e32, h⟩ := bnd h
          have hP := hPn e32 hP
          exact J104 _ _ _ H locs ls h hP hS (lv_sub hl [1, 0, 2] rfl)
      have J88 : ∀ (σ : St) (x2 : Int32) (H : Heap) (locs : List Loc) (ls : Array Slot), f_X5_readTide_p88 (fx (F_X5_readTide_h15) z_X5_readTide_h15 n15) σ x2 = some q → va_P (g_D G) vwCl (allW G lam σ) H → va_S (g_A G) s.heap H locs → lv_has ls 3 [(0, .ref (g_ad G 3)), (2, .int x2)] → W p l e ({ frames := 2, cells := 0, slots := 0, locals := 45 } : Room) s m args below meth c H locs 0 0 (Qi q below args s G lam) (F0 m 88 ls []) := by
        intro σ x2 H locs ls h hP hS hl
        unfold f_X5_readTide_p88 at h
        refine lv_iconst (v := 0) hx hb dX5_readTide_88 (by decide) ?_
        exact J89 _ _ _ H locs ls h hP hS (lv_sub hl [0, 1] rfl)
      intro σ x1 x2 H locs ls h hP hS hl
      change F_X5_readTide_h15 (fx (F_X5_readTide_h15) z_X5_readTide_h15 n15) σ x1 x2 = some q at h
      unfold F_X5_readTide_h15 at h
      refine lv_iload_n hx hb dX5_readTide_15 rfl (lv_at hl 2 rfl) ?_
      refine lv_bipush (v := 6) hx hb dX5_readTide_16 (by decide) ?_
      refine lv_icmp_ge (tgt := 110) hx hb dX5_readTide_18 (by decide) (fun c33 => ?_) (fun c33 => ?_)
      · replace h := h_t c33 h
        exact J110 _ H locs ls h hP hS (lv_sub hl [0] rfl)
      · replace h := h_f c33 h
        refine lv_iload_n hx hb dX5_readTide_21 rfl (lv_at hl 1 rfl) ?_
        refine lv_if_eq (tgt := 110) hx hb dX5_readTide_22 (by decide) (fun c34 => ?_) (fun c34 => ?_)
        · replace h := h_t c34 h
          exact J110 _ H locs ls h hP hS (lv_sub hl [0] rfl)
        · replace h := h_f c34 h
          refine lv_aload_n hx hb dX5_readTide_25 rfl (lv_at hl 0 rfl) ?_
          refine lv_iconst (v := 0) hx hb dX5_readTide_26 (by decide) ?_
          refine lv_bipush (v := 20) hx hb dX5_readTide_27 (by decide) ?_
          obtain ⟨q35, e36, h⟩ := bnd h
          refine call_i C hP hS (c_X5_readNumber e36) mi_X5_readNumber mw_467 3 (by decide) rfl rfl ⟨Nat.le_of_ble_eq_true rfl, Nat.le_of_ble_eq_true rfl⟩ (As := [.int 0, .int 20]) rfl hl.1 rfl (lv_room (Nat.le_of_ble_eq_true rfl)) dX5_readTide_29 (fun H locs hP hS => ?_)
          refine lv_if_ne (tgt := 37) hx hb dX5_readTide_32 (by decide) (fun c37 => ?_) (fun c37 => ?_)
          · replace h := h_f c37 h
            refine lv_aload_n hx hb dX5_readTide_37 rfl (lv_at hl 0 rfl) ?_
            refine gf_X5_10_3 C hP dX5_readTide_38 ?_
            refine lv_iload_n hx hb dX5_readTide_41 rfl (lv_at hl 2 rfl) ?_
            refine lv_aload_n hx hb dX5_readTide_42 rfl (lv_at hl 0 rfl) ?_
            refine gf_X5_26_3 C hP dX5_readTide_43 ?_
            obtain ⟨q38, e39, h⟩ := bnd h
            refine call_i C hP hS (c_X6_putHeightCell_11 e39) mi_X6_putHeightCell mw_486 11 (by decide) rfl rfl ⟨Nat.le_of_ble_eq_true rfl, Nat.le_of_ble_eq_true rfl⟩ (As := [.int x2, .int (q35.2 3 5)]) rfl hl.1 rfl (lv_room (Nat.le_of_ble_eq_true rfl)) dX5_readTide_46 (fun H locs hP hS => ?_)
            refine lv_pop hx hb dX5_readTide_49 rfl ?_
            refine lv_aload_n hx hb dX5_readTide_50 rfl (lv_at hl 0 rfl) ?_
            refine gf_X5_10_3 C hP dX5_readTide_51 ?_
            refine lv_iload_n hx hb dX5_readTide_54 rfl (lv_at hl 2 rfl) ?_
            refine lv_iconst (v := 1) hx hb dX5_readTide_55 (by decide) ?_
            refine lv_iadd hx hb dX5_readTide_56 ?_
            obtain ⟨q40, e41, h⟩ := bnd h
            refine call_v C hP hS (c_X6_countHeights_11 e41) mi_X6_countHeights mw_429 11 (by decide) rfl rfl ⟨Nat.le_of_ble_eq_true rfl, Nat.le_of_ble_eq_true rfl⟩ (As := [.int (x2 + 1)]) rfl hl.1 rfl (lv_room (Nat.le_of_ble_eq_true rfl)) dX5_readTide_57 (fun H locs hP hS => ?_)
            refine lv_iload_n hx hb dX5_readTide_60 rfl (lv_at hl 2 rfl) ?_
            refine lv_iconst (v := 1) hx hb dX5_readTide_61 (by decide) ?_
            refine lv_iadd hx hb dX5_readTide_62 ?_
            refine lv_bipush (v := 6) hx hb dX5_readTide_63 (by decide) ?_
            refine lv_icmp_ge (tgt := 88) hx hb dX5_readTide_65 (by decide) (fun c42 => ?_) (fun c42 => ?_)
            · replace h := h_t c42 h
              exact J88 _ _ H locs ls h hP hS (lv_sub hl [0, 2] rfl)
            · replace h := h_f c42 h
              refine lv_aload_n hx hb dX5_readTide_68 rfl (lv_at hl 0 rfl) ?_
              refine gf_X5_29_3 C hP dX5_readTide_69 ?_
              refine lv_aload_n hx hb dX5_readTide_72 rfl (lv_at hl 0 rfl) ?_
              refine gf_X5_23_3 C hP dX5_readTide_73 ?_
              obtain ⟨q43, e44, h⟩ := bnd h
              refine call_i C hP hS (c_X7_byteAt e44) mi_X7_byteAt mw_455 1 (by decide) rfl rfl ⟨Nat.le_of_ble_eq_true rfl, Nat.le_of_ble_eq_true rfl⟩ (As := [.int (q40 3 4)]) rfl hl.1 rfl (lv_room (Nat.le_of_ble_eq_true rfl)) dX5_readTide_76 (fun H locs hP hS => ?_)
              refine lv_bipush (v := 44) hx hb dX5_readTide_79 (by decide) ?_
              refine lv_icmp_ne (tgt := 88) hx hb dX5_readTide_81 (by decide) (fun c45 => ?_) (fun c45 => ?_)
              · replace h := h_f c45 h
                exact J88 _ _ H locs ls h hP hS (lv_sub hl [0, 2] rfl)
              · replace h := h_t c45 h
                refine lv_iconst (v := 1) hx hb dX5_readTide_84 (by decide) ?_
                refine lv_goto (tgt := 89) hx hb dX5_readTide_85 (by decide) ?_
                exact J89 _ _ _ H locs ls h hP hS (lv_sub hl [0, 2] rfl)
          · replace h := h_t c37 h
            refine lv_iconst (v := 0) hx hb dX5_readTide_35 (by decide) ?_
            exact ret_z C hr hlocks hP hS h (Or.inl rfl) dX5_readTide_36
  have hS : va_S (g_A G) s.heap s.heap [] := va_S.rf
  unfold f_X5_readTide at h
  obtain ⟨H, hH⟩ : ∃ H, H = s.heap := ⟨_, rfl⟩
  obtain ⟨locs, hlo⟩ : ∃ k : List Loc, k = [] := ⟨_, rfl⟩
  rw [← hH, ← hlo]
  rw [← hH] at hP
  replace hS : va_S (g_A G) s.heap H locs := by rw [hH, hlo]; exact hS
  refine lv_aload_n hx hb dX5_readTide_0 rfl (lv_at hl 0 rfl) ?_
  refine lv_bipush (v := 116) hx hb dX5_readTide_1 (by decide) ?_
  obtain ⟨q46, e47, h⟩ := bnd h
  refine call_i C hP hS (c_X5_readByte e47) mi_X5_readByte mw_451 3 (by decide) rfl rfl ⟨Nat.le_of_ble_eq_true rfl, Nat.le_of_ble_eq_true rfl⟩ (As := [.int 116]) rfl hl.1 rfl (lv_room (Nat.le_of_ble_eq_true rfl)) dX5_readTide_3 (fun H locs hP hS => ?_)
  refine lv_if_ne (tgt := 11) hx hb dX5_readTide_6 (by decide) (fun c48 => ?_) (fun c48 => ?_)
  · replace h := h_f c48 h
    refine lv_iconst (v := 1) hx hb dX5_readTide_11 (by decide) ?_
    refine lv_istore_n (lv' := [(1, .int 1), (0, .ref (g_ad G 3))]) hx hb dX5_readTide_12 rfl hl (by decide) rfl (fun ls hl => ?_)
    refine lv_iconst (v := 0) hx hb dX5_readTide_13 (by decide) ?_
    refine lv_istore_n (lv' := [(2, .int 0), (1, .int 1), (0, .ref (g_ad G 3))]) hx hb dX5_readTide_14 rfl hl (by decide) rfl (fun ls hl => ?_)
    exact L15 FU _ _ _ H locs ls h hP hS (lv_sub hl [2, 1, 0] rfl)
  · replace h := h_t c48 h
    refine lv_iconst (v := 0) hx hb dX5_readTide_9 (by decide) ?_
    exact ret_z C hr hlocks hP hS h (Or.inl rfl) dX5_readTide_10
set_option maxHeartbeats 4000000 in
set_option maxRecDepth 100000 in
theorem c_X5_readHarbour {l : Launch} {G : GT} {lam : Lm} {σ : St} {q : Int32 × St} (h : f_X5_readHarbour σ = some q) : Met l yX5_readHarbour (Cond.code yX5_readHarbour cX5_readHarbour 1 ((some .boolean)) :: TB) ({ frames := 3, cells := 0, slots := 0, locals := 67 } : Room) (va_Pc [.ref (g_ad G 3)] (GW G lam σ)) (Ri q G lam) 0 0 (g_A G) := by
  refine mk_Qi (own := RX5) (by decide) (Nat.le_of_ble_eq_true rfl) rfl (fun p e s m args below meth c C hr hlocks hP ls hl => ?_)
  have hx := C.1
  have hb := C.2.1
  have hl : lv_has ls 1 [(0, .ref (g_ad G 3))] := hl
  have hS : va_S (g_A G) s.heap s.heap [] := va_S.rf
  unfold f_X5_readHarbour at h
  refine lv_aload_n hx hb dX5_readHarbour_0 rfl (lv_at hl 0 rfl) ?_
  refine lv_bipush (v := 122) hx hb dX5_readHarbour_1 (by decide) ?_
  obtain ⟨q16, e17, h⟩ := bnd h
  refine call_i C hP hS (c_X5_readByte e17) mi_X5_readByte mw_451 3 (by decide) rfl rfl ⟨Nat.le_of_ble_eq_true rfl, Nat.le_of_ble_eq_true rfl⟩ (As := [.int 122]) rfl hl.1 rfl (lv_room (Nat.le_of_ble_eq_true rfl)) dX5_readHarbour_3 (fun H locs hP hS => ?_)
  refine lv_if_eq (tgt := 51) hx hb dX5_readHarbour_6 (by decide) (fun c18 => ?_) (fun c18 => ?_)
  · replace h := h_t c18 h
    refine lv_iconst (v := 0) hx hb dX5_readHarbour_51 (by decide) ?_
    exact ret_z C hr hlocks hP hS h (Or.inl rfl) dX5_readHarbour_52
  · replace h := h_f c18 h
    refine lv_aload_n hx hb dX5_readHarbour_9 rfl (lv_at hl 0 rfl) ?_
    refine lv_iconst (v := 3) hx hb dX5_readHarbour_10 (by decide) ?_
    refine lv_bipush (v := 60) hx hb dX5_readHarbour_11 (by decide) ?_
    obtain ⟨q19, e20, h⟩ := bnd h
    refine call_i C hP hS (c_X5_readShipCell e20) mi_X5_readShipCell mw_463 3 (by decide) rfl rfl ⟨Nat.le_of_ble_eq_true rfl, Nat.le_of_ble_eq_true rfl⟩ (As := [.int 3, .int 60]) rfl hl.1 rfl (lv_room (Nat.le_of_ble_eq_true rfl)) dX5_readHarbour_13 (fun H locs hP hS => ?_)
    refine lv_if_eq (tgt := 51) hx hb dX5_readHarbour_16 (by decide) (fun c21 => ?_) (fun c21 => ?_)
    · replace h := h_t c21 h
      refine lv_iconst (v := 0) hx hb dX5_readHarbour_51 (by decide) ?_
      exact ret_z C hr hlocks hP hS h (Or.inl rfl) dX5_readHarbour_52
    · replace h := h_f c21 h
      refine lv_aload_n hx hb dX5_readHarbour_19 rfl (lv_at hl 0 rfl) ?_
      refine lv_bipush (v := 44) hx hb dX5_readHarbour_20 (by decide) ?_
      obtain ⟨q22, e23, h⟩ := bnd h
      refine call_i C hP hS (c_X5_readByte e23) mi_X5_readByte mw_451 3 (by decide) rfl rfl ⟨Nat.le_of_ble_eq_true rfl, Nat.le_of_ble_eq_true rfl⟩ (As := [.int 44]) rfl hl.1 rfl (lv_room (Nat.le_of_ble_eq_true rfl)) dX5_readHarbour_22 (fun H locs hP hS => ?_)
      refine lv_if_eq (tgt := 51) hx hb dX5_readHarbour_25 (by decide) (fun c24 => ?_) (fun c24 => ?_)
      · replace h := h_t c24 h
        refine lv_iconst (v := 0) hx hb dX5_readHarbour_51 (by decide) ?_
        exact ret_z C hr hlocks hP hS h (Or.inl rfl) dX5_readHarbour_52
      · replace h := h_f c24 h
        refine lv_aload_n hx hb dX5_readHarbour_28 rfl (lv_at hl 0 rfl) ?_
        refine lv_iconst (v := 4) hx hb dX5_readHarbour_29 (by decide) ?_
        refine lv_bipush (v := 60) hx hb dX5_readHarbour_30 (by decide) ?_
        obtain ⟨q25, e26, h⟩ := bnd h
        refine call_i C hP hS (c_X5_readShipCell e26) mi_X5_readShipCell mw_463 3 (by decide) rfl rfl ⟨Nat.le_of_ble_eq_true rfl, Nat.le_of_ble_eq_true rfl⟩ (As := [.int 4, .int 60]) rfl hl.1 rfl (lv_room (Nat.le_of_ble_eq_true rfl)) dX5_readHarbour_32 (fun H locs hP hS => ?_)
        refine lv_if_eq (tgt := 51) hx hb dX5_readHarbour_35 (by decide) (fun c27 => ?_) (fun c27 => ?_)
        · replace h := h_t c27 h
          refine lv_iconst (v := 0) hx hb dX5_readHarbour_51 (by decide) ?_
          exact ret_z C hr hlocks hP hS h (Or.inl rfl) dX5_readHarbour_52
        · replace h := h_f c27 h
          refine lv_aload_n hx hb dX5_readHarbour_38 rfl (lv_at hl 0 rfl) ?_
          refine lv_bipush (v := 59) hx hb dX5_readHarbour_39 (by decide) ?_
          obtain ⟨q28, e29, h⟩ := bnd h
          refine call_i C hP hS (c_X5_readByte e29) mi_X5_readByte mw_451 3 (by decide) rfl rfl ⟨Nat.le_of_ble_eq_true rfl, Nat.le_of_ble_eq_true rfl⟩ (As := [.int 59]) rfl hl.1 rfl (lv_room (Nat.le_of_ble_eq_true rfl)) dX5_readHarbour_41 (fun H locs hP hS => ?_)
          refine lv_if_eq (tgt := 51) hx hb dX5_readHarbour_44 (by decide) (fun c30 => ?_) (fun c30 => ?_)
          · replace h := h_t c30 h
            refine lv_iconst (v := 0) hx hb dX5_readHarbour_51 (by decide) ?_
            exact ret_z C hr hlocks hP hS h (Or.inl rfl) dX5_readHarbour_52
          · replace h := h_f c30 h
            refine lv_iconst (v := 1) hx hb dX5_readHarbour_47 (by decide) ?_
            refine lv_goto (tgt := 52) hx hb dX5_readHarbour_48 (by decide) ?_
            exact ret_z C hr hlocks hP hS h (Or.inr rfl) dX5_readHarbour_52
set_option maxHeartbeats 4000000 in
set_option maxRecDepth 100000 in
theorem c_J0_isLatin1_aae02 {l : Launch} {G : GT} {lam : Lm} {σ : St} {a0 : Nat} {q : Int32 × St} (h : f_J0_isLatin1_aae02 σ a0 = some q) : Met l yJ0_isLatin1_aae02 (Cond.code yJ0_isLatin1_aae02 cJ0_isLatin1_aae02 1 ((some .boolean)) :: TB) ({ frames := 0, cells := 0, slots := 0, locals := 0 } : Room) (va_Pc [.ref (g_sk G (a0))] (GW G lam σ)) (Ri q G lam) 0 0 (g_A G) := by
  refine mk_Qi (own := RJ0) (by decide) (Nat.le_of_ble_eq_true rfl) rfl (fun p e s m args below meth c C hr hlocks hP ls hl => ?_)
  have hx := C.1
  have hb := C.2.1
  have hl : lv_has ls 1 [(0, .ref (g_sk G (a0)))] := hl
  have hS : va_S (g_A G) s.heap s.heap [] := va_S.rf
  unfold f_J0_isLatin1_aae02 at h
  refine va_gets hx hb C.2.2.2.2.2.2.2.2.2.2.2.1 hS C.2.2.2.1 (C.2.2.2.2.1 _ mw_519) (fun _ h9 => h9) dJ0_isLatin1_aae02_0 ?_
  refine lv_if_eq (tgt := 17) hx hb dJ0_isLatin1_aae02_3 (by decide) (fun c4 => ?_) (fun c4 => ?_)
  · exact absurd c4 (by decide)
  · refine lv_aload_n hx hb dJ0_isLatin1_aae02_6 rfl (lv_at hl 0 rfl) ?_
    obtain ⟨g5, h⟩ := h_g h
    refine vk_getf hx hb (C.2.2.2.2.2.2.2.2.2.2.2.2.1.1 _ g5).2.1 hS C.2.2.2.1 (C.2.2.2.2.1 _ mw_1726) (fun _ h9 => h9) dJ0_isLatin1_aae02_7 ?_
    refine lv_if_ne (tgt := 17) hx hb dJ0_isLatin1_aae02_10 (by decide) (fun c6 => ?_) (fun c6 => ?_)
    · exact absurd c6 (by decide)
    · refine lv_iconst (v := 1) hx hb dJ0_isLatin1_aae02_13 (by decide) ?_
      refine lv_goto (tgt := 18) hx hb dJ0_isLatin1_aae02_14 (by decide) ?_
      exact ret_z C hr hlocks hP hS h (Or.inr rfl) dJ0_isLatin1_aae02_18
set_option maxHeartbeats 4000000 in
set_option maxRecDepth 100000 in
theorem c_J0_coder_7d493 {l : Launch} {G : GT} {lam : Lm} {σ : St} {a0 : Nat} {q : Int32 × St} (h : f_J0_coder_7d493 σ a0 = some q) : Met l yJ0_coder_7d493 (Cond.code yJ0_coder_7d493 cJ0_coder_7d493 1 ((some .byte)) :: TB) ({ frames := 0, cells := 0, slots := 0, locals := 0 } : Room) (va_Pc [.ref (g_sk G (a0))] (GW G lam σ)) (Ri q G lam) 0 0 (g_A G) := by
  refine mk_Qi (own := RJ0) (by decide) (Nat.le_of_ble_eq_true rfl) rfl (fun p e s m args below meth c C hr hlocks hP ls hl => ?_)
  have hx := C.1
  have hb := C.2.1
  have hl : lv_has ls 1 [(0, .ref (g_sk G (a0)))] := hl
  have hS : va_S (g_A G) s.heap s.heap [] := va_S.rf
  unfold f_J0_coder_7d493 at h
  refine va_gets hx hb C.2.2.2.2.2.2.2.2.2.2.2.1 hS C.2.2.2.1 (C.2.2.2.2.1 _ mw_519) (fun _ h9 => h9) dJ0_coder_7d493_0 ?_
  refine lv_if_eq (tgt := 13) hx hb dJ0_coder_7d493_3 (by decide) (fun c3 => ?_) (fun c3 => ?_)
  · exact absurd c3 (by decide)
  · refine lv_aload_n hx hb dJ0_coder_7d493_6 rfl (lv_at hl 0 rfl) ?_
    obtain ⟨g4, h⟩ := h_g h
    refine vk_getf hx hb (C.2.2.2.2.2.2.2.2.2.2.2.2.1.1 _ g4).2.1 hS C.2.2.2.1 (C.2.2.2.2.1 _ mw_1726) (fun _ h9 => h9) dJ0_coder_7d493_7 ?_
    refine lv_goto (tgt := 14) hx hb dJ0_coder_7d493_10 (by decide) ?_
    exact ret_b C hr hlocks hP hS h rfl dJ0_coder_7d493_14
set_option maxHeartbeats 4000000 in
set_option maxRecDepth 100000 in
theorem c_J0_length_8abf5 {l : Launch} {G : GT} {lam : Lm} {σ : St} {a0 : Nat} {q : Int32 × St} (h : f_J0_length_8abf5 σ a0 = some q) : Met l yJ0_length_8abf5 (Cond.code yJ0_length_8abf5 cJ0_length_8abf5 1 ((some .int)) :: TB) ({ frames := 1, cells := 0, slots := 0, locals := 20 } : Room) (va_Pc [.ref (g_sk G (a0))] (GW G lam σ)) (Ri q G lam) 0 0 (g_A G) := by
  refine mk_Qi (own := RJ0) (by decide) (Nat.le_of_ble_eq_true rfl) rfl (fun p e s m args below meth c C hr hlocks hP ls hl => ?_)
  have hx := C.1
  have hb := C.2.1
  have hl : lv_has ls 1 [(0, .ref (g_sk G (a0)))] := hl
  have hS : va_S (g_A G) s.heap s.heap [] := va_S.rf
  unfold f_J0_length_8abf5 at h
  refine lv_aload_n hx hb dJ0_length_8abf5_0 rfl (lv_at hl 0 rfl) ?_
  obtain ⟨g6, h⟩ := h_g h
  refine vk_getf hx hb (C.2.2.2.2.2.2.2.2.2.2.2.2.1.1 _ g6).2.2.1 hS C.2.2.2.1 (C.2.2.2.2.1 _ mw_1727) (fun _ h9 => h9) dJ0_length_8abf5_1 ?_
  obtain ⟨g7, h⟩ := h_g h
  refine va_tlen hx hb (C.2.2.2.2.2.2.2.2.2.2.2.2.1.1 _ g7).2.2.2 hS rfl dJ0_length_8abf5_4 ?_
  refine lv_aload_n hx hb dJ0_length_8abf5_5 rfl (lv_at hl 0 rfl) ?_
  obtain ⟨g10, h⟩ := h_g h
  obtain ⟨q8, e9, h⟩ := bnd h
  refine tcall_i C hP hS (c_J0_coder_7d493 e9) mi_J0_coder_7d493 mw_525 g10 ⟨Nat.le_of_ble_eq_true rfl, Nat.le_of_ble_eq_true rfl⟩ (As := []) rfl hl.1 rfl (lv_room (Nat.le_of_ble_eq_true rfl)) dJ0_length_8abf5_6 (fun H locs hP hS => ?_)
  refine lv_ishr hx hb dJ0_length_8abf5_9 ?_
  exact ret_i C hr hlocks hP hS h dJ0_length_8abf5_10
set_option maxHeartbeats 4000000 in
set_option maxRecDepth 100000 in
theorem c_J1_canEncode_9a6ad {l : Launch} {G : GT} {lam : Lm} {σ : St} {a1 : Int32} {q : Int32 × St} (h : f_J1_canEncode_9a6ad σ a1 = some q) : Met l yJ1_canEncode_9a6ad (Cond.code yJ1_canEncode_9a6ad cJ1_canEncode_9a6ad 1 ((some .boolean)) :: TB) ({ frames := 0, cells := 0, slots := 0, locals := 0 } : Room) (va_Pc [.int a1] (GW G lam σ)) (Ri q G lam) 0 0 (g_A G) := by
  refine mk_Qi (own := RJ1) (by decide) (Nat.le_of_ble_eq_true rfl) rfl (fun p e s m args below meth c C hr hlocks hP ls hl => ?_)
  have hx := C.1
  have hb := C.2.1
  have hl : lv_has ls 1 [(0, .int a1)] := hl
  have hS : va_S (g_A G) s.heap s.heap [] := va_S.rf
  unfold f_J1_canEncode_9a6ad at h
  refine lv_iload_n hx hb dJ1_canEncode_9a6ad_0 rfl (lv_at hl 0 rfl) ?_
  refine lv_if_lt (tgt := 15) hx hb dJ1_canEncode_9a6ad_1 (by decide) (fun c3 => ?_) (fun c3 => ?_)
  · replace h := h_t c3 h
    refine lv_iconst (v := 0) hx hb dJ1_canEncode_9a6ad_15 (by decide) ?_
    exact ret_z C hr hlocks hP hS h (Or.inl rfl) dJ1_canEncode_9a6ad_16
  · replace h := h_f c3 h
    refine lv_iload_n hx hb dJ1_canEncode_9a6ad_4 rfl (lv_at hl 0 rfl) ?_
    refine lv_sipush (v := 255) hx hb dJ1_canEncode_9a6ad_5 (by decide) ?_
    refine lv_icmp_gt (tgt := 15) hx hb dJ1_canEncode_9a6ad_8 (by decide) (fun c4 => ?_) (fun c4 => ?_)
    · replace h := h_t c4 h
      refine lv_iconst (v := 0) hx hb dJ1_canEncode_9a6ad_15 (by decide) ?_
      exact ret_z C hr hlocks hP hS h (Or.inl rfl) dJ1_canEncode_9a6ad_16
    · replace h := h_f c4 h
      refine lv_iconst (v := 1) hx hb dJ1_canEncode_9a6ad_11 (by decide) ?_
      refine lv_goto (tgt := 16) hx hb dJ1_canEncode_9a6ad_12 (by decide) ?_
      exact ret_z C hr hlocks hP hS h (Or.inr rfl) dJ1_canEncode_9a6ad_16
set_option maxHeartbeats 4000000 in
set_option maxRecDepth 100000 in
theorem c_J1_indexOfChar_4cfef {l : Launch} {G : GT} {lam : Lm} {σ : St} {a1 : Nat} {a2 : Int32} {a3 : Int32} {a4 : Int32} {q : Int32 × St} (h : f_J1_indexOfChar_4cfef σ a1 a2 a3 a4 = some q) : Met l yJ1_indexOfChar_4cfef (Cond.code yJ1_indexOfChar_4cfef cJ1_indexOfChar_4cfef 6 ((some .int)) :: TB) ({ frames := 0, cells := 0, slots := 0, locals := 0 } : Room) (va_Pc [.ref (g_sv G (a1)), .int a2, .int a3, .int a4] (GW G lam σ)) (Ri q G lam) 0 0 (g_A G) := by
  refine mk_Qi (own := RJ1) (by decide) (Nat.le_of_ble_eq_true rfl) rfl (fun p e s m args below meth c C hr hlocks hP ls hl => ?_)
  have hx := C.1
  have hb := C.2.1
  have hl : lv_has ls 6 [(0, .ref (g_sv G (a1))), (1, .int a2), (2, .int a3), (3, .int a4)] := hl
  have L7 : ∀ (n7 : Nat) (σ : St) (x0 : Nat) (x3 : Int32) (x4 : Int32) (x5 : Int32) (H : Heap) (locs : List Loc) (ls : Array Slot), fx (F_J1_indexOfChar_4cfef_h7) z_J1_indexOfChar_4cfef_h7 n7 σ x0 x3 x4 x5 = some q → va_P (g_D G) vwCl (allW G lam σ) H → va_S (g_A G) s.heap H locs → lv_has ls 6 [(0, .ref (g_sv G (x0))), (3, .int x3), (4, .int x4), (5, .int x5)] → W p l e ({ frames := 0, cells := 0, slots := 0, locals := 0 } : Room) s m args below meth c H locs 0 0 (Qi q below args s G lam) (F0 m 7 ls []) := by
    intro n7
    induction n7 with
    | zero => intro σ x0 x3 x4 x5 H locs ls h hP hS hl; exact absurd h (by intro h9; cases h9)
    | succ n7 ih7 =>
      intro σ x0 x3 x4 x5 H locs ls h hP hS hl
      change F_J1_indexOfChar_4cfef_h7 (fx (F_J1_indexOfChar_4cfef_h7) z_J1_indexOfChar_4cfef_h7 n7) σ x0 x3 x4 x5 = some q at h
      unfold F_J1_indexOfChar_4cfef_h7 at h
      refine lv_iload hx hb dJ1_indexOfChar_4cfef_7 (lv_at hl 3 rfl) ?_
      refine lv_iload_n hx hb dJ1_indexOfChar_4cfef_9 rfl (lv_at hl 1 rfl) ?_
      refine lv_icmp_ge (tgt := 31) hx hb dJ1_indexOfChar_4cfef_10 (by decide) (fun c7 => ?_) (fun c7 => ?_)
      · replace h := h_t c7 h
        refine lv_iconst (v := (-1)) hx hb dJ1_indexOfChar_4cfef_31 (by decide) ?_
        exact ret_i C hr hlocks hP hS h dJ1_indexOfChar_4cfef_32
      · replace h := h_f c7 h
        refine lv_aload_n hx hb dJ1_indexOfChar_4cfef_13 rfl (lv_at hl 0 rfl) ?_
        refine lv_iload hx hb dJ1_indexOfChar_4cfef_14 (lv_at hl 3 rfl) ?_
        obtain ⟨g8, h⟩ := h_g h
        obtain ⟨g9, h⟩ := h_g h
        refine va_tb hx hb (C.2.2.2.2.2.2.2.2.2.2.2.2.1.1 _ g8).2.2.2 hS (vp_in_iff.mpr g9) rfl dJ1_indexOfChar_4cfef_16 ?_
        refine lv_iload hx hb dJ1_indexOfChar_4cfef_17 (lv_at hl 2 rfl) ?_
        refine lv_icmp_ne (tgt := 25) hx hb dJ1_indexOfChar_4cfef_19 (by decide) (fun c10 => ?_) (fun c10 => ?_)
        · replace h := h_f c10 h
          obtain ⟨y11, e12, h⟩ := bnd h
          refine lv_iinc (v := y11) (lv' := [(5, .int y11), (0, .ref (g_sv G (x0))), (3, .int x3), (4, .int x4)]) hx hb dJ1_indexOfChar_4cfef_25 hl (k := 3) rfl (Option.some.inj e12) (by decide) rfl (fun ls hl => ?_)
          refine lv_goto (tgt := 7) hx hb dJ1_indexOfChar_4cfef_28 (by decide) ?_
          exact ih7 _ _ _ _ _ H locs ls h hP hS (lv_sub hl [1, 2, 3, 0] rfl)
        · replace h := h_t c10 h
          refine lv_iload hx hb dJ1_indexOfChar_4cfef_22 (lv_at hl 3 rfl) ?_
          exact ret_i C hr hlocks hP hS h dJ1_indexOfChar_4cfef_24
  have hS : va_S (g_A G) s.heap s.heap [] := va_S.rf
  unfold f_J1_indexOfChar_4cfef at h
  obtain ⟨H, hH⟩ : ∃ H, H = s.heap := ⟨_, rfl⟩
  obtain ⟨locs, hlo⟩ : ∃ k : List Loc, k = [] := ⟨_, rfl⟩
  rw [← hH, ← hlo]
  rw [← hH] at hP
  replace hS : va_S (g_A G) s.heap H locs := by rw [hH, hlo]; exact hS
  refine lv_iload_n hx hb dJ1_indexOfChar_4cfef_0 rfl (lv_at hl 1 rfl) ?_
  refine lv_i2b hx hb dJ1_indexOfChar_4cfef_1 rfl ?_
  obtain ⟨y13, e14, h⟩ := bnd h
  refine r_nm e14 ?_
  refine lv_istore (lv' := [(4, .int y13), (0, .ref (g_sv G (a1))), (1, .int a2), (2, .int a3), (3, .int a4)]) hx hb dJ1_indexOfChar_4cfef_2 hl (by decide) rfl (fun ls hl => ?_)
  refine lv_iload_n hx hb dJ1_indexOfChar_4cfef_4 rfl (lv_at hl 3 rfl) ?_
  refine lv_istore (lv' := [(5, .int a3), (4, .int y13), (0, .ref (g_sv G (a1))), (1, .int a2), (2, .int a3), (3, .int a4)]) hx hb dJ1_indexOfChar_4cfef_5 hl (by decide) rfl (fun ls hl => ?_)
  exact L7 FU _ _ _ _ _ H locs ls h hP hS (lv_sub hl [2, 5, 1, 0] rfl)
set_option maxHeartbeats 4000000 in
set_option maxRecDepth 100000 in
theorem c_J1_indexOf_4cfef {l : Launch} {G : GT} {lam : Lm} {σ : St} {a1 : Nat} {a2 : Int32} {a3 : Int32} {a4 : Int32} {q : Int32 × St} (h : f_J1_indexOf_4cfef σ a1 a2 a3 a4 = some q) : Met l yJ1_indexOf_4cfef (Cond.code yJ1_indexOf_4cfef cJ1_indexOf_4cfef 4 ((some .int)) :: TB) ({ frames := 1, cells := 0, slots := 0, locals := 25 } : Room) (va_Pc [.ref (g_sv G (a1)), .int a2, .int a3, .int a4] (GW G lam σ)) (Ri q G lam) 0 0 (g_A G) := by
  refine mk_Qi (own := RJ1) (by decide) (Nat.le_of_ble_eq_true rfl) rfl (fun p e s m args below meth c C hr hlocks hP ls hl => ?_)
  have hx := C.1
  have hb := C.2.1
  have hl : lv_has ls 4 [(0, .ref (g_sv G (a1))), (1, .int a2), (2, .int a3), (3, .int a4)] := hl
  have hS : va_S (g_A G) s.heap s.heap [] := va_S.rf
  unfold f_J1_indexOf_4cfef at h
  refine lv_iload_n hx hb dJ1_indexOf_4cfef_0 rfl (lv_at hl 1 rfl) ?_
  obtain ⟨q8, e9, h⟩ := bnd h
  refine scall_i C hP hS (c_J1_canEncode_9a6ad e9) ms_J1_canEncode_9a6ad mw_532 ⟨Nat.le_of_ble_eq_true rfl, Nat.le_of_ble_eq_true rfl⟩ (As := [.int a2]) rfl hl.1 rfl (lv_room (Nat.le_of_ble_eq_true rfl)) dJ1_indexOf_4cfef_1 (fun H locs hP hS => ?_)
  refine lv_if_ne (tgt := 9) hx hb dJ1_indexOf_4cfef_4 (by decide) (fun c10 => ?_) (fun c10 => ?_)
  · replace h := h_f c10 h
    refine lv_iload_n hx hb dJ1_indexOf_4cfef_9 rfl (lv_at hl 2 rfl) ?_
    refine lv_iconst (v := 0) hx hb dJ1_indexOf_4cfef_10 (by decide) ?_
    refine va_mmax hx hb (by rw [C.2.2.1]; exact hl.1.symm) C.2.2.2.1 (C.2.2.2.2.1 _ mw_535) (C.2.2.2.2.1 _ mw_437) (C.2.2.2.2.1 _ mw_95) (C.2.2.2.2.1 _ mw_438) (Nat.le_of_ble_eq_true rfl) (Nat.le_of_ble_eq_true rfl) (Nat.zero_le _) (Nat.zero_le _) dJ1_indexOf_4cfef_11 ?_
    obtain ⟨y11, e12, h⟩ := bnd h
    refine r_nm e12 ?_
    refine lv_istore_n (lv' := [(2, .int y11), (0, .ref (g_sv G (a1))), (1, .int a2), (3, .int a4)]) hx hb dJ1_indexOf_4cfef_14 rfl hl (by decide) rfl (fun ls hl => ?_)
    refine lv_iload_n hx hb dJ1_indexOf_4cfef_15 rfl (lv_at hl 3 rfl) ?_
    refine lv_aload_n hx hb dJ1_indexOf_4cfef_16 rfl (lv_at hl 1 rfl) ?_
    obtain ⟨g13, h⟩ := h_g h
    refine va_tlen hx hb (C.2.2.2.2.2.2.2.2.2.2.2.2.1.1 _ g13).2.2.2 hS rfl dJ1_indexOf_4cfef_17 ?_
    refine va_mmin hx hb (by rw [C.2.2.1]; exact hl.1.symm) C.2.2.2.1 (C.2.2.2.2.1 _ mw_536) (C.2.2.2.2.1 _ mw_434) (C.2.2.2.2.1 _ mw_95) (C.2.2.2.2.1 _ mw_435) (Nat.le_of_ble_eq_true rfl) (Nat.le_of_ble_eq_true rfl) (Nat.zero_le _) (Nat.zero_le _) dJ1_indexOf_4cfef_18 ?_
    obtain ⟨y14, e15, h⟩ := bnd h
    refine r_nm e15 ?_
    refine lv_istore_n (lv' := [(3, .int y14), (2, .int y11), (0, .ref (g_sv G (a1))), (1, .int a2)]) hx hb dJ1_indexOf_4cfef_21 rfl hl (by decide) rfl (fun ls hl => ?_)
    refine lv_iload_n hx hb dJ1_indexOf_4cfef_22 rfl (lv_at hl 1 rfl) ?_
    refine lv_iload_n hx hb dJ1_indexOf_4cfef_23 rfl (lv_at hl 0 rfl) ?_
    refine lv_icmp_lt (tgt := 29) hx hb dJ1_indexOf_4cfef_24 (by decide) (fun c16 => ?_) (fun c16 => ?_)
    · replace h := h_t c16 h
      refine lv_aload_n hx hb dJ1_indexOf_4cfef_29 rfl (lv_at hl 2 rfl) ?_
      refine lv_iload_n hx hb dJ1_indexOf_4cfef_30 rfl (lv_at hl 3 rfl) ?_
      refine lv_iload_n hx hb dJ1_indexOf_4cfef_31 rfl (lv_at hl 1 rfl) ?_
      refine lv_iload_n hx hb dJ1_indexOf_4cfef_32 rfl (lv_at hl 0 rfl) ?_
      obtain ⟨q17, e18, h⟩ := bnd h
      refine scall_i C hP hS (c_J1_indexOfChar_4cfef e18) ms_J1_indexOfChar_4cfef mw_537 ⟨Nat.le_of_ble_eq_true rfl, Nat.le_of_ble_eq_true rfl⟩ (As := [.ref (g_sv G (a1)), .int a2, .int y11, .int y14]) rfl hl.1 rfl (lv_room (Nat.le_of_ble_eq_true rfl)) dJ1_indexOf_4cfef_33 (fun H locs hP hS => ?_)
      exact ret_i C hr hlocks hP hS h dJ1_indexOf_4cfef_36
    · replace h := h_f c16 h
      refine lv_iconst (v := (-1)) hx hb dJ1_indexOf_4cfef_27 (by decide) ?_
      exact ret_i C hr hlocks hP hS h dJ1_indexOf_4cfef_28
  · replace h := h_t c10 h
    refine lv_iconst (v := (-1)) hx hb dJ1_indexOf_4cfef_7 (by decide) ?_
    exact ret_i C hr hlocks hP hS h dJ1_indexOf_4cfef_8
set_option maxHeartbeats 4000000 in
set_option maxRecDepth 100000 in
theorem c_J0_indexOf_7cf53 {l : Launch} {G : GT} {lam : Lm} {σ : St} {a0 : Nat} {a1 : Int32} {a2 : Int32} {q : Int32 × St} (h : f_J0_indexOf_7cf53 σ a0 a1 a2 = some q) : Met l yJ0_indexOf_7cf53 (Cond.code yJ0_indexOf_7cf53 cJ0_indexOf_7cf53 3 ((some .int)) :: TB) ({ frames := 2, cells := 0, slots := 0, locals := 48 } : Room) (va_Pc [.ref (g_sk G (a0)), .int a1, .int a2] (GW G lam σ)) (Ri q G lam) 0 0 (g_A G) := by
  refine mk_Qi (own := RJ0) (by decide) (Nat.le_of_ble_eq_true rfl) rfl (fun p e s m args below meth c C hr hlocks hP ls hl => ?_)
  have hx := C.1
  have hb := C.2.1
  have hl : lv_has ls 3 [(0, .ref (g_sk G (a0))), (1, .int a1), (2, .int a2)] := hl
  have hS : va_S (g_A G) s.heap s.heap [] := va_S.rf
  unfold f_J0_indexOf_7cf53 at h
  refine lv_aload_n hx hb dJ0_indexOf_7cf53_0 rfl (lv_at hl 0 rfl) ?_
  obtain ⟨g17, h⟩ := h_g h
  obtain ⟨q15, e16, h⟩ := bnd h
  refine tcall_i C hP hS (c_J0_isLatin1_aae02 e16) mi_J0_isLatin1_aae02 mw_515 g17 ⟨Nat.le_of_ble_eq_true rfl, Nat.le_of_ble_eq_true rfl⟩ (As := []) rfl hl.1 rfl (lv_room (Nat.le_of_ble_eq_true rfl)) dJ0_indexOf_7cf53_1 (fun H locs hP hS => ?_)
  refine lv_if_eq (tgt := 23) hx hb dJ0_indexOf_7cf53_4 (by decide) (fun c18 => ?_) (fun c18 => ?_)
  · replace h := h_t c18 h
    refine lv_aload_n hx hb dJ0_indexOf_7cf53_23 rfl (lv_at hl 0 rfl) ?_
    obtain ⟨g19, h⟩ := h_g h
    refine vk_getf hx hb (C.2.2.2.2.2.2.2.2.2.2.2.2.1.1 _ g19).2.2.1 hS C.2.2.2.1 (C.2.2.2.2.1 _ mw_1727) (fun _ h9 => h9) dJ0_indexOf_7cf53_24 ?_
    refine lv_iload_n hx hb dJ0_indexOf_7cf53_27 rfl (lv_at hl 1 rfl) ?_
    refine lv_iload_n hx hb dJ0_indexOf_7cf53_28 rfl (lv_at hl 2 rfl) ?_
    refine lv_aload_n hx hb dJ0_indexOf_7cf53_29 rfl (lv_at hl 0 rfl) ?_
    obtain ⟨g22, h⟩ := h_g h
    obtain ⟨q20, e21, h⟩ := bnd h
    refine tcall_i C hP hS (c_J0_length_8abf5 e21) mi_J0_length_8abf5 mw_521 g22 ⟨Nat.le_of_ble_eq_true rfl, Nat.le_of_ble_eq_true rfl⟩ (As := []) rfl hl.1 rfl (lv_room (Nat.le_of_ble_eq_true rfl)) dJ0_indexOf_7cf53_30 (fun H locs hP hS => ?_)
    cases h
  · replace h := h_f c18 h
    refine lv_aload_n hx hb dJ0_indexOf_7cf53_7 rfl (lv_at hl 0 rfl) ?_
    obtain ⟨g23, h⟩ := h_g h
    refine vk_getf hx hb (C.2.2.2.2.2.2.2.2.2.2.2.2.1.1 _ g23).2.2.1 hS C.2.2.2.1 (C.2.2.2.2.1 _ mw_1727) (fun _ h9 => h9) dJ0_indexOf_7cf53_8 ?_
    refine lv_iload_n hx hb dJ0_indexOf_7cf53_11 rfl (lv_at hl 1 rfl) ?_
    refine lv_iload_n hx hb dJ0_indexOf_7cf53_12 rfl (lv_at hl 2 rfl) ?_
    refine lv_aload_n hx hb dJ0_indexOf_7cf53_13 rfl (lv_at hl 0 rfl) ?_
    obtain ⟨g26, h⟩ := h_g h
    obtain ⟨q24, e25, h⟩ := bnd h
    refine tcall_i C hP hS (c_J0_length_8abf5 e25) mi_J0_length_8abf5 mw_521 g26 ⟨Nat.le_of_ble_eq_true rfl, Nat.le_of_ble_eq_true rfl⟩ (As := []) rfl hl.1 rfl (lv_room (Nat.le_of_ble_eq_true rfl)) dJ0_indexOf_7cf53_14 (fun H locs hP hS => ?_)
    obtain ⟨q27, e28, h⟩ := bnd h
    refine scall_i C hP hS (c_J1_indexOf_4cfef e28) ms_J1_indexOf_4cfef mw_529 ⟨Nat.le_of_ble_eq_true rfl, Nat.le_of_ble_eq_true rfl⟩ (As := [.ref (g_sv G (a0)), .int a1, .int a2, .int q24.1]) rfl hl.1 rfl (lv_room (Nat.le_of_ble_eq_true rfl)) dJ0_indexOf_7cf53_17 (fun H locs hP hS => ?_)
    refine lv_goto (tgt := 36) hx hb dJ0_indexOf_7cf53_20 (by decide) ?_
    exact ret_i C hr hlocks hP hS h dJ0_indexOf_7cf53_36
set_option maxHeartbeats 4000000 in
set_option maxRecDepth 100000 in
theorem c_J0_indexOf_0f7a4 {l : Launch} {G : GT} {lam : Lm} {σ : St} {a0 : Nat} {a1 : Int32} {q : Int32 × St} (h : f_J0_indexOf_0f7a4 σ a0 a1 = some q) : Met l yJ0_indexOf_0f7a4 (Cond.code yJ0_indexOf_0f7a4 cJ0_indexOf_0f7a4 2 ((some .int)) :: TB) ({ frames := 3, cells := 0, slots := 0, locals := 70 } : Room) (va_Pc [.ref (g_sk G (a0)), .int a1] (GW G lam σ)) (Ri q G lam) 0 0 (g_A G) := by
  refine mk_Qi (own := RJ0) (by decide) (Nat.le_of_ble_eq_true rfl) rfl (fun p e s m args below meth c C hr hlocks hP ls hl => ?_)
  have hx := C.1
  have hb := C.2.1
  have hl : lv_has ls 2 [(0, .ref (g_sk G (a0))), (1, .int a1)] := hl
  have hS : va_S (g_A G) s.heap s.heap [] := va_S.rf
  unfold f_J0_indexOf_0f7a4 at h
  refine lv_aload_n hx hb dJ0_indexOf_0f7a4_0 rfl (lv_at hl 0 rfl) ?_
  refine lv_iload_n hx hb dJ0_indexOf_0f7a4_1 rfl (lv_at hl 1 rfl) ?_
  refine lv_iconst (v := 0) hx hb dJ0_indexOf_0f7a4_2 (by decide) ?_
  obtain ⟨g6, h⟩ := h_g h
  obtain ⟨q4, e5, h⟩ := bnd h
  refine tcall_i C hP hS (c_J0_indexOf_7cf53 e5) mi_J0_indexOf_7cf53 mw_511 g6 ⟨Nat.le_of_ble_eq_true rfl, Nat.le_of_ble_eq_true rfl⟩ (As := [.int a1, .int 0]) rfl hl.1 rfl (lv_room (Nat.le_of_ble_eq_true rfl)) dJ0_indexOf_0f7a4_3 (fun H locs hP hS => ?_)
  exact ret_i C hr hlocks hP hS h dJ0_indexOf_0f7a4_6
set_option maxHeartbeats 4000000 in
set_option maxRecDepth 100000 in
theorem c_X5_rankOf {l : Launch} {G : GT} {lam : Lm} {σ : St} {a1 : Nat} {q : Int32 × St} (h : f_X5_rankOf σ a1 = some q) : Met l yX5_rankOf (Cond.code yX5_rankOf cX5_rankOf 3 ((some .int)) :: TB) ({ frames := 4, cells := 0, slots := 0, locals := 91 } : Room) (va_Pc [.ref (g_ad G 3), .ref (g_sk G (a1))] (GW G lam σ)) (Ri q G lam) 0 0 (g_A G) := by
  refine mk_Qi (own := RX5) (by decide) (Nat.le_of_ble_eq_true rfl) rfl (fun p e s m args below meth c C hr hlocks hP ls hl => ?_)
  have hx := C.1
  have hb := C.2.1
  have hl : lv_has ls 3 [(0, .ref (g_ad G 3)), (1, .ref (g_sk G (a1)))] := hl
  have hS : va_S (g_A G) s.heap s.heap [] := va_S.rf
  unfold f_X5_rankOf at h
  refine lv_aload_n hx hb dX5_rankOf_0 rfl (lv_at hl 0 rfl) ?_
  refine gf_X5_29_3 C hP dX5_rankOf_1 ?_
  refine lv_aload_n hx hb dX5_rankOf_4 rfl (lv_at hl 0 rfl) ?_
  refine gf_X5_23_3 C hP dX5_rankOf_5 ?_
  obtain ⟨q7, e8, h⟩ := bnd h
  refine call_i C hP hS (c_X7_byteAt e8) mi_X7_byteAt mw_455 1 (by decide) rfl rfl ⟨Nat.le_of_ble_eq_true rfl, Nat.le_of_ble_eq_true rfl⟩ (As := [.int (σ 3 4)]) rfl hl.1 rfl (lv_room (Nat.le_of_ble_eq_true rfl)) dX5_rankOf_8 (fun H locs hP hS => ?_)
  refine lv_istore_n (lv' := [(2, .int q7.1), (0, .ref (g_ad G 3)), (1, .ref (g_sk G (a1)))]) hx hb dX5_rankOf_11 rfl hl (by decide) rfl (fun ls hl => ?_)
  refine lv_iload_n hx hb dX5_rankOf_12 rfl (lv_at hl 0 rfl) ?_
  refine lv_iconst (v := (-1)) hx hb dX5_rankOf_13 (by decide) ?_
  refine lv_icmp_ne (tgt := 21) hx hb dX5_rankOf_14 (by decide) (fun c9 => ?_) (fun c9 => ?_)
  · replace h := h_f c9 h
    refine lv_aload_n hx hb dX5_rankOf_21 rfl (lv_at hl 2 rfl) ?_
    refine lv_iload_n hx hb dX5_rankOf_22 rfl (lv_at hl 0 rfl) ?_
    refine lv_i2c hx hb dX5_rankOf_23 rfl ?_
    obtain ⟨g12, h⟩ := h_g h
    obtain ⟨q10, e11, h⟩ := bnd h
    refine tcall_i C hP hS (c_J0_indexOf_0f7a4 e11) mi_J0_indexOf_0f7a4 mw_507 g12 ⟨Nat.le_of_ble_eq_true rfl, Nat.le_of_ble_eq_true rfl⟩ (As := [.int (((q7.1).toUInt32 % 65536).toInt32)]) rfl hl.1 rfl (lv_room (Nat.le_of_ble_eq_true rfl)) dX5_rankOf_24 (fun H locs hP hS => ?_)
    exact ret_i C hr hlocks hP hS h dX5_rankOf_27
  · replace h := h_t c9 h
    refine lv_iconst (v := (-1)) hx hb dX5_rankOf_17 (by decide) ?_
    refine lv_goto (tgt := 27) hx hb dX5_rankOf_18 (by decide) ?_
    exact ret_i C hr hlocks hP hS h dX5_rankOf_27
set_option maxHeartbeats 4000000 in
set_option maxRecDepth 100000 in
theorem c_X6_thingCell_11 {l : Launch} {G : GT} {lam : Lm} {σ : St} {a1 : Int32} {a2 : Int32} {q : Int32 × St} (h : f_X6_thingCell 17 σ a1 a2 = some q) : Met l yX6_thingCell (Cond.code yX6_thingCell cX6_thingCell 3 ((some .int)) :: TB) ({ frames := 0, cells := 0, slots := 0, locals := 0 } : Room) (va_Pc [.ref (g_ad G 11), .int a1, .int a2] (GW G lam σ)) (Ri q G lam) 0 0 (g_A G) := by
  refine mk_Qi (own := RX6) (by decide) (Nat.le_of_ble_eq_true rfl) rfl (fun p e s m args below meth c C hr hlocks hP ls hl => ?_)
  have hx := C.1
  have hb := C.2.1
  have hl : lv_has ls 3 [(0, .ref (g_ad G 11)), (1, .int a1), (2, .int a2)] := hl
  have hS : va_S (g_A G) s.heap s.heap [] := va_S.rf
  unfold f_X6_thingCell at h
  refine lv_iload_n hx hb dX6_thingCell_0 rfl (lv_at hl 1 rfl) ?_
  refine lv_if_lt (tgt := 19) hx hb dX6_thingCell_1 (by decide) (fun c6 => ?_) (fun c6 => ?_)
  · replace h := h_t c6 h
    refine lv_iconst (v := 0) hx hb dX6_thingCell_19 (by decide) ?_
    exact ret_i C hr hlocks hP hS h dX6_thingCell_20
  · replace h := h_f c6 h
    refine lv_iload_n hx hb dX6_thingCell_4 rfl (lv_at hl 1 rfl) ?_
    refine lv_bipush (v := 8) hx hb dX6_thingCell_5 (by decide) ?_
    refine lv_icmp_ge (tgt := 19) hx hb dX6_thingCell_7 (by decide) (fun c7 => ?_) (fun c7 => ?_)
    · replace h := h_t c7 h
      refine lv_iconst (v := 0) hx hb dX6_thingCell_19 (by decide) ?_
      exact ret_i C hr hlocks hP hS h dX6_thingCell_20
    · replace h := h_f c7 h
      refine lv_iload_n hx hb dX6_thingCell_10 rfl (lv_at hl 2 rfl) ?_
      refine lv_if_lt (tgt := 19) hx hb dX6_thingCell_11 (by decide) (fun c8 => ?_) (fun c8 => ?_)
      · replace h := h_t c8 h
        refine lv_iconst (v := 0) hx hb dX6_thingCell_19 (by decide) ?_
        exact ret_i C hr hlocks hP hS h dX6_thingCell_20
      · replace h := h_f c8 h
        refine lv_iload_n hx hb dX6_thingCell_14 rfl (lv_at hl 2 rfl) ?_
        refine lv_iconst (v := 5) hx hb dX6_thingCell_15 (by decide) ?_
        refine lv_icmp_lt (tgt := 21) hx hb dX6_thingCell_16 (by decide) (fun c9 => ?_) (fun c9 => ?_)
        · replace h := h_t c9 h
          refine lv_aload_n hx hb dX6_thingCell_21 rfl (lv_at hl 0 rfl) ?_
          refine gf_X6_11_11 C hP dX6_thingCell_22 ?_
          refine lv_bipush (v := 11) hx hb dX6_thingCell_25 (by decide) ?_
          refine lv_iload_n hx hb dX6_thingCell_27 rfl (lv_at hl 1 rfl) ?_
          refine lv_iconst (v := 5) hx hb dX6_thingCell_28 (by decide) ?_
          refine lv_imul hx hb dX6_thingCell_29 ?_
          refine lv_iadd hx hb dX6_thingCell_30 ?_
          refine lv_iload_n hx hb dX6_thingCell_31 rfl (lv_at hl 2 rfl) ?_
          refine lv_iadd hx hb dX6_thingCell_32 ?_
          obtain ⟨g10, h⟩ := h_g h
          refine r_ald C hP 17 (by decide) rfl (vp_in_iff.mpr g10) dX6_thingCell_33 ?_
          exact ret_i C hr hlocks hP hS h dX6_thingCell_34
        · replace h := h_f c9 h
          refine lv_iconst (v := 0) hx hb dX6_thingCell_19 (by decide) ?_
          exact ret_i C hr hlocks hP hS h dX6_thingCell_20
set_option maxHeartbeats 4000000 in
set_option maxRecDepth 100000 in
theorem c_X6_putThingCell_11 {l : Launch} {G : GT} {lam : Lm} {σ : St} {a1 : Int32} {a2 : Int32} {a3 : Int32} {q : Int32 × St} (h : f_X6_putThingCell 17 σ a1 a2 a3 = some q) : Met l yX6_putThingCell (Cond.code yX6_putThingCell cX6_putThingCell 5 ((some .int)) :: TB) ({ frames := 1, cells := 0, slots := 0, locals := 22 } : Room) (va_Pc [.ref (g_ad G 11), .int a1, .int a2, .int a3] (GW G lam σ)) (Ri q G lam) 0 0 (g_A G) := by
  refine mk_Qi (own := RX6) (by decide) (Nat.le_of_ble_eq_true rfl) rfl (fun p e s m args below meth c C hr hlocks hP ls hl => ?_)
  have hx := C.1
  have hb := C.2.1
  have hl : lv_has ls 5 [(0, .ref (g_ad G 11)), (1, .int a1), (2, .int a2), (3, .int a3)] := hl
  have J41 : ∀ (σ : St) (x4 : Int32) (H : Heap) (locs : List Loc) (ls : Array Slot), f_X6_putThingCell_p41 17 σ x4 = some q → va_P (g_D G) vwCl (allW G lam σ) H → va_S (g_A G) s.heap H locs → lv_has ls 5 [(4, .int x4)] → W p l e ({ frames := 1, cells := 0, slots := 0, locals := 22 } : Room) s m args below meth c H locs 0 0 (Qi q below args s G lam) (F0 m 41 ls []) := by
    intro σ x4 H locs ls h hP hS hl
    unfold f_X6_putThingCell_p41 at h
    refine lv_iload hx hb dX6_putThingCell_41 (lv_at hl 0 rfl) ?_
    exact ret_i C hr hlocks hP hS h dX6_putThingCell_43
  have hS : va_S (g_A G) s.heap s.heap [] := va_S.rf
  unfold f_X6_putThingCell at h
  obtain ⟨H, hH⟩ : ∃ H, H = s.heap := ⟨_, rfl⟩
  obtain ⟨locs, hlo⟩ : ∃ k : List Loc, k = [] := ⟨_, rfl⟩
  rw [← hH, ← hlo]
  rw [← hH] at hP
  replace hS : va_S (g_A G) s.heap H locs := by rw [hH, hlo]; exact hS
  refine lv_aload_n hx hb dX6_putThingCell_0 rfl (lv_at hl 0 rfl) ?_
  refine lv_iload_n hx hb dX6_putThingCell_1 rfl (lv_at hl 1 rfl) ?_
  refine lv_iload_n hx hb dX6_putThingCell_2 rfl (lv_at hl 2 rfl) ?_
  obtain ⟨q10, e11, h⟩ := bnd h
  refine call_i C hP hS (c_X6_thingCell_11 e11) mi_X6_thingCell mw_593 11 (by decide) rfl rfl ⟨Nat.le_of_ble_eq_true rfl, Nat.le_of_ble_eq_true rfl⟩ (As := [.int a1, .int a2]) rfl hl.1 rfl (lv_room (Nat.le_of_ble_eq_true rfl)) dX6_putThingCell_3 (fun H locs hP hS => ?_)
  refine lv_istore (lv' := [(4, .int q10.1), (0, .ref (g_ad G 11)), (1, .int a1), (2, .int a2), (3, .int a3)]) hx hb dX6_putThingCell_6 hl (by decide) rfl (fun ls hl => ?_)
  refine lv_iload_n hx hb dX6_putThingCell_8 rfl (lv_at hl 2 rfl) ?_
  refine lv_if_lt (tgt := 41) hx hb dX6_putThingCell_9 (by decide) (fun c12 => ?_) (fun c12 => ?_)
  · replace h := h_t c12 h
    exact J41 _ _ H locs ls h hP hS (lv_sub hl [0] rfl)
  · replace h := h_f c12 h
    refine lv_iload_n hx hb dX6_putThingCell_12 rfl (lv_at hl 2 rfl) ?_
    refine lv_bipush (v := 8) hx hb dX6_putThingCell_13 (by decide) ?_
    refine lv_icmp_ge (tgt := 41) hx hb dX6_putThingCell_15 (by decide) (fun c13 => ?_) (fun c13 => ?_)
    · replace h := h_t c13 h
      exact J41 _ _ H locs ls h hP hS (lv_sub hl [0] rfl)
    · replace h := h_f c13 h
      refine lv_iload_n hx hb dX6_putThingCell_18 rfl (lv_at hl 3 rfl) ?_
      refine lv_if_lt (tgt := 41) hx hb dX6_putThingCell_19 (by decide) (fun c14 => ?_) (fun c14 => ?_)
      · replace h := h_t c14 h
        exact J41 _ _ H locs ls h hP hS (lv_sub hl [0] rfl)
      · replace h := h_f c14 h
        refine lv_iload_n hx hb dX6_putThingCell_22 rfl (lv_at hl 3 rfl) ?_
        refine lv_iconst (v := 5) hx hb dX6_putThingCell_23 (by decide) ?_
        refine lv_icmp_ge (tgt := 41) hx hb dX6_putThingCell_24 (by decide) (fun c15 => ?_) (fun c15 => ?_)
        · replace h := h_t c15 h
          exact J41 _ _ H locs ls h hP hS (lv_sub hl [0] rfl)
        · replace h := h_f c15 h
          refine lv_aload_n hx hb dX6_putThingCell_27 rfl (lv_at hl 1 rfl) ?_
          refine gf_X6_11_11 C hP dX6_putThingCell_28 ?_
          refine lv_bipush (v := 11) hx hb dX6_putThingCell_31 (by decide) ?_
          refine lv_iload_n hx hb dX6_putThingCell_33 rfl (lv_at hl 2 rfl) ?_
          refine lv_iconst (v := 5) hx hb dX6_putThingCell_34 (by decide) ?_
          refine lv_imul hx hb dX6_putThingCell_35 ?_
          refine lv_iadd hx hb dX6_putThingCell_36 ?_
          refine lv_iload_n hx hb dX6_putThingCell_37 rfl (lv_at hl 3 rfl) ?_
          refine lv_iadd hx hb dX6_putThingCell_38 ?_
          refine lv_iload_n hx hb dX6_putThingCell_39 rfl (lv_at hl 4 rfl) ?_
          obtain ⟨g16, h⟩ := h_g h
          refine r_ast C hP hS 17 (by decide) (fun _ => rfl) (vp_in_iff.mpr g16) dX6_putThingCell_40 (fun H locs hP hS => ?_)
          obtain ⟨σ17, e18, h⟩ := bnd h
          have hP := hPn e18 hP
          exact J41 _ _ H locs ls h hP hS (lv_sub hl [0] rfl)
set_option maxHeartbeats 4000000 in
set_option maxRecDepth 100000 in
theorem c_X6_measureMost {l : Launch} {G : GT} {lam : Lm} {σ : St} {a1 : Int32} {q : Int32 × St} (h : f_X6_measureMost σ a1 = some q) : Met l yX6_measureMost (Cond.code yX6_measureMost cX6_measureMost 1 ((some .int)) :: TB) ({ frames := 0, cells := 0, slots := 0, locals := 0 } : Room) (va_Pc [.int a1] (GW G lam σ)) (Ri q G lam) 0 0 (g_A G) := by
  refine mk_Qi (own := RX6) (by decide) (Nat.le_of_ble_eq_true rfl) rfl (fun p e s m args below meth c C hr hlocks hP ls hl => ?_)
  have hx := C.1
  have hb := C.2.1
  have hl : lv_has ls 1 [(0, .int a1)] := hl
  have hS : va_S (g_A G) s.heap s.heap [] := va_S.rf
  unfold f_X6_measureMost at h
  refine lv_iload_n hx hb dX6_measureMost_0 rfl (lv_at hl 0 rfl) ?_
  refine lv_iconst (v := 2) hx hb dX6_measureMost_1 (by decide) ?_
  refine lv_icmp_ne (tgt := 10) hx hb dX6_measureMost_2 (by decide) (fun c3 => ?_) (fun c3 => ?_)
  · replace h := h_f c3 h
    refine lv_iload_n hx hb dX6_measureMost_10 rfl (lv_at hl 0 rfl) ?_
    refine lv_iconst (v := 3) hx hb dX6_measureMost_11 (by decide) ?_
    refine lv_icmp_ne (tgt := 20) hx hb dX6_measureMost_12 (by decide) (fun c4 => ?_) (fun c4 => ?_)
    · replace h := h_f c4 h
      refine lv_bipush (v := 60) hx hb dX6_measureMost_20 (by decide) ?_
      exact ret_i C hr hlocks hP hS h dX6_measureMost_22
    · replace h := h_t c4 h
      refine lv_bipush (v := 20) hx hb dX6_measureMost_15 (by decide) ?_
      refine lv_goto (tgt := 22) hx hb dX6_measureMost_17 (by decide) ?_
      exact ret_i C hr hlocks hP hS h dX6_measureMost_22
  · replace h := h_t c3 h
    refine lv_bipush (v := 15) hx hb dX6_measureMost_5 (by decide) ?_
    refine lv_goto (tgt := 22) hx hb dX6_measureMost_7 (by decide) ?_
    exact ret_i C hr hlocks hP hS h dX6_measureMost_22
set_option maxHeartbeats 4000000 in
set_option maxRecDepth 100000 in
theorem c_X5_readMeasures {l : Launch} {G : GT} {lam : Lm} {σ : St} {a1 : Int32} {q : Int32 × St} (h : f_X5_readMeasures σ a1 = some q) : Met l yX5_readMeasures (Cond.code yX5_readMeasures cX5_readMeasures 3 ((some .boolean)) :: TB) ({ frames := 2, cells := 0, slots := 0, locals := 46 } : Room) (va_Pc [.ref (g_ad G 3), .int a1] (GW G lam σ)) (Ri q G lam) 0 0 (g_A G) := by
  refine mk_Qi (own := RX5) (by decide) (Nat.le_of_ble_eq_true rfl) rfl (fun p e s m args below meth c C hr hlocks hP ls hl => ?_)
  have hx := C.1
  have hb := C.2.1
  have hl : lv_has ls 3 [(0, .ref (g_ad G 3)), (1, .int a1)] := hl
  have L2 : ∀ (n2 : Nat) (σ : St) (x1 : Int32) (x2 : Int32) (H : Heap) (locs : List Loc) (ls : Array Slot), fx (F_X5_readMeasures_h2) z_X5_readMeasures_h2 n2 σ x1 x2 = some q → va_P (g_D G) vwCl (allW G lam σ) H → va_S (g_A G) s.heap H locs → lv_has ls 3 [(0, .ref (g_ad G 3)), (1, .int x1), (2, .int x2)] → W p l e ({ frames := 2, cells := 0, slots := 0, locals := 46 } : Room) s m args below meth c H locs 0 0 (Qi q below args s G lam) (F0 m 2 ls []) := by
    intro n2
    induction n2 with
    | zero => intro σ x1 x2 H locs ls h hP hS hl; exact absurd h (by intro h9; cases h9)
    | succ n2 ih2 =>
      have J22 : ∀ (σ : St) (x1 : Int32) (x2 : Int32) (H : Heap) (locs : List Loc) (ls : Array Slot), f_X5_readMeasures_p22 (fx (F_X5_readMeasures_h2) z_X5_readMeasures_h2 n2) σ x1 x2 = some q → va_P (g_D G) vwCl (allW G lam σ) H → va_S (g_A G) s.heap H locs → lv_has ls 3 [(0, .ref (g_ad G 3)), (1, .int x1), (2, .int x2)] → W p l e ({ frames := 2, cells := 0, slots := 0, locals := 46 } : Room) s m args below meth c H locs 0 0 (Qi q below args s G lam) (F0 m 22 ls []) := by
        intro σ x1 x2 H locs ls h hP hS hl
        unfold f_X5_readMeasures_p22 at h
        refine lv_aload_n hx hb dX5_readMeasures_22 rfl (lv_at hl 0 rfl) ?_
        refine lv_iconst (v := 0) hx hb dX5_readMeasures_23 (by decide) ?_
        refine lv_iload_n hx hb dX5_readMeasures_24 rfl (lv_at hl 2 rfl) ?_
        obtain ⟨q18, e19, h⟩ := bnd h
        refine scall_i C hP hS (c_X6_measureMost e19) ms_X6_measureMost mw_601 ⟨Nat.le_of_ble_eq_true rfl, Nat.le_of_ble_eq_true rfl⟩ (As := [.int x2]) rfl hl.1 rfl (lv_room (Nat.le_of_ble_eq_true rfl)) dX5_readMeasures_25 (fun H locs hP hS => ?_)
        obtain ⟨q20, e21, h⟩ := bnd h
        refine call_i C hP hS (c_X5_readNumber e21) mi_X5_readNumber mw_467 3 (by decide) rfl rfl ⟨Nat.le_of_ble_eq_true rfl, Nat.le_of_ble_eq_true rfl⟩ (As := [.int 0, .int q18.1]) rfl hl.1 rfl (lv_room (Nat.le_of_ble_eq_true rfl)) dX5_readMeasures_28 (fun H locs hP hS => ?_)
        refine lv_if_ne (tgt := 36) hx hb dX5_readMeasures_31 (by decide) (fun c22 => ?_) (fun c22 => ?_)
        · replace h := h_f c22 h
          refine lv_aload_n hx hb dX5_readMeasures_36 rfl (lv_at hl 0 rfl) ?_
          refine gf_X5_10_3 C hP dX5_readMeasures_37 ?_
          refine lv_iload_n hx hb dX5_readMeasures_40 rfl (lv_at hl 1 rfl) ?_
          refine lv_iconst (v := 1) hx hb dX5_readMeasures_41 (by decide) ?_
          refine lv_iload_n hx hb dX5_readMeasures_42 rfl (lv_at hl 2 rfl) ?_
          refine lv_iadd hx hb dX5_readMeasures_43 ?_
          refine lv_aload_n hx hb dX5_readMeasures_44 rfl (lv_at hl 0 rfl) ?_
          refine gf_X5_26_3 C hP dX5_readMeasures_45 ?_
          obtain ⟨q23, e24, h⟩ := bnd h
          refine call_i C hP hS (c_X6_putThingCell_11 e24) mi_X6_putThingCell mw_589 11 (by decide) rfl rfl ⟨Nat.le_of_ble_eq_true rfl, Nat.le_of_ble_eq_true rfl⟩ (As := [.int x1, .int (1 + x2), .int (q20.2 3 5)]) rfl hl.1 rfl (lv_room (Nat.le_of_ble_eq_true rfl)) dX5_readMeasures_48 (fun H locs hP hS => ?_)
          refine lv_pop hx hb dX5_readMeasures_51 rfl ?_
          obtain ⟨y25, e26, h⟩ := bnd h
          refine lv_iinc (v := y25) (lv' := [(2, .int y25), (0, .ref (g_ad G 3)), (1, .int x1)]) hx hb dX5_readMeasures_52 hl (k := 2) rfl (Option.some.inj e26) (by decide) rfl (fun ls hl => ?_)
          refine lv_goto (tgt := 2) hx hb dX5_readMeasures_55 (by decide) ?_
          exact ih2 _ _ _ H locs ls h hP hS (lv_sub hl [1, 2, 0] rfl)
        · replace h := h_t c22 h
          refine lv_iconst (v := 0) hx hb dX5_readMeasures_34 (by decide) ?_
          exact ret_z C hr hlocks hP hS h (Or.inl rfl) dX5_readMeasures_35
      intro σ x1 x2 H locs ls h hP hS hl
      change F_X5_readMeasures_h2 (fx (F_X5_readMeasures_h2) z_X5_readMeasures_h2 n2) σ x1 x2 = some q at h
      unfold F_X5_readMeasures_h2 at h
      refine lv_iload_n hx hb dX5_readMeasures_2 rfl (lv_at hl 2 rfl) ?_
      refine lv_iconst (v := 4) hx hb dX5_readMeasures_3 (by decide) ?_
      refine lv_icmp_ge (tgt := 58) hx hb dX5_readMeasures_4 (by decide) (fun c27 => ?_) (fun c27 => ?_)
      · replace h := h_t c27 h
        refine lv_aload_n hx hb dX5_readMeasures_58 rfl (lv_at hl 0 rfl) ?_
        refine lv_bipush (v := 59) hx hb dX5_readMeasures_59 (by decide) ?_
        obtain ⟨q28, e29, h⟩ := bnd h
        refine call_i C hP hS (c_X5_readByte e29) mi_X5_readByte mw_451 3 (by decide) rfl rfl ⟨Nat.le_of_ble_eq_true rfl, Nat.le_of_ble_eq_true rfl⟩ (As := [.int 59]) rfl hl.1 rfl (lv_room (Nat.le_of_ble_eq_true rfl)) dX5_readMeasures_61 (fun H locs hP hS => ?_)
        obtain ⟨g30, h⟩ := h_g h
        exact ret_z C hr hlocks hP hS h g30 dX5_readMeasures_64
      · replace h := h_f c27 h
        refine lv_iload_n hx hb dX5_readMeasures_7 rfl (lv_at hl 2 rfl) ?_
        refine lv_if_le (tgt := 22) hx hb dX5_readMeasures_8 (by decide) (fun c31 => ?_) (fun c31 => ?_)
        · replace h := h_t c31 h
          exact J22 _ _ _ H locs ls h hP hS (lv_sub hl [0, 1, 2] rfl)
        · replace h := h_f c31 h
          refine lv_aload_n hx hb dX5_readMeasures_11 rfl (lv_at hl 0 rfl) ?_
          refine lv_bipush (v := 44) hx hb dX5_readMeasures_12 (by decide) ?_
          obtain ⟨q32, e33, h⟩ := bnd h
          refine call_i C hP hS (c_X5_readByte e33) mi_X5_readByte mw_451 3 (by decide) rfl rfl ⟨Nat.le_of_ble_eq_true rfl, Nat.le_of_ble_eq_true rfl⟩ (As := [.int 44]) rfl hl.1 rfl (lv_room (Nat.le_of_ble_eq_true rfl)) dX5_readMeasures_14 (fun H locs hP hS => ?_)
          refine lv_if_ne (tgt := 22) hx hb dX5_readMeasures_17 (by decide) (fun c34 => ?_) (fun c34 => ?_)
          · replace h := h_f c34 h
            exact J22 _ _ _ H locs ls h hP hS (lv_sub hl [0, 1, 2] rfl)
          · replace h := h_t c34 h
            refine lv_iconst (v := 0) hx hb dX5_readMeasures_20 (by decide) ?_
            exact ret_z C hr hlocks hP hS h (Or.inl rfl) dX5_readMeasures_21
  have hS : va_S (g_A G) s.heap s.heap [] := va_S.rf
  unfold f_X5_readMeasures at h
  obtain ⟨H, hH⟩ : ∃ H, H = s.heap := ⟨_, rfl⟩
  obtain ⟨locs, hlo⟩ : ∃ k : List Loc, k = [] := ⟨_, rfl⟩
  rw [← hH, ← hlo]
  rw [← hH] at hP
  replace hS : va_S (g_A G) s.heap H locs := by rw [hH, hlo]; exact hS
  refine lv_iconst (v := 0) hx hb dX5_readMeasures_0 (by decide) ?_
  refine lv_istore_n (lv' := [(2, .int 0), (0, .ref (g_ad G 3)), (1, .int a1)]) hx hb dX5_readMeasures_1 rfl hl (by decide) rfl (fun ls hl => ?_)
  exact L2 FU _ _ _ H locs ls h hP hS (lv_sub hl [1, 2, 0] rfl)
set_option maxHeartbeats 4000000 in
set_option maxRecDepth 100000 in
theorem c_X5_readThings {l : Launch} {G : GT} {lam : Lm} {σ : St} {q : Int32 × St} (h : f_X5_readThings σ = some q) : Met l yX5_readThings (Cond.code yX5_readThings cX5_readThings 3 ((some .boolean)) :: TB) ({ frames := 5, cells := 0, slots := 0, locals := 113 } : Room) (va_Pc [.ref (g_ad G 3)] (GW G lam σ)) (Ri q G lam) 0 0 (g_A G) := by
  refine mk_Qi (own := RX5) (by decide) (Nat.le_of_ble_eq_true rfl) rfl (fun p e s m args below meth c C hr hlocks hP ls hl => ?_)
  have hx := C.1
  have hb := C.2.1
  have hl : lv_has ls 3 [(0, .ref (g_ad G 3))] := hl
  have L2 : ∀ (n2 : Nat) (σ : St) (x1 : Int32) (H : Heap) (locs : List Loc) (ls : Array Slot), fx (F_X5_readThings_h2) z_X5_readThings_h2 n2 σ x1 = some q → va_P (g_D G) vwCl (allW G lam σ) H → va_S (g_A G) s.heap H locs → lv_has ls 3 [(0, .ref (g_ad G 3)), (1, .int x1)] → W p l e ({ frames := 5, cells := 0, slots := 0, locals := 113 } : Room) s m args below meth c H locs 0 0 (Qi q below args s G lam) (F0 m 2 ls []) := by
    intro n2
    induction n2 with
    | zero => intro σ x1 H locs ls h hP hS hl; exact absurd h (by intro h9; cases h9)
    | succ n2 ih2 =>
      intro σ x1 H locs ls h hP hS hl
      change F_X5_readThings_h2 (fx (F_X5_readThings_h2) z_X5_readThings_h2 n2) σ x1 = some q at h
      unfold F_X5_readThings_h2 at h
      refine lv_iload_n hx hb dX5_readThings_2 rfl (lv_at hl 1 rfl) ?_
      refine lv_bipush (v := 8) hx hb dX5_readThings_3 (by decide) ?_
      refine lv_icmp_gt (tgt := 82) hx hb dX5_readThings_5 (by decide) (fun c20 => ?_) (fun c20 => ?_)
      · replace h := h_t c20 h
        refine lv_iconst (v := 1) hx hb dX5_readThings_82 (by decide) ?_
        exact ret_z C hr hlocks hP hS h (Or.inr rfl) dX5_readThings_83
      · replace h := h_f c20 h
        refine lv_iconst (v := 1) hx hb dX5_readThings_8 (by decide) ?_
        refine lv_aload_n hx hb dX5_readThings_9 rfl (lv_at hl 0 rfl) ?_
        refine va_ldcS hx hb C.2.2.2.1 C.2.2.2.2.2.2.2.2.2.2.2.2.2.2.1 dX5_readThings_10 ?_
        obtain ⟨q21, e22, h⟩ := bnd h
        refine call_i C hP hS (c_X5_rankOf e22) mi_X5_rankOf mw_503 3 (by decide) rfl rfl ⟨Nat.le_of_ble_eq_true rfl, Nat.le_of_ble_eq_true rfl⟩ (As := [.ref (g_sk G (16))]) rfl hl.1 rfl (lv_room (Nat.le_of_ble_eq_true rfl)) dX5_readThings_12 (fun H locs hP hS => ?_)
        refine lv_iadd hx hb dX5_readThings_15 ?_
        obtain ⟨y23, e24, h⟩ := bnd h
        refine r_nm e24 ?_
        refine lv_istore_n (lv' := [(2, .int y23), (0, .ref (g_ad G 3)), (1, .int x1)]) hx hb dX5_readThings_16 rfl hl (by decide) rfl (fun ls hl => ?_)
        refine lv_iload_n hx hb dX5_readThings_17 rfl (lv_at hl 0 rfl) ?_
        refine lv_if_ne (tgt := 23) hx hb dX5_readThings_18 (by decide) (fun c25 => ?_) (fun c25 => ?_)
        · replace h := h_f c25 h
          refine lv_iload_n hx hb dX5_readThings_23 rfl (lv_at hl 2 rfl) ?_
          refine lv_bipush (v := 8) hx hb dX5_readThings_24 (by decide) ?_
          refine lv_icmp_ne (tgt := 35) hx hb dX5_readThings_26 (by decide) (fun c26 => ?_) (fun c26 => ?_)
          · replace h := h_f c26 h
            refine lv_aload_n hx hb dX5_readThings_35 rfl (lv_at hl 1 rfl) ?_
            refine lv_dup hx hb dX5_readThings_36 rfl ?_
            refine gf_X5_23_3 C hP dX5_readThings_37 ?_
            refine lv_iconst (v := 1) hx hb dX5_readThings_40 (by decide) ?_
            refine lv_iadd hx hb dX5_readThings_41 ?_
            refine pf_X5_23_3 C hP hS dX5_readThings_42 (fun H locs hP hS => ?_)
            obtain ⟨σ27, e28, h⟩ := bnd h
            have hP := hPn e28 hP
            refine lv_aload_n hx hb dX5_readThings_45 rfl (lv_at hl 1 rfl) ?_
            refine gf_X5_10_3 C hP dX5_readThings_46 ?_
            refine lv_iload_n hx hb dX5_readThings_49 rfl (lv_at hl 2 rfl) ?_
            refine lv_iconst (v := 0) hx hb dX5_readThings_50 (by decide) ?_
            refine lv_iload_n hx hb dX5_readThings_51 rfl (lv_at hl 0 rfl) ?_
            obtain ⟨q29, e30, h⟩ := bnd h
            refine call_i C hP hS (c_X6_putThingCell_11 e30) mi_X6_putThingCell mw_589 11 (by decide) rfl rfl ⟨Nat.le_of_ble_eq_true rfl, Nat.le_of_ble_eq_true rfl⟩ (As := [.int x1, .int 0, .int y23]) rfl hl.1 rfl (lv_room (Nat.le_of_ble_eq_true rfl)) dX5_readThings_52 (fun H locs hP hS => ?_)
            refine lv_pop hx hb dX5_readThings_55 rfl ?_
            refine lv_aload_n hx hb dX5_readThings_56 rfl (lv_at hl 1 rfl) ?_
            refine lv_iload_n hx hb dX5_readThings_57 rfl (lv_at hl 2 rfl) ?_
            obtain ⟨q31, e32, h⟩ := bnd h
            refine call_i C hP hS (c_X5_readMeasures e32) mi_X5_readMeasures mw_597 3 (by decide) rfl rfl ⟨Nat.le_of_ble_eq_true rfl, Nat.le_of_ble_eq_true rfl⟩ (As := [.int x1]) rfl hl.1 rfl (lv_room (Nat.le_of_ble_eq_true rfl)) dX5_readThings_58 (fun H locs hP hS => ?_)
            refine lv_if_ne (tgt := 66) hx hb dX5_readThings_61 (by decide) (fun c33 => ?_) (fun c33 => ?_)
            · replace h := h_f c33 h
              refine lv_aload_n hx hb dX5_readThings_66 rfl (lv_at hl 1 rfl) ?_
              refine gf_X5_10_3 C hP dX5_readThings_67 ?_
              refine lv_iload_n hx hb dX5_readThings_70 rfl (lv_at hl 2 rfl) ?_
              refine lv_iconst (v := 1) hx hb dX5_readThings_71 (by decide) ?_
              refine lv_iadd hx hb dX5_readThings_72 ?_
              obtain ⟨q34, e35, h⟩ := bnd h
              refine call_v C hP hS (c_X6_countThings_11 e35) mi_X6_countThings mw_439 11 (by decide) rfl rfl ⟨Nat.le_of_ble_eq_true rfl, Nat.le_of_ble_eq_true rfl⟩ (As := [.int (x1 + 1)]) rfl hl.1 rfl (lv_room (Nat.le_of_ble_eq_true rfl)) dX5_readThings_73 (fun H locs hP hS => ?_)
              obtain ⟨y36, e37, h⟩ := bnd h
              refine lv_iinc (v := y36) (lv' := [(1, .int y36), (2, .int y23), (0, .ref (g_ad G 3))]) hx hb dX5_readThings_76 hl (k := 2) rfl (Option.some.inj e37) (by decide) rfl (fun ls hl => ?_)
              refine lv_goto (tgt := 2) hx hb dX5_readThings_79 (by decide) ?_
              exact ih2 _ _ H locs ls h hP hS (lv_sub hl [2, 0] rfl)
            · replace h := h_t c33 h
              refine lv_iconst (v := 0) hx hb dX5_readThings_64 (by decide) ?_
              exact ret_z C hr hlocks hP hS h (Or.inl rfl) dX5_readThings_65
          · replace h := h_t c26 h
            refine lv_aload_n hx hb dX5_readThings_29 rfl (lv_at hl 1 rfl) ?_
            refine lv_iconst (v := 3) hx hb dX5_readThings_30 (by decide) ?_
            obtain ⟨q38, e39, h⟩ := bnd h
            refine call_i C hP hS (c_X5_faultHere e39) mi_X5_faultHere mw_459 3 (by decide) rfl rfl ⟨Nat.le_of_ble_eq_true rfl, Nat.le_of_ble_eq_true rfl⟩ (As := [.int 3]) rfl hl.1 rfl (lv_room (Nat.le_of_ble_eq_true rfl)) dX5_readThings_31 (fun H locs hP hS => ?_)
            obtain ⟨g40, h⟩ := h_g h
            exact ret_z C hr hlocks hP hS h g40 dX5_readThings_34
        · replace h := h_t c25 h
          refine lv_iconst (v := 1) hx hb dX5_readThings_21 (by decide) ?_
          exact ret_z C hr hlocks hP hS h (Or.inr rfl) dX5_readThings_22
  have hS : va_S (g_A G) s.heap s.heap [] := va_S.rf
  unfold f_X5_readThings at h
  obtain ⟨H, hH⟩ : ∃ H, H = s.heap := ⟨_, rfl⟩
  obtain ⟨locs, hlo⟩ : ∃ k : List Loc, k = [] := ⟨_, rfl⟩
  rw [← hH, ← hlo]
  rw [← hH] at hP
  replace hS : va_S (g_A G) s.heap H locs := by rw [hH, hlo]; exact hS
  refine lv_iconst (v := 0) hx hb dX5_readThings_0 (by decide) ?_
  refine lv_istore_n (lv' := [(1, .int 0), (0, .ref (g_ad G 3))]) hx hb dX5_readThings_1 rfl hl (by decide) rfl (fun ls hl => ?_)
  exact L2 FU _ _ H locs ls h hP hS (lv_sub hl [1, 0] rfl)
set_option maxHeartbeats 4000000 in
set_option maxRecDepth 100000 in
theorem c_X6_legCell_11 {l : Launch} {G : GT} {lam : Lm} {σ : St} {a1 : Int32} {a2 : Int32} {q : Int32 × St} (h : f_X6_legCell 17 σ a1 a2 = some q) : Met l yX6_legCell (Cond.code yX6_legCell cX6_legCell 3 ((some .int)) :: TB) ({ frames := 0, cells := 0, slots := 0, locals := 0 } : Room) (va_Pc [.ref (g_ad G 11), .int a1, .int a2] (GW G lam σ)) (Ri q G lam) 0 0 (g_A G) := by
  refine mk_Qi (own := RX6) (by decide) (Nat.le_of_ble_eq_true rfl) rfl (fun p e s m args below meth c C hr hlocks hP ls hl => ?_)
  have hx := C.1
  have hb := C.2.1
  have hl : lv_has ls 3 [(0, .ref (g_ad G 11)), (1, .int a1), (2, .int a2)] := hl
  have hS : va_S (g_A G) s.heap s.heap [] := va_S.rf
  unfold f_X6_legCell at h
  refine lv_iload_n hx hb dX6_legCell_0 rfl (lv_at hl 1 rfl) ?_
  refine lv_if_lt (tgt := 19) hx hb dX6_legCell_1 (by decide) (fun c6 => ?_) (fun c6 => ?_)
  · replace h := h_t c6 h
    refine lv_iconst (v := 0) hx hb dX6_legCell_19 (by decide) ?_
    exact ret_i C hr hlocks hP hS h dX6_legCell_20
  · replace h := h_f c6 h
    refine lv_iload_n hx hb dX6_legCell_4 rfl (lv_at hl 1 rfl) ?_
    refine lv_bipush (v := 6) hx hb dX6_legCell_5 (by decide) ?_
    refine lv_icmp_ge (tgt := 19) hx hb dX6_legCell_7 (by decide) (fun c7 => ?_) (fun c7 => ?_)
    · replace h := h_t c7 h
      refine lv_iconst (v := 0) hx hb dX6_legCell_19 (by decide) ?_
      exact ret_i C hr hlocks hP hS h dX6_legCell_20
    · replace h := h_f c7 h
      refine lv_iload_n hx hb dX6_legCell_10 rfl (lv_at hl 2 rfl) ?_
      refine lv_if_lt (tgt := 19) hx hb dX6_legCell_11 (by decide) (fun c8 => ?_) (fun c8 => ?_)
      · replace h := h_t c8 h
        refine lv_iconst (v := 0) hx hb dX6_legCell_19 (by decide) ?_
        exact ret_i C hr hlocks hP hS h dX6_legCell_20
      · replace h := h_f c8 h
        refine lv_iload_n hx hb dX6_legCell_14 rfl (lv_at hl 2 rfl) ?_
        refine lv_iconst (v := 4) hx hb dX6_legCell_15 (by decide) ?_
        refine lv_icmp_lt (tgt := 21) hx hb dX6_legCell_16 (by decide) (fun c9 => ?_) (fun c9 => ?_)
        · replace h := h_t c9 h
          refine lv_aload_n hx hb dX6_legCell_21 rfl (lv_at hl 0 rfl) ?_
          refine gf_X6_11_11 C hP dX6_legCell_22 ?_
          refine lv_bipush (v := 51) hx hb dX6_legCell_25 (by decide) ?_
          refine lv_iload_n hx hb dX6_legCell_27 rfl (lv_at hl 1 rfl) ?_
          refine lv_iconst (v := 4) hx hb dX6_legCell_28 (by decide) ?_
          refine lv_imul hx hb dX6_legCell_29 ?_
          refine lv_iadd hx hb dX6_legCell_30 ?_
          refine lv_iload_n hx hb dX6_legCell_31 rfl (lv_at hl 2 rfl) ?_
          refine lv_iadd hx hb dX6_legCell_32 ?_
          obtain ⟨g10, h⟩ := h_g h
          refine r_ald C hP 17 (by decide) rfl (vp_in_iff.mpr g10) dX6_legCell_33 ?_
          exact ret_i C hr hlocks hP hS h dX6_legCell_34
        · replace h := h_f c9 h
          refine lv_iconst (v := 0) hx hb dX6_legCell_19 (by decide) ?_
          exact ret_i C hr hlocks hP hS h dX6_legCell_20
