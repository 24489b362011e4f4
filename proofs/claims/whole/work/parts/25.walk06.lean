set_option maxHeartbeats 4000000 in
set_option maxRecDepth 100000 in
theorem c_X8_minutesOf {l : Launch} {G : GT} {lam : Lm} {σ : St} {a1 : Int32} {q : Int32 × St} (h : f_X8_minutesOf σ a1 = some q) : Met l yX8_minutesOf (Cond.code yX8_minutesOf cX8_minutesOf 2 ((some .int)) :: TB) ({ frames := 0, cells := 0, slots := 0, locals := 0 } : Room) (va_Pc [.ref (g_ad G 8), .int a1] (GW G lam σ)) (Ri q G lam) 0 0 (g_A G) := by
  refine mk_Qi (own := RX8) (by decide) (Nat.le_of_ble_eq_true rfl) rfl (fun p e s m args below meth c C hr hlocks hP ls hl => ?_)
  have hx := C.1
  have hb := C.2.1
  have hl : lv_has ls 2 [(0, .ref (g_ad G 8)), (1, .int a1)] := hl
  have hS : va_S (g_A G) s.heap s.heap [] := va_S.rf
  unfold f_X8_minutesOf at h
  refine lv_iload_n hx hb dX8_minutesOf_0 rfl (lv_at hl 1 rfl) ?_
  refine lv_if_lt (tgt := 19) hx hb dX8_minutesOf_1 (by decide) (fun c4 => ?_) (fun c4 => ?_)
  · replace h := h_t c4 h
    refine lv_iconst (v := 0) hx hb dX8_minutesOf_19 (by decide) ?_
    exact ret_i C hr hlocks hP hS h dX8_minutesOf_20
  · replace h := h_f c4 h
    refine lv_iload_n hx hb dX8_minutesOf_4 rfl (lv_at hl 1 rfl) ?_
    refine lv_bipush (v := 6) hx hb dX8_minutesOf_5 (by decide) ?_
    refine lv_icmp_ge (tgt := 19) hx hb dX8_minutesOf_7 (by decide) (fun c5 => ?_) (fun c5 => ?_)
    · replace h := h_t c5 h
      refine lv_iconst (v := 0) hx hb dX8_minutesOf_19 (by decide) ?_
      exact ret_i C hr hlocks hP hS h dX8_minutesOf_20
    · replace h := h_f c5 h
      refine lv_aload_n hx hb dX8_minutesOf_10 rfl (lv_at hl 0 rfl) ?_
      refine gf_X8_58_8 C hP dX8_minutesOf_11 ?_
      refine lv_iload_n hx hb dX8_minutesOf_14 rfl (lv_at hl 1 rfl) ?_
      obtain ⟨g6, h⟩ := h_g h
      refine r_ald C hP 22 (by decide) rfl (vp_in_iff.mpr g6) dX8_minutesOf_15 ?_
      refine lv_goto (tgt := 20) hx hb dX8_minutesOf_16 (by decide) ?_
      exact ret_i C hr hlocks hP hS h dX8_minutesOf_20
set_option maxHeartbeats 4000000 in
set_option maxRecDepth 100000 in
theorem c_X0_writeFigures {l : Launch} {G : GT} {lam : Lm} {σ : St} {a1 : Int32} {q : St} (h : f_X0_writeFigures σ a1 = some q) : Met l yX0_writeFigures (Cond.code yX0_writeFigures cX0_writeFigures 2 none :: TB) ({ frames := 1, cells := 0, slots := 0, locals := 21 } : Room) (va_Pc [.ref (g_ad G 9), .int a1] (GW G lam σ)) (Rv q G lam) 0 0 (g_A G) := by
  refine mk_Qv (own := RX0) (by decide) (Nat.le_of_ble_eq_true rfl) rfl (fun p e s m args below meth c C hr hlocks hP ls hl => ?_)
  have hx := C.1
  have hb := C.2.1
  have hl : lv_has ls 2 [(0, .ref (g_ad G 9)), (1, .int a1)] := hl
  have J20 : ∀ (σ : St) (x1 : Int32) (H : Heap) (locs : List Loc) (ls : Array Slot), f_X0_writeFigures_p20 σ x1 = some q → va_P (g_D G) vwCl (allW G lam σ) H → va_S (g_A G) s.heap H locs → lv_has ls 2 [(0, .ref (g_ad G 9)), (1, .int x1)] → W p l e ({ frames := 1, cells := 0, slots := 0, locals := 21 } : Room) s m args below meth c H locs 0 0 (Qv q below args s G lam) (F0 m 20 ls []) := by
    intro σ x1 H locs ls h hP hS hl
    unfold f_X0_writeFigures_p20 at h
    refine lv_aload_n hx hb dX0_writeFigures_20 rfl (lv_at hl 0 rfl) ?_
    refine lv_bipush (v := 48) hx hb dX0_writeFigures_21 (by decide) ?_
    refine lv_iload_n hx hb dX0_writeFigures_23 rfl (lv_at hl 1 rfl) ?_
    refine lv_bipush (v := 10) hx hb dX0_writeFigures_24 (by decide) ?_
    refine lv_irem hx hb dX0_writeFigures_26 (by decide) ?_
    refine lv_iadd hx hb dX0_writeFigures_27 ?_
    obtain ⟨q6, e7, h⟩ := bnd h
    refine call_v C hP hS (c_X0_writeSign e7) mi_X0_writeSign mw_1080 9 (by decide) rfl rfl ⟨Nat.le_of_ble_eq_true rfl, Nat.le_of_ble_eq_true rfl⟩ (As := [.int (48 + (x1 - x1 / 10 * 10))]) rfl hl.1 rfl (lv_room (Nat.le_of_ble_eq_true rfl)) dX0_writeFigures_28 (fun H locs hP hS => ?_)
    exact ret_v C hr hlocks hP hS h dX0_writeFigures_31
  have hS : va_S (g_A G) s.heap s.heap [] := va_S.rf
  unfold f_X0_writeFigures at h
  obtain ⟨H, hH⟩ : ∃ H, H = s.heap := ⟨_, rfl⟩
  obtain ⟨locs, hlo⟩ : ∃ k : List Loc, k = [] := ⟨_, rfl⟩
  rw [← hH, ← hlo]
  rw [← hH] at hP
  replace hS : va_S (g_A G) s.heap H locs := by rw [hH, hlo]; exact hS
  refine lv_iload_n hx hb dX0_writeFigures_0 rfl (lv_at hl 1 rfl) ?_
  refine lv_bipush (v := 10) hx hb dX0_writeFigures_1 (by decide) ?_
  refine lv_icmp_lt (tgt := 20) hx hb dX0_writeFigures_3 (by decide) (fun c8 => ?_) (fun c8 => ?_)
  · replace h := h_t c8 h
    exact J20 _ _ H locs ls h hP hS (lv_sub hl [0, 1] rfl)
  · replace h := h_f c8 h
    refine lv_aload_n hx hb dX0_writeFigures_6 rfl (lv_at hl 0 rfl) ?_
    refine lv_bipush (v := 48) hx hb dX0_writeFigures_7 (by decide) ?_
    refine lv_iload_n hx hb dX0_writeFigures_9 rfl (lv_at hl 1 rfl) ?_
    refine lv_bipush (v := 10) hx hb dX0_writeFigures_10 (by decide) ?_
    refine lv_idiv hx hb dX0_writeFigures_12 (by decide) ?_
    refine lv_bipush (v := 10) hx hb dX0_writeFigures_13 (by decide) ?_
    refine lv_irem hx hb dX0_writeFigures_15 (by decide) ?_
    refine lv_iadd hx hb dX0_writeFigures_16 ?_
    obtain ⟨q9, e10, h⟩ := bnd h
    refine call_v C hP hS (c_X0_writeSign e10) mi_X0_writeSign mw_1080 9 (by decide) rfl rfl ⟨Nat.le_of_ble_eq_true rfl, Nat.le_of_ble_eq_true rfl⟩ (As := [.int (48 + ((a1 / 10) - (a1 / 10) / 10 * 10))]) rfl hl.1 rfl (lv_room (Nat.le_of_ble_eq_true rfl)) dX0_writeFigures_17 (fun H locs hP hS => ?_)
    exact J20 _ _ H locs ls h hP hS (lv_sub hl [0, 1] rfl)
set_option maxHeartbeats 4000000 in
set_option maxRecDepth 100000 in
theorem c_X0_writeLog {l : Launch} {G : GT} {lam : Lm} {σ : St} {q : St} (h : f_X0_writeLog σ = some q) : Met l yX0_writeLog (Cond.code yX0_writeLog cX0_writeLog 2 none :: TB) ({ frames := 5, cells := 0, slots := 0, locals := 107 } : Room) (va_Pc [.ref (g_ad G 9)] (GW G lam σ)) (Rv q G lam) 0 0 (g_A G) := by
  refine mk_Qv (own := RX0) (by decide) (Nat.le_of_ble_eq_true rfl) rfl (fun p e s m args below meth c C hr hlocks hP ls hl => ?_)
  have hx := C.1
  have hb := C.2.1
  have hl : lv_has ls 2 [(0, .ref (g_ad G 9))] := hl
  have L81 : ∀ (n81 : Nat) (σ : St) (x1 : Int32) (H : Heap) (locs : List Loc) (ls : Array Slot), fx (F_X0_writeLog_h81) z_X0_writeLog_h81 n81 σ x1 = some q → va_P (g_D G) vwCl (allW G lam σ) H → va_S (g_A G) s.heap H locs → lv_has ls 2 [(0, .ref (g_ad G 9)), (1, .int x1)] → W p l e ({ frames := 5, cells := 0, slots := 0, locals := 107 } : Room) s m args below meth c H locs 0 0 (Qv q below args s G lam) (F0 m 81 ls []) := by
    intro n81
    induction n81 with
    | zero => intro σ x1 H locs ls h hP hS hl; exact absurd h (by intro h9; cases h9)
    | succ n81 ih81 =>
      have J99 : ∀ (σ : St) (x1 : Int32) (H : Heap) (locs : List Loc) (ls : Array Slot), f_X0_writeLog_p99 (fx (F_X0_writeLog_h81) z_X0_writeLog_h81 n81) σ x1 = some q → va_P (g_D G) vwCl (allW G lam σ) H → va_S (g_A G) s.heap H locs → lv_has ls 2 [(0, .ref (g_ad G 9)), (1, .int x1)] → W p l e ({ frames := 5, cells := 0, slots := 0, locals := 107 } : Room) s m args below meth c H locs 0 0 (Qv q below args s G lam) (F0 m 99 ls []) := by
        intro σ x1 H locs ls h hP hS hl
        unfold f_X0_writeLog_p99 at h
        refine lv_aload_n hx hb dX0_writeLog_99 rfl (lv_at hl 0 rfl) ?_
        refine lv_aload_n hx hb dX0_writeLog_100 rfl (lv_at hl 0 rfl) ?_
        refine lv_iload_n hx hb dX0_writeLog_101 rfl (lv_at hl 1 rfl) ?_
        obtain ⟨q33, e34, h⟩ := bnd h
        refine call_i C hP hS (c_X0_kindOf e34) mi_X0_kindOf mw_1093 9 (by decide) rfl rfl ⟨Nat.le_of_ble_eq_true rfl, Nat.le_of_ble_eq_true rfl⟩ (As := [.int x1]) rfl hl.1 rfl (lv_room (Nat.le_of_ble_eq_true rfl)) dX0_writeLog_102 (fun H locs hP hS => ?_)
        obtain ⟨q35, e36, h⟩ := bnd h
        refine call_v C hP hS (c_X0_writeFigures e36) mi_X0_writeFigures mw_1088 9 (by decide) rfl rfl ⟨Nat.le_of_ble_eq_true rfl, Nat.le_of_ble_eq_true rfl⟩ (As := [.int q33.1]) rfl hl.1 rfl (lv_room (Nat.le_of_ble_eq_true rfl)) dX0_writeLog_105 (fun H locs hP hS => ?_)
        obtain ⟨y37, e38, h⟩ := bnd h
        refine lv_iinc (v := y37) (lv' := [(1, .int y37), (0, .ref (g_ad G 9))]) hx hb dX0_writeLog_108 hl (k := 1) rfl (Option.some.inj e38) (by decide) rfl (fun ls hl => ?_)
        refine lv_goto (tgt := 81) hx hb dX0_writeLog_111 (by decide) ?_
        exact ih81 _ _ H locs ls h hP hS (lv_sub hl [1, 0] rfl)
      intro σ x1 H locs ls h hP hS hl
      change F_X0_writeLog_h81 (fx (F_X0_writeLog_h81) z_X0_writeLog_h81 n81) σ x1 = some q at h
      unfold F_X0_writeLog_h81 at h
      refine lv_iload_n hx hb dX0_writeLog_81 rfl (lv_at hl 1 rfl) ?_
      refine lv_aload_n hx hb dX0_writeLog_82 rfl (lv_at hl 0 rfl) ?_
      refine gf_X0_21_9 C hP dX0_writeLog_83 ?_
      refine lv_icmp_ge (tgt := 114) hx hb dX0_writeLog_86 (by decide) (fun c39 => ?_) (fun c39 => ?_)
      · replace h := h_t c39 h
        exact ret_v C hr hlocks hP hS h dX0_writeLog_114
      · replace h := h_f c39 h
        refine lv_iload_n hx hb dX0_writeLog_89 rfl (lv_at hl 1 rfl) ?_
        refine lv_if_le (tgt := 99) hx hb dX0_writeLog_90 (by decide) (fun c40 => ?_) (fun c40 => ?_)
        · replace h := h_t c40 h
          exact J99 _ _ H locs ls h hP hS (lv_sub hl [0, 1] rfl)
        · replace h := h_f c40 h
          refine lv_aload_n hx hb dX0_writeLog_93 rfl (lv_at hl 0 rfl) ?_
          refine lv_bipush (v := 44) hx hb dX0_writeLog_94 (by decide) ?_
          obtain ⟨q41, e42, h⟩ := bnd h
          refine call_v C hP hS (c_X0_writeSign e42) mi_X0_writeSign mw_1080 9 (by decide) rfl rfl ⟨Nat.le_of_ble_eq_true rfl, Nat.le_of_ble_eq_true rfl⟩ (As := [.int 44]) rfl hl.1 rfl (lv_room (Nat.le_of_ble_eq_true rfl)) dX0_writeLog_96 (fun H locs hP hS => ?_)
          exact J99 _ _ H locs ls h hP hS (lv_sub hl [0, 1] rfl)
  have J76 : ∀ (σ : St) (t0 : Int32) (H : Heap) (locs : List Loc) (ls : Array Slot), f_X0_writeLog_p76 σ t0 = some q → va_P (g_D G) vwCl (allW G lam σ) H → va_S (g_A G) s.heap H locs → lv_has ls 2 [(0, .ref (g_ad G 9))] → W p l e ({ frames := 5, cells := 0, slots := 0, locals := 107 } : Room) s m args below meth c H locs 0 0 (Qv q below args s G lam) (F0 m 76 ls [.int t0, .ref (g_ad G 9)]) := by
    intro σ t0 H locs ls h hP hS hl
    unfold f_X0_writeLog_p76 at h
    obtain ⟨q43, e44, h⟩ := bnd h
    refine call_v C hP hS (c_X0_writeSign e44) mi_X0_writeSign mw_1080 9 (by decide) rfl rfl ⟨Nat.le_of_ble_eq_true rfl, Nat.le_of_ble_eq_true rfl⟩ (As := [.int t0]) rfl hl.1 rfl (lv_room (Nat.le_of_ble_eq_true rfl)) dX0_writeLog_76 (fun H locs hP hS => ?_)
    refine lv_iconst (v := 0) hx hb dX0_writeLog_79 (by decide) ?_
    refine lv_istore_n (lv' := [(1, .int 0), (0, .ref (g_ad G 9))]) hx hb dX0_writeLog_80 rfl hl (by decide) rfl (fun ls hl => ?_)
    exact L81 FU _ _ H locs ls h hP hS (lv_sub hl [1, 0] rfl)
  have L7 : ∀ (n7 : Nat) (σ : St) (x1 : Int32) (H : Heap) (locs : List Loc) (ls : Array Slot), fx (F_X0_writeLog_h7) z_X0_writeLog_h7 n7 σ x1 = some q → va_P (g_D G) vwCl (allW G lam σ) H → va_S (g_A G) s.heap H locs → lv_has ls 2 [(0, .ref (g_ad G 9)), (1, .int x1)] → W p l e ({ frames := 5, cells := 0, slots := 0, locals := 107 } : Room) s m args below meth c H locs 0 0 (Qv q below args s G lam) (F0 m 7 ls []) := by
    intro n7
    induction n7 with
    | zero => intro σ x1 H locs ls h hP hS hl; exact absurd h (by intro h9; cases h9)
    | succ n7 ih7 =>
      intro σ x1 H locs ls h hP hS hl
      change F_X0_writeLog_h7 (fx (F_X0_writeLog_h7) z_X0_writeLog_h7 n7) σ x1 = some q at h
      unfold F_X0_writeLog_h7 at h
      refine lv_iload_n hx hb dX0_writeLog_7 rfl (lv_at hl 1 rfl) ?_
      refine lv_aload_n hx hb dX0_writeLog_8 rfl (lv_at hl 0 rfl) ?_
      refine gf_X0_36_9 C hP dX0_writeLog_9 ?_
      refine gf_X0_59_8 C hP dX0_writeLog_12 ?_
      refine lv_icmp_ge (tgt := 58) hx hb dX0_writeLog_15 (by decide) (fun c45 => ?_) (fun c45 => ?_)
      · replace h := h_t c45 h
        refine lv_aload_n hx hb dX0_writeLog_58 rfl (lv_at hl 0 rfl) ?_
        refine lv_aload_n hx hb dX0_writeLog_59 rfl (lv_at hl 0 rfl) ?_
        refine gf_X0_36_9 C hP dX0_writeLog_60 ?_
        obtain ⟨q46, e47, h⟩ := bnd h
        refine call_i C hP hS (c_X8_arrives e47) mi_X8_arrives mw_1092 8 (by decide) rfl rfl ⟨Nat.le_of_ble_eq_true rfl, Nat.le_of_ble_eq_true rfl⟩ (As := []) rfl hl.1 rfl (lv_room (Nat.le_of_ble_eq_true rfl)) dX0_writeLog_63 (fun H locs hP hS => ?_)
        refine lv_if_eq (tgt := 74) hx hb dX0_writeLog_66 (by decide) (fun c48 => ?_) (fun c48 => ?_)
        · replace h := h_t c48 h
          refine lv_bipush (v := 33) hx hb dX0_writeLog_74 (by decide) ?_
          exact J76 _ _ H locs ls h hP hS (lv_sub hl [0] rfl)
        · replace h := h_f c48 h
          refine lv_bipush (v := 46) hx hb dX0_writeLog_69 (by decide) ?_
          refine lv_goto (tgt := 76) hx hb dX0_writeLog_71 (by decide) ?_
          exact J76 _ _ H locs ls h hP hS (lv_sub hl [0] rfl)
      · replace h := h_f c45 h
        refine lv_aload_n hx hb dX0_writeLog_18 rfl (lv_at hl 0 rfl) ?_
        refine lv_aload_n hx hb dX0_writeLog_19 rfl (lv_at hl 0 rfl) ?_
        refine gf_X0_28_9 C hP dX0_writeLog_20 ?_
        refine lv_iload_n hx hb dX0_writeLog_23 rfl (lv_at hl 1 rfl) ?_
        refine lv_iconst (v := 0) hx hb dX0_writeLog_24 (by decide) ?_
        obtain ⟨q49, e50, h⟩ := bnd h
        refine call_i C hP hS (c_X6_legCell_2 e50) mi_X6_legCell mw_1072 2 (by decide) rfl rfl ⟨Nat.le_of_ble_eq_true rfl, Nat.le_of_ble_eq_true rfl⟩ (As := [.int x1, .int 0]) rfl hl.1 rfl (lv_room (Nat.le_of_ble_eq_true rfl)) dX0_writeLog_25 (fun H locs hP hS => ?_)
        obtain ⟨q51, e52, h⟩ := bnd h
        refine scall_s C hP hS (c_X2_nameOf e52) ms_X2_nameOf mw_1073 ⟨Nat.le_of_ble_eq_true rfl, Nat.le_of_ble_eq_true rfl⟩ (As := [.int q49.1]) rfl hl.1 rfl (lv_room (Nat.le_of_ble_eq_true rfl)) dX0_writeLog_28 (fun H locs hP hS => ?_)
        obtain ⟨q53, e54, h⟩ := bnd h
        refine call_v C hP hS (c_X0_writeGreat e54) mi_X0_writeGreat mw_1074 9 (by decide) rfl rfl ⟨Nat.le_of_ble_eq_true rfl, Nat.le_of_ble_eq_true rfl⟩ (As := [.ref (g_sk G (q51.1))]) rfl hl.1 rfl (lv_room (Nat.le_of_ble_eq_true rfl)) dX0_writeLog_31 (fun H locs hP hS => ?_)
        refine lv_aload_n hx hb dX0_writeLog_34 rfl (lv_at hl 0 rfl) ?_
        refine lv_aload_n hx hb dX0_writeLog_35 rfl (lv_at hl 0 rfl) ?_
        refine gf_X0_36_9 C hP dX0_writeLog_36 ?_
        refine lv_iload_n hx hb dX0_writeLog_39 rfl (lv_at hl 1 rfl) ?_
        obtain ⟨q55, e56, h⟩ := bnd h
        refine call_i C hP hS (c_X8_minutesOf e56) mi_X8_minutesOf mw_1084 8 (by decide) rfl rfl ⟨Nat.le_of_ble_eq_true rfl, Nat.le_of_ble_eq_true rfl⟩ (As := [.int x1]) rfl hl.1 rfl (lv_room (Nat.le_of_ble_eq_true rfl)) dX0_writeLog_40 (fun H locs hP hS => ?_)
        obtain ⟨q57, e58, h⟩ := bnd h
        refine call_v C hP hS (c_X0_writeFigures e58) mi_X0_writeFigures mw_1088 9 (by decide) rfl rfl ⟨Nat.le_of_ble_eq_true rfl, Nat.le_of_ble_eq_true rfl⟩ (As := [.int q55.1]) rfl hl.1 rfl (lv_room (Nat.le_of_ble_eq_true rfl)) dX0_writeLog_43 (fun H locs hP hS => ?_)
        refine lv_aload_n hx hb dX0_writeLog_46 rfl (lv_at hl 0 rfl) ?_
        refine lv_bipush (v := 59) hx hb dX0_writeLog_47 (by decide) ?_
        obtain ⟨q59, e60, h⟩ := bnd h
        refine call_v C hP hS (c_X0_writeSign e60) mi_X0_writeSign mw_1080 9 (by decide) rfl rfl ⟨Nat.le_of_ble_eq_true rfl, Nat.le_of_ble_eq_true rfl⟩ (As := [.int 59]) rfl hl.1 rfl (lv_room (Nat.le_of_ble_eq_true rfl)) dX0_writeLog_49 (fun H locs hP hS => ?_)
        obtain ⟨y61, e62, h⟩ := bnd h
        refine lv_iinc (v := y61) (lv' := [(1, .int y61), (0, .ref (g_ad G 9))]) hx hb dX0_writeLog_52 hl (k := 1) rfl (Option.some.inj e62) (by decide) rfl (fun ls hl => ?_)
        refine lv_goto (tgt := 7) hx hb dX0_writeLog_55 (by decide) ?_
        exact ih7 _ _ H locs ls h hP hS (lv_sub hl [1, 0] rfl)
  have hS : va_S (g_A G) s.heap s.heap [] := va_S.rf
  unfold f_X0_writeLog at h
  obtain ⟨H, hH⟩ : ∃ H, H = s.heap := ⟨_, rfl⟩
  obtain ⟨locs, hlo⟩ : ∃ k : List Loc, k = [] := ⟨_, rfl⟩
  rw [← hH, ← hlo]
  rw [← hH] at hP
  replace hS : va_S (g_A G) s.heap H locs := by rw [hH, hlo]; exact hS
  refine lv_aload_n hx hb dX0_writeLog_0 rfl (lv_at hl 0 rfl) ?_
  refine lv_iconst (v := 0) hx hb dX0_writeLog_1 (by decide) ?_
  refine pf_X0_25_9 C hP hS dX0_writeLog_2 (fun H locs hP hS => ?_)
  obtain ⟨σ63, e64, h⟩ := bnd h
  have hP := hPn e64 hP
  refine lv_iconst (v := 0) hx hb dX0_writeLog_5 (by decide) ?_
  refine lv_istore_n (lv' := [(1, .int 0), (0, .ref (g_ad G 9))]) hx hb dX0_writeLog_6 rfl hl (by decide) rfl (fun ls hl => ?_)
  exact L7 FU _ _ H locs ls h hP hS (lv_sub hl [1, 0] rfl)
set_option maxHeartbeats 4000000 in
set_option maxRecDepth 100000 in
theorem c_X0_signAt {l : Launch} {G : GT} {lam : Lm} {σ : St} {a1 : Int32} {q : Int32 × St} (h : f_X0_signAt σ a1 = some q) : Met l yX0_signAt (Cond.code yX0_signAt cX0_signAt 2 ((some .int)) :: TB) ({ frames := 0, cells := 0, slots := 0, locals := 0 } : Room) (va_Pc [.ref (g_ad G 9), .int a1] (GW G lam σ)) (Ri q G lam) 0 0 (g_A G) := by
  refine mk_Qi (own := RX0) (by decide) (Nat.le_of_ble_eq_true rfl) rfl (fun p e s m args below meth c C hr hlocks hP ls hl => ?_)
  have hx := C.1
  have hb := C.2.1
  have hl : lv_has ls 2 [(0, .ref (g_ad G 9)), (1, .int a1)] := hl
  have hS : va_S (g_A G) s.heap s.heap [] := va_S.rf
  unfold f_X0_signAt at h
  refine lv_iload_n hx hb dX0_signAt_0 rfl (lv_at hl 1 rfl) ?_
  refine lv_if_lt (tgt := 27) hx hb dX0_signAt_1 (by decide) (fun c5 => ?_) (fun c5 => ?_)
  · replace h := h_t c5 h
    refine lv_ldc hx hb C.2.2.2.1 (C.2.2.2.2.1 _ mw_1055) dX0_signAt_27 ?_
    exact ret_i C hr hlocks hP hS h dX0_signAt_29
  · replace h := h_f c5 h
    refine lv_iload_n hx hb dX0_signAt_4 rfl (lv_at hl 1 rfl) ?_
    refine lv_aload_n hx hb dX0_signAt_5 rfl (lv_at hl 0 rfl) ?_
    refine gf_X0_25_9 C hP dX0_signAt_6 ?_
    refine lv_icmp_ge (tgt := 27) hx hb dX0_signAt_9 (by decide) (fun c6 => ?_) (fun c6 => ?_)
    · replace h := h_t c6 h
      refine lv_ldc hx hb C.2.2.2.1 (C.2.2.2.2.1 _ mw_1055) dX0_signAt_27 ?_
      exact ret_i C hr hlocks hP hS h dX0_signAt_29
    · replace h := h_f c6 h
      refine lv_iload_n hx hb dX0_signAt_12 rfl (lv_at hl 1 rfl) ?_
      refine lv_bipush (v := 64) hx hb dX0_signAt_13 (by decide) ?_
      refine lv_icmp_ge (tgt := 27) hx hb dX0_signAt_15 (by decide) (fun c7 => ?_) (fun c7 => ?_)
      · replace h := h_t c7 h
        refine lv_ldc hx hb C.2.2.2.1 (C.2.2.2.2.1 _ mw_1055) dX0_signAt_27 ?_
        exact ret_i C hr hlocks hP hS h dX0_signAt_29
      · replace h := h_f c7 h
        refine lv_aload_n hx hb dX0_signAt_18 rfl (lv_at hl 0 rfl) ?_
        refine gf_X0_18_9 C hP dX0_signAt_19 ?_
        refine lv_iload_n hx hb dX0_signAt_22 rfl (lv_at hl 1 rfl) ?_
        obtain ⟨g8, h⟩ := h_g h
        refine r_ald C hP 25 (by decide) rfl (vp_in_iff.mpr g8) dX0_signAt_23 ?_
        refine lv_goto (tgt := 29) hx hb dX0_signAt_24 (by decide) ?_
        exact ret_i C hr hlocks hP hS h dX0_signAt_29
set_option maxHeartbeats 4000000 in
set_option maxRecDepth 100000 in
theorem c_X10_sign {l : Launch} {G : GT} {lam : Lm} {σ : St} {a1 : Int32} {a2 : Int32} {q : Int32 × St} (h : f_X10_sign σ a1 a2 = some q) : Met l yX10_sign (Cond.code yX10_sign cX10_sign 3 ((some .int)) :: TB) ({ frames := 7, cells := 0, slots := 0, locals := 172 } : Room) (va_Pc [.ref (g_ad G 0), .int a1, .int a2] (GW G lam σ)) (Ri q G lam) 0 0 (g_A G) := by
  refine mk_Qi (own := RX10) (by decide) (Nat.le_of_ble_eq_true rfl) rfl (fun p e s m args below meth c C hr hlocks hP ls hl => ?_)
  have hx := C.1
  have hb := C.2.1
  have hl : lv_has ls 3 [(0, .ref (g_ad G 0)), (1, .int a1), (2, .int a2)] := hl
  have hS : va_S (g_A G) s.heap s.heap [] := va_S.rf
  unfold f_X10_sign at h
  refine lv_aload_n hx hb dX10_sign_0 rfl (lv_at hl 0 rfl) ?_
  refine gf_X10_19_0 C hP dX10_sign_1 ?_
  obtain ⟨q16, e17, h⟩ := bnd h
  refine call_i C hP hS (c_X6_isTold_2 e17) mi_X6_isTold mw_753 2 (by decide) rfl rfl ⟨Nat.le_of_ble_eq_true rfl, Nat.le_of_ble_eq_true rfl⟩ (As := []) rfl hl.1 rfl (lv_room (Nat.le_of_ble_eq_true rfl)) dX10_sign_4 (fun H locs hP hS => ?_)
  refine lv_if_ne (tgt := 13) hx hb dX10_sign_7 (by decide) (fun c18 => ?_) (fun c18 => ?_)
  · replace h := h_f c18 h
    refine lv_iload_n hx hb dX10_sign_13 rfl (lv_at hl 1 rfl) ?_
    obtain ⟨q19, e20, h⟩ := bnd h
    refine scall_i C hP hS (c_X10_isStart e20) ms_X10_isStart mw_925 ⟨Nat.le_of_ble_eq_true rfl, Nat.le_of_ble_eq_true rfl⟩ (As := [.int a1]) rfl hl.1 rfl (lv_room (Nat.le_of_ble_eq_true rfl)) dX10_sign_14 (fun H locs hP hS => ?_)
    refine lv_if_eq (tgt := 24) hx hb dX10_sign_17 (by decide) (fun c21 => ?_) (fun c21 => ?_)
    · replace h := h_t c21 h
      refine lv_ldc hx hb C.2.2.2.1 (C.2.2.2.2.1 _ mw_411) dX10_sign_24 ?_
      exact ret_i C hr hlocks hP hS h dX10_sign_26
    · replace h := h_f c21 h
      refine lv_iload_n hx hb dX10_sign_20 rfl (lv_at hl 2 rfl) ?_
      refine lv_if_ge (tgt := 27) hx hb dX10_sign_21 (by decide) (fun c22 => ?_) (fun c22 => ?_)
      · replace h := h_t c22 h
        refine lv_aload_n hx hb dX10_sign_27 rfl (lv_at hl 0 rfl) ?_
        refine lv_iload_n hx hb dX10_sign_28 rfl (lv_at hl 1 rfl) ?_
        obtain ⟨q23, e24, h⟩ := bnd h
        refine call_v C hP hS (c_X10_makeVoyage e24) mi_X10_makeVoyage mw_928 0 (by decide) rfl rfl ⟨Nat.le_of_ble_eq_true rfl, Nat.le_of_ble_eq_true rfl⟩ (As := [.int a1]) rfl hl.1 rfl (lv_room (Nat.le_of_ble_eq_true rfl)) dX10_sign_29 (fun H locs hP hS => ?_)
        refine lv_aload_n hx hb dX10_sign_32 rfl (lv_at hl 0 rfl) ?_
        refine gf_X10_68_0 C hP dX10_sign_33 ?_
        obtain ⟨q25, e26, h⟩ := bnd h
        refine call_v C hP hS (c_X0_findCauses e26) mi_X0_findCauses mw_1017 9 (by decide) rfl rfl ⟨Nat.le_of_ble_eq_true rfl, Nat.le_of_ble_eq_true rfl⟩ (As := []) rfl hl.1 rfl (lv_room (Nat.le_of_ble_eq_true rfl)) dX10_sign_36 (fun H locs hP hS => ?_)
        refine lv_aload_n hx hb dX10_sign_39 rfl (lv_at hl 0 rfl) ?_
        refine gf_X10_68_0 C hP dX10_sign_40 ?_
        obtain ⟨q27, e28, h⟩ := bnd h
        refine call_v C hP hS (c_X0_writeLog e28) mi_X0_writeLog mw_1068 9 (by decide) rfl rfl ⟨Nat.le_of_ble_eq_true rfl, Nat.le_of_ble_eq_true rfl⟩ (As := []) rfl hl.1 rfl (lv_room (Nat.le_of_ble_eq_true rfl)) dX10_sign_43 (fun H locs hP hS => ?_)
        refine lv_aload_n hx hb dX10_sign_46 rfl (lv_at hl 0 rfl) ?_
        refine gf_X10_68_0 C hP dX10_sign_47 ?_
        refine lv_iload_n hx hb dX10_sign_50 rfl (lv_at hl 2 rfl) ?_
        obtain ⟨q29, e30, h⟩ := bnd h
        refine call_i C hP hS (c_X0_signAt e30) mi_X0_signAt mw_1094 9 (by decide) rfl rfl ⟨Nat.le_of_ble_eq_true rfl, Nat.le_of_ble_eq_true rfl⟩ (As := [.int a2]) rfl hl.1 rfl (lv_room (Nat.le_of_ble_eq_true rfl)) dX10_sign_51 (fun H locs hP hS => ?_)
        exact ret_i C hr hlocks hP hS h dX10_sign_54
      · replace h := h_f c22 h
        refine lv_ldc hx hb C.2.2.2.1 (C.2.2.2.2.1 _ mw_411) dX10_sign_24 ?_
        exact ret_i C hr hlocks hP hS h dX10_sign_26
  · replace h := h_t c18 h
    refine lv_ldc hx hb C.2.2.2.1 (C.2.2.2.2.1 _ mw_716) dX10_sign_10 ?_
    exact ret_i C hr hlocks hP hS h dX10_sign_12
set_option maxHeartbeats 4000000 in
set_option maxRecDepth 100000 in
theorem c_X3_startsThatArrive {l : Launch} {G : GT} {lam : Lm} {σ : St} {q : Int32 × St} (h : f_X3_startsThatArrive σ = some q) : Met l yX3_startsThatArrive (Cond.code yX3_startsThatArrive cX3_startsThatArrive 3 ((some .int)) :: TB) ({ frames := 6, cells := 0, slots := 0, locals := 151 } : Room) (va_Pc [.ref (g_ad G 10)] (GW G lam σ)) (Ri q G lam) 0 0 (g_A G) := by
  refine mk_Qi (own := RX3) (by decide) (Nat.le_of_ble_eq_true rfl) rfl (fun p e s m args below meth c C hr hlocks hP ls hl => ?_)
  have hx := C.1
  have hb := C.2.1
  have hl : lv_has ls 3 [(0, .ref (g_ad G 10))] := hl
  have L4 : ∀ (n4 : Nat) (σ : St) (x1 : Int32) (x2 : Int32) (H : Heap) (locs : List Loc) (ls : Array Slot), fx (F_X3_startsThatArrive_h4) z_X3_startsThatArrive_h4 n4 σ x1 x2 = some q → va_P (g_D G) vwCl (allW G lam σ) H → va_S (g_A G) s.heap H locs → lv_has ls 3 [(0, .ref (g_ad G 10)), (1, .int x1), (2, .int x2)] → W p l e ({ frames := 6, cells := 0, slots := 0, locals := 151 } : Room) s m args below meth c H locs 0 0 (Qi q below args s G lam) (F0 m 4 ls []) := by
    intro n4
    induction n4 with
    | zero => intro σ x1 x2 H locs ls h hP hS hl; exact absurd h (by intro h9; cases h9)
    | succ n4 ih4 =>
      have J45 : ∀ (σ : St) (x1 : Int32) (x2 : Int32) (H : Heap) (locs : List Loc) (ls : Array Slot), f_X3_startsThatArrive_p45 (fx (F_X3_startsThatArrive_h4) z_X3_startsThatArrive_h4 n4) σ x1 x2 = some q → va_P (g_D G) vwCl (allW G lam σ) H → va_S (g_A G) s.heap H locs → lv_has ls 3 [(0, .ref (g_ad G 10)), (1, .int x1), (2, .int x2)] → W p l e ({ frames := 6, cells := 0, slots := 0, locals := 151 } : Room) s m args below meth c H locs 0 0 (Qi q below args s G lam) (F0 m 45 ls []) := by
        intro σ x1 x2 H locs ls h hP hS hl
        unfold f_X3_startsThatArrive_p45 at h
        obtain ⟨y11, e12, h⟩ := bnd h
        refine lv_iinc (v := y11) (lv' := [(2, .int y11), (0, .ref (g_ad G 10)), (1, .int x1)]) hx hb dX3_startsThatArrive_45 hl (k := 2) rfl (Option.some.inj e12) (by decide) rfl (fun ls hl => ?_)
        refine lv_goto (tgt := 4) hx hb dX3_startsThatArrive_48 (by decide) ?_
        exact ih4 _ _ _ H locs ls h hP hS (lv_sub hl [1, 2, 0] rfl)
      intro σ x1 x2 H locs ls h hP hS hl
      change F_X3_startsThatArrive_h4 (fx (F_X3_startsThatArrive_h4) z_X3_startsThatArrive_h4 n4) σ x1 x2 = some q at h
      unfold F_X3_startsThatArrive_h4 at h
      refine lv_iload_n hx hb dX3_startsThatArrive_4 rfl (lv_at hl 2 rfl) ?_
      refine lv_bipush (v := 30) hx hb dX3_startsThatArrive_5 (by decide) ?_
      refine lv_icmp_ge (tgt := 51) hx hb dX3_startsThatArrive_7 (by decide) (fun c13 => ?_) (fun c13 => ?_)
      · replace h := h_t c13 h
        refine lv_iload_n hx hb dX3_startsThatArrive_51 rfl (lv_at hl 1 rfl) ?_
        exact ret_i C hr hlocks hP hS h dX3_startsThatArrive_52
      · replace h := h_f c13 h
        refine lv_aload_n hx hb dX3_startsThatArrive_10 rfl (lv_at hl 0 rfl) ?_
        refine gf_X3_33_10 C hP dX3_startsThatArrive_11 ?_
        refine lv_iload_n hx hb dX3_startsThatArrive_14 rfl (lv_at hl 2 rfl) ?_
        refine lv_aload_n hx hb dX3_startsThatArrive_15 rfl (lv_at hl 0 rfl) ?_
        refine gf_X3_25_10 C hP dX3_startsThatArrive_16 ?_
        refine lv_iconst (v := 0) hx hb dX3_startsThatArrive_19 (by decide) ?_
        obtain ⟨q14, e15, h⟩ := bnd h
        refine call_i C hP hS (c_X6_shipCell_2 e15) mi_X6_shipCell mw_1106 2 (by decide) rfl rfl ⟨Nat.le_of_ble_eq_true rfl, Nat.le_of_ble_eq_true rfl⟩ (As := [.int 0]) rfl hl.1 rfl (lv_room (Nat.le_of_ble_eq_true rfl)) dX3_startsThatArrive_20 (fun H locs hP hS => ?_)
        refine lv_iconst (v := 0) hx hb dX3_startsThatArrive_23 (by decide) ?_
        refine lv_iconst (v := (-1)) hx hb dX3_startsThatArrive_24 (by decide) ?_
        refine lv_iconst (v := 0) hx hb dX3_startsThatArrive_25 (by decide) ?_
        obtain ⟨q16, e17, h⟩ := bnd h
        refine call_v C hP hS (c_X8_make e17) mi_X8_make mw_1107 8 (by decide) rfl rfl ⟨Nat.le_of_ble_eq_true rfl, Nat.le_of_ble_eq_true rfl⟩ (As := [.int x2, .int q14.1, .int 0, .int (-1), .int 0]) rfl hl.1 rfl (lv_room (Nat.le_of_ble_eq_true rfl)) dX3_startsThatArrive_26 (fun H locs hP hS => ?_)
        refine lv_aload_n hx hb dX3_startsThatArrive_29 rfl (lv_at hl 0 rfl) ?_
        refine gf_X3_33_10 C hP dX3_startsThatArrive_30 ?_
        obtain ⟨q18, e19, h⟩ := bnd h
        refine call_i C hP hS (c_X8_arrives e19) mi_X8_arrives mw_1108 8 (by decide) rfl rfl ⟨Nat.le_of_ble_eq_true rfl, Nat.le_of_ble_eq_true rfl⟩ (As := []) rfl hl.1 rfl (lv_room (Nat.le_of_ble_eq_true rfl)) dX3_startsThatArrive_33 (fun H locs hP hS => ?_)
        refine lv_if_eq (tgt := 45) hx hb dX3_startsThatArrive_36 (by decide) (fun c20 => ?_) (fun c20 => ?_)
        · replace h := h_t c20 h
          exact J45 _ _ _ H locs ls h hP hS (lv_sub hl [0, 1, 2] rfl)
        · replace h := h_f c20 h
          refine lv_iload_n hx hb dX3_startsThatArrive_39 rfl (lv_at hl 1 rfl) ?_
          refine lv_iconst (v := 1) hx hb dX3_startsThatArrive_40 (by decide) ?_
          refine lv_iload_n hx hb dX3_startsThatArrive_41 rfl (lv_at hl 2 rfl) ?_
          refine lv_ishl hx hb dX3_startsThatArrive_42 ?_
          refine lv_ior hx hb dX3_startsThatArrive_43 ?_
          obtain ⟨y21, e22, h⟩ := bnd h
          refine r_nm e22 ?_
          refine lv_istore_n (lv' := [(1, .int y21), (0, .ref (g_ad G 10)), (2, .int x2)]) hx hb dX3_startsThatArrive_44 rfl hl (by decide) rfl (fun ls hl => ?_)
          exact J45 _ _ _ H locs ls h hP hS (lv_sub hl [1, 0, 2] rfl)
  have hS : va_S (g_A G) s.heap s.heap [] := va_S.rf
  unfold f_X3_startsThatArrive at h
  obtain ⟨H, hH⟩ : ∃ H, H = s.heap := ⟨_, rfl⟩
  obtain ⟨locs, hlo⟩ : ∃ k : List Loc, k = [] := ⟨_, rfl⟩
  rw [← hH, ← hlo]
  rw [← hH] at hP
  replace hS : va_S (g_A G) s.heap H locs := by rw [hH, hlo]; exact hS
  refine lv_iconst (v := 0) hx hb dX3_startsThatArrive_0 (by decide) ?_
  refine lv_istore_n (lv' := [(1, .int 0), (0, .ref (g_ad G 10))]) hx hb dX3_startsThatArrive_1 rfl hl (by decide) rfl (fun ls hl => ?_)
  refine lv_iconst (v := 0) hx hb dX3_startsThatArrive_2 (by decide) ?_
  refine lv_istore_n (lv' := [(2, .int 0), (1, .int 0), (0, .ref (g_ad G 10))]) hx hb dX3_startsThatArrive_3 rfl hl (by decide) rfl (fun ls hl => ?_)
  exact L4 FU _ _ _ H locs ls h hP hS (lv_sub hl [2, 1, 0] rfl)
set_option maxHeartbeats 4000000 in
set_option maxRecDepth 100000 in
theorem c_X10_times {l : Launch} {G : GT} {lam : Lm} {σ : St} {q : Int32 × St} (h : f_X10_times σ = some q) : Met l yX10_times (Cond.code yX10_times cX10_times 1 ((some .int)) :: TB) ({ frames := 7, cells := 0, slots := 0, locals := 173 } : Room) (va_Pc [.ref (g_ad G 0)] (GW G lam σ)) (Ri q G lam) 0 0 (g_A G) := by
  refine mk_Qi (own := RX10) (by decide) (Nat.le_of_ble_eq_true rfl) rfl (fun p e s m args below meth c C hr hlocks hP ls hl => ?_)
  have hx := C.1
  have hb := C.2.1
  have hl : lv_has ls 1 [(0, .ref (g_ad G 0))] := hl
  have hS : va_S (g_A G) s.heap s.heap [] := va_S.rf
  unfold f_X10_times at h
  refine lv_aload_n hx hb dX10_times_0 rfl (lv_at hl 0 rfl) ?_
  refine gf_X10_19_0 C hP dX10_times_1 ?_
  obtain ⟨q6, e7, h⟩ := bnd h
  refine call_i C hP hS (c_X6_isTold_2 e7) mi_X6_isTold mw_753 2 (by decide) rfl rfl ⟨Nat.le_of_ble_eq_true rfl, Nat.le_of_ble_eq_true rfl⟩ (As := []) rfl hl.1 rfl (lv_room (Nat.le_of_ble_eq_true rfl)) dX10_times_4 (fun H locs hP hS => ?_)
  refine lv_if_ne (tgt := 13) hx hb dX10_times_7 (by decide) (fun c8 => ?_) (fun c8 => ?_)
  · replace h := h_f c8 h
    refine lv_aload_n hx hb dX10_times_13 rfl (lv_at hl 0 rfl) ?_
    refine gf_X10_75_0 C hP dX10_times_14 ?_
    obtain ⟨q9, e10, h⟩ := bnd h
    refine call_i C hP hS (c_X3_startsThatArrive e10) mi_X3_startsThatArrive mw_1102 10 (by decide) rfl rfl ⟨Nat.le_of_ble_eq_true rfl, Nat.le_of_ble_eq_true rfl⟩ (As := []) rfl hl.1 rfl (lv_room (Nat.le_of_ble_eq_true rfl)) dX10_times_17 (fun H locs hP hS => ?_)
    exact ret_i C hr hlocks hP hS h dX10_times_20
  · replace h := h_t c8 h
    refine lv_ldc hx hb C.2.2.2.1 (C.2.2.2.2.1 _ mw_716) dX10_times_10 ?_
    exact ret_i C hr hlocks hP hS h dX10_times_12
set_option maxHeartbeats 4000000 in
set_option maxRecDepth 100000 in
theorem c_X3_greatestDraught {l : Launch} {G : GT} {lam : Lm} {σ : St} {a1 : Int32} {q : Int32 × St} (h : f_X3_greatestDraught σ a1 = some q) : Met l yX3_greatestDraught (Cond.code yX3_greatestDraught cX3_greatestDraught 2 ((some .int)) :: TB) ({ frames := 6, cells := 0, slots := 0, locals := 151 } : Room) (va_Pc [.ref (g_ad G 10), .int a1] (GW G lam σ)) (Ri q G lam) 0 0 (g_A G) := by
  refine mk_Qi (own := RX3) (by decide) (Nat.le_of_ble_eq_true rfl) rfl (fun p e s m args below meth c C hr hlocks hP ls hl => ?_)
  have hx := C.1
  have hb := C.2.1
  have hl : lv_has ls 2 [(0, .ref (g_ad G 10)), (1, .int a1)] := hl
  have hS : va_S (g_A G) s.heap s.heap [] := va_S.rf
  unfold f_X3_greatestDraught at h
  refine lv_aload_n hx hb dX3_greatestDraught_0 rfl (lv_at hl 0 rfl) ?_
  refine gf_X3_33_10 C hP dX3_greatestDraught_1 ?_
  refine lv_iload_n hx hb dX3_greatestDraught_4 rfl (lv_at hl 1 rfl) ?_
  refine lv_iconst (v := 0) hx hb dX3_greatestDraught_5 (by decide) ?_
  refine lv_iconst (v := 0) hx hb dX3_greatestDraught_6 (by decide) ?_
  refine lv_iconst (v := (-1)) hx hb dX3_greatestDraught_7 (by decide) ?_
  refine lv_iconst (v := 0) hx hb dX3_greatestDraught_8 (by decide) ?_
  obtain ⟨q6, e7, h⟩ := bnd h
  refine call_v C hP hS (c_X8_make e7) mi_X8_make mw_1107 8 (by decide) rfl rfl ⟨Nat.le_of_ble_eq_true rfl, Nat.le_of_ble_eq_true rfl⟩ (As := [.int a1, .int 0, .int 0, .int (-1), .int 0]) rfl hl.1 rfl (lv_room (Nat.le_of_ble_eq_true rfl)) dX3_greatestDraught_9 (fun H locs hP hS => ?_)
  refine lv_aload_n hx hb dX3_greatestDraught_12 rfl (lv_at hl 0 rfl) ?_
  refine gf_X3_33_10 C hP dX3_greatestDraught_13 ?_
  obtain ⟨q8, e9, h⟩ := bnd h
  refine call_i C hP hS (c_X8_arrives e9) mi_X8_arrives mw_1108 8 (by decide) rfl rfl ⟨Nat.le_of_ble_eq_true rfl, Nat.le_of_ble_eq_true rfl⟩ (As := []) rfl hl.1 rfl (lv_room (Nat.le_of_ble_eq_true rfl)) dX3_greatestDraught_16 (fun H locs hP hS => ?_)
  refine lv_if_eq (tgt := 37) hx hb dX3_greatestDraught_19 (by decide) (fun c10 => ?_) (fun c10 => ?_)
  · replace h := h_t c10 h
    refine lv_ldc hx hb C.2.2.2.1 (C.2.2.2.2.1 _ mw_1118) dX3_greatestDraught_37 ?_
    exact ret_i C hr hlocks hP hS h dX3_greatestDraught_39
  · replace h := h_f c10 h
    refine lv_aload_n hx hb dX3_greatestDraught_22 rfl (lv_at hl 0 rfl) ?_
    refine gf_X3_33_10 C hP dX3_greatestDraught_23 ?_
    refine gf_X3_53_8 C hP dX3_greatestDraught_26 ?_
    refine lv_bipush (v := 20) hx hb dX3_greatestDraught_29 (by decide) ?_
    refine va_mmin hx hb (by rw [C.2.2.1]; exact hl.1.symm) C.2.2.2.1 (C.2.2.2.2.1 _ mw_1117) (C.2.2.2.2.1 _ mw_434) (C.2.2.2.2.1 _ mw_95) (C.2.2.2.2.1 _ mw_435) (Nat.le_of_ble_eq_true rfl) (Nat.le_of_ble_eq_true rfl) (Nat.zero_le _) (Nat.zero_le _) dX3_greatestDraught_31 ?_
    refine lv_goto (tgt := 39) hx hb dX3_greatestDraught_34 (by decide) ?_
    exact ret_i C hr hlocks hP hS h dX3_greatestDraught_39
set_option maxHeartbeats 4000000 in
set_option maxRecDepth 100000 in
theorem c_X10_deepest {l : Launch} {G : GT} {lam : Lm} {σ : St} {a1 : Int32} {q : Int32 × St} (h : f_X10_deepest σ a1 = some q) : Met l yX10_deepest (Cond.code yX10_deepest cX10_deepest 2 ((some .int)) :: TB) ({ frames := 7, cells := 0, slots := 0, locals := 172 } : Room) (va_Pc [.ref (g_ad G 0), .int a1] (GW G lam σ)) (Ri q G lam) 0 0 (g_A G) := by
  refine mk_Qi (own := RX10) (by decide) (Nat.le_of_ble_eq_true rfl) rfl (fun p e s m args below meth c C hr hlocks hP ls hl => ?_)
  have hx := C.1
  have hb := C.2.1
  have hl : lv_has ls 2 [(0, .ref (g_ad G 0)), (1, .int a1)] := hl
  have hS : va_S (g_A G) s.heap s.heap [] := va_S.rf
  unfold f_X10_deepest at h
  refine lv_aload_n hx hb dX10_deepest_0 rfl (lv_at hl 0 rfl) ?_
  refine gf_X10_19_0 C hP dX10_deepest_1 ?_
  obtain ⟨q9, e10, h⟩ := bnd h
  refine call_i C hP hS (c_X6_isTold_2 e10) mi_X6_isTold mw_753 2 (by decide) rfl rfl ⟨Nat.le_of_ble_eq_true rfl, Nat.le_of_ble_eq_true rfl⟩ (As := []) rfl hl.1 rfl (lv_room (Nat.le_of_ble_eq_true rfl)) dX10_deepest_4 (fun H locs hP hS => ?_)
  refine lv_if_ne (tgt := 13) hx hb dX10_deepest_7 (by decide) (fun c11 => ?_) (fun c11 => ?_)
  · replace h := h_f c11 h
    refine lv_iload_n hx hb dX10_deepest_13 rfl (lv_at hl 1 rfl) ?_
    obtain ⟨q12, e13, h⟩ := bnd h
    refine scall_i C hP hS (c_X10_isStart e13) ms_X10_isStart mw_925 ⟨Nat.le_of_ble_eq_true rfl, Nat.le_of_ble_eq_true rfl⟩ (As := [.int a1]) rfl hl.1 rfl (lv_room (Nat.le_of_ble_eq_true rfl)) dX10_deepest_14 (fun H locs hP hS => ?_)
    refine lv_if_ne (tgt := 23) hx hb dX10_deepest_17 (by decide) (fun c14 => ?_) (fun c14 => ?_)
    · replace h := h_f c14 h
      refine lv_aload_n hx hb dX10_deepest_23 rfl (lv_at hl 0 rfl) ?_
      refine gf_X10_75_0 C hP dX10_deepest_24 ?_
      refine lv_iload_n hx hb dX10_deepest_27 rfl (lv_at hl 1 rfl) ?_
      obtain ⟨q15, e16, h⟩ := bnd h
      refine call_i C hP hS (c_X3_greatestDraught e16) mi_X3_greatestDraught mw_1113 10 (by decide) rfl rfl ⟨Nat.le_of_ble_eq_true rfl, Nat.le_of_ble_eq_true rfl⟩ (As := [.int a1]) rfl hl.1 rfl (lv_room (Nat.le_of_ble_eq_true rfl)) dX10_deepest_28 (fun H locs hP hS => ?_)
      exact ret_i C hr hlocks hP hS h dX10_deepest_31
    · replace h := h_t c14 h
      refine lv_ldc hx hb C.2.2.2.1 (C.2.2.2.2.1 _ mw_411) dX10_deepest_20 ?_
      exact ret_i C hr hlocks hP hS h dX10_deepest_22
  · replace h := h_t c11 h
    refine lv_ldc hx hb C.2.2.2.1 (C.2.2.2.2.1 _ mw_716) dX10_deepest_10 ?_
    exact ret_i C hr hlocks hP hS h dX10_deepest_12
set_option maxHeartbeats 4000000 in
set_option maxRecDepth 100000 in
theorem c_X3_coursesThatArrive {l : Launch} {G : GT} {lam : Lm} {σ : St} {a1 : Int32} {a2 : Int32} {q : Int32 × St} (h : f_X3_coursesThatArrive σ a1 a2 = some q) : Met l yX3_coursesThatArrive (Cond.code yX3_coursesThatArrive cX3_coursesThatArrive 5 ((some .int)) :: TB) ({ frames := 6, cells := 0, slots := 0, locals := 151 } : Room) (va_Pc [.ref (g_ad G 10), .int a1, .int a2] (GW G lam σ)) (Ri q G lam) 0 0 (g_A G) := by
  refine mk_Qi (own := RX3) (by decide) (Nat.le_of_ble_eq_true rfl) rfl (fun p e s m args below meth c C hr hlocks hP ls hl => ?_)
  have hx := C.1
  have hb := C.2.1
  have hl : lv_has ls 5 [(0, .ref (g_ad G 10)), (1, .int a1), (2, .int a2)] := hl
  have L5 : ∀ (n5 : Nat) (σ : St) (x1 : Int32) (x2 : Int32) (x3 : Int32) (x4 : Int32) (H : Heap) (locs : List Loc) (ls : Array Slot), fx (F_X3_coursesThatArrive_h5) z_X3_coursesThatArrive_h5 n5 σ x1 x2 x3 x4 = some q → va_P (g_D G) vwCl (allW G lam σ) H → va_S (g_A G) s.heap H locs → lv_has ls 5 [(0, .ref (g_ad G 10)), (1, .int x1), (2, .int x2), (3, .int x3), (4, .int x4)] → W p l e ({ frames := 6, cells := 0, slots := 0, locals := 151 } : Room) s m args below meth c H locs 0 0 (Qi q below args s G lam) (F0 m 5 ls []) := by
    intro n5
    induction n5 with
    | zero => intro σ x1 x2 x3 x4 H locs ls h hP hS hl; exact absurd h (by intro h9; cases h9)
    | succ n5 ih5 =>
      have J49 : ∀ (σ : St) (x1 : Int32) (x2 : Int32) (x3 : Int32) (x4 : Int32) (H : Heap) (locs : List Loc) (ls : Array Slot), f_X3_coursesThatArrive_p49 (fx (F_X3_coursesThatArrive_h5) z_X3_coursesThatArrive_h5 n5) σ x1 x2 x3 x4 = some q → va_P (g_D G) vwCl (allW G lam σ) H → va_S (g_A G) s.heap H locs → lv_has ls 5 [(0, .ref (g_ad G 10)), (1, .int x1), (2, .int x2), (3, .int x3), (4, .int x4)] → W p l e ({ frames := 6, cells := 0, slots := 0, locals := 151 } : Room) s m args below meth c H locs 0 0 (Qi q below args s G lam) (F0 m 49 ls []) := by
        intro σ x1 x2 x3 x4 H locs ls h hP hS hl
        unfold f_X3_coursesThatArrive_p49 at h
        obtain ⟨y11, e12, h⟩ := bnd h
        refine lv_iinc (v := y11) (lv' := [(4, .int y11), (0, .ref (g_ad G 10)), (1, .int x1), (2, .int x2), (3, .int x3)]) hx hb dX3_coursesThatArrive_49 hl (k := 4) rfl (Option.some.inj e12) (by decide) rfl (fun ls hl => ?_)
        refine lv_goto (tgt := 5) hx hb dX3_coursesThatArrive_52 (by decide) ?_
        exact ih5 _ _ _ _ _ H locs ls h hP hS (lv_sub hl [1, 2, 3, 4, 0] rfl)
      intro σ x1 x2 x3 x4 H locs ls h hP hS hl
      change F_X3_coursesThatArrive_h5 (fx (F_X3_coursesThatArrive_h5) z_X3_coursesThatArrive_h5 n5) σ x1 x2 x3 x4 = some q at h
      unfold F_X3_coursesThatArrive_h5 at h
      refine lv_iload hx hb dX3_coursesThatArrive_5 (lv_at hl 4 rfl) ?_
      refine lv_bipush (v := 16) hx hb dX3_coursesThatArrive_7 (by decide) ?_
      refine lv_icmp_ge (tgt := 55) hx hb dX3_coursesThatArrive_9 (by decide) (fun c13 => ?_) (fun c13 => ?_)
      · replace h := h_t c13 h
        refine lv_iload_n hx hb dX3_coursesThatArrive_55 rfl (lv_at hl 3 rfl) ?_
        exact ret_i C hr hlocks hP hS h dX3_coursesThatArrive_56
      · replace h := h_f c13 h
        refine lv_aload_n hx hb dX3_coursesThatArrive_12 rfl (lv_at hl 0 rfl) ?_
        refine gf_X3_33_10 C hP dX3_coursesThatArrive_13 ?_
        refine lv_iload_n hx hb dX3_coursesThatArrive_16 rfl (lv_at hl 2 rfl) ?_
        refine lv_aload_n hx hb dX3_coursesThatArrive_17 rfl (lv_at hl 0 rfl) ?_
        refine gf_X3_25_10 C hP dX3_coursesThatArrive_18 ?_
        refine lv_iconst (v := 0) hx hb dX3_coursesThatArrive_21 (by decide) ?_
        obtain ⟨q14, e15, h⟩ := bnd h
        refine call_i C hP hS (c_X6_shipCell_2 e15) mi_X6_shipCell mw_1106 2 (by decide) rfl rfl ⟨Nat.le_of_ble_eq_true rfl, Nat.le_of_ble_eq_true rfl⟩ (As := [.int 0]) rfl hl.1 rfl (lv_room (Nat.le_of_ble_eq_true rfl)) dX3_coursesThatArrive_22 (fun H locs hP hS => ?_)
        refine lv_iconst (v := 0) hx hb dX3_coursesThatArrive_25 (by decide) ?_
        refine lv_iload_n hx hb dX3_coursesThatArrive_26 rfl (lv_at hl 1 rfl) ?_
        refine lv_iload hx hb dX3_coursesThatArrive_27 (lv_at hl 4 rfl) ?_
        obtain ⟨q16, e17, h⟩ := bnd h
        refine call_v C hP hS (c_X8_make e17) mi_X8_make mw_1107 8 (by decide) rfl rfl ⟨Nat.le_of_ble_eq_true rfl, Nat.le_of_ble_eq_true rfl⟩ (As := [.int x2, .int q14.1, .int 0, .int x1, .int x4]) rfl hl.1 rfl (lv_room (Nat.le_of_ble_eq_true rfl)) dX3_coursesThatArrive_29 (fun H locs hP hS => ?_)
        refine lv_aload_n hx hb dX3_coursesThatArrive_32 rfl (lv_at hl 0 rfl) ?_
        refine gf_X3_33_10 C hP dX3_coursesThatArrive_33 ?_
        obtain ⟨q18, e19, h⟩ := bnd h
        refine call_i C hP hS (c_X8_arrives e19) mi_X8_arrives mw_1108 8 (by decide) rfl rfl ⟨Nat.le_of_ble_eq_true rfl, Nat.le_of_ble_eq_true rfl⟩ (As := []) rfl hl.1 rfl (lv_room (Nat.le_of_ble_eq_true rfl)) dX3_coursesThatArrive_36 (fun H locs hP hS => ?_)
        refine lv_if_eq (tgt := 49) hx hb dX3_coursesThatArrive_39 (by decide) (fun c20 => ?_) (fun c20 => ?_)
        · replace h := h_t c20 h
          exact J49 _ _ _ _ _ H locs ls h hP hS (lv_sub hl [0, 1, 2, 3, 4] rfl)
        · replace h := h_f c20 h
          refine lv_iload_n hx hb dX3_coursesThatArrive_42 rfl (lv_at hl 3 rfl) ?_
          refine lv_iconst (v := 1) hx hb dX3_coursesThatArrive_43 (by decide) ?_
          refine lv_iload hx hb dX3_coursesThatArrive_44 (lv_at hl 4 rfl) ?_
          refine lv_ishl hx hb dX3_coursesThatArrive_46 ?_
          refine lv_ior hx hb dX3_coursesThatArrive_47 ?_
          obtain ⟨y21, e22, h⟩ := bnd h
          refine r_nm e22 ?_
          refine lv_istore_n (lv' := [(3, .int y21), (0, .ref (g_ad G 10)), (1, .int x1), (2, .int x2), (4, .int x4)]) hx hb dX3_coursesThatArrive_48 rfl hl (by decide) rfl (fun ls hl => ?_)
          exact J49 _ _ _ _ _ H locs ls h hP hS (lv_sub hl [1, 2, 3, 0, 4] rfl)
  have hS : va_S (g_A G) s.heap s.heap [] := va_S.rf
  unfold f_X3_coursesThatArrive at h
  obtain ⟨H, hH⟩ : ∃ H, H = s.heap := ⟨_, rfl⟩
  obtain ⟨locs, hlo⟩ : ∃ k : List Loc, k = [] := ⟨_, rfl⟩
  rw [← hH, ← hlo]
  rw [← hH] at hP
  replace hS : va_S (g_A G) s.heap H locs := by rw [hH, hlo]; exact hS
  refine lv_iconst (v := 0) hx hb dX3_coursesThatArrive_0 (by decide) ?_
  refine lv_istore_n (lv' := [(3, .int 0), (0, .ref (g_ad G 10)), (1, .int a1), (2, .int a2)]) hx hb dX3_coursesThatArrive_1 rfl hl (by decide) rfl (fun ls hl => ?_)
  refine lv_iconst (v := 0) hx hb dX3_coursesThatArrive_2 (by decide) ?_
  refine lv_istore (lv' := [(4, .int 0), (3, .int 0), (0, .ref (g_ad G 10)), (1, .int a1), (2, .int a2)]) hx hb dX3_coursesThatArrive_3 hl (by decide) rfl (fun ls hl => ?_)
  exact L5 FU _ _ _ _ _ H locs ls h hP hS (lv_sub hl [2, 3, 4, 1, 0] rfl)
set_option maxHeartbeats 4000000 in
set_option maxRecDepth 100000 in
theorem c_X10_courses {l : Launch} {G : GT} {lam : Lm} {σ : St} {a1 : Int32} {a2 : Int32} {q : Int32 × St} (h : f_X10_courses σ a1 a2 = some q) : Met l yX10_courses (Cond.code yX10_courses cX10_courses 3 ((some .int)) :: TB) ({ frames := 7, cells := 0, slots := 0, locals := 175 } : Room) (va_Pc [.ref (g_ad G 0), .int a1, .int a2] (GW G lam σ)) (Ri q G lam) 0 0 (g_A G) := by
  refine mk_Qi (own := RX10) (by decide) (Nat.le_of_ble_eq_true rfl) rfl (fun p e s m args below meth c C hr hlocks hP ls hl => ?_)
  have hx := C.1
  have hb := C.2.1
  have hl : lv_has ls 3 [(0, .ref (g_ad G 0)), (1, .int a1), (2, .int a2)] := hl
  have hS : va_S (g_A G) s.heap s.heap [] := va_S.rf
  unfold f_X10_courses at h
  refine lv_aload_n hx hb dX10_courses_0 rfl (lv_at hl 0 rfl) ?_
  refine gf_X10_19_0 C hP dX10_courses_1 ?_
  refine lv_iload_n hx hb dX10_courses_4 rfl (lv_at hl 1 rfl) ?_
  obtain ⟨q9, e10, h⟩ := bnd h
  refine call_i C hP hS (c_X6_hasLeg_2 e10) mi_X6_hasLeg mw_771 2 (by decide) rfl rfl ⟨Nat.le_of_ble_eq_true rfl, Nat.le_of_ble_eq_true rfl⟩ (As := [.int a1]) rfl hl.1 rfl (lv_room (Nat.le_of_ble_eq_true rfl)) dX10_courses_5 (fun H locs hP hS => ?_)
  refine lv_if_eq (tgt := 18) hx hb dX10_courses_8 (by decide) (fun c11 => ?_) (fun c11 => ?_)
  · replace h := h_t c11 h
    refine lv_ldc hx hb C.2.2.2.1 (C.2.2.2.2.1 _ mw_411) dX10_courses_18 ?_
    exact ret_i C hr hlocks hP hS h dX10_courses_20
  · replace h := h_f c11 h
    refine lv_iload_n hx hb dX10_courses_11 rfl (lv_at hl 2 rfl) ?_
    obtain ⟨q12, e13, h⟩ := bnd h
    refine scall_i C hP hS (c_X10_isStart e13) ms_X10_isStart mw_925 ⟨Nat.le_of_ble_eq_true rfl, Nat.le_of_ble_eq_true rfl⟩ (As := [.int a2]) rfl hl.1 rfl (lv_room (Nat.le_of_ble_eq_true rfl)) dX10_courses_12 (fun H locs hP hS => ?_)
    refine lv_if_ne (tgt := 21) hx hb dX10_courses_15 (by decide) (fun c14 => ?_) (fun c14 => ?_)
    · replace h := h_f c14 h
      refine lv_aload_n hx hb dX10_courses_21 rfl (lv_at hl 0 rfl) ?_
      refine gf_X10_75_0 C hP dX10_courses_22 ?_
      refine lv_iload_n hx hb dX10_courses_25 rfl (lv_at hl 1 rfl) ?_
      refine lv_iload_n hx hb dX10_courses_26 rfl (lv_at hl 2 rfl) ?_
      obtain ⟨q15, e16, h⟩ := bnd h
      refine call_i C hP hS (c_X3_coursesThatArrive e16) mi_X3_coursesThatArrive mw_1123 10 (by decide) rfl rfl ⟨Nat.le_of_ble_eq_true rfl, Nat.le_of_ble_eq_true rfl⟩ (As := [.int a1, .int a2]) rfl hl.1 rfl (lv_room (Nat.le_of_ble_eq_true rfl)) dX10_courses_27 (fun H locs hP hS => ?_)
      exact ret_i C hr hlocks hP hS h dX10_courses_30
    · replace h := h_t c14 h
      refine lv_ldc hx hb C.2.2.2.1 (C.2.2.2.2.1 _ mw_411) dX10_courses_18 ?_
      exact ret_i C hr hlocks hP hS h dX10_courses_20
set_option maxHeartbeats 4000000 in
set_option maxRecDepth 100000 in
theorem c_X3_marksThatMatter {l : Launch} {G : GT} {lam : Lm} {σ : St} {a1 : Int32} {q : Int32 × St} (h : f_X3_marksThatMatter σ a1 = some q) : Met l yX3_marksThatMatter (Cond.code yX3_marksThatMatter cX3_marksThatMatter 9 ((some .int)) :: TB) ({ frames := 6, cells := 0, slots := 0, locals := 151 } : Room) (va_Pc [.ref (g_ad G 10), .int a1] (GW G lam σ)) (Ri q G lam) 0 0 (g_A G) := by
  refine mk_Qi (own := RX3) (by decide) (Nat.le_of_ble_eq_true rfl) rfl (fun p e s m args below meth c C hr hlocks hP ls hl => ?_)
  have hx := C.1
  have hb := C.2.1
  have hl : lv_has ls 9 [(0, .ref (g_ad G 10)), (1, .int a1)] := hl
  have L59 : ∀ (n59 : Nat) (σ : St) (x1 : Int32) (x2 : Int32) (x3 : Int32) (x4 : Int32) (x5 : Int32) (x6 : Int32) (x7 : Int32) (H : Heap) (locs : List Loc) (ls : Array Slot), fx (F_X3_marksThatMatter_h59) z_X3_marksThatMatter_h59 n59 σ x1 x2 x3 x4 x5 x6 x7 = some q → va_P (g_D G) vwCl (allW G lam σ) H → va_S (g_A G) s.heap H locs → lv_has ls 9 [(0, .ref (g_ad G 10)), (1, .int x1), (2, .int x2), (3, .int x3), (4, .int x4), (5, .int x5), (6, .int x6), (7, .int x7)] → W p l e ({ frames := 6, cells := 0, slots := 0, locals := 151 } : Room) s m args below meth c H locs 0 0 (Qi q below args s G lam) (F0 m 59 ls []) := by
    intro n59
    induction n59 with
    | zero => intro σ x1 x2 x3 x4 x5 x6 x7 H locs ls h hP hS hl; exact absurd h (by intro h9; cases h9)
    | succ n59 ih59 =>
      have J176 : ∀ (σ : St) (x1 : Int32) (x2 : Int32) (x3 : Int32) (x4 : Int32) (x5 : Int32) (x6 : Int32) (x7 : Int32) (H : Heap) (locs : List Loc) (ls : Array Slot), f_X3_marksThatMatter_p176 (fx (F_X3_marksThatMatter_h59) z_X3_marksThatMatter_h59 n59) σ x1 x2 x3 x4 x5 x6 x7 = some q → va_P (g_D G) vwCl (allW G lam σ) H → va_S (g_A G) s.heap H locs → lv_has ls 9 [(0, .ref (g_ad G 10)), (1, .int x1), (2, .int x2), (3, .int x3), (4, .int x4), (5, .int x5), (6, .int x6), (7, .int x7)] → W p l e ({ frames := 6, cells := 0, slots := 0, locals := 151 } : Room) s m args below meth c H locs 0 0 (Qi q below args s G lam) (F0 m 176 ls []) := by
        intro σ x1 x2 x3 x4 x5 x6 x7 H locs ls h hP hS hl
        unfold f_X3_marksThatMatter_p176 at h
        obtain ⟨y26, e27, h⟩ := bnd h
        refine lv_iinc (v := y26) (lv' := [(7, .int y26), (0, .ref (g_ad G 10)), (1, .int x1), (2, .int x2), (3, .int x3), (4, .int x4), (5, .int x5), (6, .int x6)]) hx hb dX3_marksThatMatter_176 hl (k := 7) rfl (Option.some.inj e27) (by decide) rfl (fun ls hl => ?_)
        refine lv_goto (tgt := 59) hx hb dX3_marksThatMatter_179 (by decide) ?_
        exact ih59 _ _ _ _ _ _ _ _ H locs ls h hP hS (lv_sub hl [1, 2, 3, 4, 5, 6, 7, 0] rfl)
      have J173 : ∀ (σ : St) (x1 : Int32) (x2 : Int32) (x3 : Int32) (x4 : Int32) (x5 : Int32) (x7 : Int32) (t0 : Int32) (t1 : Int32) (H : Heap) (locs : List Loc) (ls : Array Slot), f_X3_marksThatMatter_p173 (fx (F_X3_marksThatMatter_h59) z_X3_marksThatMatter_h59 n59) σ x1 x2 x3 x4 x5 x7 t0 t1 = some q → va_P (g_D G) vwCl (allW G lam σ) H → va_S (g_A G) s.heap H locs → lv_has ls 9 [(0, .ref (g_ad G 10)), (1, .int x1), (2, .int x2), (3, .int x3), (4, .int x4), (5, .int x5), (7, .int x7)] → W p l e ({ frames := 6, cells := 0, slots := 0, locals := 151 } : Room) s m args below meth c H locs 0 0 (Qi q below args s G lam) (F0 m 173 ls [.int t0, .int t1]) := by
        intro σ x1 x2 x3 x4 x5 x7 t0 t1 H locs ls h hP hS hl
        unfold f_X3_marksThatMatter_p173 at h
        refine lv_ior hx hb dX3_marksThatMatter_173 ?_
        obtain ⟨y28, e29, h⟩ := bnd h
        refine r_nm e29 ?_
        refine lv_istore (lv' := [(6, .int y28), (0, .ref (g_ad G 10)), (1, .int x1), (2, .int x2), (3, .int x3), (4, .int x4), (5, .int x5), (7, .int x7)]) hx hb dX3_marksThatMatter_174 hl (by decide) rfl (fun ls hl => ?_)
        exact J176 _ _ _ _ _ _ _ _ H locs ls h hP hS (lv_sub hl [1, 2, 3, 4, 5, 6, 0, 7] rfl)
      have J156 : ∀ (σ : St) (x1 : Int32) (x2 : Int32) (x3 : Int32) (x4 : Int32) (x5 : Int32) (x6 : Int32) (x7 : Int32) (t0 : Int32) (H : Heap) (locs : List Loc) (ls : Array Slot), f_X3_marksThatMatter_p156 (fx (F_X3_marksThatMatter_h59) z_X3_marksThatMatter_h59 n59) σ x1 x2 x3 x4 x5 x6 x7 t0 = some q → va_P (g_D G) vwCl (allW G lam σ) H → va_S (g_A G) s.heap H locs → lv_has ls 9 [(0, .ref (g_ad G 10)), (1, .int x1), (2, .int x2), (3, .int x3), (4, .int x4), (5, .int x5), (6, .int x6), (7, .int x7)] → W p l e ({ frames := 6, cells := 0, slots := 0, locals := 151 } : Room) s m args below meth c H locs 0 0 (Qi q below args s G lam) (F0 m 156 ls [.int t0]) := by
        intro σ x1 x2 x3 x4 x5 x6 x7 t0 H locs ls h hP hS hl
        unfold f_X3_marksThatMatter_p156 at h
        refine lv_istore (lv' := [(8, .int t0), (0, .ref (g_ad G 10)), (1, .int x1), (2, .int x2), (3, .int x3), (4, .int x4), (5, .int x5), (6, .int x6), (7, .int x7)]) hx hb dX3_marksThatMatter_156 hl (by decide) rfl (fun ls hl => ?_)
        refine lv_iload hx hb dX3_marksThatMatter_158 (lv_at hl 7 rfl) ?_
        refine lv_iload hx hb dX3_marksThatMatter_160 (lv_at hl 0 rfl) ?_
        refine lv_if_eq (tgt := 169) hx hb dX3_marksThatMatter_162 (by decide) (fun c30 => ?_) (fun c30 => ?_)
        · replace h := h_t c30 h
          refine lv_iconst (v := 1) hx hb dX3_marksThatMatter_169 (by decide) ?_
          refine lv_iload hx hb dX3_marksThatMatter_170 (lv_at hl 8 rfl) ?_
          refine lv_ishl hx hb dX3_marksThatMatter_172 ?_
          exact J173 _ _ _ _ _ _ _ _ _ H locs ls h hP hS (lv_sub hl [1, 2, 3, 4, 5, 6, 8] rfl)
        · replace h := h_f c30 h
          refine lv_iconst (v := 0) hx hb dX3_marksThatMatter_165 (by decide) ?_
          refine lv_goto (tgt := 173) hx hb dX3_marksThatMatter_166 (by decide) ?_
          exact J173 _ _ _ _ _ _ _ _ _ H locs ls h hP hS (lv_sub hl [1, 2, 3, 4, 5, 6, 8] rfl)
      have J155 : ∀ (σ : St) (x1 : Int32) (x2 : Int32) (x3 : Int32) (x4 : Int32) (x5 : Int32) (x6 : Int32) (x7 : Int32) (H : Heap) (locs : List Loc) (ls : Array Slot), f_X3_marksThatMatter_p155 (fx (F_X3_marksThatMatter_h59) z_X3_marksThatMatter_h59 n59) σ x1 x2 x3 x4 x5 x6 x7 = some q → va_P (g_D G) vwCl (allW G lam σ) H → va_S (g_A G) s.heap H locs → lv_has ls 9 [(0, .ref (g_ad G 10)), (1, .int x1), (2, .int x2), (3, .int x3), (4, .int x4), (5, .int x5), (6, .int x6), (7, .int x7)] → W p l e ({ frames := 6, cells := 0, slots := 0, locals := 151 } : Room) s m args below meth c H locs 0 0 (Qi q below args s G lam) (F0 m 155 ls []) := by
        intro σ x1 x2 x3 x4 x5 x6 x7 H locs ls h hP hS hl
        unfold f_X3_marksThatMatter_p155 at h
        refine lv_iconst (v := 0) hx hb dX3_marksThatMatter_155 (by decide) ?_
        exact J156 _ _ _ _ _ _ _ _ _ H locs ls h hP hS (lv_sub hl [0, 1, 2, 3, 4, 5, 6, 7] rfl)
      intro σ x1 x2 x3 x4 x5 x6 x7 H locs ls h hP hS hl
      change F_X3_marksThatMatter_h59 (fx (F_X3_marksThatMatter_h59) z_X3_marksThatMatter_h59 n59) σ x1 x2 x3 x4 x5 x6 x7 = some q at h
      unfold F_X3_marksThatMatter_h59 at h
      refine lv_iload hx hb dX3_marksThatMatter_59 (lv_at hl 7 rfl) ?_
      refine lv_aload_n hx hb dX3_marksThatMatter_61 rfl (lv_at hl 0 rfl) ?_
      refine gf_X3_25_10 C hP dX3_marksThatMatter_62 ?_
      obtain ⟨q31, e32, h⟩ := bnd h
      refine call_i C hP hS (c_X6_thingCount_2 e32) mi_X6_thingCount mw_1135 2 (by decide) rfl rfl ⟨Nat.le_of_ble_eq_true rfl, Nat.le_of_ble_eq_true rfl⟩ (As := []) rfl hl.1 rfl (lv_room (Nat.le_of_ble_eq_true rfl)) dX3_marksThatMatter_65 (fun H locs hP hS => ?_)
      refine lv_icmp_ge (tgt := 182) hx hb dX3_marksThatMatter_68 (by decide) (fun c33 => ?_) (fun c33 => ?_)
      · replace h := h_t c33 h
        refine lv_iload hx hb dX3_marksThatMatter_182 (lv_at hl 6 rfl) ?_
        exact ret_i C hr hlocks hP hS h dX3_marksThatMatter_184
      · replace h := h_f c33 h
        refine lv_aload_n hx hb dX3_marksThatMatter_71 rfl (lv_at hl 0 rfl) ?_
        refine gf_X3_25_10 C hP dX3_marksThatMatter_72 ?_
        refine lv_iload hx hb dX3_marksThatMatter_75 (lv_at hl 7 rfl) ?_
        obtain ⟨q34, e35, h⟩ := bnd h
        refine call_i C hP hS (c_X6_isMark_2 e35) mi_X6_isMark mw_1136 2 (by decide) rfl rfl ⟨Nat.le_of_ble_eq_true rfl, Nat.le_of_ble_eq_true rfl⟩ (As := [.int x7]) rfl hl.1 rfl (lv_room (Nat.le_of_ble_eq_true rfl)) dX3_marksThatMatter_77 (fun H locs hP hS => ?_)
        refine lv_if_eq (tgt := 176) hx hb dX3_marksThatMatter_80 (by decide) (fun c36 => ?_) (fun c36 => ?_)
        · replace h := h_t c36 h
          exact J176 _ _ _ _ _ _ _ _ H locs ls h hP hS (lv_sub hl [0, 1, 2, 3, 4, 5, 6, 7] rfl)
        · replace h := h_f c36 h
          refine lv_aload_n hx hb dX3_marksThatMatter_83 rfl (lv_at hl 0 rfl) ?_
          refine gf_X3_33_10 C hP dX3_marksThatMatter_84 ?_
          refine lv_iload_n hx hb dX3_marksThatMatter_87 rfl (lv_at hl 1 rfl) ?_
          refine lv_aload_n hx hb dX3_marksThatMatter_88 rfl (lv_at hl 0 rfl) ?_
          refine gf_X3_25_10 C hP dX3_marksThatMatter_89 ?_
          refine lv_iconst (v := 0) hx hb dX3_marksThatMatter_92 (by decide) ?_
          obtain ⟨q37, e38, h⟩ := bnd h
          refine call_i C hP hS (c_X6_shipCell_2 e38) mi_X6_shipCell mw_1106 2 (by decide) rfl rfl ⟨Nat.le_of_ble_eq_true rfl, Nat.le_of_ble_eq_true rfl⟩ (As := [.int 0]) rfl hl.1 rfl (lv_room (Nat.le_of_ble_eq_true rfl)) dX3_marksThatMatter_93 (fun H locs hP hS => ?_)
          refine lv_iconst (v := 1) hx hb dX3_marksThatMatter_96 (by decide) ?_
          refine lv_iload hx hb dX3_marksThatMatter_97 (lv_at hl 7 rfl) ?_
          refine lv_ishl hx hb dX3_marksThatMatter_99 ?_
          refine lv_iconst (v := (-1)) hx hb dX3_marksThatMatter_100 (by decide) ?_
          refine lv_iconst (v := 0) hx hb dX3_marksThatMatter_101 (by decide) ?_
          obtain ⟨q39, e40, h⟩ := bnd h
          refine call_v C hP hS (c_X8_make e40) mi_X8_make mw_1107 8 (by decide) rfl rfl ⟨Nat.le_of_ble_eq_true rfl, Nat.le_of_ble_eq_true rfl⟩ (As := [.int x1, .int q37.1, .int (1 <<< (x7 &&& 31)), .int (-1), .int 0]) rfl hl.1 rfl (lv_room (Nat.le_of_ble_eq_true rfl)) dX3_marksThatMatter_102 (fun H locs hP hS => ?_)
          refine lv_aload_n hx hb dX3_marksThatMatter_105 rfl (lv_at hl 0 rfl) ?_
          refine gf_X3_33_10 C hP dX3_marksThatMatter_106 ?_
          obtain ⟨q41, e42, h⟩ := bnd h
          refine call_i C hP hS (c_X8_arrives e42) mi_X8_arrives mw_1108 8 (by decide) rfl rfl ⟨Nat.le_of_ble_eq_true rfl, Nat.le_of_ble_eq_true rfl⟩ (As := []) rfl hl.1 rfl (lv_room (Nat.le_of_ble_eq_true rfl)) dX3_marksThatMatter_109 (fun H locs hP hS => ?_)
          refine lv_iload_n hx hb dX3_marksThatMatter_112 rfl (lv_at hl 2 rfl) ?_
          refine lv_icmp_ne (tgt := 155) hx hb dX3_marksThatMatter_113 (by decide) (fun c43 => ?_) (fun c43 => ?_)
          · replace h := h_f c43 h
            exact J155 _ _ _ _ _ _ _ _ H locs ls h hP hS (lv_sub hl [0, 1, 2, 3, 4, 5, 6, 7] rfl)
          · replace h := h_t c43 h
            refine lv_aload_n hx hb dX3_marksThatMatter_116 rfl (lv_at hl 0 rfl) ?_
            refine gf_X3_33_10 C hP dX3_marksThatMatter_117 ?_
            refine gf_X3_65_8 C hP dX3_marksThatMatter_120 ?_
            refine lv_iload_n hx hb dX3_marksThatMatter_123 rfl (lv_at hl 3 rfl) ?_
            refine lv_icmp_ne (tgt := 155) hx hb dX3_marksThatMatter_124 (by decide) (fun c44 => ?_) (fun c44 => ?_)
            · replace h := h_f c44 h
              exact J155 _ _ _ _ _ _ _ _ H locs ls h hP hS (lv_sub hl [0, 1, 2, 3, 4, 5, 6, 7] rfl)
            · replace h := h_t c44 h
              refine lv_aload_n hx hb dX3_marksThatMatter_127 rfl (lv_at hl 0 rfl) ?_
              refine gf_X3_33_10 C hP dX3_marksThatMatter_128 ?_
              refine gf_X3_68_8 C hP dX3_marksThatMatter_131 ?_
              refine lv_iload hx hb dX3_marksThatMatter_134 (lv_at hl 4 rfl) ?_
              refine lv_icmp_ne (tgt := 155) hx hb dX3_marksThatMatter_136 (by decide) (fun c45 => ?_) (fun c45 => ?_)
              · replace h := h_f c45 h
                exact J155 _ _ _ _ _ _ _ _ H locs ls h hP hS (lv_sub hl [0, 1, 2, 3, 4, 5, 6, 7] rfl)
              · replace h := h_t c45 h
                refine lv_aload_n hx hb dX3_marksThatMatter_139 rfl (lv_at hl 0 rfl) ?_
                refine gf_X3_33_10 C hP dX3_marksThatMatter_140 ?_
                refine gf_X3_71_8 C hP dX3_marksThatMatter_143 ?_
                refine lv_iload hx hb dX3_marksThatMatter_146 (lv_at hl 5 rfl) ?_
                refine lv_icmp_ne (tgt := 155) hx hb dX3_marksThatMatter_148 (by decide) (fun c46 => ?_) (fun c46 => ?_)
                · replace h := h_f c46 h
                  exact J155 _ _ _ _ _ _ _ _ H locs ls h hP hS (lv_sub hl [0, 1, 2, 3, 4, 5, 6, 7] rfl)
                · replace h := h_t c46 h
                  refine lv_iconst (v := 1) hx hb dX3_marksThatMatter_151 (by decide) ?_
                  refine lv_goto (tgt := 156) hx hb dX3_marksThatMatter_152 (by decide) ?_
                  exact J156 _ _ _ _ _ _ _ _ _ H locs ls h hP hS (lv_sub hl [0, 1, 2, 3, 4, 5, 6, 7] rfl)
  have hS : va_S (g_A G) s.heap s.heap [] := va_S.rf
  unfold f_X3_marksThatMatter at h
  obtain ⟨H, hH⟩ : ∃ H, H = s.heap := ⟨_, rfl⟩
  obtain ⟨locs, hlo⟩ : ∃ k : List Loc, k = [] := ⟨_, rfl⟩
  rw [← hH, ← hlo]
  rw [← hH] at hP
  replace hS : va_S (g_A G) s.heap H locs := by rw [hH, hlo]; exact hS
  refine lv_aload_n hx hb dX3_marksThatMatter_0 rfl (lv_at hl 0 rfl) ?_
  refine gf_X3_33_10 C hP dX3_marksThatMatter_1 ?_
  refine lv_iload_n hx hb dX3_marksThatMatter_4 rfl (lv_at hl 1 rfl) ?_
  refine lv_aload_n hx hb dX3_marksThatMatter_5 rfl (lv_at hl 0 rfl) ?_
  refine gf_X3_25_10 C hP dX3_marksThatMatter_6 ?_
  refine lv_iconst (v := 0) hx hb dX3_marksThatMatter_9 (by decide) ?_
  obtain ⟨q47, e48, h⟩ := bnd h
  refine call_i C hP hS (c_X6_shipCell_2 e48) mi_X6_shipCell mw_1106 2 (by decide) rfl rfl ⟨Nat.le_of_ble_eq_true rfl, Nat.le_of_ble_eq_true rfl⟩ (As := [.int 0]) rfl hl.1 rfl (lv_room (Nat.le_of_ble_eq_true rfl)) dX3_marksThatMatter_10 (fun H locs hP hS => ?_)
  refine lv_iconst (v := 0) hx hb dX3_marksThatMatter_13 (by decide) ?_
  refine lv_iconst (v := (-1)) hx hb dX3_marksThatMatter_14 (by decide) ?_
  refine lv_iconst (v := 0) hx hb dX3_marksThatMatter_15 (by decide) ?_
  obtain ⟨q49, e50, h⟩ := bnd h
  refine call_v C hP hS (c_X8_make e50) mi_X8_make mw_1107 8 (by decide) rfl rfl ⟨Nat.le_of_ble_eq_true rfl, Nat.le_of_ble_eq_true rfl⟩ (As := [.int a1, .int q47.1, .int 0, .int (-1), .int 0]) rfl hl.1 rfl (lv_room (Nat.le_of_ble_eq_true rfl)) dX3_marksThatMatter_16 (fun H locs hP hS => ?_)
  refine lv_aload_n hx hb dX3_marksThatMatter_19 rfl (lv_at hl 0 rfl) ?_
  refine gf_X3_33_10 C hP dX3_marksThatMatter_20 ?_
  obtain ⟨q51, e52, h⟩ := bnd h
  refine call_i C hP hS (c_X8_arrives e52) mi_X8_arrives mw_1108 8 (by decide) rfl rfl ⟨Nat.le_of_ble_eq_true rfl, Nat.le_of_ble_eq_true rfl⟩ (As := []) rfl hl.1 rfl (lv_room (Nat.le_of_ble_eq_true rfl)) dX3_marksThatMatter_23 (fun H locs hP hS => ?_)
  refine lv_istore_n (lv' := [(2, .int q51.1), (0, .ref (g_ad G 10)), (1, .int a1)]) hx hb dX3_marksThatMatter_26 rfl hl (by decide) rfl (fun ls hl => ?_)
  refine lv_aload_n hx hb dX3_marksThatMatter_27 rfl (lv_at hl 1 rfl) ?_
  refine gf_X3_33_10 C hP dX3_marksThatMatter_28 ?_
  refine gf_X3_65_8 C hP dX3_marksThatMatter_31 ?_
  obtain ⟨y53, e54, h⟩ := bnd h
  refine r_nm e54 ?_
  refine lv_istore_n (lv' := [(3, .int y53), (2, .int q51.1), (0, .ref (g_ad G 10)), (1, .int a1)]) hx hb dX3_marksThatMatter_34 rfl hl (by decide) rfl (fun ls hl => ?_)
  refine lv_aload_n hx hb dX3_marksThatMatter_35 rfl (lv_at hl 2 rfl) ?_
  refine gf_X3_33_10 C hP dX3_marksThatMatter_36 ?_
  refine gf_X3_68_8 C hP dX3_marksThatMatter_39 ?_
  obtain ⟨y55, e56, h⟩ := bnd h
  refine r_nm e56 ?_
  refine lv_istore (lv' := [(4, .int y55), (3, .int y53), (2, .int q51.1), (0, .ref (g_ad G 10)), (1, .int a1)]) hx hb dX3_marksThatMatter_42 hl (by decide) rfl (fun ls hl => ?_)
  refine lv_aload_n hx hb dX3_marksThatMatter_44 rfl (lv_at hl 3 rfl) ?_
  refine gf_X3_33_10 C hP dX3_marksThatMatter_45 ?_
  refine gf_X3_71_8 C hP dX3_marksThatMatter_48 ?_
  obtain ⟨y57, e58, h⟩ := bnd h
  refine r_nm e58 ?_
  refine lv_istore (lv' := [(5, .int y57), (4, .int y55), (3, .int y53), (2, .int q51.1), (0, .ref (g_ad G 10)), (1, .int a1)]) hx hb dX3_marksThatMatter_51 hl (by decide) rfl (fun ls hl => ?_)
  refine lv_iconst (v := 0) hx hb dX3_marksThatMatter_53 (by decide) ?_
  refine lv_istore (lv' := [(6, .int 0), (5, .int y57), (4, .int y55), (3, .int y53), (2, .int q51.1), (0, .ref (g_ad G 10)), (1, .int a1)]) hx hb dX3_marksThatMatter_54 hl (by decide) rfl (fun ls hl => ?_)
  refine lv_iconst (v := 0) hx hb dX3_marksThatMatter_56 (by decide) ?_
  refine lv_istore (lv' := [(7, .int 0), (6, .int 0), (5, .int y57), (4, .int y55), (3, .int y53), (2, .int q51.1), (0, .ref (g_ad G 10)), (1, .int a1)]) hx hb dX3_marksThatMatter_57 hl (by decide) rfl (fun ls hl => ?_)
  exact L59 FU _ _ _ _ _ _ _ _ H locs ls h hP hS (lv_sub hl [6, 7, 5, 4, 3, 2, 1, 0] rfl)
set_option maxHeartbeats 4000000 in
set_option maxRecDepth 100000 in
theorem c_X10_needed {l : Launch} {G : GT} {lam : Lm} {σ : St} {a1 : Int32} {q : Int32 × St} (h : f_X10_needed σ a1 = some q) : Met l yX10_needed (Cond.code yX10_needed cX10_needed 2 ((some .int)) :: TB) ({ frames := 7, cells := 0, slots := 0, locals := 179 } : Room) (va_Pc [.ref (g_ad G 0), .int a1] (GW G lam σ)) (Ri q G lam) 0 0 (g_A G) := by
  refine mk_Qi (own := RX10) (by decide) (Nat.le_of_ble_eq_true rfl) rfl (fun p e s m args below meth c C hr hlocks hP ls hl => ?_)
  have hx := C.1
  have hb := C.2.1
  have hl : lv_has ls 2 [(0, .ref (g_ad G 0)), (1, .int a1)] := hl
  have hS : va_S (g_A G) s.heap s.heap [] := va_S.rf
  unfold f_X10_needed at h
  refine lv_aload_n hx hb dX10_needed_0 rfl (lv_at hl 0 rfl) ?_
  refine gf_X10_19_0 C hP dX10_needed_1 ?_
  obtain ⟨q9, e10, h⟩ := bnd h
  refine call_i C hP hS (c_X6_isTold_2 e10) mi_X6_isTold mw_753 2 (by decide) rfl rfl ⟨Nat.le_of_ble_eq_true rfl, Nat.le_of_ble_eq_true rfl⟩ (As := []) rfl hl.1 rfl (lv_room (Nat.le_of_ble_eq_true rfl)) dX10_needed_4 (fun H locs hP hS => ?_)
  refine lv_if_ne (tgt := 13) hx hb dX10_needed_7 (by decide) (fun c11 => ?_) (fun c11 => ?_)
  · replace h := h_f c11 h
    refine lv_iload_n hx hb dX10_needed_13 rfl (lv_at hl 1 rfl) ?_
    obtain ⟨q12, e13, h⟩ := bnd h
    refine scall_i C hP hS (c_X10_isStart e13) ms_X10_isStart mw_925 ⟨Nat.le_of_ble_eq_true rfl, Nat.le_of_ble_eq_true rfl⟩ (As := [.int a1]) rfl hl.1 rfl (lv_room (Nat.le_of_ble_eq_true rfl)) dX10_needed_14 (fun H locs hP hS => ?_)
    refine lv_if_ne (tgt := 23) hx hb dX10_needed_17 (by decide) (fun c14 => ?_) (fun c14 => ?_)
    · replace h := h_f c14 h
      refine lv_aload_n hx hb dX10_needed_23 rfl (lv_at hl 0 rfl) ?_
      refine gf_X10_75_0 C hP dX10_needed_24 ?_
      refine lv_iload_n hx hb dX10_needed_27 rfl (lv_at hl 1 rfl) ?_
      obtain ⟨q15, e16, h⟩ := bnd h
      refine call_i C hP hS (c_X3_marksThatMatter e16) mi_X3_marksThatMatter mw_1131 10 (by decide) rfl rfl ⟨Nat.le_of_ble_eq_true rfl, Nat.le_of_ble_eq_true rfl⟩ (As := [.int a1]) rfl hl.1 rfl (lv_room (Nat.le_of_ble_eq_true rfl)) dX10_needed_28 (fun H locs hP hS => ?_)
      exact ret_i C hr hlocks hP hS h dX10_needed_31
    · replace h := h_t c14 h
      refine lv_ldc hx hb C.2.2.2.1 (C.2.2.2.2.1 _ mw_411) dX10_needed_20 ?_
      exact ret_i C hr hlocks hP hS h dX10_needed_22
  · replace h := h_t c11 h
    refine lv_ldc hx hb C.2.2.2.1 (C.2.2.2.2.1 _ mw_716) dX10_needed_10 ?_
    exact ret_i C hr hlocks hP hS h dX10_needed_12
set_option maxHeartbeats 4000000 in
set_option maxRecDepth 100000 in
theorem c_X1_squareFrom {l : Launch} {G : GT} {lam : Lm} {σ : St} {a1 : Int32} {a2 : Int32} {a3 : Int32} {q : Int32 × St} (h : f_X1_squareFrom σ a1 a2 a3 = some q) : Met l yX1_squareFrom (Cond.code yX1_squareFrom cX1_squareFrom 6 ((some .int)) :: TB) ({ frames := 1, cells := 0, slots := 0, locals := 22 } : Room) (va_Pc [.ref (g_ad G 7), .int a1, .int a2, .int a3] (GW G lam σ)) (Ri q G lam) 0 0 (g_A G) := by
  refine mk_Qi (own := RX1) (by decide) (Nat.le_of_ble_eq_true rfl) rfl (fun p e s m args below meth c C hr hlocks hP ls hl => ?_)
  have hx := C.1
  have hb := C.2.1
  have hl : lv_has ls 6 [(0, .ref (g_ad G 7)), (1, .int a1), (2, .int a2), (3, .int a3)] := hl
  have hS : va_S (g_A G) s.heap s.heap [] := va_S.rf
  unfold f_X1_squareFrom at h
  refine lv_iload_n hx hb dX1_squareFrom_0 rfl (lv_at hl 2 rfl) ?_
  refine lv_aload_n hx hb dX1_squareFrom_1 rfl (lv_at hl 0 rfl) ?_
  refine gf_X1_9_7 C hP dX1_squareFrom_2 ?_
  refine lv_iload_n hx hb dX1_squareFrom_5 rfl (lv_at hl 1 rfl) ?_
  refine lv_iconst (v := 1) hx hb dX1_squareFrom_6 (by decide) ?_
  obtain ⟨q5, e6, h⟩ := bnd h
  refine call_i C hP hS (c_X6_thingCell_2 e6) mi_X6_thingCell mw_844 2 (by decide) rfl rfl ⟨Nat.le_of_ble_eq_true rfl, Nat.le_of_ble_eq_true rfl⟩ (As := [.int a1, .int 1]) rfl hl.1 rfl (lv_room (Nat.le_of_ble_eq_true rfl)) dX1_squareFrom_7 (fun H locs hP hS => ?_)
  refine lv_isub hx hb dX1_squareFrom_10 ?_
  obtain ⟨y7, e8, h⟩ := bnd h
  refine r_nm e8 ?_
  refine lv_istore (lv' := [(4, .int y7), (0, .ref (g_ad G 7)), (1, .int a1), (2, .int a2), (3, .int a3)]) hx hb dX1_squareFrom_11 hl (by decide) rfl (fun ls hl => ?_)
  refine lv_iload_n hx hb dX1_squareFrom_13 rfl (lv_at hl 4 rfl) ?_
  refine lv_aload_n hx hb dX1_squareFrom_14 rfl (lv_at hl 1 rfl) ?_
  refine gf_X1_9_7 C hP dX1_squareFrom_15 ?_
  refine lv_iload_n hx hb dX1_squareFrom_18 rfl (lv_at hl 2 rfl) ?_
  refine lv_iconst (v := 2) hx hb dX1_squareFrom_19 (by decide) ?_
  obtain ⟨q9, e10, h⟩ := bnd h
  refine call_i C hP hS (c_X6_thingCell_2 e10) mi_X6_thingCell mw_844 2 (by decide) rfl rfl ⟨Nat.le_of_ble_eq_true rfl, Nat.le_of_ble_eq_true rfl⟩ (As := [.int a1, .int 2]) rfl hl.1 rfl (lv_room (Nat.le_of_ble_eq_true rfl)) dX1_squareFrom_20 (fun H locs hP hS => ?_)
  refine lv_isub hx hb dX1_squareFrom_23 ?_
  obtain ⟨y11, e12, h⟩ := bnd h
  refine r_nm e12 ?_
  refine lv_istore (lv' := [(5, .int y11), (4, .int y7), (0, .ref (g_ad G 7)), (1, .int a1), (2, .int a2), (3, .int a3)]) hx hb dX1_squareFrom_24 hl (by decide) rfl (fun ls hl => ?_)
  refine lv_iload hx hb dX1_squareFrom_26 (lv_at hl 1 rfl) ?_
  refine lv_iload hx hb dX1_squareFrom_28 (lv_at hl 1 rfl) ?_
  refine lv_imul hx hb dX1_squareFrom_30 ?_
  refine lv_iload hx hb dX1_squareFrom_31 (lv_at hl 0 rfl) ?_
  refine lv_iload hx hb dX1_squareFrom_33 (lv_at hl 0 rfl) ?_
  refine lv_imul hx hb dX1_squareFrom_35 ?_
  refine lv_iadd hx hb dX1_squareFrom_36 ?_
  exact ret_i C hr hlocks hP hS h dX1_squareFrom_37
set_option maxHeartbeats 4000000 in
set_option maxRecDepth 100000 in
theorem c_X3_leastSquare {l : Launch} {G : GT} {lam : Lm} {σ : St} {a1 : Int32} {a2 : Int32} {q : Int32 × St} (h : f_X3_leastSquare σ a1 a2 = some q) : Met l yX3_leastSquare (Cond.code yX3_leastSquare cX3_leastSquare 5 ((some .int)) :: TB) ({ frames := 6, cells := 0, slots := 0, locals := 151 } : Room) (va_Pc [.ref (g_ad G 10), .int a1, .int a2] (GW G lam σ)) (Ri q G lam) 0 0 (g_A G) := by
  refine mk_Qi (own := RX3) (by decide) (Nat.le_of_ble_eq_true rfl) rfl (fun p e s m args below meth c C hr hlocks hP ls hl => ?_)
  have hx := C.1
  have hb := C.2.1
  have hl : lv_has ls 5 [(0, .ref (g_ad G 10)), (1, .int a1), (2, .int a2)] := hl
  have L25 : ∀ (n25 : Nat) (σ : St) (x1 : Int32) (x3 : Int32) (x4 : Int32) (H : Heap) (locs : List Loc) (ls : Array Slot), fx (F_X3_leastSquare_h25) z_X3_leastSquare_h25 n25 σ x1 x3 x4 = some q → va_P (g_D G) vwCl (allW G lam σ) H → va_S (g_A G) s.heap H locs → lv_has ls 5 [(0, .ref (g_ad G 10)), (1, .int x1), (3, .int x3), (4, .int x4)] → W p l e ({ frames := 6, cells := 0, slots := 0, locals := 151 } : Room) s m args below meth c H locs 0 0 (Qi q below args s G lam) (F0 m 25 ls []) := by
    intro n25
    induction n25 with
    | zero => intro σ x1 x3 x4 H locs ls h hP hS hl; exact absurd h (by intro h9; cases h9)
    | succ n25 ih25 =>
      intro σ x1 x3 x4 H locs ls h hP hS hl
      change F_X3_leastSquare_h25 (fx (F_X3_leastSquare_h25) z_X3_leastSquare_h25 n25) σ x1 x3 x4 = some q at h
      unfold F_X3_leastSquare_h25 at h
      refine lv_iload hx hb dX3_leastSquare_25 (lv_at hl 3 rfl) ?_
      refine lv_aload_n hx hb dX3_leastSquare_27 rfl (lv_at hl 0 rfl) ?_
      refine gf_X3_33_10 C hP dX3_leastSquare_28 ?_
      refine gf_X3_65_8 C hP dX3_leastSquare_31 ?_
      refine lv_icmp_gt (tgt := 76) hx hb dX3_leastSquare_34 (by decide) (fun c14 => ?_) (fun c14 => ?_)
      · replace h := h_t c14 h
        refine lv_iload_n hx hb dX3_leastSquare_76 rfl (lv_at hl 2 rfl) ?_
        exact ret_i C hr hlocks hP hS h dX3_leastSquare_77
      · replace h := h_f c14 h
        refine lv_iload_n hx hb dX3_leastSquare_37 rfl (lv_at hl 2 rfl) ?_
        refine lv_aload_n hx hb dX3_leastSquare_38 rfl (lv_at hl 0 rfl) ?_
        refine gf_X3_29_10 C hP dX3_leastSquare_39 ?_
        refine lv_iload_n hx hb dX3_leastSquare_42 rfl (lv_at hl 1 rfl) ?_
        refine lv_aload_n hx hb dX3_leastSquare_43 rfl (lv_at hl 0 rfl) ?_
        refine gf_X3_33_10 C hP dX3_leastSquare_44 ?_
        refine lv_iload hx hb dX3_leastSquare_47 (lv_at hl 3 rfl) ?_
        refine lv_iconst (v := 0) hx hb dX3_leastSquare_49 (by decide) ?_
        obtain ⟨q15, e16, h⟩ := bnd h
        refine call_i C hP hS (c_X8_trackCell e16) mi_X8_trackCell mw_1146 8 (by decide) rfl rfl ⟨Nat.le_of_ble_eq_true rfl, Nat.le_of_ble_eq_true rfl⟩ (As := [.int x4, .int 0]) rfl hl.1 rfl (lv_room (Nat.le_of_ble_eq_true rfl)) dX3_leastSquare_50 (fun H locs hP hS => ?_)
        refine lv_aload_n hx hb dX3_leastSquare_53 rfl (lv_at hl 0 rfl) ?_
        refine gf_X3_33_10 C hP dX3_leastSquare_54 ?_
        refine lv_iload hx hb dX3_leastSquare_57 (lv_at hl 3 rfl) ?_
        refine lv_iconst (v := 1) hx hb dX3_leastSquare_59 (by decide) ?_
        obtain ⟨q17, e18, h⟩ := bnd h
        refine call_i C hP hS (c_X8_trackCell e18) mi_X8_trackCell mw_1146 8 (by decide) rfl rfl ⟨Nat.le_of_ble_eq_true rfl, Nat.le_of_ble_eq_true rfl⟩ (As := [.int x4, .int 1]) rfl hl.1 rfl (lv_room (Nat.le_of_ble_eq_true rfl)) dX3_leastSquare_60 (fun H locs hP hS => ?_)
        obtain ⟨q19, e20, h⟩ := bnd h
        refine call_i C hP hS (c_X1_squareFrom e20) mi_X1_squareFrom mw_1147 7 (by decide) rfl rfl ⟨Nat.le_of_ble_eq_true rfl, Nat.le_of_ble_eq_true rfl⟩ (As := [.int x1, .int q15.1, .int q17.1]) rfl hl.1 rfl (lv_room (Nat.le_of_ble_eq_true rfl)) dX3_leastSquare_63 (fun H locs hP hS => ?_)
        refine va_mmin hx hb (by rw [C.2.2.1]; exact hl.1.symm) C.2.2.2.1 (C.2.2.2.2.1 _ mw_1117) (C.2.2.2.2.1 _ mw_434) (C.2.2.2.2.1 _ mw_95) (C.2.2.2.2.1 _ mw_435) (Nat.le_of_ble_eq_true rfl) (Nat.le_of_ble_eq_true rfl) (Nat.zero_le _) (Nat.zero_le _) dX3_leastSquare_66 ?_
        obtain ⟨y21, e22, h⟩ := bnd h
        refine r_nm e22 ?_
        refine lv_istore_n (lv' := [(3, .int y21), (0, .ref (g_ad G 10)), (1, .int x1), (4, .int x4)]) hx hb dX3_leastSquare_69 rfl hl (by decide) rfl (fun ls hl => ?_)
        obtain ⟨y23, e24, h⟩ := bnd h
        refine lv_iinc (v := y23) (lv' := [(4, .int y23), (3, .int y21), (0, .ref (g_ad G 10)), (1, .int x1)]) hx hb dX3_leastSquare_70 hl (k := 3) rfl (Option.some.inj e24) (by decide) rfl (fun ls hl => ?_)
        refine lv_goto (tgt := 25) hx hb dX3_leastSquare_73 (by decide) ?_
        exact ih25 _ _ _ _ H locs ls h hP hS (lv_sub hl [2, 3, 1, 0] rfl)
  have hS : va_S (g_A G) s.heap s.heap [] := va_S.rf
  unfold f_X3_leastSquare at h
  obtain ⟨H, hH⟩ : ∃ H, H = s.heap := ⟨_, rfl⟩
  obtain ⟨locs, hlo⟩ : ∃ k : List Loc, k = [] := ⟨_, rfl⟩
  rw [← hH, ← hlo]
  rw [← hH] at hP
  replace hS : va_S (g_A G) s.heap H locs := by rw [hH, hlo]; exact hS
  refine lv_aload_n hx hb dX3_leastSquare_0 rfl (lv_at hl 0 rfl) ?_
  refine gf_X3_33_10 C hP dX3_leastSquare_1 ?_
  refine lv_iload_n hx hb dX3_leastSquare_4 rfl (lv_at hl 2 rfl) ?_
  refine lv_aload_n hx hb dX3_leastSquare_5 rfl (lv_at hl 0 rfl) ?_
  refine gf_X3_25_10 C hP dX3_leastSquare_6 ?_
  refine lv_iconst (v := 0) hx hb dX3_leastSquare_9 (by decide) ?_
  obtain ⟨q25, e26, h⟩ := bnd h
  refine call_i C hP hS (c_X6_shipCell_2 e26) mi_X6_shipCell mw_1106 2 (by decide) rfl rfl ⟨Nat.le_of_ble_eq_true rfl, Nat.le_of_ble_eq_true rfl⟩ (As := [.int 0]) rfl hl.1 rfl (lv_room (Nat.le_of_ble_eq_true rfl)) dX3_leastSquare_10 (fun H locs hP hS => ?_)
  refine lv_iconst (v := 0) hx hb dX3_leastSquare_13 (by decide) ?_
  refine lv_iconst (v := (-1)) hx hb dX3_leastSquare_14 (by decide) ?_
  refine lv_iconst (v := 0) hx hb dX3_leastSquare_15 (by decide) ?_
  obtain ⟨q27, e28, h⟩ := bnd h
  refine call_v C hP hS (c_X8_make e28) mi_X8_make mw_1107 8 (by decide) rfl rfl ⟨Nat.le_of_ble_eq_true rfl, Nat.le_of_ble_eq_true rfl⟩ (As := [.int a2, .int q25.1, .int 0, .int (-1), .int 0]) rfl hl.1 rfl (lv_room (Nat.le_of_ble_eq_true rfl)) dX3_leastSquare_16 (fun H locs hP hS => ?_)
  refine lv_ldc hx hb C.2.2.2.1 (C.2.2.2.2.1 _ mw_1145) dX3_leastSquare_19 ?_
  refine lv_istore_n (lv' := [(3, .int 2147483647), (0, .ref (g_ad G 10)), (1, .int a1), (2, .int a2)]) hx hb dX3_leastSquare_21 rfl hl (by decide) rfl (fun ls hl => ?_)
  refine lv_iconst (v := 0) hx hb dX3_leastSquare_22 (by decide) ?_
  refine lv_istore (lv' := [(4, .int 0), (3, .int 2147483647), (0, .ref (g_ad G 10)), (1, .int a1), (2, .int a2)]) hx hb dX3_leastSquare_23 hl (by decide) rfl (fun ls hl => ?_)
  exact L25 FU _ _ _ _ H locs ls h hP hS (lv_sub hl [2, 3, 1, 0] rfl)
set_option maxHeartbeats 4000000 in
set_option maxRecDepth 100000 in
theorem c_X10_near {l : Launch} {G : GT} {lam : Lm} {σ : St} {a1 : Int32} {a2 : Int32} {q : Int32 × St} (h : f_X10_near σ a1 a2 = some q) : Met l yX10_near (Cond.code yX10_near cX10_near 3 ((some .int)) :: TB) ({ frames := 7, cells := 0, slots := 0, locals := 175 } : Room) (va_Pc [.ref (g_ad G 0), .int a1, .int a2] (GW G lam σ)) (Ri q G lam) 0 0 (g_A G) := by
  refine mk_Qi (own := RX10) (by decide) (Nat.le_of_ble_eq_true rfl) rfl (fun p e s m args below meth c C hr hlocks hP ls hl => ?_)
  have hx := C.1
  have hb := C.2.1
  have hl : lv_has ls 3 [(0, .ref (g_ad G 0)), (1, .int a1), (2, .int a2)] := hl
  have hS : va_S (g_A G) s.heap s.heap [] := va_S.rf
  unfold f_X10_near at h
  refine lv_aload_n hx hb dX10_near_0 rfl (lv_at hl 0 rfl) ?_
  refine gf_X10_19_0 C hP dX10_near_1 ?_
  refine lv_iload_n hx hb dX10_near_4 rfl (lv_at hl 1 rfl) ?_
  obtain ⟨q9, e10, h⟩ := bnd h
  refine call_i C hP hS (c_X6_hasThing_2 e10) mi_X6_hasThing mw_729 2 (by decide) rfl rfl ⟨Nat.le_of_ble_eq_true rfl, Nat.le_of_ble_eq_true rfl⟩ (As := [.int a1]) rfl hl.1 rfl (lv_room (Nat.le_of_ble_eq_true rfl)) dX10_near_5 (fun H locs hP hS => ?_)
  refine lv_if_eq (tgt := 18) hx hb dX10_near_8 (by decide) (fun c11 => ?_) (fun c11 => ?_)
  · replace h := h_t c11 h
    refine lv_ldc hx hb C.2.2.2.1 (C.2.2.2.2.1 _ mw_411) dX10_near_18 ?_
    exact ret_i C hr hlocks hP hS h dX10_near_20
  · replace h := h_f c11 h
    refine lv_iload_n hx hb dX10_near_11 rfl (lv_at hl 2 rfl) ?_
    obtain ⟨q12, e13, h⟩ := bnd h
    refine scall_i C hP hS (c_X10_isStart e13) ms_X10_isStart mw_925 ⟨Nat.le_of_ble_eq_true rfl, Nat.le_of_ble_eq_true rfl⟩ (As := [.int a2]) rfl hl.1 rfl (lv_room (Nat.le_of_ble_eq_true rfl)) dX10_near_12 (fun H locs hP hS => ?_)
    refine lv_if_ne (tgt := 21) hx hb dX10_near_15 (by decide) (fun c14 => ?_) (fun c14 => ?_)
    · replace h := h_f c14 h
      refine lv_aload_n hx hb dX10_near_21 rfl (lv_at hl 0 rfl) ?_
      refine gf_X10_75_0 C hP dX10_near_22 ?_
      refine lv_iload_n hx hb dX10_near_25 rfl (lv_at hl 1 rfl) ?_
      refine lv_iload_n hx hb dX10_near_26 rfl (lv_at hl 2 rfl) ?_
      obtain ⟨q15, e16, h⟩ := bnd h
      refine call_i C hP hS (c_X3_leastSquare e16) mi_X3_leastSquare mw_1141 10 (by decide) rfl rfl ⟨Nat.le_of_ble_eq_true rfl, Nat.le_of_ble_eq_true rfl⟩ (As := [.int a1, .int a2]) rfl hl.1 rfl (lv_room (Nat.le_of_ble_eq_true rfl)) dX10_near_27 (fun H locs hP hS => ?_)
      exact ret_i C hr hlocks hP hS h dX10_near_30
    · replace h := h_t c14 h
      refine lv_ldc hx hb C.2.2.2.1 (C.2.2.2.2.1 _ mw_411) dX10_near_18 ?_
      exact ret_i C hr hlocks hP hS h dX10_near_20
set_option maxHeartbeats 4000000 in
set_option maxRecDepth 100000 in
theorem c_X3_markBit {l : Launch} {G : GT} {lam : Lm} {σ : St} {a1 : Int32} {q : Int32 × St} (h : f_X3_markBit σ a1 = some q) : Met l yX3_markBit (Cond.code yX3_markBit cX3_markBit 2 ((some .int)) :: TB) ({ frames := 2, cells := 0, slots := 0, locals := 43 } : Room) (va_Pc [.ref (g_ad G 10), .int a1] (GW G lam σ)) (Ri q G lam) 0 0 (g_A G) := by
  refine mk_Qi (own := RX3) (by decide) (Nat.le_of_ble_eq_true rfl) rfl (fun p e s m args below meth c C hr hlocks hP ls hl => ?_)
  have hx := C.1
  have hb := C.2.1
  have hl : lv_has ls 2 [(0, .ref (g_ad G 10)), (1, .int a1)] := hl
  have hS : va_S (g_A G) s.heap s.heap [] := va_S.rf
  unfold f_X3_markBit at h
  refine lv_aload_n hx hb dX3_markBit_0 rfl (lv_at hl 0 rfl) ?_
  refine gf_X3_25_10 C hP dX3_markBit_1 ?_
  refine lv_iload_n hx hb dX3_markBit_4 rfl (lv_at hl 1 rfl) ?_
  obtain ⟨q4, e5, h⟩ := bnd h
  refine call_i C hP hS (c_X6_isMark_2 e5) mi_X6_isMark mw_1136 2 (by decide) rfl rfl ⟨Nat.le_of_ble_eq_true rfl, Nat.le_of_ble_eq_true rfl⟩ (As := [.int a1]) rfl hl.1 rfl (lv_room (Nat.le_of_ble_eq_true rfl)) dX3_markBit_5 (fun H locs hP hS => ?_)
  refine lv_if_eq (tgt := 17) hx hb dX3_markBit_8 (by decide) (fun c6 => ?_) (fun c6 => ?_)
  · replace h := h_t c6 h
    refine lv_iconst (v := 0) hx hb dX3_markBit_17 (by decide) ?_
    exact ret_i C hr hlocks hP hS h dX3_markBit_18
  · replace h := h_f c6 h
    refine lv_iconst (v := 1) hx hb dX3_markBit_11 (by decide) ?_
    refine lv_iload_n hx hb dX3_markBit_12 rfl (lv_at hl 1 rfl) ?_
    refine lv_ishl hx hb dX3_markBit_13 ?_
    refine lv_goto (tgt := 18) hx hb dX3_markBit_14 (by decide) ?_
    exact ret_i C hr hlocks hP hS h dX3_markBit_18
set_option maxHeartbeats 4000000 in
set_option maxRecDepth 100000 in
theorem c_X3_marksAwaited {l : Launch} {G : GT} {lam : Lm} {σ : St} {q : Int32 × St} (h : f_X3_marksAwaited σ = some q) : Met l yX3_marksAwaited (Cond.code yX3_marksAwaited cX3_marksAwaited 5 ((some .int)) :: TB) ({ frames := 3, cells := 0, slots := 0, locals := 64 } : Room) (va_Pc [.ref (g_ad G 10)] (GW G lam σ)) (Ri q G lam) 0 0 (g_A G) := by
  refine mk_Qi (own := RX3) (by decide) (Nat.le_of_ble_eq_true rfl) rfl (fun p e s m args below meth c C hr hlocks hP ls hl => ?_)
  have hx := C.1
  have hb := C.2.1
  have hl : lv_has ls 5 [(0, .ref (g_ad G 10))] := hl
  have L4 : ∀ (n4 : Nat) (σ : St) (x1 : Int32) (x2 : Int32) (H : Heap) (locs : List Loc) (ls : Array Slot), fx (F_X3_marksAwaited_h4) z_X3_marksAwaited_h4 n4 σ x1 x2 = some q → va_P (g_D G) vwCl (allW G lam σ) H → va_S (g_A G) s.heap H locs → lv_has ls 5 [(0, .ref (g_ad G 10)), (1, .int x1), (2, .int x2)] → W p l e ({ frames := 3, cells := 0, slots := 0, locals := 64 } : Room) s m args below meth c H locs 0 0 (Qi q below args s G lam) (F0 m 4 ls []) := by
    intro n4
    induction n4 with
    | zero => intro σ x1 x2 H locs ls h hP hS hl; exact absurd h (by intro h9; cases h9)
    | succ n4 ih4 =>
      have J89 : ∀ (σ : St) (x1 : Int32) (x2 : Int32) (H : Heap) (locs : List Loc) (ls : Array Slot), f_X3_marksAwaited_p89 (fx (F_X3_marksAwaited_h4) z_X3_marksAwaited_h4 n4) σ x1 x2 = some q → va_P (g_D G) vwCl (allW G lam σ) H → va_S (g_A G) s.heap H locs → lv_has ls 5 [(0, .ref (g_ad G 10)), (1, .int x1), (2, .int x2)] → W p l e ({ frames := 3, cells := 0, slots := 0, locals := 64 } : Room) s m args below meth c H locs 0 0 (Qi q below args s G lam) (F0 m 89 ls []) := by
        intro σ x1 x2 H locs ls h hP hS hl
        unfold f_X3_marksAwaited_p89 at h
        obtain ⟨y21, e22, h⟩ := bnd h
        refine lv_iinc (v := y21) (lv' := [(2, .int y21), (0, .ref (g_ad G 10)), (1, .int x1)]) hx hb dX3_marksAwaited_89 hl (k := 2) rfl (Option.some.inj e22) (by decide) rfl (fun ls hl => ?_)
        refine lv_goto (tgt := 4) hx hb dX3_marksAwaited_92 (by decide) ?_
        exact ih4 _ _ _ H locs ls h hP hS (lv_sub hl [1, 2, 0] rfl)
      have J68 : ∀ (σ : St) (x1 : Int32) (x2 : Int32) (x3 : Int32) (H : Heap) (locs : List Loc) (ls : Array Slot), f_X3_marksAwaited_p68 (fx (F_X3_marksAwaited_h4) z_X3_marksAwaited_h4 n4) σ x1 x2 x3 = some q → va_P (g_D G) vwCl (allW G lam σ) H → va_S (g_A G) s.heap H locs → lv_has ls 5 [(0, .ref (g_ad G 10)), (1, .int x1), (2, .int x2), (3, .int x3)] → W p l e ({ frames := 3, cells := 0, slots := 0, locals := 64 } : Room) s m args below meth c H locs 0 0 (Qi q below args s G lam) (F0 m 68 ls []) := by
        intro σ x1 x2 x3 H locs ls h hP hS hl
        unfold f_X3_marksAwaited_p68 at h
        refine lv_iload_n hx hb dX3_marksAwaited_68 rfl (lv_at hl 3 rfl) ?_
        refine lv_iconst (v := 2) hx hb dX3_marksAwaited_69 (by decide) ?_
        refine lv_icmp_ne (tgt := 89) hx hb dX3_marksAwaited_70 (by decide) (fun c23 => ?_) (fun c23 => ?_)
        · replace h := h_f c23 h
          exact J89 _ _ _ H locs ls h hP hS (lv_sub hl [0, 1, 2] rfl)
        · replace h := h_t c23 h
          refine lv_iload_n hx hb dX3_marksAwaited_73 rfl (lv_at hl 1 rfl) ?_
          refine lv_aload_n hx hb dX3_marksAwaited_74 rfl (lv_at hl 0 rfl) ?_
          refine lv_aload_n hx hb dX3_marksAwaited_75 rfl (lv_at hl 0 rfl) ?_
          refine gf_X3_25_10 C hP dX3_marksAwaited_76 ?_
          refine lv_iload_n hx hb dX3_marksAwaited_79 rfl (lv_at hl 2 rfl) ?_
          refine lv_iconst (v := 3) hx hb dX3_marksAwaited_80 (by decide) ?_
          obtain ⟨q24, e25, h⟩ := bnd h
          refine call_i C hP hS (c_X6_legCell_2 e25) mi_X6_legCell mw_1162 2 (by decide) rfl rfl ⟨Nat.le_of_ble_eq_true rfl, Nat.le_of_ble_eq_true rfl⟩ (As := [.int x2, .int 3]) rfl hl.1 rfl (lv_room (Nat.le_of_ble_eq_true rfl)) dX3_marksAwaited_81 (fun H locs hP hS => ?_)
          obtain ⟨q26, e27, h⟩ := bnd h
          refine call_i C hP hS (c_X3_markBit e27) mi_X3_markBit mw_1163 10 (by decide) rfl rfl ⟨Nat.le_of_ble_eq_true rfl, Nat.le_of_ble_eq_true rfl⟩ (As := [.int q24.1]) rfl hl.1 rfl (lv_room (Nat.le_of_ble_eq_true rfl)) dX3_marksAwaited_84 (fun H locs hP hS => ?_)
          refine lv_ior hx hb dX3_marksAwaited_87 ?_
          obtain ⟨y28, e29, h⟩ := bnd h
          refine r_nm e29 ?_
          refine lv_istore_n (lv' := [(1, .int y28), (0, .ref (g_ad G 10)), (2, .int x2), (3, .int x3)]) hx hb dX3_marksAwaited_88 rfl hl (by decide) rfl (fun ls hl => ?_)
          exact J89 _ _ _ H locs ls h hP hS (lv_sub hl [1, 0, 2] rfl)
      have J45 : ∀ (σ : St) (x1 : Int32) (x2 : Int32) (x3 : Int32) (t0 : Int32) (H : Heap) (locs : List Loc) (ls : Array Slot), f_X3_marksAwaited_p45 (fx (F_X3_marksAwaited_h4) z_X3_marksAwaited_h4 n4) σ x1 x2 x3 t0 = some q → va_P (g_D G) vwCl (allW G lam σ) H → va_S (g_A G) s.heap H locs → lv_has ls 5 [(0, .ref (g_ad G 10)), (1, .int x1), (2, .int x2), (3, .int x3)] → W p l e ({ frames := 3, cells := 0, slots := 0, locals := 64 } : Room) s m args below meth c H locs 0 0 (Qi q below args s G lam) (F0 m 45 ls [.int t0]) := by
        intro σ x1 x2 x3 t0 H locs ls h hP hS hl
        unfold f_X3_marksAwaited_p45 at h
        refine lv_istore (lv' := [(4, .int t0), (0, .ref (g_ad G 10)), (1, .int x1), (2, .int x2), (3, .int x3)]) hx hb dX3_marksAwaited_45 hl (by decide) rfl (fun ls hl => ?_)
        refine lv_iload hx hb dX3_marksAwaited_47 (lv_at hl 0 rfl) ?_
        refine lv_if_eq (tgt := 68) hx hb dX3_marksAwaited_49 (by decide) (fun c30 => ?_) (fun c30 => ?_)
        · replace h := h_t c30 h
          exact J68 _ _ _ _ H locs ls h hP hS (lv_sub hl [1, 2, 3, 4] rfl)
        · replace h := h_f c30 h
          refine lv_iload_n hx hb dX3_marksAwaited_52 rfl (lv_at hl 2 rfl) ?_
          refine lv_aload_n hx hb dX3_marksAwaited_53 rfl (lv_at hl 1 rfl) ?_
          refine lv_aload_n hx hb dX3_marksAwaited_54 rfl (lv_at hl 1 rfl) ?_
          refine gf_X3_25_10 C hP dX3_marksAwaited_55 ?_
          refine lv_iload_n hx hb dX3_marksAwaited_58 rfl (lv_at hl 3 rfl) ?_
          refine lv_iconst (v := 2) hx hb dX3_marksAwaited_59 (by decide) ?_
          obtain ⟨q31, e32, h⟩ := bnd h
          refine call_i C hP hS (c_X6_legCell_2 e32) mi_X6_legCell mw_1162 2 (by decide) rfl rfl ⟨Nat.le_of_ble_eq_true rfl, Nat.le_of_ble_eq_true rfl⟩ (As := [.int x2, .int 2]) rfl hl.1 rfl (lv_room (Nat.le_of_ble_eq_true rfl)) dX3_marksAwaited_60 (fun H locs hP hS => ?_)
          obtain ⟨q33, e34, h⟩ := bnd h
          refine call_i C hP hS (c_X3_markBit e34) mi_X3_markBit mw_1163 10 (by decide) rfl rfl ⟨Nat.le_of_ble_eq_true rfl, Nat.le_of_ble_eq_true rfl⟩ (As := [.int q31.1]) rfl hl.1 rfl (lv_room (Nat.le_of_ble_eq_true rfl)) dX3_marksAwaited_63 (fun H locs hP hS => ?_)
          refine lv_ior hx hb dX3_marksAwaited_66 ?_
          obtain ⟨y35, e36, h⟩ := bnd h
          refine r_nm e36 ?_
          refine lv_istore_n (lv' := [(1, .int y35), (4, .int t0), (0, .ref (g_ad G 10)), (2, .int x2), (3, .int x3)]) hx hb dX3_marksAwaited_67 rfl hl (by decide) rfl (fun ls hl => ?_)
          exact J68 _ _ _ _ H locs ls h hP hS (lv_sub hl [2, 0, 3, 4] rfl)
      have J40 : ∀ (σ : St) (x1 : Int32) (x2 : Int32) (x3 : Int32) (H : Heap) (locs : List Loc) (ls : Array Slot), f_X3_marksAwaited_p40 (fx (F_X3_marksAwaited_h4) z_X3_marksAwaited_h4 n4) σ x1 x2 x3 = some q → va_P (g_D G) vwCl (allW G lam σ) H → va_S (g_A G) s.heap H locs → lv_has ls 5 [(0, .ref (g_ad G 10)), (1, .int x1), (2, .int x2), (3, .int x3)] → W p l e ({ frames := 3, cells := 0, slots := 0, locals := 64 } : Room) s m args below meth c H locs 0 0 (Qi q below args s G lam) (F0 m 40 ls []) := by
        intro σ x1 x2 x3 H locs ls h hP hS hl
        unfold f_X3_marksAwaited_p40 at h
        refine lv_iconst (v := 1) hx hb dX3_marksAwaited_40 (by decide) ?_
        refine lv_goto (tgt := 45) hx hb dX3_marksAwaited_41 (by decide) ?_
        exact J45 _ _ _ _ _ H locs ls h hP hS (lv_sub hl [0, 1, 2, 3] rfl)
      intro σ x1 x2 H locs ls h hP hS hl
      change F_X3_marksAwaited_h4 (fx (F_X3_marksAwaited_h4) z_X3_marksAwaited_h4 n4) σ x1 x2 = some q at h
      unfold F_X3_marksAwaited_h4 at h
      refine lv_iload_n hx hb dX3_marksAwaited_4 rfl (lv_at hl 2 rfl) ?_
      refine lv_aload_n hx hb dX3_marksAwaited_5 rfl (lv_at hl 0 rfl) ?_
      refine gf_X3_25_10 C hP dX3_marksAwaited_6 ?_
      obtain ⟨q37, e38, h⟩ := bnd h
      refine call_i C hP hS (c_X6_legCount_2 e38) mi_X6_legCount mw_1161 2 (by decide) rfl rfl ⟨Nat.le_of_ble_eq_true rfl, Nat.le_of_ble_eq_true rfl⟩ (As := []) rfl hl.1 rfl (lv_room (Nat.le_of_ble_eq_true rfl)) dX3_marksAwaited_9 (fun H locs hP hS => ?_)
      refine lv_icmp_ge (tgt := 95) hx hb dX3_marksAwaited_12 (by decide) (fun c39 => ?_) (fun c39 => ?_)
      · replace h := h_t c39 h
        refine lv_iload_n hx hb dX3_marksAwaited_95 rfl (lv_at hl 1 rfl) ?_
        exact ret_i C hr hlocks hP hS h dX3_marksAwaited_96
      · replace h := h_f c39 h
        refine lv_aload_n hx hb dX3_marksAwaited_15 rfl (lv_at hl 0 rfl) ?_
        refine gf_X3_25_10 C hP dX3_marksAwaited_16 ?_
        refine lv_iload_n hx hb dX3_marksAwaited_19 rfl (lv_at hl 2 rfl) ?_
        refine lv_iconst (v := 1) hx hb dX3_marksAwaited_20 (by decide) ?_
        obtain ⟨q40, e41, h⟩ := bnd h
        refine call_i C hP hS (c_X6_legCell_2 e41) mi_X6_legCell mw_1162 2 (by decide) rfl rfl ⟨Nat.le_of_ble_eq_true rfl, Nat.le_of_ble_eq_true rfl⟩ (As := [.int x2, .int 1]) rfl hl.1 rfl (lv_room (Nat.le_of_ble_eq_true rfl)) dX3_marksAwaited_21 (fun H locs hP hS => ?_)
        refine lv_istore_n (lv' := [(3, .int q40.1), (0, .ref (g_ad G 10)), (1, .int x1), (2, .int x2)]) hx hb dX3_marksAwaited_24 rfl hl (by decide) rfl (fun ls hl => ?_)
        refine lv_iload_n hx hb dX3_marksAwaited_25 rfl (lv_at hl 0 rfl) ?_
        refine lv_iconst (v := 1) hx hb dX3_marksAwaited_26 (by decide) ?_
        refine lv_icmp_eq (tgt := 40) hx hb dX3_marksAwaited_27 (by decide) (fun c42 => ?_) (fun c42 => ?_)
        · replace h := h_t c42 h
          exact J40 _ _ _ _ H locs ls h hP hS (lv_sub hl [1, 2, 3, 0] rfl)
        · replace h := h_f c42 h
          refine lv_iload_n hx hb dX3_marksAwaited_30 rfl (lv_at hl 0 rfl) ?_
          refine lv_iconst (v := 2) hx hb dX3_marksAwaited_31 (by decide) ?_
          refine lv_icmp_eq (tgt := 40) hx hb dX3_marksAwaited_32 (by decide) (fun c43 => ?_) (fun c43 => ?_)
          · replace h := h_t c43 h
            exact J40 _ _ _ _ H locs ls h hP hS (lv_sub hl [1, 2, 3, 0] rfl)
          · replace h := h_f c43 h
            refine lv_iload_n hx hb dX3_marksAwaited_35 rfl (lv_at hl 0 rfl) ?_
            refine lv_iconst (v := 3) hx hb dX3_marksAwaited_36 (by decide) ?_
            refine lv_icmp_ne (tgt := 44) hx hb dX3_marksAwaited_37 (by decide) (fun c44 => ?_) (fun c44 => ?_)
            · replace h := h_f c44 h
              refine lv_iconst (v := 0) hx hb dX3_marksAwaited_44 (by decide) ?_
              exact J45 _ _ _ _ _ H locs ls h hP hS (lv_sub hl [1, 2, 3, 0] rfl)
            · replace h := h_t c44 h
              exact J40 _ _ _ _ H locs ls h hP hS (lv_sub hl [1, 2, 3, 0] rfl)
  have hS : va_S (g_A G) s.heap s.heap [] := va_S.rf
  unfold f_X3_marksAwaited at h
  obtain ⟨H, hH⟩ : ∃ H, H = s.heap := ⟨_, rfl⟩
  obtain ⟨locs, hlo⟩ : ∃ k : List Loc, k = [] := ⟨_, rfl⟩
  rw [← hH, ← hlo]
  rw [← hH] at hP
  replace hS : va_S (g_A G) s.heap H locs := by rw [hH, hlo]; exact hS
  refine lv_iconst (v := 0) hx hb dX3_marksAwaited_0 (by decide) ?_
  refine lv_istore_n (lv' := [(1, .int 0), (0, .ref (g_ad G 10))]) hx hb dX3_marksAwaited_1 rfl hl (by decide) rfl (fun ls hl => ?_)
  refine lv_iconst (v := 0) hx hb dX3_marksAwaited_2 (by decide) ?_
  refine lv_istore_n (lv' := [(2, .int 0), (1, .int 0), (0, .ref (g_ad G 10))]) hx hb dX3_marksAwaited_3 rfl hl (by decide) rfl (fun ls hl => ?_)
  exact L4 FU _ _ _ H locs ls h hP hS (lv_sub hl [2, 1, 0] rfl)
set_option maxHeartbeats 4000000 in
set_option maxRecDepth 100000 in
theorem c_J6_bitCount_0f7a4 {l : Launch} {G : GT} {lam : Lm} {σ : St} {a1 : Int32} {q : Int32 × St} (h : f_J6_bitCount_0f7a4 σ a1 = some q) : Met l yJ6_bitCount_0f7a4 (Cond.code yJ6_bitCount_0f7a4 cJ6_bitCount_0f7a4 1 ((some .int)) :: TB) ({ frames := 0, cells := 0, slots := 0, locals := 0 } : Room) (va_Pc [.int a1] (GW G lam σ)) (Ri q G lam) 0 0 (g_A G) := by
  refine mk_Qi (own := RJ6) (by decide) (Nat.le_of_ble_eq_true rfl) rfl (fun p e s m args below meth c C hr hlocks hP ls hl => ?_)
  have hx := C.1
  have hb := C.2.1
  have hl : lv_has ls 1 [(0, .int a1)] := hl
  have hS : va_S (g_A G) s.heap s.heap [] := va_S.rf
  unfold f_J6_bitCount_0f7a4 at h
  refine lv_iload_n hx hb dJ6_bitCount_0f7a4_0 rfl (lv_at hl 0 rfl) ?_
  refine lv_iload_n hx hb dJ6_bitCount_0f7a4_1 rfl (lv_at hl 0 rfl) ?_
  refine lv_iconst (v := 1) hx hb dJ6_bitCount_0f7a4_2 (by decide) ?_
  refine lv_iushr hx hb dJ6_bitCount_0f7a4_3 rfl ?_
  refine lv_ldcw hx hb C.2.2.2.1 (C.2.2.2.2.1 _ mw_1170) dJ6_bitCount_0f7a4_4 ?_
  refine lv_iand hx hb dJ6_bitCount_0f7a4_7 ?_
  refine lv_isub hx hb dJ6_bitCount_0f7a4_8 ?_
  obtain ⟨y1, e2, h⟩ := bnd h
  refine r_nm e2 ?_
  refine lv_istore_n (lv' := [(0, .int y1)]) hx hb dJ6_bitCount_0f7a4_9 rfl hl (by decide) rfl (fun ls hl => ?_)
  refine lv_iload_n hx hb dJ6_bitCount_0f7a4_10 rfl (lv_at hl 0 rfl) ?_
  refine lv_ldcw hx hb C.2.2.2.1 (C.2.2.2.2.1 _ mw_1171) dJ6_bitCount_0f7a4_11 ?_
  refine lv_iand hx hb dJ6_bitCount_0f7a4_14 ?_
  refine lv_iload_n hx hb dJ6_bitCount_0f7a4_15 rfl (lv_at hl 0 rfl) ?_
  refine lv_iconst (v := 2) hx hb dJ6_bitCount_0f7a4_16 (by decide) ?_
  refine lv_iushr hx hb dJ6_bitCount_0f7a4_17 rfl ?_
  refine lv_ldcw hx hb C.2.2.2.1 (C.2.2.2.2.1 _ mw_1171) dJ6_bitCount_0f7a4_18 ?_
  refine lv_iand hx hb dJ6_bitCount_0f7a4_21 ?_
  refine lv_iadd hx hb dJ6_bitCount_0f7a4_22 ?_
  obtain ⟨y3, e4, h⟩ := bnd h
  refine r_nm e4 ?_
  refine lv_istore_n (lv' := [(0, .int y3)]) hx hb dJ6_bitCount_0f7a4_23 rfl hl (by decide) rfl (fun ls hl => ?_)
  refine lv_iload_n hx hb dJ6_bitCount_0f7a4_24 rfl (lv_at hl 0 rfl) ?_
  refine lv_iload_n hx hb dJ6_bitCount_0f7a4_25 rfl (lv_at hl 0 rfl) ?_
  refine lv_iconst (v := 4) hx hb dJ6_bitCount_0f7a4_26 (by decide) ?_
  refine lv_iushr hx hb dJ6_bitCount_0f7a4_27 rfl ?_
  refine lv_iadd hx hb dJ6_bitCount_0f7a4_28 ?_
  refine lv_ldcw hx hb C.2.2.2.1 (C.2.2.2.2.1 _ mw_1172) dJ6_bitCount_0f7a4_29 ?_
  refine lv_iand hx hb dJ6_bitCount_0f7a4_32 ?_
  obtain ⟨y5, e6, h⟩ := bnd h
  refine r_nm e6 ?_
  refine lv_istore_n (lv' := [(0, .int y5)]) hx hb dJ6_bitCount_0f7a4_33 rfl hl (by decide) rfl (fun ls hl => ?_)
  refine lv_iload_n hx hb dJ6_bitCount_0f7a4_34 rfl (lv_at hl 0 rfl) ?_
  refine lv_iload_n hx hb dJ6_bitCount_0f7a4_35 rfl (lv_at hl 0 rfl) ?_
  refine lv_bipush (v := 8) hx hb dJ6_bitCount_0f7a4_36 (by decide) ?_
  refine lv_iushr hx hb dJ6_bitCount_0f7a4_38 rfl ?_
  refine lv_iadd hx hb dJ6_bitCount_0f7a4_39 ?_
  obtain ⟨y7, e8, h⟩ := bnd h
  refine r_nm e8 ?_
  refine lv_istore_n (lv' := [(0, .int y7)]) hx hb dJ6_bitCount_0f7a4_40 rfl hl (by decide) rfl (fun ls hl => ?_)
  refine lv_iload_n hx hb dJ6_bitCount_0f7a4_41 rfl (lv_at hl 0 rfl) ?_
  refine lv_iload_n hx hb dJ6_bitCount_0f7a4_42 rfl (lv_at hl 0 rfl) ?_
  refine lv_bipush (v := 16) hx hb dJ6_bitCount_0f7a4_43 (by decide) ?_
  refine lv_iushr hx hb dJ6_bitCount_0f7a4_45 rfl ?_
  refine lv_iadd hx hb dJ6_bitCount_0f7a4_46 ?_
  obtain ⟨y9, e10, h⟩ := bnd h
  refine r_nm e10 ?_
  refine lv_istore_n (lv' := [(0, .int y9)]) hx hb dJ6_bitCount_0f7a4_47 rfl hl (by decide) rfl (fun ls hl => ?_)
  refine lv_iload_n hx hb dJ6_bitCount_0f7a4_48 rfl (lv_at hl 0 rfl) ?_
  refine lv_bipush (v := 63) hx hb dJ6_bitCount_0f7a4_49 (by decide) ?_
  refine lv_iand hx hb dJ6_bitCount_0f7a4_51 ?_
  exact ret_i C hr hlocks hP hS h dJ6_bitCount_0f7a4_52
set_option maxHeartbeats 4000000 in
set_option maxRecDepth 100000 in
theorem c_X3_sharedWithCases {l : Launch} {G : GT} {lam : Lm} {σ : St} {a1 : Int32} {q : Int32 × St} (h : f_X3_sharedWithCases σ a1 = some q) : Met l yX3_sharedWithCases (Cond.code yX3_sharedWithCases cX3_sharedWithCases 2 ((some .int)) :: TB) ({ frames := 0, cells := 0, slots := 0, locals := 0 } : Room) (va_Pc [.int a1] (GW G lam σ)) (Ri q G lam) 0 0 (g_A G) := by
  refine mk_Qi (own := RX3) (by decide) (Nat.le_of_ble_eq_true rfl) rfl (fun p e s m args below meth c C hr hlocks hP ls hl => ?_)
  have hx := C.1
  have hb := C.2.1
  have hl : lv_has ls 2 [(0, .int a1)] := hl
  have L3 : ∀ (n3 : Nat) (σ : St) (x0 : Int32) (x1 : Int32) (H : Heap) (locs : List Loc) (ls : Array Slot), fx (F_X3_sharedWithCases_h3) z_X3_sharedWithCases_h3 n3 σ x0 x1 = some q → va_P (g_D G) vwCl (allW G lam σ) H → va_S (g_A G) s.heap H locs → lv_has ls 2 [(0, .int x0), (1, .int x1)] → W p l e ({ frames := 0, cells := 0, slots := 0, locals := 0 } : Room) s m args below meth c H locs 0 0 (Qi q below args s G lam) (F0 m 3 ls []) := by
    intro n3
    induction n3 with
    | zero => intro σ x0 x1 H locs ls h hP hS hl; exact absurd h (by intro h9; cases h9)
    | succ n3 ih3 =>
      have J23 : ∀ (σ : St) (x0 : Int32) (x1 : Int32) (H : Heap) (locs : List Loc) (ls : Array Slot), f_X3_sharedWithCases_p23 (fx (F_X3_sharedWithCases_h3) z_X3_sharedWithCases_h3 n3) σ x0 x1 = some q → va_P (g_D G) vwCl (allW G lam σ) H → va_S (g_A G) s.heap H locs → lv_has ls 2 [(0, .int x0), (1, .int x1)] → W p l e ({ frames := 0, cells := 0, slots := 0, locals := 0 } : Room) s m args below meth c H locs 0 0 (Qi q below args s G lam) (F0 m 23 ls []) := by
        intro σ x0 x1 H locs ls h hP hS hl
        unfold f_X3_sharedWithCases_p23 at h
        obtain ⟨y8, e9, h⟩ := bnd h
        refine lv_iinc (v := y8) (lv' := [(1, .int y8), (0, .int x0)]) hx hb dX3_sharedWithCases_23 hl (k := 1) rfl (Option.some.inj e9) (by decide) rfl (fun ls hl => ?_)
        refine lv_goto (tgt := 3) hx hb dX3_sharedWithCases_26 (by decide) ?_
        exact ih3 _ _ _ H locs ls h hP hS (lv_sub hl [1, 0] rfl)
      intro σ x0 x1 H locs ls h hP hS hl
      change F_X3_sharedWithCases_h3 (fx (F_X3_sharedWithCases_h3) z_X3_sharedWithCases_h3 n3) σ x0 x1 = some q at h
      unfold F_X3_sharedWithCases_h3 at h
      refine lv_iload_n hx hb dX3_sharedWithCases_3 rfl (lv_at hl 1 rfl) ?_
      refine lv_iconst (v := 1) hx hb dX3_sharedWithCases_4 (by decide) ?_
      refine lv_icmp_le (tgt := 29) hx hb dX3_sharedWithCases_5 (by decide) (fun c10 => ?_) (fun c10 => ?_)
      · replace h := h_t c10 h
        refine lv_iconst (v := 1) hx hb dX3_sharedWithCases_29 (by decide) ?_
        exact ret_i C hr hlocks hP hS h dX3_sharedWithCases_30
      · replace h := h_f c10 h
        refine lv_bipush (v := 10) hx hb dX3_sharedWithCases_8 (by decide) ?_
        refine lv_iload_n hx hb dX3_sharedWithCases_10 rfl (lv_at hl 1 rfl) ?_
        obtain ⟨g11, h⟩ := h_nz h
        refine lv_irem hx hb dX3_sharedWithCases_11 g11 ?_
        refine lv_if_ne (tgt := 23) hx hb dX3_sharedWithCases_12 (by decide) (fun c12 => ?_) (fun c12 => ?_)
        · replace h := h_f c12 h
          exact J23 _ _ _ H locs ls h hP hS (lv_sub hl [0, 1] rfl)
        · replace h := h_t c12 h
          refine lv_iload_n hx hb dX3_sharedWithCases_15 rfl (lv_at hl 0 rfl) ?_
          refine lv_iload_n hx hb dX3_sharedWithCases_16 rfl (lv_at hl 1 rfl) ?_
          obtain ⟨g13, h⟩ := h_nz h
          refine lv_irem hx hb dX3_sharedWithCases_17 g13 ?_
          refine lv_if_ne (tgt := 23) hx hb dX3_sharedWithCases_18 (by decide) (fun c14 => ?_) (fun c14 => ?_)
          · replace h := h_f c14 h
            exact J23 _ _ _ H locs ls h hP hS (lv_sub hl [0, 1] rfl)
          · replace h := h_t c14 h
            refine lv_iload_n hx hb dX3_sharedWithCases_21 rfl (lv_at hl 1 rfl) ?_
            exact ret_i C hr hlocks hP hS h dX3_sharedWithCases_22
  have hS : va_S (g_A G) s.heap s.heap [] := va_S.rf
  unfold f_X3_sharedWithCases at h
  obtain ⟨H, hH⟩ : ∃ H, H = s.heap := ⟨_, rfl⟩
  obtain ⟨locs, hlo⟩ : ∃ k : List Loc, k = [] := ⟨_, rfl⟩
  rw [← hH, ← hlo]
  rw [← hH] at hP
  replace hS : va_S (g_A G) s.heap H locs := by rw [hH, hlo]; exact hS
  refine lv_bipush (v := 10) hx hb dX3_sharedWithCases_0 (by decide) ?_
  refine lv_istore_n (lv' := [(1, .int 10), (0, .int a1)]) hx hb dX3_sharedWithCases_2 rfl hl (by decide) rfl (fun ls hl => ?_)
  exact L3 FU _ _ _ H locs ls h hP hS (lv_sub hl [1, 0] rfl)
set_option maxHeartbeats 4000000 in
set_option maxRecDepth 100000 in
theorem c_X3_weighArrival {l : Launch} {G : GT} {lam : Lm} {σ : St} {a1 : Int32} {a2 : Int32} {q : Lm × St} (h : f_X3_weighArrival lam σ a1 a2 = some q) : Met l yX3_weighArrival (Cond.code yX3_weighArrival cX3_weighArrival 7 none :: TB) ({ frames := 6, cells := 0, slots := 0, locals := 151 } : Room) (va_Pc [.ref (g_ad G 10), .int a1, .int a2] (GW G lam σ)) (RvL q G) 0 0 (g_A G) := by
  refine mk_QvL (own := RX3) (by decide) (Nat.le_of_ble_eq_true rfl) rfl (fun p e s m args below meth c C hr hlocks hP ls hl => ?_)
  have hx := C.1
  have hb := C.2.1
  have hl : lv_has ls 7 [(0, .ref (g_ad G 10)), (1, .int a1), (2, .int a2)] := hl
  have L77 : ∀ (n77 : Nat) (lam : Lm) (σ : St) (x3 : Int32) (x4 : Int32) (x5 : Int32) (x6 : Int32) (H : Heap) (locs : List Loc) (ls : Array Slot), fx (F_X3_weighArrival_h77) z_X3_weighArrival_h77 n77 lam σ x3 x4 x5 x6 = some q → va_P (g_D G) vwCl (allW G lam σ) H → va_S (g_A G) s.heap H locs → lv_has ls 7 [(0, .ref (g_ad G 10)), (3, .int x3), (4, .int x4), (5, .int x5), (6, .int x6)] → W p l e ({ frames := 6, cells := 0, slots := 0, locals := 151 } : Room) s m args below meth c H locs 0 0 (QvL q below args s G) (F0 m 77 ls []) := by
    intro n77
    induction n77 with
    | zero => intro lam σ x3 x4 x5 x6 H locs ls h hP hS hl; exact absurd h (by intro h9; cases h9)
    | succ n77 ih77 =>
      intro lam σ x3 x4 x5 x6 H locs ls h hP hS hl
      change F_X3_weighArrival_h77 (fx (F_X3_weighArrival_h77) z_X3_weighArrival_h77 n77) lam σ x3 x4 x5 x6 = some q at h
      unfold F_X3_weighArrival_h77 at h
      refine lv_iload hx hb dX3_weighArrival_77 (lv_at hl 4 rfl) ?_
      refine lv_iload_n hx hb dX3_weighArrival_79 rfl (lv_at hl 1 rfl) ?_
      refine lv_icmp_ge (tgt := 119) hx hb dX3_weighArrival_80 (by decide) (fun c28 => ?_) (fun c28 => ?_)
      · replace h := h_t c28 h
        exact ret_vL C hr hlocks hP hS h dX3_weighArrival_119
      · replace h := h_f c28 h
        refine lv_aload_n hx hb dX3_weighArrival_83 rfl (lv_at hl 0 rfl) ?_
        refine lv_dup hx hb dX3_weighArrival_84 rfl ?_
        refine gf_X3_9_10 C hP dX3_weighArrival_85 ?_
        refine lv_iload hx hb dX3_weighArrival_88 (lv_at hl 2 rfl) ?_
        refine lv_iload hx hb dX3_weighArrival_90 (lv_at hl 3 rfl) ?_
        obtain ⟨g29, h⟩ := h_nz h
        refine lv_idiv hx hb dX3_weighArrival_92 g29 ?_
        refine lv_i2l hx hb dX3_weighArrival_93 rfl ?_
        refine lv_lmul hx hb dX3_weighArrival_94 ?_
        refine pf_X3_9_10 C hP hS dX3_weighArrival_95 (fun H locs hP hS => ?_)
        obtain ⟨lam30, e31, h⟩ := bnd h
        have hP := hPl e31 hP
        refine lv_aload_n hx hb dX3_weighArrival_98 rfl (lv_at hl 0 rfl) ?_
        refine lv_dup hx hb dX3_weighArrival_99 rfl ?_
        refine gf_X3_15_10 C hP dX3_weighArrival_100 ?_
        refine lv_bipush (v := 10) hx hb dX3_weighArrival_103 (by decide) ?_
        refine lv_iload hx hb dX3_weighArrival_105 (lv_at hl 3 rfl) ?_
        obtain ⟨g32, h⟩ := h_nz h
        refine lv_idiv hx hb dX3_weighArrival_107 g32 ?_
        refine lv_i2l hx hb dX3_weighArrival_108 rfl ?_
        refine lv_lmul hx hb dX3_weighArrival_109 ?_
        refine pf_X3_15_10 C hP hS dX3_weighArrival_110 (fun H locs hP hS => ?_)
        obtain ⟨lam33, e34, h⟩ := bnd h
        have hP := hPl e34 hP
        obtain ⟨y35, e36, h⟩ := bnd h
        refine lv_iinc (v := y35) (lv' := [(6, .int y35), (0, .ref (g_ad G 10)), (3, .int x3), (4, .int x4), (5, .int x5)]) hx hb dX3_weighArrival_113 hl (k := 4) rfl (Option.some.inj e36) (by decide) rfl (fun ls hl => ?_)
        refine lv_goto (tgt := 77) hx hb dX3_weighArrival_116 (by decide) ?_
        exact ih77 _ _ _ _ _ _ H locs ls h hP hS (lv_sub hl [1, 2, 3, 4, 0] rfl)
  have J35 : ∀ (lam : Lm) (σ : St) (x2 : Int32) (t0 : Int64) (H : Heap) (locs : List Loc) (ls : Array Slot), f_X3_weighArrival_p35 lam σ x2 t0 = some q → va_P (g_D G) vwCl (allW G lam σ) H → va_S (g_A G) s.heap H locs → lv_has ls 7 [(0, .ref (g_ad G 10)), (2, .int x2)] → W p l e ({ frames := 6, cells := 0, slots := 0, locals := 151 } : Room) s m args below meth c H locs 0 0 (QvL q below args s G) (F0 m 35 ls [.long (t0), .ref (g_ad G 10)]) := by
    intro lam σ x2 t0 H locs ls h hP hS hl
    unfold f_X3_weighArrival_p35 at h
    refine pf_X3_9_10 C hP hS dX3_weighArrival_35 (fun H locs hP hS => ?_)
    obtain ⟨lam37, e38, h⟩ := bnd h
    have hP := hPl e38 hP
    refine lv_aload_n hx hb dX3_weighArrival_38 rfl (lv_at hl 0 rfl) ?_
    refine lv_lconst (v := 1) hx hb dX3_weighArrival_39 (by decide) ?_
    refine pf_X3_15_10 C hP hS dX3_weighArrival_40 (fun H locs hP hS => ?_)
    obtain ⟨lam39, e40, h⟩ := bnd h
    have hP := hPl e40 hP
    refine lv_aload_n hx hb dX3_weighArrival_43 rfl (lv_at hl 0 rfl) ?_
    refine gf_X3_9_10 C hP dX3_weighArrival_44 ?_
    refine lv_lconst (v := 0) hx hb dX3_weighArrival_47 (by decide) ?_
    refine W.lcmp hx hb dX3_weighArrival_48 ?_
    refine lv_if_ne (tgt := 53) hx hb dX3_weighArrival_49 (by decide) (fun c41 => ?_) (fun c41 => ?_)
    · replace h := h_f c41 h
      refine lv_aload_n hx hb dX3_weighArrival_53 rfl (lv_at hl 0 rfl) ?_
      obtain ⟨q42, e43, h⟩ := bnd h
      refine call_i C hP hS (c_X3_marksAwaited e43) mi_X3_marksAwaited mw_1178 10 (by decide) rfl rfl ⟨Nat.le_of_ble_eq_true rfl, Nat.le_of_ble_eq_true rfl⟩ (As := []) rfl hl.1 rfl (lv_room (Nat.le_of_ble_eq_true rfl)) dX3_weighArrival_54 (fun H locs hP hS => ?_)
      obtain ⟨q44, e45, h⟩ := bnd h
      refine scall_i C hP hS (c_J6_bitCount_0f7a4 e45) ms_J6_bitCount_0f7a4 mw_1179 ⟨Nat.le_of_ble_eq_true rfl, Nat.le_of_ble_eq_true rfl⟩ (As := [.int q42.1]) rfl hl.1 rfl (lv_room (Nat.le_of_ble_eq_true rfl)) dX3_weighArrival_57 (fun H locs hP hS => ?_)
      refine lv_istore_n (lv' := [(3, .int q44.1), (0, .ref (g_ad G 10)), (2, .int x2)]) hx hb dX3_weighArrival_60 rfl hl (by decide) rfl (fun ls hl => ?_)
      refine lv_bipush (v := 10) hx hb dX3_weighArrival_61 (by decide) ?_
      refine lv_iload_n hx hb dX3_weighArrival_63 rfl (lv_at hl 2 rfl) ?_
      refine lv_isub hx hb dX3_weighArrival_64 ?_
      obtain ⟨y46, e47, h⟩ := bnd h
      refine r_nm e47 ?_
      refine lv_istore (lv' := [(4, .int y46), (3, .int q44.1), (0, .ref (g_ad G 10)), (2, .int x2)]) hx hb dX3_weighArrival_65 hl (by decide) rfl (fun ls hl => ?_)
      refine lv_iload hx hb dX3_weighArrival_67 (lv_at hl 0 rfl) ?_
      obtain ⟨q48, e49, h⟩ := bnd h
      refine scall_i C hP hS (c_X3_sharedWithCases e49) ms_X3_sharedWithCases mw_1180 ⟨Nat.le_of_ble_eq_true rfl, Nat.le_of_ble_eq_true rfl⟩ (As := [.int y46]) rfl hl.1 rfl (lv_room (Nat.le_of_ble_eq_true rfl)) dX3_weighArrival_69 (fun H locs hP hS => ?_)
      refine lv_istore (lv' := [(5, .int q48.1), (4, .int y46), (3, .int q44.1), (0, .ref (g_ad G 10)), (2, .int x2)]) hx hb dX3_weighArrival_72 hl (by decide) rfl (fun ls hl => ?_)
      refine lv_iconst (v := 0) hx hb dX3_weighArrival_74 (by decide) ?_
      refine lv_istore (lv' := [(6, .int 0), (5, .int q48.1), (4, .int y46), (3, .int q44.1), (0, .ref (g_ad G 10)), (2, .int x2)]) hx hb dX3_weighArrival_75 hl (by decide) rfl (fun ls hl => ?_)
      exact L77 FU _ _ _ _ _ _ H locs ls h hP hS (lv_sub hl [4, 3, 2, 1, 0] rfl)
    · replace h := h_t c41 h
      exact ret_vL C hr hlocks hP hS h dX3_weighArrival_52
  have hS : va_S (g_A G) s.heap s.heap [] := va_S.rf
  unfold f_X3_weighArrival at h
  obtain ⟨H, hH⟩ : ∃ H, H = s.heap := ⟨_, rfl⟩
  obtain ⟨locs, hlo⟩ : ∃ k : List Loc, k = [] := ⟨_, rfl⟩
  rw [← hH, ← hlo]
  rw [← hH] at hP
  replace hS : va_S (g_A G) s.heap H locs := by rw [hH, hlo]; exact hS
  refine lv_aload_n hx hb dX3_weighArrival_0 rfl (lv_at hl 0 rfl) ?_
  refine gf_X3_33_10 C hP dX3_weighArrival_1 ?_
  refine lv_iload_n hx hb dX3_weighArrival_4 rfl (lv_at hl 1 rfl) ?_
  refine lv_aload_n hx hb dX3_weighArrival_5 rfl (lv_at hl 0 rfl) ?_
  refine gf_X3_25_10 C hP dX3_weighArrival_6 ?_
  refine lv_iconst (v := 0) hx hb dX3_weighArrival_9 (by decide) ?_
  obtain ⟨q50, e51, h⟩ := bnd h
  refine call_i C hP hS (c_X6_shipCell_2 e51) mi_X6_shipCell mw_1106 2 (by decide) rfl rfl ⟨Nat.le_of_ble_eq_true rfl, Nat.le_of_ble_eq_true rfl⟩ (As := [.int 0]) rfl hl.1 rfl (lv_room (Nat.le_of_ble_eq_true rfl)) dX3_weighArrival_10 (fun H locs hP hS => ?_)
  refine lv_iconst (v := 0) hx hb dX3_weighArrival_13 (by decide) ?_
  refine lv_iconst (v := (-1)) hx hb dX3_weighArrival_14 (by decide) ?_
  refine lv_iconst (v := 0) hx hb dX3_weighArrival_15 (by decide) ?_
  obtain ⟨q52, e53, h⟩ := bnd h
  refine call_v C hP hS (c_X8_make e53) mi_X8_make mw_1107 8 (by decide) rfl rfl ⟨Nat.le_of_ble_eq_true rfl, Nat.le_of_ble_eq_true rfl⟩ (As := [.int a1, .int q50.1, .int 0, .int (-1), .int 0]) rfl hl.1 rfl (lv_room (Nat.le_of_ble_eq_true rfl)) dX3_weighArrival_16 (fun H locs hP hS => ?_)
  refine lv_aload_n hx hb dX3_weighArrival_19 rfl (lv_at hl 0 rfl) ?_
  refine lv_aload_n hx hb dX3_weighArrival_20 rfl (lv_at hl 0 rfl) ?_
  refine gf_X3_33_10 C hP dX3_weighArrival_21 ?_
  obtain ⟨q54, e55, h⟩ := bnd h
  refine call_i C hP hS (c_X8_arrives e55) mi_X8_arrives mw_1108 8 (by decide) rfl rfl ⟨Nat.le_of_ble_eq_true rfl, Nat.le_of_ble_eq_true rfl⟩ (As := []) rfl hl.1 rfl (lv_room (Nat.le_of_ble_eq_true rfl)) dX3_weighArrival_24 (fun H locs hP hS => ?_)
  refine lv_if_eq (tgt := 34) hx hb dX3_weighArrival_27 (by decide) (fun c56 => ?_) (fun c56 => ?_)
  · replace h := h_t c56 h
    refine lv_lconst (v := 0) hx hb dX3_weighArrival_34 (by decide) ?_
    exact J35 _ _ _ _ H locs ls h hP hS (lv_sub hl [0, 2] rfl)
  · replace h := h_f c56 h
    refine lv_lconst (v := 1) hx hb dX3_weighArrival_30 (by decide) ?_
    refine lv_goto (tgt := 35) hx hb dX3_weighArrival_31 (by decide) ?_
    exact J35 _ _ _ _ H locs ls h hP hS (lv_sub hl [0, 2] rfl)
set_option maxHeartbeats 4000000 in
set_option maxRecDepth 100000 in
theorem c_X10_out {l : Launch} {G : GT} {lam : Lm} {σ : St} {a1 : Int32} {a2 : Int32} {a3 : Int32} {q : Int64 × Lm × St} (h : f_X10_out lam σ a1 a2 a3 = some q) : Met l yX10_out (Cond.code yX10_out cX10_out 4 ((some .long)) :: TB) ({ frames := 7, cells := 0, slots := 0, locals := 177 } : Room) (va_Pc [.ref (g_ad G 0), .int a1, .int a2, .int a3] (GW G lam σ)) (RlL q G) 0 0 (g_A G) := by
  refine mk_QlL (own := RX10) (by decide) (Nat.le_of_ble_eq_true rfl) rfl (fun p e s m args below meth c C hr hlocks hP ls hl => ?_)
  have hx := C.1
  have hb := C.2.1
  have hl : lv_has ls 4 [(0, .ref (g_ad G 0)), (1, .int a1), (2, .int a2), (3, .int a3)] := hl
  have hS : va_S (g_A G) s.heap s.heap [] := va_S.rf
  unfold f_X10_out at h
  refine lv_aload_n hx hb dX10_out_0 rfl (lv_at hl 0 rfl) ?_
  refine gf_X10_19_0 C hP dX10_out_1 ?_
  obtain ⟨q21, e22, h⟩ := bnd h
  refine call_i C hP hS (c_X6_isTold_2 e22) mi_X6_isTold mw_753 2 (by decide) rfl rfl ⟨Nat.le_of_ble_eq_true rfl, Nat.le_of_ble_eq_true rfl⟩ (As := []) rfl hl.1 rfl (lv_room (Nat.le_of_ble_eq_true rfl)) dX10_out_4 (fun H locs hP hS => ?_)
  refine lv_if_ne (tgt := 14) hx hb dX10_out_7 (by decide) (fun c23 => ?_) (fun c23 => ?_)
  · replace h := h_f c23 h
    refine lv_iload_n hx hb dX10_out_14 rfl (lv_at hl 1 rfl) ?_
    obtain ⟨q24, e25, h⟩ := bnd h
    refine scall_i C hP hS (c_X10_isStart e25) ms_X10_isStart mw_925 ⟨Nat.le_of_ble_eq_true rfl, Nat.le_of_ble_eq_true rfl⟩ (As := [.int a1]) rfl hl.1 rfl (lv_room (Nat.le_of_ble_eq_true rfl)) dX10_out_15 (fun H locs hP hS => ?_)
    refine lv_if_eq (tgt := 40) hx hb dX10_out_18 (by decide) (fun c26 => ?_) (fun c26 => ?_)
    · replace h := h_t c26 h
      refine lv_ldc2 hx hb C.2.2.2.1 (C.2.2.2.2.1 _ mw_1156) dX10_out_40 ?_
      exact ret_lL C hr hlocks hP hS h dX10_out_43
    · replace h := h_f c26 h
      refine lv_iload_n hx hb dX10_out_21 rfl (lv_at hl 2 rfl) ?_
      refine lv_iconst (v := 0) hx hb dX10_out_22 (by decide) ?_
      refine lv_bipush (v := 10) hx hb dX10_out_23 (by decide) ?_
      obtain ⟨q27, e28, h⟩ := bnd h
      refine scall_i C hP hS (c_X10_isWithin e28) ms_X10_isWithin mw_408 ⟨Nat.le_of_ble_eq_true rfl, Nat.le_of_ble_eq_true rfl⟩ (As := [.int a2, .int 0, .int 10]) rfl hl.1 rfl (lv_room (Nat.le_of_ble_eq_true rfl)) dX10_out_25 (fun H locs hP hS => ?_)
      refine lv_if_eq (tgt := 40) hx hb dX10_out_28 (by decide) (fun c29 => ?_) (fun c29 => ?_)
      · replace h := h_t c29 h
        refine lv_ldc2 hx hb C.2.2.2.1 (C.2.2.2.2.1 _ mw_1156) dX10_out_40 ?_
        exact ret_lL C hr hlocks hP hS h dX10_out_43
      · replace h := h_f c29 h
        refine lv_iload_n hx hb dX10_out_31 rfl (lv_at hl 3 rfl) ?_
        refine lv_iconst (v := 0) hx hb dX10_out_32 (by decide) ?_
        refine lv_iconst (v := 1) hx hb dX10_out_33 (by decide) ?_
        obtain ⟨q30, e31, h⟩ := bnd h
        refine scall_i C hP hS (c_X10_isWithin e31) ms_X10_isWithin mw_408 ⟨Nat.le_of_ble_eq_true rfl, Nat.le_of_ble_eq_true rfl⟩ (As := [.int a3, .int 0, .int 1]) rfl hl.1 rfl (lv_room (Nat.le_of_ble_eq_true rfl)) dX10_out_34 (fun H locs hP hS => ?_)
        refine lv_if_ne (tgt := 44) hx hb dX10_out_37 (by decide) (fun c32 => ?_) (fun c32 => ?_)
        · replace h := h_f c32 h
          refine lv_aload_n hx hb dX10_out_44 rfl (lv_at hl 0 rfl) ?_
          refine gf_X10_75_0 C hP dX10_out_45 ?_
          obtain ⟨q33, e34, h⟩ := bnd h
          refine call_i C hP hS (c_X3_marksAwaited e34) mi_X3_marksAwaited mw_1157 10 (by decide) rfl rfl ⟨Nat.le_of_ble_eq_true rfl, Nat.le_of_ble_eq_true rfl⟩ (As := []) rfl hl.1 rfl (lv_room (Nat.le_of_ble_eq_true rfl)) dX10_out_48 (fun H locs hP hS => ?_)
          obtain ⟨q35, e36, h⟩ := bnd h
          refine scall_i C hP hS (c_J6_bitCount_0f7a4 e36) ms_J6_bitCount_0f7a4 mw_1167 ⟨Nat.le_of_ble_eq_true rfl, Nat.le_of_ble_eq_true rfl⟩ (As := [.int q33.1]) rfl hl.1 rfl (lv_room (Nat.le_of_ble_eq_true rfl)) dX10_out_51 (fun H locs hP hS => ?_)
          refine lv_bipush (v := 6) hx hb dX10_out_54 (by decide) ?_
          refine lv_icmp_le (tgt := 63) hx hb dX10_out_56 (by decide) (fun c37 => ?_) (fun c37 => ?_)
          · replace h := h_t c37 h
            refine lv_aload_n hx hb dX10_out_63 rfl (lv_at hl 0 rfl) ?_
            refine gf_X10_75_0 C hP dX10_out_64 ?_
            refine lv_iload_n hx hb dX10_out_67 rfl (lv_at hl 1 rfl) ?_
            refine lv_iload_n hx hb dX10_out_68 rfl (lv_at hl 2 rfl) ?_
            obtain ⟨q38, e39, h⟩ := bnd h
            refine call_vL C hP hS (c_X3_weighArrival e39) mi_X3_weighArrival mw_1174 10 (by decide) rfl rfl ⟨Nat.le_of_ble_eq_true rfl, Nat.le_of_ble_eq_true rfl⟩ (As := [.int a1, .int a2]) rfl hl.1 rfl (lv_room (Nat.le_of_ble_eq_true rfl)) dX10_out_69 (fun H locs hP hS => ?_)
            refine lv_iload_n hx hb dX10_out_72 rfl (lv_at hl 3 rfl) ?_
            refine lv_if_ne (tgt := 86) hx hb dX10_out_73 (by decide) (fun c40 => ?_) (fun c40 => ?_)
            · replace h := h_f c40 h
              refine lv_aload_n hx hb dX10_out_86 rfl (lv_at hl 0 rfl) ?_
              refine gf_X10_75_0 C hP dX10_out_87 ?_
              refine gf_X10_317_10 C hP dX10_out_90 ?_
              exact ret_lL C hr hlocks hP hS h dX10_out_93
            · replace h := h_t c40 h
              refine lv_aload_n hx hb dX10_out_76 rfl (lv_at hl 0 rfl) ?_
              refine gf_X10_75_0 C hP dX10_out_77 ?_
              refine gf_X10_313_10 C hP dX10_out_80 ?_
              refine lv_goto (tgt := 93) hx hb dX10_out_83 (by decide) ?_
              exact ret_lL C hr hlocks hP hS h dX10_out_93
          · replace h := h_f c37 h
            refine lv_ldc2 hx hb C.2.2.2.1 (C.2.2.2.2.1 _ mw_1173) dX10_out_59 ?_
            exact ret_lL C hr hlocks hP hS h dX10_out_62
        · replace h := h_t c32 h
          refine lv_ldc2 hx hb C.2.2.2.1 (C.2.2.2.2.1 _ mw_1156) dX10_out_40 ?_
          exact ret_lL C hr hlocks hP hS h dX10_out_43
  · replace h := h_t c23 h
    refine lv_ldc2 hx hb C.2.2.2.1 (C.2.2.2.2.1 _ mw_1155) dX10_out_10 ?_
    exact ret_lL C hr hlocks hP hS h dX10_out_13
set_option maxHeartbeats 4000000 in
set_option maxRecDepth 100000 in
theorem c_X3_drawVoyages {l : Launch} {G : GT} {lam : Lm} {σ : St} {a1 : Int32} {a2 : Int32} {q : St} (h : f_X3_drawVoyages σ a1 a2 = some q) : Met l yX3_drawVoyages (Cond.code yX3_drawVoyages cX3_drawVoyages 8 none :: TB) ({ frames := 6, cells := 0, slots := 0, locals := 151 } : Room) (va_Pc [.ref (g_ad G 10), .int a1, .int a2] (GW G lam σ)) (Rv q G lam) 0 0 (g_A G) := by
  refine mk_Qv (own := RX3) (by decide) (Nat.le_of_ble_eq_true rfl) rfl (fun p e s m args below meth c C hr hlocks hP ls hl => ?_)
  have hx := C.1
  have hb := C.2.1
  have hl : lv_has ls 8 [(0, .ref (g_ad G 10)), (1, .int a1), (2, .int a2)] := hl
  have L16 : ∀ (n16 : Nat) (σ : St) (x1 : Int32) (x3 : Int64) (x5 : Int32) (H : Heap) (locs : List Loc) (ls : Array Slot), fx (F_X3_drawVoyages_h16) z_X3_drawVoyages_h16 n16 σ x1 x3 x5 = some q → va_P (g_D G) vwCl (allW G lam σ) H → va_S (g_A G) s.heap H locs → lv_has ls 8 [(0, .ref (g_ad G 10)), (1, .int x1), (3, .long (x3)), (5, .int x5)] → W p l e ({ frames := 6, cells := 0, slots := 0, locals := 151 } : Room) s m args below meth c H locs 0 0 (Qv q below args s G lam) (F0 m 16 ls []) := by
    intro n16
    induction n16 with
    | zero => intro σ x1 x3 x5 H locs ls h hP hS hl; exact absurd h (by intro h9; cases h9)
    | succ n16 ih16 =>
      have J86 : ∀ (σ : St) (x1 : Int32) (x3 : Int64) (x5 : Int32) (t0 : Int32) (t1 : Int32) (H : Heap) (locs : List Loc) (ls : Array Slot), f_X3_drawVoyages_p86 (fx (F_X3_drawVoyages_h16) z_X3_drawVoyages_h16 n16) σ x1 x3 x5 t0 t1 = some q → va_P (g_D G) vwCl (allW G lam σ) H → va_S (g_A G) s.heap H locs → lv_has ls 8 [(0, .ref (g_ad G 10)), (1, .int x1), (3, .long (x3)), (5, .int x5)] → W p l e ({ frames := 6, cells := 0, slots := 0, locals := 151 } : Room) s m args below meth c H locs 0 0 (Qv q below args s G lam) (F0 m 86 ls [.int t0, .int t1, .ref (g_ad G 10)]) := by
        intro σ x1 x3 x5 t0 t1 H locs ls h hP hS hl
        unfold f_X3_drawVoyages_p86 at h
        refine lv_iadd hx hb dX3_drawVoyages_86 ?_
        refine pf_X3_18_10 C hP hS dX3_drawVoyages_87 (fun H locs hP hS => ?_)
        obtain ⟨σ17, e18, h⟩ := bnd h
        have hP := hPn e18 hP
        refine lv_aload_n hx hb dX3_drawVoyages_90 rfl (lv_at hl 0 rfl) ?_
        refine lv_dup hx hb dX3_drawVoyages_91 rfl ?_
        refine gf_X3_22_10 C hP dX3_drawVoyages_92 ?_
        refine lv_aload_n hx hb dX3_drawVoyages_95 rfl (lv_at hl 0 rfl) ?_
        refine gf_X3_33_10 C hP dX3_drawVoyages_96 ?_
        refine gf_X3_65_8 C hP dX3_drawVoyages_99 ?_
        refine lv_iadd hx hb dX3_drawVoyages_102 ?_
        refine pf_X3_22_10 C hP hS dX3_drawVoyages_103 (fun H locs hP hS => ?_)
        obtain ⟨σ19, e20, h⟩ := bnd h
        have hP := hPn e20 hP
        obtain ⟨y21, e22, h⟩ := bnd h
        refine lv_iinc (v := y21) (lv' := [(5, .int y21), (0, .ref (g_ad G 10)), (1, .int x1), (3, .long (x3))]) hx hb dX3_drawVoyages_106 hl (k := 3) rfl (Option.some.inj e22) (by decide) rfl (fun ls hl => ?_)
        refine lv_goto (tgt := 16) hx hb dX3_drawVoyages_109 (by decide) ?_
        exact ih16 _ _ _ _ H locs ls h hP hS (lv_sub hl [1, 2, 3, 0] rfl)
      intro σ x1 x3 x5 H locs ls h hP hS hl
      change F_X3_drawVoyages_h16 (fx (F_X3_drawVoyages_h16) z_X3_drawVoyages_h16 n16) σ x1 x3 x5 = some q at h
      unfold F_X3_drawVoyages_h16 at h
      refine lv_iload hx hb dX3_drawVoyages_16 (lv_at hl 3 rfl) ?_
      refine lv_iload_n hx hb dX3_drawVoyages_18 rfl (lv_at hl 1 rfl) ?_
      refine lv_icmp_ge (tgt := 112) hx hb dX3_drawVoyages_19 (by decide) (fun c23 => ?_) (fun c23 => ?_)
      · replace h := h_t c23 h
        exact ret_v C hr hlocks hP hS h dX3_drawVoyages_112
      · replace h := h_f c23 h
        refine lv_lload_n hx hb dX3_drawVoyages_22 rfl (lv_at hl 2 rfl) ?_
        refine lv_ldc2 hx hb C.2.2.2.1 (C.2.2.2.2.1 _ mw_1192) dX3_drawVoyages_23 ?_
        refine lv_lmul hx hb dX3_drawVoyages_26 ?_
        refine lv_ldc2 hx hb C.2.2.2.1 (C.2.2.2.2.1 _ mw_1193) dX3_drawVoyages_27 ?_
        refine lv_lrem hx hb dX3_drawVoyages_30 (by decide) ?_
        obtain ⟨y24, e25, h⟩ := bnd h
        refine r_nml e25 ?_
        refine lv_lstore_n (lv' := [(3, .long (y24)), (0, .ref (g_ad G 10)), (1, .int x1), (5, .int x5)]) hx hb dX3_drawVoyages_31 rfl hl (by decide) rfl (fun ls hl => ?_)
        refine lv_lload_n hx hb dX3_drawVoyages_32 rfl (lv_at hl 0 rfl) ?_
        refine lv_ldc2 hx hb C.2.2.2.1 (C.2.2.2.2.1 _ mw_1194) dX3_drawVoyages_33 ?_
        refine lv_lrem hx hb dX3_drawVoyages_36 (by decide) ?_
        refine lv_l2i hx hb dX3_drawVoyages_37 rfl ?_
        obtain ⟨y26, e27, h⟩ := bnd h
        refine r_nm e27 ?_
        refine lv_istore (lv' := [(6, .int y26), (3, .long (y24)), (0, .ref (g_ad G 10)), (1, .int x1), (5, .int x5)]) hx hb dX3_drawVoyages_38 hl (by decide) rfl (fun ls hl => ?_)
        refine lv_lload_n hx hb dX3_drawVoyages_40 rfl (lv_at hl 1 rfl) ?_
        refine lv_ldc2 hx hb C.2.2.2.1 (C.2.2.2.2.1 _ mw_1195) dX3_drawVoyages_41 ?_
        refine lv_ldiv hx hb dX3_drawVoyages_44 (by decide) ?_
        refine lv_ldc2 hx hb C.2.2.2.1 (C.2.2.2.2.1 _ mw_1196) dX3_drawVoyages_45 ?_
        refine lv_lrem hx hb dX3_drawVoyages_48 (by decide) ?_
        refine lv_l2i hx hb dX3_drawVoyages_49 rfl ?_
        obtain ⟨y28, e29, h⟩ := bnd h
        refine r_nm e29 ?_
        refine lv_istore (lv' := [(7, .int y28), (6, .int y26), (3, .long (y24)), (0, .ref (g_ad G 10)), (1, .int x1), (5, .int x5)]) hx hb dX3_drawVoyages_50 hl (by decide) rfl (fun ls hl => ?_)
        refine lv_aload_n hx hb dX3_drawVoyages_52 rfl (lv_at hl 3 rfl) ?_
        refine gf_X3_33_10 C hP dX3_drawVoyages_53 ?_
        refine lv_iload hx hb dX3_drawVoyages_56 (lv_at hl 1 rfl) ?_
        refine lv_iload hx hb dX3_drawVoyages_58 (lv_at hl 0 rfl) ?_
        refine lv_iconst (v := 0) hx hb dX3_drawVoyages_60 (by decide) ?_
        refine lv_iconst (v := (-1)) hx hb dX3_drawVoyages_61 (by decide) ?_
        refine lv_iconst (v := 0) hx hb dX3_drawVoyages_62 (by decide) ?_
        obtain ⟨q30, e31, h⟩ := bnd h
        refine call_v C hP hS (c_X8_make e31) mi_X8_make mw_1107 8 (by decide) rfl rfl ⟨Nat.le_of_ble_eq_true rfl, Nat.le_of_ble_eq_true rfl⟩ (As := [.int y26, .int y28, .int 0, .int (-1), .int 0]) rfl hl.1 rfl (lv_room (Nat.le_of_ble_eq_true rfl)) dX3_drawVoyages_63 (fun H locs hP hS => ?_)
        refine lv_aload_n hx hb dX3_drawVoyages_66 rfl (lv_at hl 3 rfl) ?_
        refine lv_dup hx hb dX3_drawVoyages_67 rfl ?_
        refine gf_X3_18_10 C hP dX3_drawVoyages_68 ?_
        refine lv_aload_n hx hb dX3_drawVoyages_71 rfl (lv_at hl 3 rfl) ?_
        refine gf_X3_33_10 C hP dX3_drawVoyages_72 ?_
        obtain ⟨q32, e33, h⟩ := bnd h
        refine call_i C hP hS (c_X8_arrives e33) mi_X8_arrives mw_1108 8 (by decide) rfl rfl ⟨Nat.le_of_ble_eq_true rfl, Nat.le_of_ble_eq_true rfl⟩ (As := []) rfl hl.1 rfl (lv_room (Nat.le_of_ble_eq_true rfl)) dX3_drawVoyages_75 (fun H locs hP hS => ?_)
        refine lv_if_eq (tgt := 85) hx hb dX3_drawVoyages_78 (by decide) (fun c34 => ?_) (fun c34 => ?_)
        · replace h := h_t c34 h
          refine lv_iconst (v := 0) hx hb dX3_drawVoyages_85 (by decide) ?_
          exact J86 _ _ _ _ _ _ H locs ls h hP hS (lv_sub hl [3, 4, 2, 5] rfl)
        · replace h := h_f c34 h
          refine lv_iconst (v := 1) hx hb dX3_drawVoyages_81 (by decide) ?_
          refine lv_goto (tgt := 86) hx hb dX3_drawVoyages_82 (by decide) ?_
          exact J86 _ _ _ _ _ _ H locs ls h hP hS (lv_sub hl [3, 4, 2, 5] rfl)
  have hS : va_S (g_A G) s.heap s.heap [] := va_S.rf
  unfold f_X3_drawVoyages at h
  obtain ⟨H, hH⟩ : ∃ H, H = s.heap := ⟨_, rfl⟩
  obtain ⟨locs, hlo⟩ : ∃ k : List Loc, k = [] := ⟨_, rfl⟩
  rw [← hH, ← hlo]
  rw [← hH] at hP
  replace hS : va_S (g_A G) s.heap H locs := by rw [hH, hlo]; exact hS
  refine lv_iload_n hx hb dX3_drawVoyages_0 rfl (lv_at hl 2 rfl) ?_
  refine lv_i2l hx hb dX3_drawVoyages_1 rfl ?_
  obtain ⟨y35, e36, h⟩ := bnd h
  refine r_nml e36 ?_
  refine lv_lstore_n (lv' := [(3, .long (y35)), (0, .ref (g_ad G 10)), (1, .int a1), (2, .int a2)]) hx hb dX3_drawVoyages_2 rfl hl (by decide) rfl (fun ls hl => ?_)
  refine lv_aload_n hx hb dX3_drawVoyages_3 rfl (lv_at hl 1 rfl) ?_
  refine lv_iconst (v := 0) hx hb dX3_drawVoyages_4 (by decide) ?_
  refine pf_X3_18_10 C hP hS dX3_drawVoyages_5 (fun H locs hP hS => ?_)
  obtain ⟨σ37, e38, h⟩ := bnd h
  have hP := hPn e38 hP
  refine lv_aload_n hx hb dX3_drawVoyages_8 rfl (lv_at hl 1 rfl) ?_
  refine lv_iconst (v := 0) hx hb dX3_drawVoyages_9 (by decide) ?_
  refine pf_X3_22_10 C hP hS dX3_drawVoyages_10 (fun H locs hP hS => ?_)
  obtain ⟨σ39, e40, h⟩ := bnd h
  have hP := hPn e40 hP
  refine lv_iconst (v := 0) hx hb dX3_drawVoyages_13 (by decide) ?_
  refine lv_istore (lv' := [(5, .int 0), (3, .long (y35)), (0, .ref (g_ad G 10)), (1, .int a1), (2, .int a2)]) hx hb dX3_drawVoyages_14 hl (by decide) rfl (fun ls hl => ?_)
  exact L16 FU _ _ _ _ H locs ls h hP hS (lv_sub hl [2, 3, 1, 0] rfl)
set_option maxHeartbeats 4000000 in
set_option maxRecDepth 100000 in
theorem c_X10_drawn {l : Launch} {G : GT} {lam : Lm} {σ : St} {a1 : Int32} {a2 : Int32} {a3 : Int32} {q : Int32 × St} (h : f_X10_drawn σ a1 a2 a3 = some q) : Met l yX10_drawn (Cond.code yX10_drawn cX10_drawn 4 ((some .int)) :: TB) ({ frames := 7, cells := 0, slots := 0, locals := 178 } : Room) (va_Pc [.ref (g_ad G 0), .int a1, .int a2, .int a3] (GW G lam σ)) (Ri q G lam) 0 0 (g_A G) := by
  refine mk_Qi (own := RX10) (by decide) (Nat.le_of_ble_eq_true rfl) rfl (fun p e s m args below meth c C hr hlocks hP ls hl => ?_)
  have hx := C.1
  have hb := C.2.1
  have hl : lv_has ls 4 [(0, .ref (g_ad G 0)), (1, .int a1), (2, .int a2), (3, .int a3)] := hl
  have hS : va_S (g_A G) s.heap s.heap [] := va_S.rf
  unfold f_X10_drawn at h
  refine lv_aload_n hx hb dX10_drawn_0 rfl (lv_at hl 0 rfl) ?_
  refine gf_X10_19_0 C hP dX10_drawn_1 ?_
  obtain ⟨q16, e17, h⟩ := bnd h
  refine call_i C hP hS (c_X6_isTold_2 e17) mi_X6_isTold mw_753 2 (by decide) rfl rfl ⟨Nat.le_of_ble_eq_true rfl, Nat.le_of_ble_eq_true rfl⟩ (As := []) rfl hl.1 rfl (lv_room (Nat.le_of_ble_eq_true rfl)) dX10_drawn_4 (fun H locs hP hS => ?_)
  refine lv_if_ne (tgt := 13) hx hb dX10_drawn_7 (by decide) (fun c18 => ?_) (fun c18 => ?_)
  · replace h := h_f c18 h
    refine lv_iload_n hx hb dX10_drawn_13 rfl (lv_at hl 1 rfl) ?_
    refine lv_iconst (v := 0) hx hb dX10_drawn_14 (by decide) ?_
    refine lv_bipush (v := 12) hx hb dX10_drawn_15 (by decide) ?_
    obtain ⟨q19, e20, h⟩ := bnd h
    refine scall_i C hP hS (c_X10_isWithin e20) ms_X10_isWithin mw_408 ⟨Nat.le_of_ble_eq_true rfl, Nat.le_of_ble_eq_true rfl⟩ (As := [.int a1, .int 0, .int 12]) rfl hl.1 rfl (lv_room (Nat.le_of_ble_eq_true rfl)) dX10_drawn_17 (fun H locs hP hS => ?_)
    refine lv_if_eq (tgt := 43) hx hb dX10_drawn_20 (by decide) (fun c21 => ?_) (fun c21 => ?_)
    · replace h := h_t c21 h
      refine lv_ldc hx hb C.2.2.2.1 (C.2.2.2.2.1 _ mw_411) dX10_drawn_43 ?_
      exact ret_i C hr hlocks hP hS h dX10_drawn_45
    · replace h := h_f c21 h
      refine lv_iload_n hx hb dX10_drawn_23 rfl (lv_at hl 2 rfl) ?_
      refine lv_iconst (v := 1) hx hb dX10_drawn_24 (by decide) ?_
      refine lv_ldcw hx hb C.2.2.2.1 (C.2.2.2.2.1 _ mw_1187) dX10_drawn_25 ?_
      obtain ⟨q22, e23, h⟩ := bnd h
      refine scall_i C hP hS (c_X10_isWithin e23) ms_X10_isWithin mw_408 ⟨Nat.le_of_ble_eq_true rfl, Nat.le_of_ble_eq_true rfl⟩ (As := [.int a2, .int 1, .int 999999]) rfl hl.1 rfl (lv_room (Nat.le_of_ble_eq_true rfl)) dX10_drawn_28 (fun H locs hP hS => ?_)
      refine lv_if_eq (tgt := 43) hx hb dX10_drawn_31 (by decide) (fun c24 => ?_) (fun c24 => ?_)
      · replace h := h_t c24 h
        refine lv_ldc hx hb C.2.2.2.1 (C.2.2.2.2.1 _ mw_411) dX10_drawn_43 ?_
        exact ret_i C hr hlocks hP hS h dX10_drawn_45
      · replace h := h_f c24 h
        refine lv_iload_n hx hb dX10_drawn_34 rfl (lv_at hl 3 rfl) ?_
        refine lv_iconst (v := 0) hx hb dX10_drawn_35 (by decide) ?_
        refine lv_iconst (v := 1) hx hb dX10_drawn_36 (by decide) ?_
        obtain ⟨q25, e26, h⟩ := bnd h
        refine scall_i C hP hS (c_X10_isWithin e26) ms_X10_isWithin mw_408 ⟨Nat.le_of_ble_eq_true rfl, Nat.le_of_ble_eq_true rfl⟩ (As := [.int a3, .int 0, .int 1]) rfl hl.1 rfl (lv_room (Nat.le_of_ble_eq_true rfl)) dX10_drawn_37 (fun H locs hP hS => ?_)
        refine lv_if_ne (tgt := 46) hx hb dX10_drawn_40 (by decide) (fun c27 => ?_) (fun c27 => ?_)
        · replace h := h_f c27 h
          refine lv_aload_n hx hb dX10_drawn_46 rfl (lv_at hl 0 rfl) ?_
          refine gf_X10_75_0 C hP dX10_drawn_47 ?_
          refine lv_iload_n hx hb dX10_drawn_50 rfl (lv_at hl 1 rfl) ?_
          refine lv_iload_n hx hb dX10_drawn_51 rfl (lv_at hl 2 rfl) ?_
          obtain ⟨q28, e29, h⟩ := bnd h
          refine call_v C hP hS (c_X3_drawVoyages e29) mi_X3_drawVoyages mw_1188 10 (by decide) rfl rfl ⟨Nat.le_of_ble_eq_true rfl, Nat.le_of_ble_eq_true rfl⟩ (As := [.int a1, .int a2]) rfl hl.1 rfl (lv_room (Nat.le_of_ble_eq_true rfl)) dX10_drawn_52 (fun H locs hP hS => ?_)
          refine lv_iload_n hx hb dX10_drawn_55 rfl (lv_at hl 3 rfl) ?_
          refine lv_if_ne (tgt := 69) hx hb dX10_drawn_56 (by decide) (fun c30 => ?_) (fun c30 => ?_)
          · replace h := h_f c30 h
            refine lv_aload_n hx hb dX10_drawn_69 rfl (lv_at hl 0 rfl) ?_
            refine gf_X10_75_0 C hP dX10_drawn_70 ?_
            refine gf_X10_327_10 C hP dX10_drawn_73 ?_
            exact ret_i C hr hlocks hP hS h dX10_drawn_76
          · replace h := h_t c30 h
            refine lv_aload_n hx hb dX10_drawn_59 rfl (lv_at hl 0 rfl) ?_
            refine gf_X10_75_0 C hP dX10_drawn_60 ?_
            refine gf_X10_324_10 C hP dX10_drawn_63 ?_
            refine lv_goto (tgt := 76) hx hb dX10_drawn_66 (by decide) ?_
            exact ret_i C hr hlocks hP hS h dX10_drawn_76
        · replace h := h_t c27 h
          refine lv_ldc hx hb C.2.2.2.1 (C.2.2.2.2.1 _ mw_411) dX10_drawn_43 ?_
          exact ret_i C hr hlocks hP hS h dX10_drawn_45
  · replace h := h_t c18 h
    refine lv_ldc hx hb C.2.2.2.1 (C.2.2.2.2.1 _ mw_716) dX10_drawn_10 ?_
    exact ret_i C hr hlocks hP hS h dX10_drawn_12
