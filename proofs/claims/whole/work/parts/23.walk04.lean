set_option maxHeartbeats 4000000 in
set_option maxRecDepth 100000 in
theorem c_X10_mark {l : Launch} {G : GT} {lam : Lm} {σ : St} {a1 : Int32} {a2 : Int32} {a3 : Int32} {q : Int32 × St} (h : f_X10_mark σ a1 a2 a3 = some q) : Met l yX10_mark (Cond.code yX10_mark cX10_mark 4 ((some .int)) :: TB) ({ frames := 2, cells := 0, slots := 0, locals := 46 } : Room) (va_Pc [.ref (g_ad G 0), .int a1, .int a2, .int a3] (GW G lam σ)) (Ri q G lam) 0 0 (g_A G) := by
  refine mk_Qi (own := RX10) (by decide) (Nat.le_of_ble_eq_true rfl) rfl (fun p e s m args below meth c C hr hlocks hP ls hl => ?_)
  have hx := C.1
  have hb := C.2.1
  have hl : lv_has ls 4 [(0, .ref (g_ad G 0)), (1, .int a1), (2, .int a2), (3, .int a3)] := hl
  have hS : va_S (g_A G) s.heap s.heap [] := va_S.rf
  unfold f_X10_mark at h
  refine lv_aload_n hx hb dX10_mark_0 rfl (lv_at hl 0 rfl) ?_
  refine gf_X10_19_0 C hP dX10_mark_1 ?_
  refine lv_iload_n hx hb dX10_mark_4 rfl (lv_at hl 1 rfl) ?_
  obtain ⟨q20, e21, h⟩ := bnd h
  refine call_i C hP hS (c_X6_hasThing_2 e21) mi_X6_hasThing mw_729 2 (by decide) rfl rfl ⟨Nat.le_of_ble_eq_true rfl, Nat.le_of_ble_eq_true rfl⟩ (As := [.int a1]) rfl hl.1 rfl (lv_room (Nat.le_of_ble_eq_true rfl)) dX10_mark_5 (fun H locs hP hS => ?_)
  refine lv_if_eq (tgt := 31) hx hb dX10_mark_8 (by decide) (fun c22 => ?_) (fun c22 => ?_)
  · replace h := h_t c22 h
    refine lv_ldc hx hb C.2.2.2.1 (C.2.2.2.2.1 _ mw_411) dX10_mark_31 ?_
    exact ret_i C hr hlocks hP hS h dX10_mark_33
  · replace h := h_f c22 h
    refine lv_iload_n hx hb dX10_mark_11 rfl (lv_at hl 2 rfl) ?_
    refine lv_iconst (v := 0) hx hb dX10_mark_12 (by decide) ?_
    refine lv_sipush (v := 9999) hx hb dX10_mark_13 (by decide) ?_
    obtain ⟨q23, e24, h⟩ := bnd h
    refine scall_i C hP hS (c_X10_isWithin e24) ms_X10_isWithin mw_408 ⟨Nat.le_of_ble_eq_true rfl, Nat.le_of_ble_eq_true rfl⟩ (As := [.int a2, .int 0, .int 9999]) rfl hl.1 rfl (lv_room (Nat.le_of_ble_eq_true rfl)) dX10_mark_16 (fun H locs hP hS => ?_)
    refine lv_if_eq (tgt := 31) hx hb dX10_mark_19 (by decide) (fun c25 => ?_) (fun c25 => ?_)
    · replace h := h_t c25 h
      refine lv_ldc hx hb C.2.2.2.1 (C.2.2.2.2.1 _ mw_411) dX10_mark_31 ?_
      exact ret_i C hr hlocks hP hS h dX10_mark_33
    · replace h := h_f c25 h
      refine lv_iload_n hx hb dX10_mark_22 rfl (lv_at hl 3 rfl) ?_
      refine lv_iconst (v := 0) hx hb dX10_mark_23 (by decide) ?_
      refine lv_iconst (v := 1) hx hb dX10_mark_24 (by decide) ?_
      obtain ⟨q26, e27, h⟩ := bnd h
      refine scall_i C hP hS (c_X10_isWithin e27) ms_X10_isWithin mw_408 ⟨Nat.le_of_ble_eq_true rfl, Nat.le_of_ble_eq_true rfl⟩ (As := [.int a3, .int 0, .int 1]) rfl hl.1 rfl (lv_room (Nat.le_of_ble_eq_true rfl)) dX10_mark_25 (fun H locs hP hS => ?_)
      refine lv_if_ne (tgt := 34) hx hb dX10_mark_28 (by decide) (fun c28 => ?_) (fun c28 => ?_)
      · replace h := h_f c28 h
        refine lv_aload_n hx hb dX10_mark_34 rfl (lv_at hl 0 rfl) ?_
        refine gf_X10_19_0 C hP dX10_mark_35 ?_
        refine lv_iload_n hx hb dX10_mark_38 rfl (lv_at hl 1 rfl) ?_
        obtain ⟨q29, e30, h⟩ := bnd h
        refine call_i C hP hS (c_X6_isMark_2 e30) mi_X6_isMark mw_863 2 (by decide) rfl rfl ⟨Nat.le_of_ble_eq_true rfl, Nat.le_of_ble_eq_true rfl⟩ (As := [.int a1]) rfl hl.1 rfl (lv_room (Nat.le_of_ble_eq_true rfl)) dX10_mark_39 (fun H locs hP hS => ?_)
        refine lv_if_ne (tgt := 48) hx hb dX10_mark_42 (by decide) (fun c31 => ?_) (fun c31 => ?_)
        · replace h := h_f c31 h
          refine lv_iload_n hx hb dX10_mark_48 rfl (lv_at hl 3 rfl) ?_
          refine lv_if_ne (tgt := 71) hx hb dX10_mark_49 (by decide) (fun c32 => ?_) (fun c32 => ?_)
          · replace h := h_f c32 h
            refine lv_aload_n hx hb dX10_mark_71 rfl (lv_at hl 0 rfl) ?_
            refine gf_X10_19_0 C hP dX10_mark_72 ?_
            refine lv_iload_n hx hb dX10_mark_75 rfl (lv_at hl 1 rfl) ?_
            refine lv_iconst (v := 2) hx hb dX10_mark_76 (by decide) ?_
            obtain ⟨q33, e34, h⟩ := bnd h
            refine call_i C hP hS (c_X6_thingCell_2 e34) mi_X6_thingCell mw_748 2 (by decide) rfl rfl ⟨Nat.le_of_ble_eq_true rfl, Nat.le_of_ble_eq_true rfl⟩ (As := [.int a1, .int 2]) rfl hl.1 rfl (lv_room (Nat.le_of_ble_eq_true rfl)) dX10_mark_77 (fun H locs hP hS => ?_)
            exact ret_i C hr hlocks hP hS h dX10_mark_80
          · replace h := h_t c32 h
            refine lv_aload_n hx hb dX10_mark_52 rfl (lv_at hl 0 rfl) ?_
            refine gf_X10_50_0 C hP dX10_mark_53 ?_
            refine lv_iload_n hx hb dX10_mark_56 rfl (lv_at hl 1 rfl) ?_
            refine lv_aload_n hx hb dX10_mark_57 rfl (lv_at hl 0 rfl) ?_
            refine gf_X10_50_0 C hP dX10_mark_58 ?_
            refine lv_iload_n hx hb dX10_mark_61 rfl (lv_at hl 2 rfl) ?_
            obtain ⟨q35, e36, h⟩ := bnd h
            refine call_i C hP hS (c_X1_heightAt e36) mi_X1_heightAt mw_819 7 (by decide) rfl rfl ⟨Nat.le_of_ble_eq_true rfl, Nat.le_of_ble_eq_true rfl⟩ (As := [.int a2]) rfl hl.1 rfl (lv_room (Nat.le_of_ble_eq_true rfl)) dX10_mark_62 (fun H locs hP hS => ?_)
            obtain ⟨q37, e38, h⟩ := bnd h
            refine call_i C hP hS (c_X1_markX e38) mi_X1_markX mw_868 7 (by decide) rfl rfl ⟨Nat.le_of_ble_eq_true rfl, Nat.le_of_ble_eq_true rfl⟩ (As := [.int a1, .int q35.1]) rfl hl.1 rfl (lv_room (Nat.le_of_ble_eq_true rfl)) dX10_mark_65 (fun H locs hP hS => ?_)
            refine lv_goto (tgt := 80) hx hb dX10_mark_68 (by decide) ?_
            exact ret_i C hr hlocks hP hS h dX10_mark_80
        · replace h := h_t c31 h
          refine lv_ldc hx hb C.2.2.2.1 (C.2.2.2.2.1 _ mw_716) dX10_mark_45 ?_
          exact ret_i C hr hlocks hP hS h dX10_mark_47
      · replace h := h_t c28 h
        refine lv_ldc hx hb C.2.2.2.1 (C.2.2.2.2.1 _ mw_411) dX10_mark_31 ?_
        exact ret_i C hr hlocks hP hS h dX10_mark_33
set_option maxHeartbeats 4000000 in
set_option maxRecDepth 100000 in
theorem c_X2_isInSector {l : Launch} {G : GT} {lam : Lm} {σ : St} {a1 : Int32} {a2 : Int32} {a3 : Int32} {a4 : Int32} {q : Int32 × St} (h : f_X2_isInSector σ a1 a2 a3 a4 = some q) : Met l yX2_isInSector (Cond.code yX2_isInSector cX2_isInSector 12 ((some .boolean)) :: TB) ({ frames := 0, cells := 0, slots := 0, locals := 0 } : Room) (va_Pc [.int a1, .int a2, .int a3, .int a4] (GW G lam σ)) (Ri q G lam) 0 0 (g_A G) := by
  refine mk_Qi (own := RX2) (by decide) (Nat.le_of_ble_eq_true rfl) rfl (fun p e s m args below meth c C hr hlocks hP ls hl => ?_)
  have hx := C.1
  have hb := C.2.1
  have hl : lv_has ls 12 [(0, .int a1), (1, .int a2), (2, .int a3), (3, .int a4)] := hl
  have J157 : ∀ (σ : St) (x5 : Int32) (t0 : Int32) (H : Heap) (locs : List Loc) (ls : Array Slot), f_X2_isInSector_p157 σ x5 t0 = some q → va_P (g_D G) vwCl (allW G lam σ) H → va_S (g_A G) s.heap H locs → lv_has ls 12 [(5, .int x5)] → W p l e ({ frames := 0, cells := 0, slots := 0, locals := 0 } : Room) s m args below meth c H locs 0 0 (Qi q below args s G lam) (F0 m 157 ls [.int t0]) := by
    intro σ x5 t0 H locs ls h hP hS hl
    unfold f_X2_isInSector_p157 at h
    refine lv_istore (lv' := [(11, .int t0), (5, .int x5)]) hx hb dX2_isInSector_157 hl (by decide) rfl (fun ls hl => ?_)
    refine lv_iload hx hb dX2_isInSector_159 (lv_at hl 0 rfl) ?_
    refine lv_iload hx hb dX2_isInSector_161 (lv_at hl 1 rfl) ?_
    refine lv_icmp_eq (tgt := 170) hx hb dX2_isInSector_163 (by decide) (fun c19 => ?_) (fun c19 => ?_)
    · replace h := h_t c19 h
      refine lv_iconst (v := 0) hx hb dX2_isInSector_170 (by decide) ?_
      exact ret_z C hr hlocks hP hS h (Or.inl rfl) dX2_isInSector_171
    · replace h := h_f c19 h
      refine lv_iconst (v := 1) hx hb dX2_isInSector_166 (by decide) ?_
      refine lv_goto (tgt := 171) hx hb dX2_isInSector_167 (by decide) ?_
      exact ret_z C hr hlocks hP hS h (Or.inr rfl) dX2_isInSector_171
  have J156 : ∀ (σ : St) (x5 : Int32) (H : Heap) (locs : List Loc) (ls : Array Slot), f_X2_isInSector_p156 σ x5 = some q → va_P (g_D G) vwCl (allW G lam σ) H → va_S (g_A G) s.heap H locs → lv_has ls 12 [(5, .int x5)] → W p l e ({ frames := 0, cells := 0, slots := 0, locals := 0 } : Room) s m args below meth c H locs 0 0 (Qi q below args s G lam) (F0 m 156 ls []) := by
    intro σ x5 H locs ls h hP hS hl
    unfold f_X2_isInSector_p156 at h
    refine lv_iconst (v := 0) hx hb dX2_isInSector_156 (by decide) ?_
    exact J157 _ _ _ H locs ls h hP hS (lv_sub hl [0] rfl)
  have J152 : ∀ (σ : St) (x5 : Int32) (H : Heap) (locs : List Loc) (ls : Array Slot), f_X2_isInSector_p152 σ x5 = some q → va_P (g_D G) vwCl (allW G lam σ) H → va_S (g_A G) s.heap H locs → lv_has ls 12 [(5, .int x5)] → W p l e ({ frames := 0, cells := 0, slots := 0, locals := 0 } : Room) s m args below meth c H locs 0 0 (Qi q below args s G lam) (F0 m 152 ls []) := by
    intro σ x5 H locs ls h hP hS hl
    unfold f_X2_isInSector_p152 at h
    refine lv_iconst (v := 1) hx hb dX2_isInSector_152 (by decide) ?_
    refine lv_goto (tgt := 157) hx hb dX2_isInSector_153 (by decide) ?_
    exact J157 _ _ _ H locs ls h hP hS (lv_sub hl [0] rfl)
  have J135 : ∀ (σ : St) (x5 : Int32) (x8 : Int32) (x9 : Int32) (t0 : Int32) (H : Heap) (locs : List Loc) (ls : Array Slot), f_X2_isInSector_p135 σ x5 x8 x9 t0 = some q → va_P (g_D G) vwCl (allW G lam σ) H → va_S (g_A G) s.heap H locs → lv_has ls 12 [(5, .int x5), (8, .int x8), (9, .int x9)] → W p l e ({ frames := 0, cells := 0, slots := 0, locals := 0 } : Room) s m args below meth c H locs 0 0 (Qi q below args s G lam) (F0 m 135 ls [.int t0]) := by
    intro σ x5 x8 x9 t0 H locs ls h hP hS hl
    unfold f_X2_isInSector_p135 at h
    refine lv_istore (lv' := [(10, .int t0), (5, .int x5), (8, .int x8), (9, .int x9)]) hx hb dX2_isInSector_135 hl (by decide) rfl (fun ls hl => ?_)
    refine lv_iload hx hb dX2_isInSector_137 (lv_at hl 0 rfl) ?_
    refine lv_if_ne (tgt := 152) hx hb dX2_isInSector_139 (by decide) (fun c20 => ?_) (fun c20 => ?_)
    · replace h := h_f c20 h
      exact J152 _ _ H locs ls h hP hS (lv_sub hl [1] rfl)
    · replace h := h_t c20 h
      refine lv_iload hx hb dX2_isInSector_142 (lv_at hl 2 rfl) ?_
      refine lv_if_le (tgt := 156) hx hb dX2_isInSector_144 (by decide) (fun c21 => ?_) (fun c21 => ?_)
      · replace h := h_t c21 h
        exact J156 _ _ H locs ls h hP hS (lv_sub hl [1] rfl)
      · replace h := h_f c21 h
        refine lv_iload hx hb dX2_isInSector_147 (lv_at hl 3 rfl) ?_
        refine lv_if_le (tgt := 156) hx hb dX2_isInSector_149 (by decide) (fun c22 => ?_) (fun c22 => ?_)
        · replace h := h_t c22 h
          exact J156 _ _ H locs ls h hP hS (lv_sub hl [1] rfl)
        · replace h := h_f c22 h
          exact J152 _ _ H locs ls h hP hS (lv_sub hl [1] rfl)
  have J134 : ∀ (σ : St) (x5 : Int32) (x8 : Int32) (x9 : Int32) (H : Heap) (locs : List Loc) (ls : Array Slot), f_X2_isInSector_p134 σ x5 x8 x9 = some q → va_P (g_D G) vwCl (allW G lam σ) H → va_S (g_A G) s.heap H locs → lv_has ls 12 [(5, .int x5), (8, .int x8), (9, .int x9)] → W p l e ({ frames := 0, cells := 0, slots := 0, locals := 0 } : Room) s m args below meth c H locs 0 0 (Qi q below args s G lam) (F0 m 134 ls []) := by
    intro σ x5 x8 x9 H locs ls h hP hS hl
    unfold f_X2_isInSector_p134 at h
    refine lv_iconst (v := 0) hx hb dX2_isInSector_134 (by decide) ?_
    exact J135 _ _ _ _ _ H locs ls h hP hS (lv_sub hl [0, 1, 2] rfl)
  have J62 : ∀ (σ : St) (x2 : Int32) (x3 : Int32) (x5 : Int32) (x6 : Int32) (t0 : Int32) (H : Heap) (locs : List Loc) (ls : Array Slot), f_X2_isInSector_p62 σ x2 x3 x5 x6 t0 = some q → va_P (g_D G) vwCl (allW G lam σ) H → va_S (g_A G) s.heap H locs → lv_has ls 12 [(2, .int x2), (3, .int x3), (5, .int x5), (6, .int x6)] → W p l e ({ frames := 0, cells := 0, slots := 0, locals := 0 } : Room) s m args below meth c H locs 0 0 (Qi q below args s G lam) (F0 m 62 ls [.int t0]) := by
    intro σ x2 x3 x5 x6 t0 H locs ls h hP hS hl
    unfold f_X2_isInSector_p62 at h
    refine lv_bipush (v := 15) hx hb dX2_isInSector_62 (by decide) ?_
    refine lv_iand hx hb dX2_isInSector_64 ?_
    obtain ⟨y23, e24, h⟩ := bnd h
    refine r_nm e24 ?_
    refine lv_istore (lv' := [(7, .int y23), (2, .int x2), (3, .int x3), (5, .int x5), (6, .int x6)]) hx hb dX2_isInSector_65 hl (by decide) rfl (fun ls hl => ?_)
    refine va_gets hx hb C.2.2.2.2.2.2.2.2.2.1 hS C.2.2.2.1 (C.2.2.2.2.1 _ mw_884) (fun _ h9 => h9) dX2_isInSector_67 ?_
    refine lv_iload hx hb dX2_isInSector_70 (lv_at hl 4 rfl) ?_
    obtain ⟨g25, h⟩ := h_g h
    refine va_ti hx hb C.2.2.2.2.2.2.2.2.2.2.1 hS (vp_in_iff.mpr g25) rfl dX2_isInSector_72 ?_
    refine lv_iload_n hx hb dX2_isInSector_73 rfl (lv_at hl 1 rfl) ?_
    refine lv_imul hx hb dX2_isInSector_74 ?_
    refine va_gets hx hb C.2.2.2.2.2.2.2.1 hS C.2.2.2.1 (C.2.2.2.2.1 _ mw_886) (fun _ h9 => h9) dX2_isInSector_75 ?_
    refine lv_iload hx hb dX2_isInSector_78 (lv_at hl 4 rfl) ?_
    obtain ⟨g26, h⟩ := h_g h
    refine va_ti hx hb C.2.2.2.2.2.2.2.2.1 hS (vp_in_iff.mpr g26) rfl dX2_isInSector_80 ?_
    refine lv_iload_n hx hb dX2_isInSector_81 rfl (lv_at hl 2 rfl) ?_
    refine lv_imul hx hb dX2_isInSector_82 ?_
    refine lv_isub hx hb dX2_isInSector_83 ?_
    obtain ⟨y27, e28, h⟩ := bnd h
    refine r_nm e28 ?_
    refine lv_istore (lv' := [(8, .int y27), (7, .int y23), (2, .int x2), (3, .int x3), (5, .int x5), (6, .int x6)]) hx hb dX2_isInSector_84 hl (by decide) rfl (fun ls hl => ?_)
    refine lv_iload_n hx hb dX2_isInSector_86 rfl (lv_at hl 3 rfl) ?_
    refine va_gets hx hb C.2.2.2.2.2.2.2.1 hS C.2.2.2.1 (C.2.2.2.2.1 _ mw_886) (fun _ h9 => h9) dX2_isInSector_87 ?_
    refine lv_iload hx hb dX2_isInSector_90 (lv_at hl 1 rfl) ?_
    obtain ⟨g29, h⟩ := h_g h
    refine va_ti hx hb C.2.2.2.2.2.2.2.2.1 hS (vp_in_iff.mpr g29) rfl dX2_isInSector_92 ?_
    refine lv_imul hx hb dX2_isInSector_93 ?_
    refine lv_iload_n hx hb dX2_isInSector_94 rfl (lv_at hl 2 rfl) ?_
    refine va_gets hx hb C.2.2.2.2.2.2.2.2.2.1 hS C.2.2.2.1 (C.2.2.2.2.1 _ mw_884) (fun _ h9 => h9) dX2_isInSector_95 ?_
    refine lv_iload hx hb dX2_isInSector_98 (lv_at hl 1 rfl) ?_
    obtain ⟨g30, h⟩ := h_g h
    refine va_ti hx hb C.2.2.2.2.2.2.2.2.2.2.1 hS (vp_in_iff.mpr g30) rfl dX2_isInSector_100 ?_
    refine lv_imul hx hb dX2_isInSector_101 ?_
    refine lv_isub hx hb dX2_isInSector_102 ?_
    obtain ⟨y31, e32, h⟩ := bnd h
    refine r_nm e32 ?_
    refine lv_istore (lv' := [(9, .int y31), (8, .int y27), (7, .int y23), (2, .int x2), (3, .int x3), (5, .int x5), (6, .int x6)]) hx hb dX2_isInSector_103 hl (by decide) rfl (fun ls hl => ?_)
    refine lv_iload hx hb dX2_isInSector_105 (lv_at hl 1 rfl) ?_
    refine lv_if_ne (tgt := 134) hx hb dX2_isInSector_107 (by decide) (fun c33 => ?_) (fun c33 => ?_)
    · replace h := h_f c33 h
      exact J134 _ _ _ _ H locs ls h hP hS (lv_sub hl [5, 1, 0] rfl)
    · replace h := h_t c33 h
      refine va_gets hx hb C.2.2.2.2.2.2.2.1 hS C.2.2.2.1 (C.2.2.2.2.1 _ mw_886) (fun _ h9 => h9) dX2_isInSector_110 ?_
      refine lv_iload hx hb dX2_isInSector_113 (lv_at hl 6 rfl) ?_
      obtain ⟨g34, h⟩ := h_g h
      refine va_ti hx hb C.2.2.2.2.2.2.2.2.1 hS (vp_in_iff.mpr g34) rfl dX2_isInSector_115 ?_
      refine lv_iload_n hx hb dX2_isInSector_116 rfl (lv_at hl 3 rfl) ?_
      refine lv_imul hx hb dX2_isInSector_117 ?_
      refine va_gets hx hb C.2.2.2.2.2.2.2.2.2.1 hS C.2.2.2.1 (C.2.2.2.2.1 _ mw_884) (fun _ h9 => h9) dX2_isInSector_118 ?_
      refine lv_iload hx hb dX2_isInSector_121 (lv_at hl 6 rfl) ?_
      obtain ⟨g35, h⟩ := h_g h
      refine va_ti hx hb C.2.2.2.2.2.2.2.2.2.2.1 hS (vp_in_iff.mpr g35) rfl dX2_isInSector_123 ?_
      refine lv_iload_n hx hb dX2_isInSector_124 rfl (lv_at hl 4 rfl) ?_
      refine lv_imul hx hb dX2_isInSector_125 ?_
      refine lv_iadd hx hb dX2_isInSector_126 ?_
      refine lv_if_le (tgt := 134) hx hb dX2_isInSector_127 (by decide) (fun c36 => ?_) (fun c36 => ?_)
      · replace h := h_t c36 h
        exact J134 _ _ _ _ H locs ls h hP hS (lv_sub hl [5, 1, 0] rfl)
      · replace h := h_f c36 h
        refine lv_iconst (v := 1) hx hb dX2_isInSector_130 (by decide) ?_
        refine lv_goto (tgt := 135) hx hb dX2_isInSector_131 (by decide) ?_
        exact J135 _ _ _ _ _ H locs ls h hP hS (lv_sub hl [5, 1, 0] rfl)
  have J47 : ∀ (σ : St) (x0 : Int32) (x1 : Int32) (x2 : Int32) (x3 : Int32) (x5 : Int32) (t0 : Int32) (H : Heap) (locs : List Loc) (ls : Array Slot), f_X2_isInSector_p47 σ x0 x1 x2 x3 x5 t0 = some q → va_P (g_D G) vwCl (allW G lam σ) H → va_S (g_A G) s.heap H locs → lv_has ls 12 [(0, .int x0), (1, .int x1), (2, .int x2), (3, .int x3), (5, .int x5)] → W p l e ({ frames := 0, cells := 0, slots := 0, locals := 0 } : Room) s m args below meth c H locs 0 0 (Qi q below args s G lam) (F0 m 47 ls [.int t0]) := by
    intro σ x0 x1 x2 x3 x5 t0 H locs ls h hP hS hl
    unfold f_X2_isInSector_p47 at h
    refine lv_bipush (v := 15) hx hb dX2_isInSector_47 (by decide) ?_
    refine lv_iand hx hb dX2_isInSector_49 ?_
    obtain ⟨y37, e38, h⟩ := bnd h
    refine r_nm e38 ?_
    refine lv_istore (lv' := [(6, .int y37), (0, .int x0), (1, .int x1), (2, .int x2), (3, .int x3), (5, .int x5)]) hx hb dX2_isInSector_50 hl (by decide) rfl (fun ls hl => ?_)
    refine lv_iload hx hb dX2_isInSector_52 (lv_at hl 5 rfl) ?_
    refine lv_if_eq (tgt := 61) hx hb dX2_isInSector_54 (by decide) (fun c39 => ?_) (fun c39 => ?_)
    · replace h := h_t c39 h
      refine lv_iload_n hx hb dX2_isInSector_61 rfl (lv_at hl 2 rfl) ?_
      exact J62 _ _ _ _ _ _ H locs ls h hP hS (lv_sub hl [3, 4, 5, 0] rfl)
    · replace h := h_f c39 h
      refine lv_iload_n hx hb dX2_isInSector_57 rfl (lv_at hl 1 rfl) ?_
      refine lv_goto (tgt := 62) hx hb dX2_isInSector_58 (by decide) ?_
      exact J62 _ _ _ _ _ _ H locs ls h hP hS (lv_sub hl [3, 4, 5, 0] rfl)
  have J35 : ∀ (σ : St) (x0 : Int32) (x1 : Int32) (x2 : Int32) (x3 : Int32) (t0 : Int32) (H : Heap) (locs : List Loc) (ls : Array Slot), f_X2_isInSector_p35 σ x0 x1 x2 x3 t0 = some q → va_P (g_D G) vwCl (allW G lam σ) H → va_S (g_A G) s.heap H locs → lv_has ls 12 [(0, .int x0), (1, .int x1), (2, .int x2), (3, .int x3)] → W p l e ({ frames := 0, cells := 0, slots := 0, locals := 0 } : Room) s m args below meth c H locs 0 0 (Qi q below args s G lam) (F0 m 35 ls [.int t0]) := by
    intro σ x0 x1 x2 x3 t0 H locs ls h hP hS hl
    unfold f_X2_isInSector_p35 at h
    refine lv_istore (lv' := [(5, .int t0), (0, .int x0), (1, .int x1), (2, .int x2), (3, .int x3)]) hx hb dX2_isInSector_35 hl (by decide) rfl (fun ls hl => ?_)
    refine lv_iload hx hb dX2_isInSector_37 (lv_at hl 0 rfl) ?_
    refine lv_if_eq (tgt := 46) hx hb dX2_isInSector_39 (by decide) (fun c40 => ?_) (fun c40 => ?_)
    · replace h := h_t c40 h
      refine lv_iload_n hx hb dX2_isInSector_46 rfl (lv_at hl 1 rfl) ?_
      exact J47 _ _ _ _ _ _ _ H locs ls h hP hS (lv_sub hl [1, 2, 3, 4, 0] rfl)
    · replace h := h_f c40 h
      refine lv_iload_n hx hb dX2_isInSector_42 rfl (lv_at hl 2 rfl) ?_
      refine lv_goto (tgt := 47) hx hb dX2_isInSector_43 (by decide) ?_
      exact J47 _ _ _ _ _ _ _ H locs ls h hP hS (lv_sub hl [1, 2, 3, 4, 0] rfl)
  have J23 : ∀ (σ : St) (x0 : Int32) (x1 : Int32) (x2 : Int32) (x3 : Int32) (x4 : Int32) (H : Heap) (locs : List Loc) (ls : Array Slot), f_X2_isInSector_p23 σ x0 x1 x2 x3 x4 = some q → va_P (g_D G) vwCl (allW G lam σ) H → va_S (g_A G) s.heap H locs → lv_has ls 12 [(0, .int x0), (1, .int x1), (2, .int x2), (3, .int x3), (4, .int x4)] → W p l e ({ frames := 0, cells := 0, slots := 0, locals := 0 } : Room) s m args below meth c H locs 0 0 (Qi q below args s G lam) (F0 m 23 ls []) := by
    intro σ x0 x1 x2 x3 x4 H locs ls h hP hS hl
    unfold f_X2_isInSector_p23 at h
    refine lv_iload hx hb dX2_isInSector_23 (lv_at hl 4 rfl) ?_
    refine lv_bipush (v := 8) hx hb dX2_isInSector_25 (by decide) ?_
    refine lv_icmp_le (tgt := 34) hx hb dX2_isInSector_27 (by decide) (fun c41 => ?_) (fun c41 => ?_)
    · replace h := h_t c41 h
      refine lv_iconst (v := 0) hx hb dX2_isInSector_34 (by decide) ?_
      exact J35 _ _ _ _ _ _ H locs ls h hP hS (lv_sub hl [0, 1, 2, 3] rfl)
    · replace h := h_f c41 h
      refine lv_iconst (v := 1) hx hb dX2_isInSector_30 (by decide) ?_
      refine lv_goto (tgt := 35) hx hb dX2_isInSector_31 (by decide) ?_
      exact J35 _ _ _ _ _ _ H locs ls h hP hS (lv_sub hl [0, 1, 2, 3] rfl)
  have hS : va_S (g_A G) s.heap s.heap [] := va_S.rf
  unfold f_X2_isInSector at h
  obtain ⟨H, hH⟩ : ∃ H, H = s.heap := ⟨_, rfl⟩
  obtain ⟨locs, hlo⟩ : ∃ k : List Loc, k = [] := ⟨_, rfl⟩
  rw [← hH, ← hlo]
  rw [← hH] at hP
  replace hS : va_S (g_A G) s.heap H locs := by rw [hH, hlo]; exact hS
  refine lv_iload_n hx hb dX2_isInSector_0 rfl (lv_at hl 1 rfl) ?_
  refine lv_iload_n hx hb dX2_isInSector_1 rfl (lv_at hl 0 rfl) ?_
  refine lv_isub hx hb dX2_isInSector_2 ?_
  refine lv_bipush (v := 15) hx hb dX2_isInSector_3 (by decide) ?_
  refine lv_iand hx hb dX2_isInSector_5 ?_
  obtain ⟨y42, e43, h⟩ := bnd h
  refine r_nm e43 ?_
  refine lv_istore (lv' := [(4, .int y42), (0, .int a1), (1, .int a2), (2, .int a3), (3, .int a4)]) hx hb dX2_isInSector_6 hl (by decide) rfl (fun ls hl => ?_)
  refine lv_iload hx hb dX2_isInSector_8 (lv_at hl 0 rfl) ?_
  refine lv_if_eq (tgt := 21) hx hb dX2_isInSector_10 (by decide) (fun c44 => ?_) (fun c44 => ?_)
  · replace h := h_t c44 h
    refine lv_iconst (v := 1) hx hb dX2_isInSector_21 (by decide) ?_
    exact ret_z C hr hlocks hP hS h (Or.inr rfl) dX2_isInSector_22
  · replace h := h_f c44 h
    refine lv_iload_n hx hb dX2_isInSector_13 rfl (lv_at hl 3 rfl) ?_
    refine lv_if_ne (tgt := 23) hx hb dX2_isInSector_14 (by decide) (fun c45 => ?_) (fun c45 => ?_)
    · replace h := h_f c45 h
      exact J23 _ _ _ _ _ _ H locs ls h hP hS (lv_sub hl [1, 2, 3, 4, 0] rfl)
    · replace h := h_t c45 h
      refine lv_iload_n hx hb dX2_isInSector_17 rfl (lv_at hl 4 rfl) ?_
      refine lv_if_ne (tgt := 23) hx hb dX2_isInSector_18 (by decide) (fun c46 => ?_) (fun c46 => ?_)
      · replace h := h_f c46 h
        exact J23 _ _ _ _ _ _ H locs ls h hP hS (lv_sub hl [1, 2, 3, 4, 0] rfl)
      · replace h := h_t c46 h
        refine lv_iconst (v := 1) hx hb dX2_isInSector_21 (by decide) ?_
        exact ret_z C hr hlocks hP hS h (Or.inr rfl) dX2_isInSector_22
set_option maxHeartbeats 4000000 in
set_option maxRecDepth 100000 in
theorem c_X1_isInSight {l : Launch} {G : GT} {lam : Lm} {σ : St} {a1 : Int32} {a2 : Int32} {a3 : Int32} {a4 : Int32} {a5 : Int32} {q : Int32 × St} (h : f_X1_isInSight σ a1 a2 a3 a4 a5 = some q) : Met l yX1_isInSight (Cond.code yX1_isInSight cX1_isInSight 10 ((some .boolean)) :: TB) ({ frames := 2, cells := 0, slots := 0, locals := 45 } : Room) (va_Pc [.ref (g_ad G 7), .int a1, .int a2, .int a3, .int a4, .int a5] (GW G lam σ)) (Ri q G lam) 0 0 (g_A G) := by
  refine mk_Qi (own := RX1) (by decide) (Nat.le_of_ble_eq_true rfl) rfl (fun p e s m args below meth c C hr hlocks hP ls hl => ?_)
  have hx := C.1
  have hb := C.2.1
  have hl : lv_has ls 10 [(0, .ref (g_ad G 7)), (1, .int a1), (2, .int a2), (3, .int a3), (4, .int a4), (5, .int a5)] := hl
  have hS : va_S (g_A G) s.heap s.heap [] := va_S.rf
  unfold f_X1_isInSight at h
  refine lv_iload hx hb dX1_isInSight_0 (lv_at hl 5 rfl) ?_
  refine lv_iload_n hx hb dX1_isInSight_2 rfl (lv_at hl 1 rfl) ?_
  refine lv_ishr hx hb dX1_isInSight_3 ?_
  refine lv_iconst (v := 1) hx hb dX1_isInSight_4 (by decide) ?_
  refine lv_iand hx hb dX1_isInSight_5 ?_
  refine lv_if_eq (tgt := 11) hx hb dX1_isInSight_6 (by decide) (fun c20 => ?_) (fun c20 => ?_)
  · replace h := h_t c20 h
    refine lv_iload_n hx hb dX1_isInSight_11 rfl (lv_at hl 2 rfl) ?_
    refine lv_aload_n hx hb dX1_isInSight_12 rfl (lv_at hl 0 rfl) ?_
    refine lv_iload_n hx hb dX1_isInSight_13 rfl (lv_at hl 1 rfl) ?_
    refine lv_iload hx hb dX1_isInSight_14 (lv_at hl 4 rfl) ?_
    obtain ⟨q21, e22, h⟩ := bnd h
    refine call_i C hP hS (c_X1_markX e22) mi_X1_markX mw_880 7 (by decide) rfl rfl ⟨Nat.le_of_ble_eq_true rfl, Nat.le_of_ble_eq_true rfl⟩ (As := [.int a1, .int a4]) rfl hl.1 rfl (lv_room (Nat.le_of_ble_eq_true rfl)) dX1_isInSight_16 (fun H locs hP hS => ?_)
    refine lv_isub hx hb dX1_isInSight_19 ?_
    obtain ⟨y23, e24, h⟩ := bnd h
    refine r_nm e24 ?_
    refine lv_istore (lv' := [(6, .int y23), (0, .ref (g_ad G 7)), (1, .int a1), (2, .int a2), (3, .int a3), (4, .int a4), (5, .int a5)]) hx hb dX1_isInSight_20 hl (by decide) rfl (fun ls hl => ?_)
    refine lv_iload_n hx hb dX1_isInSight_22 rfl (lv_at hl 4 rfl) ?_
    refine lv_aload_n hx hb dX1_isInSight_23 rfl (lv_at hl 1 rfl) ?_
    refine gf_X1_9_7 C hP dX1_isInSight_24 ?_
    refine lv_iload_n hx hb dX1_isInSight_27 rfl (lv_at hl 2 rfl) ?_
    refine lv_iconst (v := 2) hx hb dX1_isInSight_28 (by decide) ?_
    obtain ⟨q25, e26, h⟩ := bnd h
    refine call_i C hP hS (c_X6_thingCell_2 e26) mi_X6_thingCell mw_844 2 (by decide) rfl rfl ⟨Nat.le_of_ble_eq_true rfl, Nat.le_of_ble_eq_true rfl⟩ (As := [.int a1, .int 2]) rfl hl.1 rfl (lv_room (Nat.le_of_ble_eq_true rfl)) dX1_isInSight_29 (fun H locs hP hS => ?_)
    refine lv_isub hx hb dX1_isInSight_32 ?_
    obtain ⟨y27, e28, h⟩ := bnd h
    refine r_nm e28 ?_
    refine lv_istore (lv' := [(7, .int y27), (6, .int y23), (0, .ref (g_ad G 7)), (1, .int a1), (2, .int a2), (3, .int a3), (4, .int a4), (5, .int a5)]) hx hb dX1_isInSight_33 hl (by decide) rfl (fun ls hl => ?_)
    refine lv_iload hx hb dX1_isInSight_35 (lv_at hl 1 rfl) ?_
    refine lv_iload hx hb dX1_isInSight_37 (lv_at hl 1 rfl) ?_
    refine lv_imul hx hb dX1_isInSight_39 ?_
    refine lv_iload hx hb dX1_isInSight_40 (lv_at hl 0 rfl) ?_
    refine lv_iload hx hb dX1_isInSight_42 (lv_at hl 0 rfl) ?_
    refine lv_imul hx hb dX1_isInSight_44 ?_
    refine lv_iadd hx hb dX1_isInSight_45 ?_
    obtain ⟨y29, e30, h⟩ := bnd h
    refine r_nm e30 ?_
    refine lv_istore (lv' := [(8, .int y29), (7, .int y27), (6, .int y23), (0, .ref (g_ad G 7)), (1, .int a1), (2, .int a2), (3, .int a3), (4, .int a4), (5, .int a5)]) hx hb dX1_isInSight_46 hl (by decide) rfl (fun ls hl => ?_)
    refine lv_aload_n hx hb dX1_isInSight_48 rfl (lv_at hl 3 rfl) ?_
    refine gf_X1_9_7 C hP dX1_isInSight_49 ?_
    refine lv_iload_n hx hb dX1_isInSight_52 rfl (lv_at hl 4 rfl) ?_
    refine lv_iconst (v := 0) hx hb dX1_isInSight_53 (by decide) ?_
    obtain ⟨q31, e32, h⟩ := bnd h
    refine call_i C hP hS (c_X6_thingCell_2 e32) mi_X6_thingCell mw_844 2 (by decide) rfl rfl ⟨Nat.le_of_ble_eq_true rfl, Nat.le_of_ble_eq_true rfl⟩ (As := [.int a1, .int 0]) rfl hl.1 rfl (lv_room (Nat.le_of_ble_eq_true rfl)) dX1_isInSight_54 (fun H locs hP hS => ?_)
    by_cases c34 : q31.1 = 1
    · replace h := h_t c34 h
      refine r_eq c34 ?_
      refine lv_tableIn (off := 27) (tgt := 84) hx hb dX1_isInSight_57 (by decide) (by decide) (by decide) (by decide) ?_
      refine lv_iload hx hb dX1_isInSight_84 (lv_at hl 0 rfl) ?_
      refine lv_sipush (v := 400) hx hb dX1_isInSight_86 (by decide) ?_
      refine lv_icmp_gt (tgt := 96) hx hb dX1_isInSight_89 (by decide) (fun c33 => ?_) (fun c33 => ?_)
      · replace h := h_t c33 h
        refine lv_iconst (v := 0) hx hb dX1_isInSight_96 (by decide) ?_
        exact ret_z C hr hlocks hP hS h (Or.inl rfl) dX1_isInSight_97
      · replace h := h_f c33 h
        refine lv_iconst (v := 1) hx hb dX1_isInSight_92 (by decide) ?_
        refine lv_goto (tgt := 97) hx hb dX1_isInSight_93 (by decide) ?_
        exact ret_z C hr hlocks hP hS h (Or.inr rfl) dX1_isInSight_97
    replace h := h_f c34 h
    by_cases c42 : q31.1 = 2
    · replace h := h_t c42 h
      refine r_eq c42 ?_
      refine lv_tableIn (off := 54) (tgt := 111) hx hb dX1_isInSight_57 (by decide) (by decide) (by decide) (by decide) ?_
      refine lv_aload_n hx hb dX1_isInSight_111 rfl (lv_at hl 3 rfl) ?_
      refine gf_X1_9_7 C hP dX1_isInSight_112 ?_
      refine lv_iload_n hx hb dX1_isInSight_115 rfl (lv_at hl 4 rfl) ?_
      refine lv_iconst (v := 3) hx hb dX1_isInSight_116 (by decide) ?_
      obtain ⟨q35, e36, h⟩ := bnd h
      refine call_i C hP hS (c_X6_thingCell_2 e36) mi_X6_thingCell mw_844 2 (by decide) rfl rfl ⟨Nat.le_of_ble_eq_true rfl, Nat.le_of_ble_eq_true rfl⟩ (As := [.int a1, .int 3]) rfl hl.1 rfl (lv_room (Nat.le_of_ble_eq_true rfl)) dX1_isInSight_117 (fun H locs hP hS => ?_)
      refine lv_istore (lv' := [(9, .int q35.1), (8, .int y29), (7, .int y27), (6, .int y23), (0, .ref (g_ad G 7)), (1, .int a1), (2, .int a2), (3, .int a3), (4, .int a4), (5, .int a5)]) hx hb dX1_isInSight_120 hl (by decide) rfl (fun ls hl => ?_)
      refine lv_iload hx hb dX1_isInSight_122 (lv_at hl 0 rfl) ?_
      refine lv_aload_n hx hb dX1_isInSight_124 rfl (lv_at hl 4 rfl) ?_
      refine gf_X1_9_7 C hP dX1_isInSight_125 ?_
      refine lv_iload_n hx hb dX1_isInSight_128 rfl (lv_at hl 5 rfl) ?_
      refine lv_iconst (v := 4) hx hb dX1_isInSight_129 (by decide) ?_
      obtain ⟨q37, e38, h⟩ := bnd h
      refine call_i C hP hS (c_X6_thingCell_2 e38) mi_X6_thingCell mw_844 2 (by decide) rfl rfl ⟨Nat.le_of_ble_eq_true rfl, Nat.le_of_ble_eq_true rfl⟩ (As := [.int a1, .int 4]) rfl hl.1 rfl (lv_room (Nat.le_of_ble_eq_true rfl)) dX1_isInSight_130 (fun H locs hP hS => ?_)
      refine lv_iload hx hb dX1_isInSight_133 (lv_at hl 3 rfl) ?_
      refine lv_iload hx hb dX1_isInSight_135 (lv_at hl 2 rfl) ?_
      obtain ⟨q39, e40, h⟩ := bnd h
      refine scall_i C hP hS (c_X2_isInSector e40) ms_X2_isInSector mw_881 ⟨Nat.le_of_ble_eq_true rfl, Nat.le_of_ble_eq_true rfl⟩ (As := [.int q35.1, .int q37.1, .int y23, .int y27]) rfl hl.1 rfl (lv_room (Nat.le_of_ble_eq_true rfl)) dX1_isInSight_137 (fun H locs hP hS => ?_)
      obtain ⟨g41, h⟩ := h_g h
      exact ret_z C hr hlocks hP hS h g41 dX1_isInSight_140
    replace h := h_f c42 h
    by_cases c44 : q31.1 = 3
    · replace h := h_t c44 h
      refine r_eq c44 ?_
      refine lv_tableIn (off := 41) (tgt := 98) hx hb dX1_isInSight_57 (by decide) (by decide) (by decide) (by decide) ?_
      refine lv_iload hx hb dX1_isInSight_98 (lv_at hl 0 rfl) ?_
      refine lv_bipush (v := 100) hx hb dX1_isInSight_100 (by decide) ?_
      refine lv_icmp_gt (tgt := 109) hx hb dX1_isInSight_102 (by decide) (fun c43 => ?_) (fun c43 => ?_)
      · replace h := h_t c43 h
        refine lv_iconst (v := 0) hx hb dX1_isInSight_109 (by decide) ?_
        exact ret_z C hr hlocks hP hS h (Or.inl rfl) dX1_isInSight_110
      · replace h := h_f c43 h
        refine lv_iconst (v := 1) hx hb dX1_isInSight_105 (by decide) ?_
        refine lv_goto (tgt := 110) hx hb dX1_isInSight_106 (by decide) ?_
        exact ret_z C hr hlocks hP hS h (Or.inr rfl) dX1_isInSight_110
    replace h := h_f c44 h
    refine lv_tableOut (tgt := 141) hx hb dX1_isInSight_57 (by have hz := And.intro (ne_i (z := 1) (by decide) c34) (And.intro (ne_i (z := 2) (by decide) c42) (ne_i (z := 3) (by decide) c44)); omega) (by decide) ?_
    refine lv_iconst (v := 0) hx hb dX1_isInSight_141 (by decide) ?_
    exact ret_z C hr hlocks hP hS h (Or.inl rfl) dX1_isInSight_142
  · replace h := h_f c20 h
    refine lv_iconst (v := 0) hx hb dX1_isInSight_9 (by decide) ?_
    exact ret_z C hr hlocks hP hS h (Or.inl rfl) dX1_isInSight_10
set_option maxHeartbeats 4000000 in
set_option maxRecDepth 100000 in
theorem c_X10_seen {l : Launch} {G : GT} {lam : Lm} {σ : St} {a1 : Int32} {a2 : Int32} {a3 : Int32} {a4 : Int32} {q : Int32 × St} (h : f_X10_seen σ a1 a2 a3 a4 = some q) : Met l yX10_seen (Cond.code yX10_seen cX10_seen 5 ((some .int)) :: TB) ({ frames := 3, cells := 0, slots := 0, locals := 74 } : Room) (va_Pc [.ref (g_ad G 0), .int a1, .int a2, .int a3, .int a4] (GW G lam σ)) (Ri q G lam) 0 0 (g_A G) := by
  refine mk_Qi (own := RX10) (by decide) (Nat.le_of_ble_eq_true rfl) rfl (fun p e s m args below meth c C hr hlocks hP ls hl => ?_)
  have hx := C.1
  have hb := C.2.1
  have hl : lv_has ls 5 [(0, .ref (g_ad G 0)), (1, .int a1), (2, .int a2), (3, .int a3), (4, .int a4)] := hl
  have hS : va_S (g_A G) s.heap s.heap [] := va_S.rf
  unfold f_X10_seen at h
  refine lv_aload_n hx hb dX10_seen_0 rfl (lv_at hl 0 rfl) ?_
  refine gf_X10_19_0 C hP dX10_seen_1 ?_
  refine lv_iload_n hx hb dX10_seen_4 rfl (lv_at hl 1 rfl) ?_
  obtain ⟨q18, e19, h⟩ := bnd h
  refine call_i C hP hS (c_X6_hasThing_2 e19) mi_X6_hasThing mw_729 2 (by decide) rfl rfl ⟨Nat.le_of_ble_eq_true rfl, Nat.le_of_ble_eq_true rfl⟩ (As := [.int a1]) rfl hl.1 rfl (lv_room (Nat.le_of_ble_eq_true rfl)) dX10_seen_5 (fun H locs hP hS => ?_)
  refine lv_if_eq (tgt := 31) hx hb dX10_seen_8 (by decide) (fun c20 => ?_) (fun c20 => ?_)
  · replace h := h_t c20 h
    refine lv_ldc hx hb C.2.2.2.1 (C.2.2.2.2.1 _ mw_411) dX10_seen_31 ?_
    exact ret_i C hr hlocks hP hS h dX10_seen_33
  · replace h := h_f c20 h
    refine lv_iload_n hx hb dX10_seen_11 rfl (lv_at hl 2 rfl) ?_
    refine lv_iload_n hx hb dX10_seen_12 rfl (lv_at hl 3 rfl) ?_
    obtain ⟨q21, e22, h⟩ := bnd h
    refine scall_i C hP hS (c_X1_isCharted e22) ms_X1_isCharted mw_829 ⟨Nat.le_of_ble_eq_true rfl, Nat.le_of_ble_eq_true rfl⟩ (As := [.int a2, .int a3]) rfl hl.1 rfl (lv_room (Nat.le_of_ble_eq_true rfl)) dX10_seen_13 (fun H locs hP hS => ?_)
    refine lv_if_eq (tgt := 31) hx hb dX10_seen_16 (by decide) (fun c23 => ?_) (fun c23 => ?_)
    · replace h := h_t c23 h
      refine lv_ldc hx hb C.2.2.2.1 (C.2.2.2.2.1 _ mw_411) dX10_seen_31 ?_
      exact ret_i C hr hlocks hP hS h dX10_seen_33
    · replace h := h_f c23 h
      refine lv_iload hx hb dX10_seen_19 (lv_at hl 4 rfl) ?_
      refine lv_iconst (v := 0) hx hb dX10_seen_21 (by decide) ?_
      refine lv_sipush (v := 9999) hx hb dX10_seen_22 (by decide) ?_
      obtain ⟨q24, e25, h⟩ := bnd h
      refine scall_i C hP hS (c_X10_isWithin e25) ms_X10_isWithin mw_408 ⟨Nat.le_of_ble_eq_true rfl, Nat.le_of_ble_eq_true rfl⟩ (As := [.int a4, .int 0, .int 9999]) rfl hl.1 rfl (lv_room (Nat.le_of_ble_eq_true rfl)) dX10_seen_25 (fun H locs hP hS => ?_)
      refine lv_if_ne (tgt := 34) hx hb dX10_seen_28 (by decide) (fun c26 => ?_) (fun c26 => ?_)
      · replace h := h_f c26 h
        refine lv_aload_n hx hb dX10_seen_34 rfl (lv_at hl 0 rfl) ?_
        refine gf_X10_19_0 C hP dX10_seen_35 ?_
        refine lv_iload_n hx hb dX10_seen_38 rfl (lv_at hl 1 rfl) ?_
        obtain ⟨q27, e28, h⟩ := bnd h
        refine call_i C hP hS (c_X6_isMark_2 e28) mi_X6_isMark mw_863 2 (by decide) rfl rfl ⟨Nat.le_of_ble_eq_true rfl, Nat.le_of_ble_eq_true rfl⟩ (As := [.int a1]) rfl hl.1 rfl (lv_room (Nat.le_of_ble_eq_true rfl)) dX10_seen_39 (fun H locs hP hS => ?_)
        refine lv_if_ne (tgt := 48) hx hb dX10_seen_42 (by decide) (fun c29 => ?_) (fun c29 => ?_)
        · replace h := h_f c29 h
          refine lv_aload_n hx hb dX10_seen_48 rfl (lv_at hl 0 rfl) ?_
          refine gf_X10_50_0 C hP dX10_seen_49 ?_
          refine lv_iload_n hx hb dX10_seen_52 rfl (lv_at hl 1 rfl) ?_
          refine lv_iload_n hx hb dX10_seen_53 rfl (lv_at hl 2 rfl) ?_
          refine lv_iload_n hx hb dX10_seen_54 rfl (lv_at hl 3 rfl) ?_
          refine lv_aload_n hx hb dX10_seen_55 rfl (lv_at hl 0 rfl) ?_
          refine gf_X10_50_0 C hP dX10_seen_56 ?_
          refine lv_iload hx hb dX10_seen_59 (lv_at hl 4 rfl) ?_
          obtain ⟨q30, e31, h⟩ := bnd h
          refine call_i C hP hS (c_X1_heightAt e31) mi_X1_heightAt mw_819 7 (by decide) rfl rfl ⟨Nat.le_of_ble_eq_true rfl, Nat.le_of_ble_eq_true rfl⟩ (As := [.int a4]) rfl hl.1 rfl (lv_room (Nat.le_of_ble_eq_true rfl)) dX10_seen_61 (fun H locs hP hS => ?_)
          refine lv_iconst (v := 0) hx hb dX10_seen_64 (by decide) ?_
          obtain ⟨q32, e33, h⟩ := bnd h
          refine call_i C hP hS (c_X1_isInSight e33) mi_X1_isInSight mw_876 7 (by decide) rfl rfl ⟨Nat.le_of_ble_eq_true rfl, Nat.le_of_ble_eq_true rfl⟩ (As := [.int a1, .int a2, .int a3, .int q30.1, .int 0]) rfl hl.1 rfl (lv_room (Nat.le_of_ble_eq_true rfl)) dX10_seen_65 (fun H locs hP hS => ?_)
          refine lv_if_eq (tgt := 75) hx hb dX10_seen_68 (by decide) (fun c34 => ?_) (fun c34 => ?_)
          · replace h := h_t c34 h
            refine lv_iconst (v := 0) hx hb dX10_seen_75 (by decide) ?_
            exact ret_i C hr hlocks hP hS h dX10_seen_76
          · replace h := h_f c34 h
            refine lv_iconst (v := 1) hx hb dX10_seen_71 (by decide) ?_
            refine lv_goto (tgt := 76) hx hb dX10_seen_72 (by decide) ?_
            exact ret_i C hr hlocks hP hS h dX10_seen_76
        · replace h := h_t c29 h
          refine lv_ldc hx hb C.2.2.2.1 (C.2.2.2.2.1 _ mw_716) dX10_seen_45 ?_
          exact ret_i C hr hlocks hP hS h dX10_seen_47
      · replace h := h_t c26 h
        refine lv_ldc hx hb C.2.2.2.1 (C.2.2.2.2.1 _ mw_411) dX10_seen_31 ?_
        exact ret_i C hr hlocks hP hS h dX10_seen_33
set_option maxHeartbeats 4000000 in
set_option maxRecDepth 100000 in
theorem c_X10_isPair {l : Launch} {G : GT} {lam : Lm} {σ : St} {a1 : Int32} {a2 : Int32} {q : Int32 × St} (h : f_X10_isPair σ a1 a2 = some q) : Met l yX10_isPair (Cond.code yX10_isPair cX10_isPair 3 ((some .boolean)) :: TB) ({ frames := 1, cells := 0, slots := 0, locals := 21 } : Room) (va_Pc [.ref (g_ad G 0), .int a1, .int a2] (GW G lam σ)) (Ri q G lam) 0 0 (g_A G) := by
  refine mk_Qi (own := RX10) (by decide) (Nat.le_of_ble_eq_true rfl) rfl (fun p e s m args below meth c C hr hlocks hP ls hl => ?_)
  have hx := C.1
  have hb := C.2.1
  have hl : lv_has ls 3 [(0, .ref (g_ad G 0)), (1, .int a1), (2, .int a2)] := hl
  have hS : va_S (g_A G) s.heap s.heap [] := va_S.rf
  unfold f_X10_isPair at h
  refine lv_aload_n hx hb dX10_isPair_0 rfl (lv_at hl 0 rfl) ?_
  refine gf_X10_19_0 C hP dX10_isPair_1 ?_
  refine lv_iload_n hx hb dX10_isPair_4 rfl (lv_at hl 1 rfl) ?_
  obtain ⟨q8, e9, h⟩ := bnd h
  refine call_i C hP hS (c_X6_hasThing_2 e9) mi_X6_hasThing mw_729 2 (by decide) rfl rfl ⟨Nat.le_of_ble_eq_true rfl, Nat.le_of_ble_eq_true rfl⟩ (As := [.int a1]) rfl hl.1 rfl (lv_room (Nat.le_of_ble_eq_true rfl)) dX10_isPair_5 (fun H locs hP hS => ?_)
  refine lv_if_eq (tgt := 31) hx hb dX10_isPair_8 (by decide) (fun c10 => ?_) (fun c10 => ?_)
  · replace h := h_t c10 h
    refine lv_iconst (v := 0) hx hb dX10_isPair_31 (by decide) ?_
    exact ret_z C hr hlocks hP hS h (Or.inl rfl) dX10_isPair_32
  · replace h := h_f c10 h
    refine lv_aload_n hx hb dX10_isPair_11 rfl (lv_at hl 0 rfl) ?_
    refine gf_X10_19_0 C hP dX10_isPair_12 ?_
    refine lv_iload_n hx hb dX10_isPair_15 rfl (lv_at hl 2 rfl) ?_
    obtain ⟨q11, e12, h⟩ := bnd h
    refine call_i C hP hS (c_X6_hasThing_2 e12) mi_X6_hasThing mw_729 2 (by decide) rfl rfl ⟨Nat.le_of_ble_eq_true rfl, Nat.le_of_ble_eq_true rfl⟩ (As := [.int a2]) rfl hl.1 rfl (lv_room (Nat.le_of_ble_eq_true rfl)) dX10_isPair_16 (fun H locs hP hS => ?_)
    refine lv_if_eq (tgt := 31) hx hb dX10_isPair_19 (by decide) (fun c13 => ?_) (fun c13 => ?_)
    · replace h := h_t c13 h
      refine lv_iconst (v := 0) hx hb dX10_isPair_31 (by decide) ?_
      exact ret_z C hr hlocks hP hS h (Or.inl rfl) dX10_isPair_32
    · replace h := h_f c13 h
      refine lv_iload_n hx hb dX10_isPair_22 rfl (lv_at hl 1 rfl) ?_
      refine lv_iload_n hx hb dX10_isPair_23 rfl (lv_at hl 2 rfl) ?_
      refine lv_icmp_eq (tgt := 31) hx hb dX10_isPair_24 (by decide) (fun c14 => ?_) (fun c14 => ?_)
      · replace h := h_t c14 h
        refine lv_iconst (v := 0) hx hb dX10_isPair_31 (by decide) ?_
        exact ret_z C hr hlocks hP hS h (Or.inl rfl) dX10_isPair_32
      · replace h := h_f c14 h
        refine lv_iconst (v := 1) hx hb dX10_isPair_27 (by decide) ?_
        refine lv_goto (tgt := 32) hx hb dX10_isPair_28 (by decide) ?_
        exact ret_z C hr hlocks hP hS h (Or.inr rfl) dX10_isPair_32
set_option maxHeartbeats 4000000 in
set_option maxRecDepth 100000 in
theorem c_X1_isOnePlace {l : Launch} {G : GT} {lam : Lm} {σ : St} {a1 : Int32} {a2 : Int32} {q : Int32 × St} (h : f_X1_isOnePlace σ a1 a2 = some q) : Met l yX1_isOnePlace (Cond.code yX1_isOnePlace cX1_isOnePlace 3 ((some .boolean)) :: TB) ({ frames := 1, cells := 0, slots := 0, locals := 22 } : Room) (va_Pc [.ref (g_ad G 7), .int a1, .int a2] (GW G lam σ)) (Ri q G lam) 0 0 (g_A G) := by
  refine mk_Qi (own := RX1) (by decide) (Nat.le_of_ble_eq_true rfl) rfl (fun p e s m args below meth c C hr hlocks hP ls hl => ?_)
  have hx := C.1
  have hb := C.2.1
  have hl : lv_has ls 3 [(0, .ref (g_ad G 7)), (1, .int a1), (2, .int a2)] := hl
  have hS : va_S (g_A G) s.heap s.heap [] := va_S.rf
  unfold f_X1_isOnePlace at h
  refine lv_aload_n hx hb dX1_isOnePlace_0 rfl (lv_at hl 0 rfl) ?_
  refine gf_X1_9_7 C hP dX1_isOnePlace_1 ?_
  refine lv_iload_n hx hb dX1_isOnePlace_4 rfl (lv_at hl 1 rfl) ?_
  refine lv_iconst (v := 1) hx hb dX1_isOnePlace_5 (by decide) ?_
  obtain ⟨q11, e12, h⟩ := bnd h
  refine call_i C hP hS (c_X6_thingCell_2 e12) mi_X6_thingCell mw_844 2 (by decide) rfl rfl ⟨Nat.le_of_ble_eq_true rfl, Nat.le_of_ble_eq_true rfl⟩ (As := [.int a1, .int 1]) rfl hl.1 rfl (lv_room (Nat.le_of_ble_eq_true rfl)) dX1_isOnePlace_6 (fun H locs hP hS => ?_)
  refine lv_aload_n hx hb dX1_isOnePlace_9 rfl (lv_at hl 0 rfl) ?_
  refine gf_X1_9_7 C hP dX1_isOnePlace_10 ?_
  refine lv_iload_n hx hb dX1_isOnePlace_13 rfl (lv_at hl 2 rfl) ?_
  refine lv_iconst (v := 1) hx hb dX1_isOnePlace_14 (by decide) ?_
  obtain ⟨q13, e14, h⟩ := bnd h
  refine call_i C hP hS (c_X6_thingCell_2 e14) mi_X6_thingCell mw_844 2 (by decide) rfl rfl ⟨Nat.le_of_ble_eq_true rfl, Nat.le_of_ble_eq_true rfl⟩ (As := [.int a2, .int 1]) rfl hl.1 rfl (lv_room (Nat.le_of_ble_eq_true rfl)) dX1_isOnePlace_15 (fun H locs hP hS => ?_)
  refine lv_icmp_ne (tgt := 46) hx hb dX1_isOnePlace_18 (by decide) (fun c15 => ?_) (fun c15 => ?_)
  · replace h := h_f c15 h
    refine lv_iconst (v := 0) hx hb dX1_isOnePlace_46 (by decide) ?_
    exact ret_z C hr hlocks hP hS h (Or.inl rfl) dX1_isOnePlace_47
  · replace h := h_t c15 h
    refine lv_aload_n hx hb dX1_isOnePlace_21 rfl (lv_at hl 0 rfl) ?_
    refine gf_X1_9_7 C hP dX1_isOnePlace_22 ?_
    refine lv_iload_n hx hb dX1_isOnePlace_25 rfl (lv_at hl 1 rfl) ?_
    refine lv_iconst (v := 2) hx hb dX1_isOnePlace_26 (by decide) ?_
    obtain ⟨q16, e17, h⟩ := bnd h
    refine call_i C hP hS (c_X6_thingCell_2 e17) mi_X6_thingCell mw_844 2 (by decide) rfl rfl ⟨Nat.le_of_ble_eq_true rfl, Nat.le_of_ble_eq_true rfl⟩ (As := [.int a1, .int 2]) rfl hl.1 rfl (lv_room (Nat.le_of_ble_eq_true rfl)) dX1_isOnePlace_27 (fun H locs hP hS => ?_)
    refine lv_aload_n hx hb dX1_isOnePlace_30 rfl (lv_at hl 0 rfl) ?_
    refine gf_X1_9_7 C hP dX1_isOnePlace_31 ?_
    refine lv_iload_n hx hb dX1_isOnePlace_34 rfl (lv_at hl 2 rfl) ?_
    refine lv_iconst (v := 2) hx hb dX1_isOnePlace_35 (by decide) ?_
    obtain ⟨q18, e19, h⟩ := bnd h
    refine call_i C hP hS (c_X6_thingCell_2 e19) mi_X6_thingCell mw_844 2 (by decide) rfl rfl ⟨Nat.le_of_ble_eq_true rfl, Nat.le_of_ble_eq_true rfl⟩ (As := [.int a2, .int 2]) rfl hl.1 rfl (lv_room (Nat.le_of_ble_eq_true rfl)) dX1_isOnePlace_36 (fun H locs hP hS => ?_)
    refine lv_icmp_ne (tgt := 46) hx hb dX1_isOnePlace_39 (by decide) (fun c20 => ?_) (fun c20 => ?_)
    · replace h := h_f c20 h
      refine lv_iconst (v := 0) hx hb dX1_isOnePlace_46 (by decide) ?_
      exact ret_z C hr hlocks hP hS h (Or.inl rfl) dX1_isOnePlace_47
    · replace h := h_t c20 h
      refine lv_iconst (v := 1) hx hb dX1_isOnePlace_42 (by decide) ?_
      refine lv_goto (tgt := 47) hx hb dX1_isOnePlace_43 (by decide) ?_
      exact ret_z C hr hlocks hP hS h (Or.inr rfl) dX1_isOnePlace_47
set_option maxHeartbeats 4000000 in
set_option maxRecDepth 100000 in
theorem c_X1_leftOfLine {l : Launch} {G : GT} {lam : Lm} {σ : St} {a1 : Int32} {a2 : Int32} {a3 : Int32} {a4 : Int32} {q : Int32 × St} (h : f_X1_leftOfLine σ a1 a2 a3 a4 = some q) : Met l yX1_leftOfLine (Cond.code yX1_leftOfLine cX1_leftOfLine 9 ((some .int)) :: TB) ({ frames := 1, cells := 0, slots := 0, locals := 22 } : Room) (va_Pc [.ref (g_ad G 7), .int a1, .int a2, .int a3, .int a4] (GW G lam σ)) (Ri q G lam) 0 0 (g_A G) := by
  refine mk_Qi (own := RX1) (by decide) (Nat.le_of_ble_eq_true rfl) rfl (fun p e s m args below meth c C hr hlocks hP ls hl => ?_)
  have hx := C.1
  have hb := C.2.1
  have hl : lv_has ls 9 [(0, .ref (g_ad G 7)), (1, .int a1), (2, .int a2), (3, .int a3), (4, .int a4)] := hl
  have hS : va_S (g_A G) s.heap s.heap [] := va_S.rf
  unfold f_X1_leftOfLine at h
  refine lv_aload_n hx hb dX1_leftOfLine_0 rfl (lv_at hl 0 rfl) ?_
  refine gf_X1_9_7 C hP dX1_leftOfLine_1 ?_
  refine lv_iload_n hx hb dX1_leftOfLine_4 rfl (lv_at hl 1 rfl) ?_
  refine lv_iconst (v := 1) hx hb dX1_leftOfLine_5 (by decide) ?_
  obtain ⟨q9, e10, h⟩ := bnd h
  refine call_i C hP hS (c_X6_thingCell_2 e10) mi_X6_thingCell mw_844 2 (by decide) rfl rfl ⟨Nat.le_of_ble_eq_true rfl, Nat.le_of_ble_eq_true rfl⟩ (As := [.int a1, .int 1]) rfl hl.1 rfl (lv_room (Nat.le_of_ble_eq_true rfl)) dX1_leftOfLine_6 (fun H locs hP hS => ?_)
  refine lv_istore (lv' := [(5, .int q9.1), (0, .ref (g_ad G 7)), (1, .int a1), (2, .int a2), (3, .int a3), (4, .int a4)]) hx hb dX1_leftOfLine_9 hl (by decide) rfl (fun ls hl => ?_)
  refine lv_aload_n hx hb dX1_leftOfLine_11 rfl (lv_at hl 1 rfl) ?_
  refine gf_X1_9_7 C hP dX1_leftOfLine_12 ?_
  refine lv_iload_n hx hb dX1_leftOfLine_15 rfl (lv_at hl 2 rfl) ?_
  refine lv_iconst (v := 2) hx hb dX1_leftOfLine_16 (by decide) ?_
  obtain ⟨q11, e12, h⟩ := bnd h
  refine call_i C hP hS (c_X6_thingCell_2 e12) mi_X6_thingCell mw_844 2 (by decide) rfl rfl ⟨Nat.le_of_ble_eq_true rfl, Nat.le_of_ble_eq_true rfl⟩ (As := [.int a1, .int 2]) rfl hl.1 rfl (lv_room (Nat.le_of_ble_eq_true rfl)) dX1_leftOfLine_17 (fun H locs hP hS => ?_)
  refine lv_istore (lv' := [(6, .int q11.1), (5, .int q9.1), (0, .ref (g_ad G 7)), (1, .int a1), (2, .int a2), (3, .int a3), (4, .int a4)]) hx hb dX1_leftOfLine_20 hl (by decide) rfl (fun ls hl => ?_)
  refine lv_aload_n hx hb dX1_leftOfLine_22 rfl (lv_at hl 2 rfl) ?_
  refine gf_X1_9_7 C hP dX1_leftOfLine_23 ?_
  refine lv_iload_n hx hb dX1_leftOfLine_26 rfl (lv_at hl 4 rfl) ?_
  refine lv_iconst (v := 1) hx hb dX1_leftOfLine_27 (by decide) ?_
  obtain ⟨q13, e14, h⟩ := bnd h
  refine call_i C hP hS (c_X6_thingCell_2 e14) mi_X6_thingCell mw_844 2 (by decide) rfl rfl ⟨Nat.le_of_ble_eq_true rfl, Nat.le_of_ble_eq_true rfl⟩ (As := [.int a2, .int 1]) rfl hl.1 rfl (lv_room (Nat.le_of_ble_eq_true rfl)) dX1_leftOfLine_28 (fun H locs hP hS => ?_)
  refine lv_iload hx hb dX1_leftOfLine_31 (lv_at hl 1 rfl) ?_
  refine lv_isub hx hb dX1_leftOfLine_33 ?_
  obtain ⟨y15, e16, h⟩ := bnd h
  refine r_nm e16 ?_
  refine lv_istore (lv' := [(7, .int y15), (6, .int q11.1), (5, .int q9.1), (0, .ref (g_ad G 7)), (1, .int a1), (2, .int a2), (3, .int a3), (4, .int a4)]) hx hb dX1_leftOfLine_34 hl (by decide) rfl (fun ls hl => ?_)
  refine lv_aload_n hx hb dX1_leftOfLine_36 rfl (lv_at hl 3 rfl) ?_
  refine gf_X1_9_7 C hP dX1_leftOfLine_37 ?_
  refine lv_iload_n hx hb dX1_leftOfLine_40 rfl (lv_at hl 5 rfl) ?_
  refine lv_iconst (v := 2) hx hb dX1_leftOfLine_41 (by decide) ?_
  obtain ⟨q17, e18, h⟩ := bnd h
  refine call_i C hP hS (c_X6_thingCell_2 e18) mi_X6_thingCell mw_844 2 (by decide) rfl rfl ⟨Nat.le_of_ble_eq_true rfl, Nat.le_of_ble_eq_true rfl⟩ (As := [.int a2, .int 2]) rfl hl.1 rfl (lv_room (Nat.le_of_ble_eq_true rfl)) dX1_leftOfLine_42 (fun H locs hP hS => ?_)
  refine lv_iload hx hb dX1_leftOfLine_45 (lv_at hl 1 rfl) ?_
  refine lv_isub hx hb dX1_leftOfLine_47 ?_
  obtain ⟨y19, e20, h⟩ := bnd h
  refine r_nm e20 ?_
  refine lv_istore (lv' := [(8, .int y19), (7, .int y15), (6, .int q11.1), (5, .int q9.1), (0, .ref (g_ad G 7)), (1, .int a1), (2, .int a2), (3, .int a3), (4, .int a4)]) hx hb dX1_leftOfLine_48 hl (by decide) rfl (fun ls hl => ?_)
  refine lv_iload hx hb dX1_leftOfLine_50 (lv_at hl 1 rfl) ?_
  refine lv_iload hx hb dX1_leftOfLine_52 (lv_at hl 8 rfl) ?_
  refine lv_iload hx hb dX1_leftOfLine_54 (lv_at hl 2 rfl) ?_
  refine lv_isub hx hb dX1_leftOfLine_56 ?_
  refine lv_imul hx hb dX1_leftOfLine_57 ?_
  refine lv_iload hx hb dX1_leftOfLine_58 (lv_at hl 0 rfl) ?_
  refine lv_iload_n hx hb dX1_leftOfLine_60 rfl (lv_at hl 7 rfl) ?_
  refine lv_iload hx hb dX1_leftOfLine_61 (lv_at hl 3 rfl) ?_
  refine lv_isub hx hb dX1_leftOfLine_63 ?_
  refine lv_imul hx hb dX1_leftOfLine_64 ?_
  refine lv_isub hx hb dX1_leftOfLine_65 ?_
  exact ret_i C hr hlocks hP hS h dX1_leftOfLine_66
set_option maxHeartbeats 4000000 in
set_option maxRecDepth 100000 in
theorem c_J6_signum_0f7a4 {l : Launch} {G : GT} {lam : Lm} {σ : St} {a1 : Int32} {q : Int32 × St} (h : f_J6_signum_0f7a4 σ a1 = some q) : Met l yJ6_signum_0f7a4 (Cond.code yJ6_signum_0f7a4 cJ6_signum_0f7a4 1 ((some .int)) :: TB) ({ frames := 0, cells := 0, slots := 0, locals := 0 } : Room) (va_Pc [.int a1] (GW G lam σ)) (Ri q G lam) 0 0 (g_A G) := by
  refine mk_Qi (own := RJ6) (by decide) (Nat.le_of_ble_eq_true rfl) rfl (fun p e s m args below meth c C hr hlocks hP ls hl => ?_)
  have hx := C.1
  have hb := C.2.1
  have hl : lv_has ls 1 [(0, .int a1)] := hl
  have hS : va_S (g_A G) s.heap s.heap [] := va_S.rf
  unfold f_J6_signum_0f7a4 at h
  refine lv_iload_n hx hb dJ6_signum_0f7a4_0 rfl (lv_at hl 0 rfl) ?_
  refine lv_bipush (v := 31) hx hb dJ6_signum_0f7a4_1 (by decide) ?_
  refine lv_ishr hx hb dJ6_signum_0f7a4_3 ?_
  refine lv_iload_n hx hb dJ6_signum_0f7a4_4 rfl (lv_at hl 0 rfl) ?_
  refine lv_ineg hx hb dJ6_signum_0f7a4_5 ?_
  refine lv_bipush (v := 31) hx hb dJ6_signum_0f7a4_6 (by decide) ?_
  refine lv_iushr hx hb dJ6_signum_0f7a4_8 rfl ?_
  refine lv_ior hx hb dJ6_signum_0f7a4_9 ?_
  exact ret_i C hr hlocks hP hS h dJ6_signum_0f7a4_10
set_option maxHeartbeats 4000000 in
set_option maxRecDepth 100000 in
theorem c_X10_line {l : Launch} {G : GT} {lam : Lm} {σ : St} {a1 : Int32} {a2 : Int32} {a3 : Int32} {a4 : Int32} {q : Int32 × St} (h : f_X10_line σ a1 a2 a3 a4 = some q) : Met l yX10_line (Cond.code yX10_line cX10_line 5 ((some .int)) :: TB) ({ frames := 2, cells := 0, slots := 0, locals := 50 } : Room) (va_Pc [.ref (g_ad G 0), .int a1, .int a2, .int a3, .int a4] (GW G lam σ)) (Ri q G lam) 0 0 (g_A G) := by
  refine mk_Qi (own := RX10) (by decide) (Nat.le_of_ble_eq_true rfl) rfl (fun p e s m args below meth c C hr hlocks hP ls hl => ?_)
  have hx := C.1
  have hb := C.2.1
  have hl : lv_has ls 5 [(0, .ref (g_ad G 0)), (1, .int a1), (2, .int a2), (3, .int a3), (4, .int a4)] := hl
  have hS : va_S (g_A G) s.heap s.heap [] := va_S.rf
  unfold f_X10_line at h
  refine lv_aload_n hx hb dX10_line_0 rfl (lv_at hl 0 rfl) ?_
  refine lv_iload_n hx hb dX10_line_1 rfl (lv_at hl 1 rfl) ?_
  refine lv_iload_n hx hb dX10_line_2 rfl (lv_at hl 2 rfl) ?_
  obtain ⟨q14, e15, h⟩ := bnd h
  refine call_i C hP hS (c_X10_isPair e15) mi_X10_isPair mw_892 0 (by decide) rfl rfl ⟨Nat.le_of_ble_eq_true rfl, Nat.le_of_ble_eq_true rfl⟩ (As := [.int a1, .int a2]) rfl hl.1 rfl (lv_room (Nat.le_of_ble_eq_true rfl)) dX10_line_3 (fun H locs hP hS => ?_)
  refine lv_if_eq (tgt := 18) hx hb dX10_line_6 (by decide) (fun c16 => ?_) (fun c16 => ?_)
  · replace h := h_t c16 h
    refine lv_ldc hx hb C.2.2.2.1 (C.2.2.2.2.1 _ mw_411) dX10_line_18 ?_
    exact ret_i C hr hlocks hP hS h dX10_line_20
  · replace h := h_f c16 h
    refine lv_iload_n hx hb dX10_line_9 rfl (lv_at hl 3 rfl) ?_
    refine lv_iload hx hb dX10_line_10 (lv_at hl 4 rfl) ?_
    obtain ⟨q17, e18, h⟩ := bnd h
    refine scall_i C hP hS (c_X1_isCharted e18) ms_X1_isCharted mw_829 ⟨Nat.le_of_ble_eq_true rfl, Nat.le_of_ble_eq_true rfl⟩ (As := [.int a3, .int a4]) rfl hl.1 rfl (lv_room (Nat.le_of_ble_eq_true rfl)) dX10_line_12 (fun H locs hP hS => ?_)
    refine lv_if_ne (tgt := 21) hx hb dX10_line_15 (by decide) (fun c19 => ?_) (fun c19 => ?_)
    · replace h := h_f c19 h
      refine lv_aload_n hx hb dX10_line_21 rfl (lv_at hl 0 rfl) ?_
      refine gf_X10_50_0 C hP dX10_line_22 ?_
      refine lv_iload_n hx hb dX10_line_25 rfl (lv_at hl 1 rfl) ?_
      refine lv_iload_n hx hb dX10_line_26 rfl (lv_at hl 2 rfl) ?_
      obtain ⟨q20, e21, h⟩ := bnd h
      refine call_i C hP hS (c_X1_isOnePlace e21) mi_X1_isOnePlace mw_896 7 (by decide) rfl rfl ⟨Nat.le_of_ble_eq_true rfl, Nat.le_of_ble_eq_true rfl⟩ (As := [.int a1, .int a2]) rfl hl.1 rfl (lv_room (Nat.le_of_ble_eq_true rfl)) dX10_line_27 (fun H locs hP hS => ?_)
      refine lv_if_eq (tgt := 36) hx hb dX10_line_30 (by decide) (fun c22 => ?_) (fun c22 => ?_)
      · replace h := h_t c22 h
        refine lv_aload_n hx hb dX10_line_36 rfl (lv_at hl 0 rfl) ?_
        refine gf_X10_50_0 C hP dX10_line_37 ?_
        refine lv_iload_n hx hb dX10_line_40 rfl (lv_at hl 1 rfl) ?_
        refine lv_iload_n hx hb dX10_line_41 rfl (lv_at hl 2 rfl) ?_
        refine lv_iload_n hx hb dX10_line_42 rfl (lv_at hl 3 rfl) ?_
        refine lv_iload hx hb dX10_line_43 (lv_at hl 4 rfl) ?_
        obtain ⟨q23, e24, h⟩ := bnd h
        refine call_i C hP hS (c_X1_leftOfLine e24) mi_X1_leftOfLine mw_900 7 (by decide) rfl rfl ⟨Nat.le_of_ble_eq_true rfl, Nat.le_of_ble_eq_true rfl⟩ (As := [.int a1, .int a2, .int a3, .int a4]) rfl hl.1 rfl (lv_room (Nat.le_of_ble_eq_true rfl)) dX10_line_45 (fun H locs hP hS => ?_)
        obtain ⟨q25, e26, h⟩ := bnd h
        refine scall_i C hP hS (c_J6_signum_0f7a4 e26) ms_J6_signum_0f7a4 mw_904 ⟨Nat.le_of_ble_eq_true rfl, Nat.le_of_ble_eq_true rfl⟩ (As := [.int q23.1]) rfl hl.1 rfl (lv_room (Nat.le_of_ble_eq_true rfl)) dX10_line_48 (fun H locs hP hS => ?_)
        exact ret_i C hr hlocks hP hS h dX10_line_51
      · replace h := h_f c22 h
        refine lv_ldc hx hb C.2.2.2.1 (C.2.2.2.2.1 _ mw_716) dX10_line_33 ?_
        exact ret_i C hr hlocks hP hS h dX10_line_35
    · replace h := h_t c19 h
      refine lv_ldc hx hb C.2.2.2.1 (C.2.2.2.2.1 _ mw_411) dX10_line_18 ?_
      exact ret_i C hr hlocks hP hS h dX10_line_20
set_option maxHeartbeats 4000000 in
set_option maxRecDepth 100000 in
theorem c_X1_sideOfShoal {l : Launch} {G : GT} {lam : Lm} {σ : St} {a1 : Int32} {a2 : Int32} {a3 : Int32} {q : Int32 × St} (h : f_X1_sideOfShoal σ a1 a2 a3 = some q) : Met l yX1_sideOfShoal (Cond.code yX1_sideOfShoal cX1_sideOfShoal 9 ((some .int)) :: TB) ({ frames := 2, cells := 0, slots := 0, locals := 50 } : Room) (va_Pc [.ref (g_ad G 7), .int a1, .int a2, .int a3] (GW G lam σ)) (Ri q G lam) 0 0 (g_A G) := by
  refine mk_Qi (own := RX1) (by decide) (Nat.le_of_ble_eq_true rfl) rfl (fun p e s m args below meth c C hr hlocks hP ls hl => ?_)
  have hx := C.1
  have hb := C.2.1
  have hl : lv_has ls 9 [(0, .ref (g_ad G 7)), (1, .int a1), (2, .int a2), (3, .int a3)] := hl
  have J157 : ∀ (σ : St) (x6 : Int32) (x8 : Int32) (H : Heap) (locs : List Loc) (ls : Array Slot), f_X1_sideOfShoal_p157 σ x6 x8 = some q → va_P (g_D G) vwCl (allW G lam σ) H → va_S (g_A G) s.heap H locs → lv_has ls 9 [(6, .int x6), (8, .int x8)] → W p l e ({ frames := 2, cells := 0, slots := 0, locals := 50 } : Room) s m args below meth c H locs 0 0 (Qi q below args s G lam) (F0 m 157 ls []) := by
    intro σ x6 x8 H locs ls h hP hS hl
    unfold f_X1_sideOfShoal_p157 at h
    refine lv_iload hx hb dX1_sideOfShoal_157 (lv_at hl 1 rfl) ?_
    refine lv_if_eq (tgt := 170) hx hb dX1_sideOfShoal_159 (by decide) (fun c25 => ?_) (fun c25 => ?_)
    · replace h := h_t c25 h
      refine lv_iconst (v := 0) hx hb dX1_sideOfShoal_170 (by decide) ?_
      exact ret_i C hr hlocks hP hS h dX1_sideOfShoal_171
    · replace h := h_f c25 h
      refine lv_iload hx hb dX1_sideOfShoal_162 (lv_at hl 0 rfl) ?_
      obtain ⟨q26, e27, h⟩ := bnd h
      refine scall_i C hP hS (c_J6_signum_0f7a4 e27) ms_J6_signum_0f7a4 mw_920 ⟨Nat.le_of_ble_eq_true rfl, Nat.le_of_ble_eq_true rfl⟩ (As := [.int x6]) rfl hl.1 rfl (lv_room (Nat.le_of_ble_eq_true rfl)) dX1_sideOfShoal_164 (fun H locs hP hS => ?_)
      refine lv_goto (tgt := 171) hx hb dX1_sideOfShoal_167 (by decide) ?_
      exact ret_i C hr hlocks hP hS h dX1_sideOfShoal_171
  have J155 : ∀ (σ : St) (x6 : Int32) (t0 : Int32) (H : Heap) (locs : List Loc) (ls : Array Slot), f_X1_sideOfShoal_p155 σ x6 t0 = some q → va_P (g_D G) vwCl (allW G lam σ) H → va_S (g_A G) s.heap H locs → lv_has ls 9 [(6, .int x6)] → W p l e ({ frames := 2, cells := 0, slots := 0, locals := 50 } : Room) s m args below meth c H locs 0 0 (Qi q below args s G lam) (F0 m 155 ls [.int t0]) := by
    intro σ x6 t0 H locs ls h hP hS hl
    unfold f_X1_sideOfShoal_p155 at h
    refine lv_istore (lv' := [(8, .int t0), (6, .int x6)]) hx hb dX1_sideOfShoal_155 hl (by decide) rfl (fun ls hl => ?_)
    exact J157 _ _ _ H locs ls h hP hS (lv_sub hl [1, 0] rfl)
  have J120 : ∀ (σ : St) (x6 : Int32) (t0 : Int32) (H : Heap) (locs : List Loc) (ls : Array Slot), f_X1_sideOfShoal_p120 σ x6 t0 = some q → va_P (g_D G) vwCl (allW G lam σ) H → va_S (g_A G) s.heap H locs → lv_has ls 9 [(6, .int x6)] → W p l e ({ frames := 2, cells := 0, slots := 0, locals := 50 } : Room) s m args below meth c H locs 0 0 (Qi q below args s G lam) (F0 m 120 ls [.int t0]) := by
    intro σ x6 t0 H locs ls h hP hS hl
    unfold f_X1_sideOfShoal_p120 at h
    refine lv_istore (lv' := [(8, .int t0), (6, .int x6)]) hx hb dX1_sideOfShoal_120 hl (by decide) rfl (fun ls hl => ?_)
    refine lv_goto (tgt := 157) hx hb dX1_sideOfShoal_122 (by decide) ?_
    exact J157 _ _ _ H locs ls h hP hS (lv_sub hl [1, 0] rfl)
  have hS : va_S (g_A G) s.heap s.heap [] := va_S.rf
  unfold f_X1_sideOfShoal at h
  obtain ⟨H, hH⟩ : ∃ H, H = s.heap := ⟨_, rfl⟩
  obtain ⟨locs, hlo⟩ : ∃ k : List Loc, k = [] := ⟨_, rfl⟩
  rw [← hH, ← hlo]
  rw [← hH] at hP
  replace hS : va_S (g_A G) s.heap H locs := by rw [hH, hlo]; exact hS
  refine lv_aload_n hx hb dX1_sideOfShoal_0 rfl (lv_at hl 0 rfl) ?_
  refine gf_X1_9_7 C hP dX1_sideOfShoal_1 ?_
  refine lv_iload_n hx hb dX1_sideOfShoal_4 rfl (lv_at hl 2 rfl) ?_
  refine lv_iconst (v := 1) hx hb dX1_sideOfShoal_5 (by decide) ?_
  obtain ⟨q28, e29, h⟩ := bnd h
  refine call_i C hP hS (c_X6_thingCell_2 e29) mi_X6_thingCell mw_844 2 (by decide) rfl rfl ⟨Nat.le_of_ble_eq_true rfl, Nat.le_of_ble_eq_true rfl⟩ (As := [.int a2, .int 1]) rfl hl.1 rfl (lv_room (Nat.le_of_ble_eq_true rfl)) dX1_sideOfShoal_6 (fun H locs hP hS => ?_)
  refine lv_aload_n hx hb dX1_sideOfShoal_9 rfl (lv_at hl 0 rfl) ?_
  refine gf_X1_9_7 C hP dX1_sideOfShoal_10 ?_
  refine lv_iload_n hx hb dX1_sideOfShoal_13 rfl (lv_at hl 1 rfl) ?_
  refine lv_iconst (v := 1) hx hb dX1_sideOfShoal_14 (by decide) ?_
  obtain ⟨q30, e31, h⟩ := bnd h
  refine call_i C hP hS (c_X6_thingCell_2 e31) mi_X6_thingCell mw_844 2 (by decide) rfl rfl ⟨Nat.le_of_ble_eq_true rfl, Nat.le_of_ble_eq_true rfl⟩ (As := [.int a1, .int 1]) rfl hl.1 rfl (lv_room (Nat.le_of_ble_eq_true rfl)) dX1_sideOfShoal_15 (fun H locs hP hS => ?_)
  refine lv_isub hx hb dX1_sideOfShoal_18 ?_
  obtain ⟨y32, e33, h⟩ := bnd h
  refine r_nm e33 ?_
  refine lv_istore (lv' := [(4, .int y32), (0, .ref (g_ad G 7)), (1, .int a1), (2, .int a2), (3, .int a3)]) hx hb dX1_sideOfShoal_19 hl (by decide) rfl (fun ls hl => ?_)
  refine lv_aload_n hx hb dX1_sideOfShoal_21 rfl (lv_at hl 1 rfl) ?_
  refine gf_X1_9_7 C hP dX1_sideOfShoal_22 ?_
  refine lv_iload_n hx hb dX1_sideOfShoal_25 rfl (lv_at hl 3 rfl) ?_
  refine lv_iconst (v := 2) hx hb dX1_sideOfShoal_26 (by decide) ?_
  obtain ⟨q34, e35, h⟩ := bnd h
  refine call_i C hP hS (c_X6_thingCell_2 e35) mi_X6_thingCell mw_844 2 (by decide) rfl rfl ⟨Nat.le_of_ble_eq_true rfl, Nat.le_of_ble_eq_true rfl⟩ (As := [.int a2, .int 2]) rfl hl.1 rfl (lv_room (Nat.le_of_ble_eq_true rfl)) dX1_sideOfShoal_27 (fun H locs hP hS => ?_)
  refine lv_aload_n hx hb dX1_sideOfShoal_30 rfl (lv_at hl 1 rfl) ?_
  refine gf_X1_9_7 C hP dX1_sideOfShoal_31 ?_
  refine lv_iload_n hx hb dX1_sideOfShoal_34 rfl (lv_at hl 2 rfl) ?_
  refine lv_iconst (v := 2) hx hb dX1_sideOfShoal_35 (by decide) ?_
  obtain ⟨q36, e37, h⟩ := bnd h
  refine call_i C hP hS (c_X6_thingCell_2 e37) mi_X6_thingCell mw_844 2 (by decide) rfl rfl ⟨Nat.le_of_ble_eq_true rfl, Nat.le_of_ble_eq_true rfl⟩ (As := [.int a1, .int 2]) rfl hl.1 rfl (lv_room (Nat.le_of_ble_eq_true rfl)) dX1_sideOfShoal_36 (fun H locs hP hS => ?_)
  refine lv_isub hx hb dX1_sideOfShoal_39 ?_
  obtain ⟨y38, e39, h⟩ := bnd h
  refine r_nm e39 ?_
  refine lv_istore (lv' := [(5, .int y38), (4, .int y32), (0, .ref (g_ad G 7)), (1, .int a1), (2, .int a2), (3, .int a3)]) hx hb dX1_sideOfShoal_40 hl (by decide) rfl (fun ls hl => ?_)
  refine lv_aload_n hx hb dX1_sideOfShoal_42 rfl (lv_at hl 2 rfl) ?_
  refine lv_iload_n hx hb dX1_sideOfShoal_43 rfl (lv_at hl 3 rfl) ?_
  refine lv_iload_n hx hb dX1_sideOfShoal_44 rfl (lv_at hl 4 rfl) ?_
  refine lv_aload_n hx hb dX1_sideOfShoal_45 rfl (lv_at hl 2 rfl) ?_
  refine gf_X1_9_7 C hP dX1_sideOfShoal_46 ?_
  refine lv_iload_n hx hb dX1_sideOfShoal_49 rfl (lv_at hl 5 rfl) ?_
  refine lv_iconst (v := 1) hx hb dX1_sideOfShoal_50 (by decide) ?_
  obtain ⟨q40, e41, h⟩ := bnd h
  refine call_i C hP hS (c_X6_thingCell_2 e41) mi_X6_thingCell mw_844 2 (by decide) rfl rfl ⟨Nat.le_of_ble_eq_true rfl, Nat.le_of_ble_eq_true rfl⟩ (As := [.int a3, .int 1]) rfl hl.1 rfl (lv_room (Nat.le_of_ble_eq_true rfl)) dX1_sideOfShoal_51 (fun H locs hP hS => ?_)
  refine lv_aload_n hx hb dX1_sideOfShoal_54 rfl (lv_at hl 2 rfl) ?_
  refine gf_X1_9_7 C hP dX1_sideOfShoal_55 ?_
  refine lv_iload_n hx hb dX1_sideOfShoal_58 rfl (lv_at hl 5 rfl) ?_
  refine lv_iconst (v := 2) hx hb dX1_sideOfShoal_59 (by decide) ?_
  obtain ⟨q42, e43, h⟩ := bnd h
  refine call_i C hP hS (c_X6_thingCell_2 e43) mi_X6_thingCell mw_844 2 (by decide) rfl rfl ⟨Nat.le_of_ble_eq_true rfl, Nat.le_of_ble_eq_true rfl⟩ (As := [.int a3, .int 2]) rfl hl.1 rfl (lv_room (Nat.le_of_ble_eq_true rfl)) dX1_sideOfShoal_60 (fun H locs hP hS => ?_)
  obtain ⟨q44, e45, h⟩ := bnd h
  refine call_i C hP hS (c_X1_leftOfLine e45) mi_X1_leftOfLine mw_919 7 (by decide) rfl rfl ⟨Nat.le_of_ble_eq_true rfl, Nat.le_of_ble_eq_true rfl⟩ (As := [.int a1, .int a2, .int q40.1, .int q42.1]) rfl hl.1 rfl (lv_room (Nat.le_of_ble_eq_true rfl)) dX1_sideOfShoal_63 (fun H locs hP hS => ?_)
  refine lv_istore (lv' := [(6, .int q44.1), (5, .int y38), (4, .int y32), (0, .ref (g_ad G 7)), (1, .int a1), (2, .int a2), (3, .int a3)]) hx hb dX1_sideOfShoal_66 hl (by decide) rfl (fun ls hl => ?_)
  refine lv_aload_n hx hb dX1_sideOfShoal_68 rfl (lv_at hl 3 rfl) ?_
  refine gf_X1_9_7 C hP dX1_sideOfShoal_69 ?_
  refine lv_iload_n hx hb dX1_sideOfShoal_72 rfl (lv_at hl 6 rfl) ?_
  refine lv_iconst (v := 3) hx hb dX1_sideOfShoal_73 (by decide) ?_
  obtain ⟨q46, e47, h⟩ := bnd h
  refine call_i C hP hS (c_X6_thingCell_2 e47) mi_X6_thingCell mw_844 2 (by decide) rfl rfl ⟨Nat.le_of_ble_eq_true rfl, Nat.le_of_ble_eq_true rfl⟩ (As := [.int a3, .int 3]) rfl hl.1 rfl (lv_room (Nat.le_of_ble_eq_true rfl)) dX1_sideOfShoal_74 (fun H locs hP hS => ?_)
  refine lv_istore (lv' := [(7, .int q46.1), (6, .int q44.1), (5, .int y38), (4, .int y32), (0, .ref (g_ad G 7)), (1, .int a1), (2, .int a2), (3, .int a3)]) hx hb dX1_sideOfShoal_77 hl (by decide) rfl (fun ls hl => ?_)
  refine lv_aload_n hx hb dX1_sideOfShoal_79 rfl (lv_at hl 4 rfl) ?_
  refine gf_X1_9_7 C hP dX1_sideOfShoal_80 ?_
  refine lv_iload_n hx hb dX1_sideOfShoal_83 rfl (lv_at hl 7 rfl) ?_
  refine lv_iconst (v := 0) hx hb dX1_sideOfShoal_84 (by decide) ?_
  obtain ⟨q48, e49, h⟩ := bnd h
  refine call_i C hP hS (c_X6_thingCell_2 e49) mi_X6_thingCell mw_844 2 (by decide) rfl rfl ⟨Nat.le_of_ble_eq_true rfl, Nat.le_of_ble_eq_true rfl⟩ (As := [.int a3, .int 0]) rfl hl.1 rfl (lv_room (Nat.le_of_ble_eq_true rfl)) dX1_sideOfShoal_85 (fun H locs hP hS => ?_)
  refine lv_bipush (v := 6) hx hb dX1_sideOfShoal_88 (by decide) ?_
  refine lv_icmp_ne (tgt := 125) hx hb dX1_sideOfShoal_90 (by decide) (fun c50 => ?_) (fun c50 => ?_)
  · replace h := h_f c50 h
    refine lv_iload hx hb dX1_sideOfShoal_125 (lv_at hl 1 rfl) ?_
    refine lv_iload hx hb dX1_sideOfShoal_127 (lv_at hl 1 rfl) ?_
    refine lv_imul hx hb dX1_sideOfShoal_129 ?_
    refine lv_iload hx hb dX1_sideOfShoal_130 (lv_at hl 0 rfl) ?_
    refine lv_iload hx hb dX1_sideOfShoal_132 (lv_at hl 0 rfl) ?_
    refine lv_imul hx hb dX1_sideOfShoal_134 ?_
    refine lv_iload hx hb dX1_sideOfShoal_135 (lv_at hl 3 rfl) ?_
    refine lv_iload hx hb dX1_sideOfShoal_137 (lv_at hl 3 rfl) ?_
    refine lv_imul hx hb dX1_sideOfShoal_139 ?_
    refine lv_iload hx hb dX1_sideOfShoal_140 (lv_at hl 2 rfl) ?_
    refine lv_iload hx hb dX1_sideOfShoal_142 (lv_at hl 2 rfl) ?_
    refine lv_imul hx hb dX1_sideOfShoal_144 ?_
    refine lv_iadd hx hb dX1_sideOfShoal_145 ?_
    refine lv_imul hx hb dX1_sideOfShoal_146 ?_
    refine lv_icmp_le (tgt := 154) hx hb dX1_sideOfShoal_147 (by decide) (fun c51 => ?_) (fun c51 => ?_)
    · replace h := h_t c51 h
      refine lv_iconst (v := 0) hx hb dX1_sideOfShoal_154 (by decide) ?_
      exact J155 _ _ _ H locs ls h hP hS (lv_sub hl [1] rfl)
    · replace h := h_f c51 h
      refine lv_iconst (v := 1) hx hb dX1_sideOfShoal_150 (by decide) ?_
      refine lv_goto (tgt := 155) hx hb dX1_sideOfShoal_151 (by decide) ?_
      exact J155 _ _ _ H locs ls h hP hS (lv_sub hl [1] rfl)
  · replace h := h_t c50 h
    refine lv_iload hx hb dX1_sideOfShoal_93 (lv_at hl 1 rfl) ?_
    refine va_mabs hx hb (by rw [C.2.2.1]; exact hl.1.symm) C.2.2.2.1 (C.2.2.2.2.1 _ mw_845) (C.2.2.2.2.1 _ mw_846) (C.2.2.2.2.1 _ mw_95) (C.2.2.2.2.1 _ mw_847) (Nat.le_of_ble_eq_true rfl) (Nat.le_of_ble_eq_true rfl) (Nat.zero_le _) (Nat.zero_le _) dX1_sideOfShoal_95 ?_
    refine lv_iload hx hb dX1_sideOfShoal_98 (lv_at hl 0 rfl) ?_
    refine lv_iload hx hb dX1_sideOfShoal_100 (lv_at hl 3 rfl) ?_
    refine va_mabs hx hb (by rw [C.2.2.1]; exact hl.1.symm) C.2.2.2.1 (C.2.2.2.2.1 _ mw_845) (C.2.2.2.2.1 _ mw_846) (C.2.2.2.2.1 _ mw_95) (C.2.2.2.2.1 _ mw_847) (Nat.le_of_ble_eq_true rfl) (Nat.le_of_ble_eq_true rfl) (Nat.zero_le _) (Nat.zero_le _) dX1_sideOfShoal_102 ?_
    refine lv_iload hx hb dX1_sideOfShoal_105 (lv_at hl 2 rfl) ?_
    refine va_mabs hx hb (by rw [C.2.2.1]; exact hl.1.symm) C.2.2.2.1 (C.2.2.2.2.1 _ mw_845) (C.2.2.2.2.1 _ mw_846) (C.2.2.2.2.1 _ mw_95) (C.2.2.2.2.1 _ mw_847) (Nat.le_of_ble_eq_true rfl) (Nat.le_of_ble_eq_true rfl) (Nat.zero_le _) (Nat.zero_le _) dX1_sideOfShoal_107 ?_
    refine lv_iadd hx hb dX1_sideOfShoal_110 ?_
    refine lv_imul hx hb dX1_sideOfShoal_111 ?_
    refine lv_icmp_le (tgt := 119) hx hb dX1_sideOfShoal_112 (by decide) (fun c52 => ?_) (fun c52 => ?_)
    · replace h := h_t c52 h
      refine lv_iconst (v := 0) hx hb dX1_sideOfShoal_119 (by decide) ?_
      exact J120 _ _ _ H locs ls h hP hS (lv_sub hl [1] rfl)
    · replace h := h_f c52 h
      refine lv_iconst (v := 1) hx hb dX1_sideOfShoal_115 (by decide) ?_
      refine lv_goto (tgt := 120) hx hb dX1_sideOfShoal_116 (by decide) ?_
      exact J120 _ _ _ H locs ls h hP hS (lv_sub hl [1] rfl)
set_option maxHeartbeats 4000000 in
set_option maxRecDepth 100000 in
theorem c_X1_shoalsOnSide {l : Launch} {G : GT} {lam : Lm} {σ : St} {a1 : Int32} {a2 : Int32} {a3 : Int32} {q : Int32 × St} (h : f_X1_shoalsOnSide σ a1 a2 a3 = some q) : Met l yX1_shoalsOnSide (Cond.code yX1_shoalsOnSide cX1_shoalsOnSide 6 ((some .int)) :: TB) ({ frames := 3, cells := 0, slots := 0, locals := 78 } : Room) (va_Pc [.ref (g_ad G 7), .int a1, .int a2, .int a3] (GW G lam σ)) (Ri q G lam) 0 0 (g_A G) := by
  refine mk_Qi (own := RX1) (by decide) (Nat.le_of_ble_eq_true rfl) rfl (fun p e s m args below meth c C hr hlocks hP ls hl => ?_)
  have hx := C.1
  have hb := C.2.1
  have hl : lv_has ls 6 [(0, .ref (g_ad G 7)), (1, .int a1), (2, .int a2), (3, .int a3)] := hl
  have L6 : ∀ (n6 : Nat) (σ : St) (x1 : Int32) (x2 : Int32) (x3 : Int32) (x4 : Int32) (x5 : Int32) (H : Heap) (locs : List Loc) (ls : Array Slot), fx (F_X1_shoalsOnSide_h6) z_X1_shoalsOnSide_h6 n6 σ x1 x2 x3 x4 x5 = some q → va_P (g_D G) vwCl (allW G lam σ) H → va_S (g_A G) s.heap H locs → lv_has ls 6 [(0, .ref (g_ad G 7)), (1, .int x1), (2, .int x2), (3, .int x3), (4, .int x4), (5, .int x5)] → W p l e ({ frames := 3, cells := 0, slots := 0, locals := 78 } : Room) s m args below meth c H locs 0 0 (Qi q below args s G lam) (F0 m 6 ls []) := by
    intro n6
    induction n6 with
    | zero => intro σ x1 x2 x3 x4 x5 H locs ls h hP hS hl; exact absurd h (by intro h9; cases h9)
    | succ n6 ih6 =>
      have J53 : ∀ (σ : St) (x1 : Int32) (x2 : Int32) (x3 : Int32) (x4 : Int32) (x5 : Int32) (H : Heap) (locs : List Loc) (ls : Array Slot), f_X1_shoalsOnSide_p53 (fx (F_X1_shoalsOnSide_h6) z_X1_shoalsOnSide_h6 n6) σ x1 x2 x3 x4 x5 = some q → va_P (g_D G) vwCl (allW G lam σ) H → va_S (g_A G) s.heap H locs → lv_has ls 6 [(0, .ref (g_ad G 7)), (1, .int x1), (2, .int x2), (3, .int x3), (4, .int x4), (5, .int x5)] → W p l e ({ frames := 3, cells := 0, slots := 0, locals := 78 } : Room) s m args below meth c H locs 0 0 (Qi q below args s G lam) (F0 m 53 ls []) := by
        intro σ x1 x2 x3 x4 x5 H locs ls h hP hS hl
        unfold f_X1_shoalsOnSide_p53 at h
        obtain ⟨y12, e13, h⟩ := bnd h
        refine lv_iinc (v := y12) (lv' := [(5, .int y12), (0, .ref (g_ad G 7)), (1, .int x1), (2, .int x2), (3, .int x3), (4, .int x4)]) hx hb dX1_shoalsOnSide_53 hl (k := 5) rfl (Option.some.inj e13) (by decide) rfl (fun ls hl => ?_)
        refine lv_goto (tgt := 6) hx hb dX1_shoalsOnSide_56 (by decide) ?_
        exact ih6 _ _ _ _ _ _ H locs ls h hP hS (lv_sub hl [1, 2, 3, 4, 5, 0] rfl)
      intro σ x1 x2 x3 x4 x5 H locs ls h hP hS hl
      change F_X1_shoalsOnSide_h6 (fx (F_X1_shoalsOnSide_h6) z_X1_shoalsOnSide_h6 n6) σ x1 x2 x3 x4 x5 = some q at h
      unfold F_X1_shoalsOnSide_h6 at h
      refine lv_iload hx hb dX1_shoalsOnSide_6 (lv_at hl 5 rfl) ?_
      refine lv_aload_n hx hb dX1_shoalsOnSide_8 rfl (lv_at hl 0 rfl) ?_
      refine gf_X1_9_7 C hP dX1_shoalsOnSide_9 ?_
      obtain ⟨q14, e15, h⟩ := bnd h
      refine call_i C hP hS (c_X6_thingCount_2 e15) mi_X6_thingCount mw_836 2 (by decide) rfl rfl ⟨Nat.le_of_ble_eq_true rfl, Nat.le_of_ble_eq_true rfl⟩ (As := []) rfl hl.1 rfl (lv_room (Nat.le_of_ble_eq_true rfl)) dX1_shoalsOnSide_12 (fun H locs hP hS => ?_)
      refine lv_icmp_ge (tgt := 59) hx hb dX1_shoalsOnSide_15 (by decide) (fun c16 => ?_) (fun c16 => ?_)
      · replace h := h_t c16 h
        refine lv_iload hx hb dX1_shoalsOnSide_59 (lv_at hl 4 rfl) ?_
        exact ret_i C hr hlocks hP hS h dX1_shoalsOnSide_61
      · replace h := h_f c16 h
        refine lv_aload_n hx hb dX1_shoalsOnSide_18 rfl (lv_at hl 0 rfl) ?_
        refine gf_X1_9_7 C hP dX1_shoalsOnSide_19 ?_
        refine lv_iload hx hb dX1_shoalsOnSide_22 (lv_at hl 5 rfl) ?_
        refine lv_iconst (v := 0) hx hb dX1_shoalsOnSide_24 (by decide) ?_
        obtain ⟨q17, e18, h⟩ := bnd h
        refine call_i C hP hS (c_X6_thingCell_2 e18) mi_X6_thingCell mw_844 2 (by decide) rfl rfl ⟨Nat.le_of_ble_eq_true rfl, Nat.le_of_ble_eq_true rfl⟩ (As := [.int x5, .int 0]) rfl hl.1 rfl (lv_room (Nat.le_of_ble_eq_true rfl)) dX1_shoalsOnSide_25 (fun H locs hP hS => ?_)
        refine lv_iconst (v := 4) hx hb dX1_shoalsOnSide_28 (by decide) ?_
        refine lv_icmp_lt (tgt := 53) hx hb dX1_shoalsOnSide_29 (by decide) (fun c19 => ?_) (fun c19 => ?_)
        · replace h := h_t c19 h
          exact J53 _ _ _ _ _ _ H locs ls h hP hS (lv_sub hl [0, 1, 2, 3, 4, 5] rfl)
        · replace h := h_f c19 h
          refine lv_aload_n hx hb dX1_shoalsOnSide_32 rfl (lv_at hl 0 rfl) ?_
          refine lv_iload_n hx hb dX1_shoalsOnSide_33 rfl (lv_at hl 1 rfl) ?_
          refine lv_iload_n hx hb dX1_shoalsOnSide_34 rfl (lv_at hl 2 rfl) ?_
          refine lv_iload hx hb dX1_shoalsOnSide_35 (lv_at hl 5 rfl) ?_
          obtain ⟨q20, e21, h⟩ := bnd h
          refine call_i C hP hS (c_X1_sideOfShoal e21) mi_X1_sideOfShoal mw_915 7 (by decide) rfl rfl ⟨Nat.le_of_ble_eq_true rfl, Nat.le_of_ble_eq_true rfl⟩ (As := [.int x1, .int x2, .int x5]) rfl hl.1 rfl (lv_room (Nat.le_of_ble_eq_true rfl)) dX1_shoalsOnSide_37 (fun H locs hP hS => ?_)
          refine lv_iload_n hx hb dX1_shoalsOnSide_40 rfl (lv_at hl 3 rfl) ?_
          refine lv_icmp_ne (tgt := 53) hx hb dX1_shoalsOnSide_41 (by decide) (fun c22 => ?_) (fun c22 => ?_)
          · replace h := h_f c22 h
            exact J53 _ _ _ _ _ _ H locs ls h hP hS (lv_sub hl [0, 1, 2, 3, 4, 5] rfl)
          · replace h := h_t c22 h
            refine lv_iload hx hb dX1_shoalsOnSide_44 (lv_at hl 4 rfl) ?_
            refine lv_iconst (v := 1) hx hb dX1_shoalsOnSide_46 (by decide) ?_
            refine lv_iload hx hb dX1_shoalsOnSide_47 (lv_at hl 5 rfl) ?_
            refine lv_ishl hx hb dX1_shoalsOnSide_49 ?_
            refine lv_ior hx hb dX1_shoalsOnSide_50 ?_
            obtain ⟨y23, e24, h⟩ := bnd h
            refine r_nm e24 ?_
            refine lv_istore (lv' := [(4, .int y23), (0, .ref (g_ad G 7)), (1, .int x1), (2, .int x2), (3, .int x3), (5, .int x5)]) hx hb dX1_shoalsOnSide_51 hl (by decide) rfl (fun ls hl => ?_)
            exact J53 _ _ _ _ _ _ H locs ls h hP hS (lv_sub hl [1, 2, 3, 4, 0, 5] rfl)
  have hS : va_S (g_A G) s.heap s.heap [] := va_S.rf
  unfold f_X1_shoalsOnSide at h
  obtain ⟨H, hH⟩ : ∃ H, H = s.heap := ⟨_, rfl⟩
  obtain ⟨locs, hlo⟩ : ∃ k : List Loc, k = [] := ⟨_, rfl⟩
  rw [← hH, ← hlo]
  rw [← hH] at hP
  replace hS : va_S (g_A G) s.heap H locs := by rw [hH, hlo]; exact hS
  refine lv_iconst (v := 0) hx hb dX1_shoalsOnSide_0 (by decide) ?_
  refine lv_istore (lv' := [(4, .int 0), (0, .ref (g_ad G 7)), (1, .int a1), (2, .int a2), (3, .int a3)]) hx hb dX1_shoalsOnSide_1 hl (by decide) rfl (fun ls hl => ?_)
  refine lv_iconst (v := 0) hx hb dX1_shoalsOnSide_3 (by decide) ?_
  refine lv_istore (lv' := [(5, .int 0), (4, .int 0), (0, .ref (g_ad G 7)), (1, .int a1), (2, .int a2), (3, .int a3)]) hx hb dX1_shoalsOnSide_4 hl (by decide) rfl (fun ls hl => ?_)
  exact L6 FU _ _ _ _ _ _ H locs ls h hP hS (lv_sub hl [2, 3, 4, 5, 1, 0] rfl)
set_option maxHeartbeats 4000000 in
set_option maxRecDepth 100000 in
theorem c_X10_lines {l : Launch} {G : GT} {lam : Lm} {σ : St} {a1 : Int32} {a2 : Int32} {a3 : Int32} {q : Int32 × St} (h : f_X10_lines σ a1 a2 a3 = some q) : Met l yX10_lines (Cond.code yX10_lines cX10_lines 5 ((some .int)) :: TB) ({ frames := 4, cells := 0, slots := 0, locals := 103 } : Room) (va_Pc [.ref (g_ad G 0), .int a1, .int a2, .int a3] (GW G lam σ)) (Ri q G lam) 0 0 (g_A G) := by
  refine mk_Qi (own := RX10) (by decide) (Nat.le_of_ble_eq_true rfl) rfl (fun p e s m args below meth c C hr hlocks hP ls hl => ?_)
  have hx := C.1
  have hb := C.2.1
  have hl : lv_has ls 5 [(0, .ref (g_ad G 0)), (1, .int a1), (2, .int a2), (3, .int a3)] := hl
  have J54 : ∀ (σ : St) (x1 : Int32) (x2 : Int32) (t0 : Int32) (H : Heap) (locs : List Loc) (ls : Array Slot), f_X10_lines_p54 σ x1 x2 t0 = some q → va_P (g_D G) vwCl (allW G lam σ) H → va_S (g_A G) s.heap H locs → lv_has ls 5 [(0, .ref (g_ad G 0)), (1, .int x1), (2, .int x2)] → W p l e ({ frames := 4, cells := 0, slots := 0, locals := 103 } : Room) s m args below meth c H locs 0 0 (Qi q below args s G lam) (F0 m 54 ls [.int t0]) := by
    intro σ x1 x2 t0 H locs ls h hP hS hl
    unfold f_X10_lines_p54 at h
    refine lv_istore (lv' := [(4, .int t0), (0, .ref (g_ad G 0)), (1, .int x1), (2, .int x2)]) hx hb dX10_lines_54 hl (by decide) rfl (fun ls hl => ?_)
    refine lv_aload_n hx hb dX10_lines_56 rfl (lv_at hl 1 rfl) ?_
    refine gf_X10_50_0 C hP dX10_lines_57 ?_
    refine lv_iload_n hx hb dX10_lines_60 rfl (lv_at hl 2 rfl) ?_
    refine lv_iload_n hx hb dX10_lines_61 rfl (lv_at hl 3 rfl) ?_
    refine lv_iload hx hb dX10_lines_62 (lv_at hl 0 rfl) ?_
    obtain ⟨q14, e15, h⟩ := bnd h
    refine call_i C hP hS (c_X1_shoalsOnSide e15) mi_X1_shoalsOnSide mw_911 7 (by decide) rfl rfl ⟨Nat.le_of_ble_eq_true rfl, Nat.le_of_ble_eq_true rfl⟩ (As := [.int x1, .int x2, .int t0]) rfl hl.1 rfl (lv_room (Nat.le_of_ble_eq_true rfl)) dX10_lines_64 (fun H locs hP hS => ?_)
    exact ret_i C hr hlocks hP hS h dX10_lines_67
  have hS : va_S (g_A G) s.heap s.heap [] := va_S.rf
  unfold f_X10_lines at h
  obtain ⟨H, hH⟩ : ∃ H, H = s.heap := ⟨_, rfl⟩
  obtain ⟨locs, hlo⟩ : ∃ k : List Loc, k = [] := ⟨_, rfl⟩
  rw [← hH, ← hlo]
  rw [← hH] at hP
  replace hS : va_S (g_A G) s.heap H locs := by rw [hH, hlo]; exact hS
  refine lv_aload_n hx hb dX10_lines_0 rfl (lv_at hl 0 rfl) ?_
  refine lv_iload_n hx hb dX10_lines_1 rfl (lv_at hl 1 rfl) ?_
  refine lv_iload_n hx hb dX10_lines_2 rfl (lv_at hl 2 rfl) ?_
  obtain ⟨q16, e17, h⟩ := bnd h
  refine call_i C hP hS (c_X10_isPair e17) mi_X10_isPair mw_892 0 (by decide) rfl rfl ⟨Nat.le_of_ble_eq_true rfl, Nat.le_of_ble_eq_true rfl⟩ (As := [.int a1, .int a2]) rfl hl.1 rfl (lv_room (Nat.le_of_ble_eq_true rfl)) dX10_lines_3 (fun H locs hP hS => ?_)
  refine lv_if_eq (tgt := 18) hx hb dX10_lines_6 (by decide) (fun c18 => ?_) (fun c18 => ?_)
  · replace h := h_t c18 h
    refine lv_ldc hx hb C.2.2.2.1 (C.2.2.2.2.1 _ mw_411) dX10_lines_18 ?_
    exact ret_i C hr hlocks hP hS h dX10_lines_20
  · replace h := h_f c18 h
    refine lv_iload_n hx hb dX10_lines_9 rfl (lv_at hl 3 rfl) ?_
    refine lv_iconst (v := 0) hx hb dX10_lines_10 (by decide) ?_
    refine lv_iconst (v := 2) hx hb dX10_lines_11 (by decide) ?_
    obtain ⟨q19, e20, h⟩ := bnd h
    refine scall_i C hP hS (c_X10_isWithin e20) ms_X10_isWithin mw_408 ⟨Nat.le_of_ble_eq_true rfl, Nat.le_of_ble_eq_true rfl⟩ (As := [.int a3, .int 0, .int 2]) rfl hl.1 rfl (lv_room (Nat.le_of_ble_eq_true rfl)) dX10_lines_12 (fun H locs hP hS => ?_)
    refine lv_if_ne (tgt := 21) hx hb dX10_lines_15 (by decide) (fun c21 => ?_) (fun c21 => ?_)
    · replace h := h_f c21 h
      refine lv_aload_n hx hb dX10_lines_21 rfl (lv_at hl 0 rfl) ?_
      refine gf_X10_50_0 C hP dX10_lines_22 ?_
      refine lv_iload_n hx hb dX10_lines_25 rfl (lv_at hl 1 rfl) ?_
      refine lv_iload_n hx hb dX10_lines_26 rfl (lv_at hl 2 rfl) ?_
      obtain ⟨q22, e23, h⟩ := bnd h
      refine call_i C hP hS (c_X1_isOnePlace e23) mi_X1_isOnePlace mw_896 7 (by decide) rfl rfl ⟨Nat.le_of_ble_eq_true rfl, Nat.le_of_ble_eq_true rfl⟩ (As := [.int a1, .int a2]) rfl hl.1 rfl (lv_room (Nat.le_of_ble_eq_true rfl)) dX10_lines_27 (fun H locs hP hS => ?_)
      refine lv_if_eq (tgt := 36) hx hb dX10_lines_30 (by decide) (fun c24 => ?_) (fun c24 => ?_)
      · replace h := h_t c24 h
        refine lv_iload_n hx hb dX10_lines_36 rfl (lv_at hl 3 rfl) ?_
        refine lv_if_ne (tgt := 44) hx hb dX10_lines_37 (by decide) (fun c25 => ?_) (fun c25 => ?_)
        · replace h := h_f c25 h
          refine lv_iload_n hx hb dX10_lines_44 rfl (lv_at hl 3 rfl) ?_
          refine lv_iconst (v := 1) hx hb dX10_lines_45 (by decide) ?_
          refine lv_icmp_ne (tgt := 53) hx hb dX10_lines_46 (by decide) (fun c26 => ?_) (fun c26 => ?_)
          · replace h := h_f c26 h
            refine lv_iconst (v := 0) hx hb dX10_lines_53 (by decide) ?_
            exact J54 _ _ _ _ H locs ls h hP hS (lv_sub hl [0, 1, 2] rfl)
          · replace h := h_t c26 h
            refine lv_iconst (v := (-1)) hx hb dX10_lines_49 (by decide) ?_
            refine lv_goto (tgt := 54) hx hb dX10_lines_50 (by decide) ?_
            exact J54 _ _ _ _ H locs ls h hP hS (lv_sub hl [0, 1, 2] rfl)
        · replace h := h_t c25 h
          refine lv_iconst (v := 1) hx hb dX10_lines_40 (by decide) ?_
          refine lv_goto (tgt := 54) hx hb dX10_lines_41 (by decide) ?_
          exact J54 _ _ _ _ H locs ls h hP hS (lv_sub hl [0, 1, 2] rfl)
      · replace h := h_f c24 h
        refine lv_ldc hx hb C.2.2.2.1 (C.2.2.2.2.1 _ mw_716) dX10_lines_33 ?_
        exact ret_i C hr hlocks hP hS h dX10_lines_35
    · replace h := h_t c21 h
      refine lv_ldc hx hb C.2.2.2.1 (C.2.2.2.2.1 _ mw_411) dX10_lines_18 ?_
      exact ret_i C hr hlocks hP hS h dX10_lines_20
set_option maxHeartbeats 4000000 in
set_option maxRecDepth 100000 in
theorem c_X10_isStart {l : Launch} {G : GT} {lam : Lm} {σ : St} {a1 : Int32} {q : Int32 × St} (h : f_X10_isStart σ a1 = some q) : Met l yX10_isStart (Cond.code yX10_isStart cX10_isStart 1 ((some .boolean)) :: TB) ({ frames := 1, cells := 0, slots := 0, locals := 22 } : Room) (va_Pc [.int a1] (GW G lam σ)) (Ri q G lam) 0 0 (g_A G) := by
  refine mk_Qi (own := RX10) (by decide) (Nat.le_of_ble_eq_true rfl) rfl (fun p e s m args below meth c C hr hlocks hP ls hl => ?_)
  have hx := C.1
  have hb := C.2.1
  have hl : lv_has ls 1 [(0, .int a1)] := hl
  have hS : va_S (g_A G) s.heap s.heap [] := va_S.rf
  unfold f_X10_isStart at h
  refine lv_iload_n hx hb dX10_isStart_0 rfl (lv_at hl 0 rfl) ?_
  refine lv_iconst (v := 0) hx hb dX10_isStart_1 (by decide) ?_
  refine lv_bipush (v := 99) hx hb dX10_isStart_2 (by decide) ?_
  obtain ⟨q4, e5, h⟩ := bnd h
  refine scall_i C hP hS (c_X10_isWithin e5) ms_X10_isWithin mw_408 ⟨Nat.le_of_ble_eq_true rfl, Nat.le_of_ble_eq_true rfl⟩ (As := [.int a1, .int 0, .int 99]) rfl hl.1 rfl (lv_room (Nat.le_of_ble_eq_true rfl)) dX10_isStart_4 (fun H locs hP hS => ?_)
  obtain ⟨g6, h⟩ := h_g h
  exact ret_z C hr hlocks hP hS h g6 dX10_isStart_7
set_option maxHeartbeats 4000000 in
set_option maxRecDepth 100000 in
theorem c_X8_noteTrack {l : Launch} {G : GT} {lam : Lm} {σ : St} {a1 : Int32} {q : St} (h : f_X8_noteTrack σ a1 = some q) : Met l yX8_noteTrack (Cond.code yX8_noteTrack cX8_noteTrack 2 none :: TB) ({ frames := 0, cells := 0, slots := 0, locals := 0 } : Room) (va_Pc [.ref (g_ad G 8), .int a1] (GW G lam σ)) (Rv q G lam) 0 0 (g_A G) := by
  refine mk_Qv (own := RX8) (by decide) (Nat.le_of_ble_eq_true rfl) rfl (fun p e s m args below meth c C hr hlocks hP ls hl => ?_)
  have hx := C.1
  have hb := C.2.1
  have hl : lv_has ls 2 [(0, .ref (g_ad G 8)), (1, .int a1)] := hl
  have hS : va_S (g_A G) s.heap s.heap [] := va_S.rf
  unfold f_X8_noteTrack at h
  refine lv_aload_n hx hb dX8_noteTrack_0 rfl (lv_at hl 0 rfl) ?_
  refine gf_X8_20_8 C hP dX8_noteTrack_1 ?_
  refine lv_if_lt (tgt := 53) hx hb dX8_noteTrack_4 (by decide) (fun c12 => ?_) (fun c12 => ?_)
  · replace h := h_t c12 h
    exact ret_v C hr hlocks hP hS h dX8_noteTrack_53
  · replace h := h_f c12 h
    refine lv_aload_n hx hb dX8_noteTrack_7 rfl (lv_at hl 0 rfl) ?_
    refine gf_X8_20_8 C hP dX8_noteTrack_8 ?_
    refine lv_sipush (v := 360) hx hb dX8_noteTrack_11 (by decide) ?_
    refine lv_icmp_gt (tgt := 53) hx hb dX8_noteTrack_14 (by decide) (fun c13 => ?_) (fun c13 => ?_)
    · replace h := h_t c13 h
      exact ret_v C hr hlocks hP hS h dX8_noteTrack_53
    · replace h := h_f c13 h
      refine lv_aload_n hx hb dX8_noteTrack_17 rfl (lv_at hl 0 rfl) ?_
      refine gf_X8_48_8 C hP dX8_noteTrack_18 ?_
      refine lv_aload_n hx hb dX8_noteTrack_21 rfl (lv_at hl 0 rfl) ?_
      refine gf_X8_20_8 C hP dX8_noteTrack_22 ?_
      refine lv_aload_n hx hb dX8_noteTrack_25 rfl (lv_at hl 0 rfl) ?_
      refine gf_X8_23_8 C hP dX8_noteTrack_26 ?_
      obtain ⟨g14, h⟩ := h_g h
      refine r_ast C hP hS 19 (by decide) (fun _ => rfl) (vp_in_iff.mpr g14) dX8_noteTrack_29 (fun H locs hP hS => ?_)
      obtain ⟨σ15, e16, h⟩ := bnd h
      have hP := hPn e16 hP
      refine lv_aload_n hx hb dX8_noteTrack_30 rfl (lv_at hl 0 rfl) ?_
      refine gf_X8_52_8 C hP dX8_noteTrack_31 ?_
      refine lv_aload_n hx hb dX8_noteTrack_34 rfl (lv_at hl 0 rfl) ?_
      refine gf_X8_20_8 C hP dX8_noteTrack_35 ?_
      refine lv_aload_n hx hb dX8_noteTrack_38 rfl (lv_at hl 0 rfl) ?_
      refine gf_X8_26_8 C hP dX8_noteTrack_39 ?_
      obtain ⟨g17, h⟩ := h_g h
      refine r_ast C hP hS 20 (by decide) (fun _ => rfl) (vp_in_iff.mpr g17) dX8_noteTrack_42 (fun H locs hP hS => ?_)
      obtain ⟨σ18, e19, h⟩ := bnd h
      have hP := hPn e19 hP
      refine lv_aload_n hx hb dX8_noteTrack_43 rfl (lv_at hl 0 rfl) ?_
      refine gf_X8_55_8 C hP dX8_noteTrack_44 ?_
      refine lv_aload_n hx hb dX8_noteTrack_47 rfl (lv_at hl 0 rfl) ?_
      refine gf_X8_20_8 C hP dX8_noteTrack_48 ?_
      refine lv_iload_n hx hb dX8_noteTrack_51 rfl (lv_at hl 1 rfl) ?_
      obtain ⟨g20, h⟩ := h_g h
      refine r_ast C hP hS 21 (by decide) (fun _ => rfl) (vp_in_iff.mpr g20) dX8_noteTrack_52 (fun H locs hP hS => ?_)
      obtain ⟨σ21, e22, h⟩ := bnd h
      have hP := hPn e22 hP
      exact ret_v C hr hlocks hP hS h dX8_noteTrack_53
set_option maxHeartbeats 4000000 in
set_option maxRecDepth 100000 in
theorem c_X8_noteMinutes {l : Launch} {G : GT} {lam : Lm} {σ : St} {a1 : Int32} {a2 : Int32} {q : St} (h : f_X8_noteMinutes σ a1 a2 = some q) : Met l yX8_noteMinutes (Cond.code yX8_noteMinutes cX8_noteMinutes 3 none :: TB) ({ frames := 0, cells := 0, slots := 0, locals := 0 } : Room) (va_Pc [.ref (g_ad G 8), .int a1, .int a2] (GW G lam σ)) (Rv q G lam) 0 0 (g_A G) := by
  refine mk_Qv (own := RX8) (by decide) (Nat.le_of_ble_eq_true rfl) rfl (fun p e s m args below meth c C hr hlocks hP ls hl => ?_)
  have hx := C.1
  have hb := C.2.1
  have hl : lv_has ls 3 [(0, .ref (g_ad G 8)), (1, .int a1), (2, .int a2)] := hl
  have hS : va_S (g_A G) s.heap s.heap [] := va_S.rf
  unfold f_X8_noteMinutes at h
  refine lv_iload_n hx hb dX8_noteMinutes_0 rfl (lv_at hl 1 rfl) ?_
  refine lv_if_lt (tgt := 17) hx hb dX8_noteMinutes_1 (by decide) (fun c6 => ?_) (fun c6 => ?_)
  · replace h := h_t c6 h
    exact ret_v C hr hlocks hP hS h dX8_noteMinutes_17
  · replace h := h_f c6 h
    refine lv_iload_n hx hb dX8_noteMinutes_4 rfl (lv_at hl 1 rfl) ?_
    refine lv_bipush (v := 6) hx hb dX8_noteMinutes_5 (by decide) ?_
    refine lv_icmp_ge (tgt := 17) hx hb dX8_noteMinutes_7 (by decide) (fun c7 => ?_) (fun c7 => ?_)
    · replace h := h_t c7 h
      exact ret_v C hr hlocks hP hS h dX8_noteMinutes_17
    · replace h := h_f c7 h
      refine lv_aload_n hx hb dX8_noteMinutes_10 rfl (lv_at hl 0 rfl) ?_
      refine gf_X8_58_8 C hP dX8_noteMinutes_11 ?_
      refine lv_iload_n hx hb dX8_noteMinutes_14 rfl (lv_at hl 1 rfl) ?_
      refine lv_iload_n hx hb dX8_noteMinutes_15 rfl (lv_at hl 2 rfl) ?_
      obtain ⟨g8, h⟩ := h_g h
      refine r_ast C hP hS 22 (by decide) (fun _ => rfl) (vp_in_iff.mpr g8) dX8_noteMinutes_16 (fun H locs hP hS => ?_)
      obtain ⟨σ9, e10, h⟩ := bnd h
      have hP := hPn e10 hP
      exact ret_v C hr hlocks hP hS h dX8_noteMinutes_17
set_option maxHeartbeats 4000000 in
set_option maxRecDepth 100000 in
theorem c_X9_takeUp {l : Launch} {G : GT} {lam : Lm} {σ : St} {a1 : Int32} {a2 : Int32} {a3 : Int32} {q : Int32 × St} (h : f_X9_takeUp σ a1 a2 a3 = some q) : Met l yX9_takeUp (Cond.code yX9_takeUp cX9_takeUp 4 ((some .int)) :: TB) ({ frames := 2, cells := 0, slots := 0, locals := 43 } : Room) (va_Pc [.ref (g_ad G 12), .int a1, .int a2, .int a3] (GW G lam σ)) (Ri q G lam) 0 0 (g_A G) := by
  refine mk_Qi (own := RX9) (by decide) (Nat.le_of_ble_eq_true rfl) rfl (fun p e s m args below meth c C hr hlocks hP ls hl => ?_)
  have hx := C.1
  have hb := C.2.1
  have hl : lv_has ls 4 [(0, .ref (g_ad G 12)), (1, .int a1), (2, .int a2), (3, .int a3)] := hl
  have J115 : ∀ (σ : St) (H : Heap) (locs : List Loc) (ls : Array Slot), f_X9_takeUp_p115 σ = some q → va_P (g_D G) vwCl (allW G lam σ) H → va_S (g_A G) s.heap H locs → lv_has ls 4 [(0, .ref (g_ad G 12))] → W p l e ({ frames := 2, cells := 0, slots := 0, locals := 43 } : Room) s m args below meth c H locs 0 0 (Qi q below args s G lam) (F0 m 115 ls []) := by
    intro σ H locs ls h hP hS hl
    unfold f_X9_takeUp_p115 at h
    refine lv_aload_n hx hb dX9_takeUp_115 rfl (lv_at hl 0 rfl) ?_
    refine gf_X9_15_12 C hP dX9_takeUp_116 ?_
    refine lv_iconst (v := 2) hx hb dX9_takeUp_119 (by decide) ?_
    refine lv_icmp_ne (tgt := 144) hx hb dX9_takeUp_120 (by decide) (fun c30 => ?_) (fun c30 => ?_)
    · replace h := h_f c30 h
      refine lv_ldc hx hb C.2.2.2.1 (C.2.2.2.2.1 _ mw_953) dX9_takeUp_144 ?_
      exact ret_i C hr hlocks hP hS h dX9_takeUp_146
    · replace h := h_t c30 h
      refine lv_aload_n hx hb dX9_takeUp_123 rfl (lv_at hl 0 rfl) ?_
      refine gf_X9_34_12 C hP dX9_takeUp_124 ?_
      refine lv_aload_n hx hb dX9_takeUp_127 rfl (lv_at hl 0 rfl) ?_
      refine gf_X9_21_12 C hP dX9_takeUp_128 ?_
      obtain ⟨q31, e32, h⟩ := bnd h
      refine call_i C hP hS (c_X6_isMark_2 e32) mi_X6_isMark mw_954 2 (by decide) rfl rfl ⟨Nat.le_of_ble_eq_true rfl, Nat.le_of_ble_eq_true rfl⟩ (As := [.int (σ 12 5)]) rfl hl.1 rfl (lv_room (Nat.le_of_ble_eq_true rfl)) dX9_takeUp_131 (fun H locs hP hS => ?_)
      refine lv_if_ne (tgt := 144) hx hb dX9_takeUp_134 (by decide) (fun c33 => ?_) (fun c33 => ?_)
      · replace h := h_f c33 h
        refine lv_ldc hx hb C.2.2.2.1 (C.2.2.2.2.1 _ mw_953) dX9_takeUp_144 ?_
        exact ret_i C hr hlocks hP hS h dX9_takeUp_146
      · replace h := h_t c33 h
        refine lv_aload_n hx hb dX9_takeUp_137 rfl (lv_at hl 0 rfl) ?_
        refine gf_X9_21_12 C hP dX9_takeUp_138 ?_
        refine lv_goto (tgt := 146) hx hb dX9_takeUp_141 (by decide) ?_
        exact ret_i C hr hlocks hP hS h dX9_takeUp_146
  have hS : va_S (g_A G) s.heap s.heap [] := va_S.rf
  unfold f_X9_takeUp at h
  obtain ⟨H, hH⟩ : ∃ H, H = s.heap := ⟨_, rfl⟩
  obtain ⟨locs, hlo⟩ : ∃ k : List Loc, k = [] := ⟨_, rfl⟩
  rw [← hH, ← hlo]
  rw [← hH] at hP
  replace hS : va_S (g_A G) s.heap H locs := by rw [hH, hlo]; exact hS
  refine lv_aload_n hx hb dX9_takeUp_0 rfl (lv_at hl 0 rfl) ?_
  refine lv_iload_n hx hb dX9_takeUp_1 rfl (lv_at hl 3 rfl) ?_
  refine pf_X9_9_12 C hP hS dX9_takeUp_2 (fun H locs hP hS => ?_)
  obtain ⟨σ34, e35, h⟩ := bnd h
  have hP := hPn e35 hP
  refine lv_aload_n hx hb dX9_takeUp_5 rfl (lv_at hl 0 rfl) ?_
  refine lv_iload_n hx hb dX9_takeUp_6 rfl (lv_at hl 2 rfl) ?_
  refine pf_X9_24_12 C hP hS dX9_takeUp_7 (fun H locs hP hS => ?_)
  obtain ⟨σ36, e37, h⟩ := bnd h
  have hP := hPn e37 hP
  refine lv_aload_n hx hb dX9_takeUp_10 rfl (lv_at hl 0 rfl) ?_
  refine lv_aload_n hx hb dX9_takeUp_11 rfl (lv_at hl 0 rfl) ?_
  refine gf_X9_34_12 C hP dX9_takeUp_12 ?_
  refine lv_iload_n hx hb dX9_takeUp_15 rfl (lv_at hl 1 rfl) ?_
  refine lv_iconst (v := 1) hx hb dX9_takeUp_16 (by decide) ?_
  obtain ⟨q38, e39, h⟩ := bnd h
  refine call_i C hP hS (c_X6_legCell_2 e39) mi_X6_legCell mw_952 2 (by decide) rfl rfl ⟨Nat.le_of_ble_eq_true rfl, Nat.le_of_ble_eq_true rfl⟩ (As := [.int a1, .int 1]) rfl hl.1 rfl (lv_room (Nat.le_of_ble_eq_true rfl)) dX9_takeUp_17 (fun H locs hP hS => ?_)
  refine pf_X9_15_12 C hP hS dX9_takeUp_20 (fun H locs hP hS => ?_)
  obtain ⟨σ40, e41, h⟩ := bnd h
  have hP := hPn e41 hP
  refine lv_aload_n hx hb dX9_takeUp_23 rfl (lv_at hl 0 rfl) ?_
  refine lv_aload_n hx hb dX9_takeUp_24 rfl (lv_at hl 0 rfl) ?_
  refine gf_X9_34_12 C hP dX9_takeUp_25 ?_
  refine lv_iload_n hx hb dX9_takeUp_28 rfl (lv_at hl 1 rfl) ?_
  refine lv_iconst (v := 2) hx hb dX9_takeUp_29 (by decide) ?_
  obtain ⟨q42, e43, h⟩ := bnd h
  refine call_i C hP hS (c_X6_legCell_2 e43) mi_X6_legCell mw_952 2 (by decide) rfl rfl ⟨Nat.le_of_ble_eq_true rfl, Nat.le_of_ble_eq_true rfl⟩ (As := [.int a1, .int 2]) rfl hl.1 rfl (lv_room (Nat.le_of_ble_eq_true rfl)) dX9_takeUp_30 (fun H locs hP hS => ?_)
  refine pf_X9_18_12 C hP hS dX9_takeUp_33 (fun H locs hP hS => ?_)
  obtain ⟨σ44, e45, h⟩ := bnd h
  have hP := hPn e45 hP
  refine lv_aload_n hx hb dX9_takeUp_36 rfl (lv_at hl 0 rfl) ?_
  refine lv_aload_n hx hb dX9_takeUp_37 rfl (lv_at hl 0 rfl) ?_
  refine gf_X9_34_12 C hP dX9_takeUp_38 ?_
  refine lv_iload_n hx hb dX9_takeUp_41 rfl (lv_at hl 1 rfl) ?_
  refine lv_iconst (v := 3) hx hb dX9_takeUp_42 (by decide) ?_
  obtain ⟨q46, e47, h⟩ := bnd h
  refine call_i C hP hS (c_X6_legCell_2 e47) mi_X6_legCell mw_952 2 (by decide) rfl rfl ⟨Nat.le_of_ble_eq_true rfl, Nat.le_of_ble_eq_true rfl⟩ (As := [.int a1, .int 3]) rfl hl.1 rfl (lv_room (Nat.le_of_ble_eq_true rfl)) dX9_takeUp_43 (fun H locs hP hS => ?_)
  refine pf_X9_21_12 C hP hS dX9_takeUp_46 (fun H locs hP hS => ?_)
  obtain ⟨σ48, e49, h⟩ := bnd h
  have hP := hPn e49 hP
  refine lv_aload_n hx hb dX9_takeUp_49 rfl (lv_at hl 0 rfl) ?_
  refine gf_X9_15_12 C hP dX9_takeUp_50 ?_
  refine lv_if_eq (tgt := 64) hx hb dX9_takeUp_53 (by decide) (fun c50 => ?_) (fun c50 => ?_)
  · replace h := h_t c50 h
    refine lv_ldc hx hb C.2.2.2.1 (C.2.2.2.2.1 _ mw_953) dX9_takeUp_64 ?_
    exact ret_i C hr hlocks hP hS h dX9_takeUp_66
  · replace h := h_f c50 h
    refine lv_aload_n hx hb dX9_takeUp_56 rfl (lv_at hl 0 rfl) ?_
    refine gf_X9_15_12 C hP dX9_takeUp_57 ?_
    refine lv_iconst (v := 4) hx hb dX9_takeUp_60 (by decide) ?_
    refine lv_icmp_ne (tgt := 67) hx hb dX9_takeUp_61 (by decide) (fun c51 => ?_) (fun c51 => ?_)
    · replace h := h_f c51 h
      refine lv_aload_n hx hb dX9_takeUp_67 rfl (lv_at hl 0 rfl) ?_
      refine gf_X9_34_12 C hP dX9_takeUp_68 ?_
      refine lv_aload_n hx hb dX9_takeUp_71 rfl (lv_at hl 0 rfl) ?_
      refine gf_X9_18_12 C hP dX9_takeUp_72 ?_
      obtain ⟨q52, e53, h⟩ := bnd h
      refine call_i C hP hS (c_X6_isMark_2 e53) mi_X6_isMark mw_954 2 (by decide) rfl rfl ⟨Nat.le_of_ble_eq_true rfl, Nat.le_of_ble_eq_true rfl⟩ (As := [.int (σ48 12 4)]) rfl hl.1 rfl (lv_room (Nat.le_of_ble_eq_true rfl)) dX9_takeUp_75 (fun H locs hP hS => ?_)
      refine lv_if_ne (tgt := 86) hx hb dX9_takeUp_78 (by decide) (fun c54 => ?_) (fun c54 => ?_)
      · replace h := h_f c54 h
        refine lv_aload_n hx hb dX9_takeUp_86 rfl (lv_at hl 0 rfl) ?_
        refine gf_X9_15_12 C hP dX9_takeUp_87 ?_
        refine lv_iconst (v := 3) hx hb dX9_takeUp_90 (by decide) ?_
        refine lv_icmp_ne (tgt := 115) hx hb dX9_takeUp_91 (by decide) (fun c55 => ?_) (fun c55 => ?_)
        · replace h := h_f c55 h
          exact J115 _ H locs ls h hP hS (lv_sub hl [0] rfl)
        · replace h := h_t c55 h
          refine lv_aload_n hx hb dX9_takeUp_94 rfl (lv_at hl 0 rfl) ?_
          refine gf_X9_34_12 C hP dX9_takeUp_95 ?_
          refine lv_aload_n hx hb dX9_takeUp_98 rfl (lv_at hl 0 rfl) ?_
          refine gf_X9_18_12 C hP dX9_takeUp_99 ?_
          refine lv_iconst (v := 0) hx hb dX9_takeUp_102 (by decide) ?_
          obtain ⟨q56, e57, h⟩ := bnd h
          refine call_i C hP hS (c_X6_thingCell_2 e57) mi_X6_thingCell mw_955 2 (by decide) rfl rfl ⟨Nat.le_of_ble_eq_true rfl, Nat.le_of_ble_eq_true rfl⟩ (As := [.int (q52.2 12 4), .int 0]) rfl hl.1 rfl (lv_room (Nat.le_of_ble_eq_true rfl)) dX9_takeUp_103 (fun H locs hP hS => ?_)
          refine lv_iconst (v := 2) hx hb dX9_takeUp_106 (by decide) ?_
          refine lv_icmp_eq (tgt := 115) hx hb dX9_takeUp_107 (by decide) (fun c58 => ?_) (fun c58 => ?_)
          · replace h := h_t c58 h
            exact J115 _ H locs ls h hP hS (lv_sub hl [0] rfl)
          · replace h := h_f c58 h
            refine lv_aload_n hx hb dX9_takeUp_110 rfl (lv_at hl 0 rfl) ?_
            refine gf_X9_18_12 C hP dX9_takeUp_111 ?_
            exact ret_i C hr hlocks hP hS h dX9_takeUp_114
      · replace h := h_t c54 h
        refine lv_aload_n hx hb dX9_takeUp_81 rfl (lv_at hl 0 rfl) ?_
        refine gf_X9_18_12 C hP dX9_takeUp_82 ?_
        exact ret_i C hr hlocks hP hS h dX9_takeUp_85
    · replace h := h_t c51 h
      refine lv_ldc hx hb C.2.2.2.1 (C.2.2.2.2.1 _ mw_953) dX9_takeUp_64 ?_
      exact ret_i C hr hlocks hP hS h dX9_takeUp_66
set_option maxHeartbeats 4000000 in
set_option maxRecDepth 100000 in
theorem c_X9_turnOfMarks {l : Launch} {G : GT} {lam : Lm} {σ : St} {a1 : Int32} {a2 : Int32} {a3 : Int32} {q : Int32 × St} (h : f_X9_turnOfMarks σ a1 a2 a3 = some q) : Met l yX9_turnOfMarks (Cond.code yX9_turnOfMarks cX9_turnOfMarks 8 ((some .int)) :: TB) ({ frames := 2, cells := 0, slots := 0, locals := 45 } : Room) (va_Pc [.ref (g_ad G 12), .int a1, .int a2, .int a3] (GW G lam σ)) (Ri q G lam) 0 0 (g_A G) := by
  refine mk_Qi (own := RX9) (by decide) (Nat.le_of_ble_eq_true rfl) rfl (fun p e s m args below meth c C hr hlocks hP ls hl => ?_)
  have hx := C.1
  have hb := C.2.1
  have hl : lv_has ls 8 [(0, .ref (g_ad G 12)), (1, .int a1), (2, .int a2), (3, .int a3)] := hl
  have hS : va_S (g_A G) s.heap s.heap [] := va_S.rf
  unfold f_X9_turnOfMarks at h
  refine lv_aload_n hx hb dX9_turnOfMarks_0 rfl (lv_at hl 0 rfl) ?_
  refine gf_X9_38_12 C hP dX9_turnOfMarks_1 ?_
  refine lv_aload_n hx hb dX9_turnOfMarks_4 rfl (lv_at hl 0 rfl) ?_
  refine gf_X9_18_12 C hP dX9_turnOfMarks_5 ?_
  refine lv_iload_n hx hb dX9_turnOfMarks_8 rfl (lv_at hl 3 rfl) ?_
  obtain ⟨q9, e10, h⟩ := bnd h
  refine call_i C hP hS (c_X1_markX e10) mi_X1_markX mw_970 7 (by decide) rfl rfl ⟨Nat.le_of_ble_eq_true rfl, Nat.le_of_ble_eq_true rfl⟩ (As := [.int (σ 12 4), .int a3]) rfl hl.1 rfl (lv_room (Nat.le_of_ble_eq_true rfl)) dX9_turnOfMarks_9 (fun H locs hP hS => ?_)
  refine lv_iload_n hx hb dX9_turnOfMarks_12 rfl (lv_at hl 1 rfl) ?_
  refine lv_isub hx hb dX9_turnOfMarks_13 ?_
  obtain ⟨y11, e12, h⟩ := bnd h
  refine r_nm e12 ?_
  refine lv_istore (lv' := [(4, .int y11), (0, .ref (g_ad G 12)), (1, .int a1), (2, .int a2), (3, .int a3)]) hx hb dX9_turnOfMarks_14 hl (by decide) rfl (fun ls hl => ?_)
  refine lv_aload_n hx hb dX9_turnOfMarks_16 rfl (lv_at hl 1 rfl) ?_
  refine gf_X9_34_12 C hP dX9_turnOfMarks_17 ?_
  refine lv_aload_n hx hb dX9_turnOfMarks_20 rfl (lv_at hl 1 rfl) ?_
  refine gf_X9_18_12 C hP dX9_turnOfMarks_21 ?_
  refine lv_iconst (v := 2) hx hb dX9_turnOfMarks_24 (by decide) ?_
  obtain ⟨q13, e14, h⟩ := bnd h
  refine call_i C hP hS (c_X6_thingCell_2 e14) mi_X6_thingCell mw_955 2 (by decide) rfl rfl ⟨Nat.le_of_ble_eq_true rfl, Nat.le_of_ble_eq_true rfl⟩ (As := [.int (q9.2 12 4), .int 2]) rfl hl.1 rfl (lv_room (Nat.le_of_ble_eq_true rfl)) dX9_turnOfMarks_25 (fun H locs hP hS => ?_)
  refine lv_iload_n hx hb dX9_turnOfMarks_28 rfl (lv_at hl 3 rfl) ?_
  refine lv_isub hx hb dX9_turnOfMarks_29 ?_
  obtain ⟨y15, e16, h⟩ := bnd h
  refine r_nm e16 ?_
  refine lv_istore (lv' := [(5, .int y15), (4, .int y11), (0, .ref (g_ad G 12)), (1, .int a1), (2, .int a2), (3, .int a3)]) hx hb dX9_turnOfMarks_30 hl (by decide) rfl (fun ls hl => ?_)
  refine lv_aload_n hx hb dX9_turnOfMarks_32 rfl (lv_at hl 2 rfl) ?_
  refine gf_X9_38_12 C hP dX9_turnOfMarks_33 ?_
  refine lv_aload_n hx hb dX9_turnOfMarks_36 rfl (lv_at hl 2 rfl) ?_
  refine gf_X9_21_12 C hP dX9_turnOfMarks_37 ?_
  refine lv_iload_n hx hb dX9_turnOfMarks_40 rfl (lv_at hl 5 rfl) ?_
  obtain ⟨q17, e18, h⟩ := bnd h
  refine call_i C hP hS (c_X1_markX e18) mi_X1_markX mw_970 7 (by decide) rfl rfl ⟨Nat.le_of_ble_eq_true rfl, Nat.le_of_ble_eq_true rfl⟩ (As := [.int (q13.2 12 5), .int a3]) rfl hl.1 rfl (lv_room (Nat.le_of_ble_eq_true rfl)) dX9_turnOfMarks_41 (fun H locs hP hS => ?_)
  refine lv_iload_n hx hb dX9_turnOfMarks_44 rfl (lv_at hl 3 rfl) ?_
  refine lv_isub hx hb dX9_turnOfMarks_45 ?_
  obtain ⟨y19, e20, h⟩ := bnd h
  refine r_nm e20 ?_
  refine lv_istore (lv' := [(6, .int y19), (5, .int y15), (4, .int y11), (0, .ref (g_ad G 12)), (1, .int a1), (2, .int a2), (3, .int a3)]) hx hb dX9_turnOfMarks_46 hl (by decide) rfl (fun ls hl => ?_)
  refine lv_aload_n hx hb dX9_turnOfMarks_48 rfl (lv_at hl 3 rfl) ?_
  refine gf_X9_34_12 C hP dX9_turnOfMarks_49 ?_
  refine lv_aload_n hx hb dX9_turnOfMarks_52 rfl (lv_at hl 3 rfl) ?_
  refine gf_X9_21_12 C hP dX9_turnOfMarks_53 ?_
  refine lv_iconst (v := 2) hx hb dX9_turnOfMarks_56 (by decide) ?_
  obtain ⟨q21, e22, h⟩ := bnd h
  refine call_i C hP hS (c_X6_thingCell_2 e22) mi_X6_thingCell mw_955 2 (by decide) rfl rfl ⟨Nat.le_of_ble_eq_true rfl, Nat.le_of_ble_eq_true rfl⟩ (As := [.int (q17.2 12 5), .int 2]) rfl hl.1 rfl (lv_room (Nat.le_of_ble_eq_true rfl)) dX9_turnOfMarks_57 (fun H locs hP hS => ?_)
  refine lv_iload_n hx hb dX9_turnOfMarks_60 rfl (lv_at hl 5 rfl) ?_
  refine lv_isub hx hb dX9_turnOfMarks_61 ?_
  obtain ⟨y23, e24, h⟩ := bnd h
  refine r_nm e24 ?_
  refine lv_istore (lv' := [(7, .int y23), (6, .int y19), (5, .int y15), (4, .int y11), (0, .ref (g_ad G 12)), (1, .int a1), (2, .int a2), (3, .int a3)]) hx hb dX9_turnOfMarks_62 hl (by decide) rfl (fun ls hl => ?_)
  refine lv_iload hx hb dX9_turnOfMarks_64 (lv_at hl 3 rfl) ?_
  refine lv_iload hx hb dX9_turnOfMarks_66 (lv_at hl 0 rfl) ?_
  refine lv_imul hx hb dX9_turnOfMarks_68 ?_
  refine lv_iload hx hb dX9_turnOfMarks_69 (lv_at hl 2 rfl) ?_
  refine lv_iload hx hb dX9_turnOfMarks_71 (lv_at hl 1 rfl) ?_
  refine lv_imul hx hb dX9_turnOfMarks_73 ?_
  refine lv_isub hx hb dX9_turnOfMarks_74 ?_
  exact ret_i C hr hlocks hP hS h dX9_turnOfMarks_75
set_option maxHeartbeats 4000000 in
set_option maxRecDepth 100000 in
theorem c_X9_begin {l : Launch} {G : GT} {lam : Lm} {σ : St} {a1 : Int32} {a2 : Int32} {a3 : Int32} {q : St} (h : f_X9_begin σ a1 a2 a3 = some q) : Met l yX9_begin (Cond.code yX9_begin cX9_begin 4 none :: TB) ({ frames := 3, cells := 0, slots := 0, locals := 74 } : Room) (va_Pc [.ref (g_ad G 12), .int a1, .int a2, .int a3] (GW G lam σ)) (Rv q G lam) 0 0 (g_A G) := by
  refine mk_Qv (own := RX9) (by decide) (Nat.le_of_ble_eq_true rfl) rfl (fun p e s m args below meth c C hr hlocks hP ls hl => ?_)
  have hx := C.1
  have hb := C.2.1
  have hl : lv_has ls 4 [(0, .ref (g_ad G 12)), (1, .int a1), (2, .int a2), (3, .int a3)] := hl
  have J58 : ∀ (σ : St) (t0 : Int32) (H : Heap) (locs : List Loc) (ls : Array Slot), f_X9_begin_p58 σ t0 = some q → va_P (g_D G) vwCl (allW G lam σ) H → va_S (g_A G) s.heap H locs → lv_has ls 4 [] → W p l e ({ frames := 3, cells := 0, slots := 0, locals := 74 } : Room) s m args below meth c H locs 0 0 (Qv q below args s G lam) (F0 m 58 ls [.int t0, .ref (g_ad G 12)]) := by
    intro σ t0 H locs ls h hP hS hl
    unfold f_X9_begin_p58 at h
    refine pf_X9_31_12 C hP hS dX9_begin_58 (fun H locs hP hS => ?_)
    obtain ⟨σ13, e14, h⟩ := bnd h
    have hP := hPn e14 hP
    exact ret_v C hr hlocks hP hS h dX9_begin_61
  have J35 : ∀ (σ : St) (x1 : Int32) (x2 : Int32) (x3 : Int32) (t0 : Int32) (H : Heap) (locs : List Loc) (ls : Array Slot), f_X9_begin_p35 σ x1 x2 x3 t0 = some q → va_P (g_D G) vwCl (allW G lam σ) H → va_S (g_A G) s.heap H locs → lv_has ls 4 [(0, .ref (g_ad G 12)), (1, .int x1), (2, .int x2), (3, .int x3)] → W p l e ({ frames := 3, cells := 0, slots := 0, locals := 74 } : Room) s m args below meth c H locs 0 0 (Qv q below args s G lam) (F0 m 35 ls [.int t0, .ref (g_ad G 12)]) := by
    intro σ x1 x2 x3 t0 H locs ls h hP hS hl
    unfold f_X9_begin_p35 at h
    obtain ⟨g15, h⟩ := h_g h
    refine pf_X9_27_12 C hP hS g15 dX9_begin_35 (fun H locs hP hS => ?_)
    obtain ⟨σ16, e17, h⟩ := bnd h
    have hP := hPn e17 hP
    refine lv_aload_n hx hb dX9_begin_38 rfl (lv_at hl 0 rfl) ?_
    refine lv_aload_n hx hb dX9_begin_39 rfl (lv_at hl 0 rfl) ?_
    refine gf_X9_15_12 C hP dX9_begin_40 ?_
    refine lv_iconst (v := 2) hx hb dX9_begin_43 (by decide) ?_
    refine lv_icmp_ne (tgt := 57) hx hb dX9_begin_44 (by decide) (fun c18 => ?_) (fun c18 => ?_)
    · replace h := h_f c18 h
      refine lv_iconst (v := 0) hx hb dX9_begin_57 (by decide) ?_
      exact J58 _ _ H locs ls h hP hS (lv_sub hl [] rfl)
    · replace h := h_t c18 h
      refine lv_aload_n hx hb dX9_begin_47 rfl (lv_at hl 0 rfl) ?_
      refine lv_iload_n hx hb dX9_begin_48 rfl (lv_at hl 1 rfl) ?_
      refine lv_iload_n hx hb dX9_begin_49 rfl (lv_at hl 2 rfl) ?_
      refine lv_iload_n hx hb dX9_begin_50 rfl (lv_at hl 3 rfl) ?_
      obtain ⟨q19, e20, h⟩ := bnd h
      refine call_i C hP hS (c_X9_turnOfMarks e20) mi_X9_turnOfMarks mw_966 12 (by decide) rfl rfl ⟨Nat.le_of_ble_eq_true rfl, Nat.le_of_ble_eq_true rfl⟩ (As := [.int x1, .int x2, .int x3]) rfl hl.1 rfl (lv_room (Nat.le_of_ble_eq_true rfl)) dX9_begin_51 (fun H locs hP hS => ?_)
      refine lv_goto (tgt := 58) hx hb dX9_begin_54 (by decide) ?_
      exact J58 _ _ H locs ls h hP hS (lv_sub hl [] rfl)
  have J34 : ∀ (σ : St) (x1 : Int32) (x2 : Int32) (x3 : Int32) (H : Heap) (locs : List Loc) (ls : Array Slot), f_X9_begin_p34 σ x1 x2 x3 = some q → va_P (g_D G) vwCl (allW G lam σ) H → va_S (g_A G) s.heap H locs → lv_has ls 4 [(0, .ref (g_ad G 12)), (1, .int x1), (2, .int x2), (3, .int x3)] → W p l e ({ frames := 3, cells := 0, slots := 0, locals := 74 } : Room) s m args below meth c H locs 0 0 (Qv q below args s G lam) (F0 m 34 ls [.ref (g_ad G 12)]) := by
    intro σ x1 x2 x3 H locs ls h hP hS hl
    unfold f_X9_begin_p34 at h
    refine lv_iconst (v := 0) hx hb dX9_begin_34 (by decide) ?_
    exact J35 _ _ _ _ _ H locs ls h hP hS (lv_sub hl [0, 1, 2, 3] rfl)
  have hS : va_S (g_A G) s.heap s.heap [] := va_S.rf
  unfold f_X9_begin at h
  obtain ⟨H, hH⟩ : ∃ H, H = s.heap := ⟨_, rfl⟩
  obtain ⟨locs, hlo⟩ : ∃ k : List Loc, k = [] := ⟨_, rfl⟩
  rw [← hH, ← hlo]
  rw [← hH] at hP
  replace hS : va_S (g_A G) s.heap H locs := by rw [hH, hlo]; exact hS
  refine lv_aload_n hx hb dX9_begin_0 rfl (lv_at hl 0 rfl) ?_
  refine lv_aload_n hx hb dX9_begin_1 rfl (lv_at hl 0 rfl) ?_
  refine gf_X9_15_12 C hP dX9_begin_2 ?_
  refine lv_iconst (v := 3) hx hb dX9_begin_5 (by decide) ?_
  refine lv_icmp_ne (tgt := 34) hx hb dX9_begin_6 (by decide) (fun c21 => ?_) (fun c21 => ?_)
  · replace h := h_f c21 h
    exact J34 _ _ _ _ H locs ls h hP hS (lv_sub hl [0, 1, 2, 3] rfl)
  · replace h := h_t c21 h
    refine lv_aload_n hx hb dX9_begin_9 rfl (lv_at hl 0 rfl) ?_
    refine gf_X9_38_12 C hP dX9_begin_10 ?_
    refine lv_aload_n hx hb dX9_begin_13 rfl (lv_at hl 0 rfl) ?_
    refine gf_X9_18_12 C hP dX9_begin_14 ?_
    refine lv_iload_n hx hb dX9_begin_17 rfl (lv_at hl 1 rfl) ?_
    refine lv_iload_n hx hb dX9_begin_18 rfl (lv_at hl 2 rfl) ?_
    refine lv_iload_n hx hb dX9_begin_19 rfl (lv_at hl 3 rfl) ?_
    refine lv_aload_n hx hb dX9_begin_20 rfl (lv_at hl 0 rfl) ?_
    refine gf_X9_9_12 C hP dX9_begin_21 ?_
    obtain ⟨q22, e23, h⟩ := bnd h
    refine call_i C hP hS (c_X1_isInSight e23) mi_X1_isInSight mw_965 7 (by decide) rfl rfl ⟨Nat.le_of_ble_eq_true rfl, Nat.le_of_ble_eq_true rfl⟩ (As := [.int (σ 12 4), .int a1, .int a2, .int a3, .int (σ 12 2)]) rfl hl.1 rfl (lv_room (Nat.le_of_ble_eq_true rfl)) dX9_begin_24 (fun H locs hP hS => ?_)
    refine lv_if_eq (tgt := 34) hx hb dX9_begin_27 (by decide) (fun c24 => ?_) (fun c24 => ?_)
    · replace h := h_t c24 h
      exact J34 _ _ _ _ H locs ls h hP hS (lv_sub hl [0, 1, 2, 3] rfl)
    · replace h := h_f c24 h
      refine lv_iconst (v := 1) hx hb dX9_begin_30 (by decide) ?_
      refine lv_goto (tgt := 35) hx hb dX9_begin_31 (by decide) ?_
      exact J35 _ _ _ _ _ H locs ls h hP hS (lv_sub hl [0, 1, 2, 3] rfl)
set_option maxHeartbeats 4000000 in
set_option maxRecDepth 100000 in
theorem c_X2_eastOf {l : Launch} {G : GT} {lam : Lm} {σ : St} {a1 : Int32} {q : Int32 × St} (h : f_X2_eastOf σ a1 = some q) : Met l yX2_eastOf (Cond.code yX2_eastOf cX2_eastOf 1 ((some .int)) :: TB) ({ frames := 0, cells := 0, slots := 0, locals := 0 } : Room) (va_Pc [.int a1] (GW G lam σ)) (Ri q G lam) 0 0 (g_A G) := by
  refine mk_Qi (own := RX2) (by decide) (Nat.le_of_ble_eq_true rfl) rfl (fun p e s m args below meth c C hr hlocks hP ls hl => ?_)
  have hx := C.1
  have hb := C.2.1
  have hl : lv_has ls 1 [(0, .int a1)] := hl
  have hS : va_S (g_A G) s.heap s.heap [] := va_S.rf
  unfold f_X2_eastOf at h
  refine va_gets hx hb C.2.2.2.2.2.2.2.1 hS C.2.2.2.1 (C.2.2.2.2.1 _ mw_886) (fun _ h9 => h9) dX2_eastOf_0 ?_
  refine lv_iload_n hx hb dX2_eastOf_3 rfl (lv_at hl 0 rfl) ?_
  refine lv_bipush (v := 15) hx hb dX2_eastOf_4 (by decide) ?_
  refine lv_iand hx hb dX2_eastOf_6 ?_
  obtain ⟨g2, h⟩ := h_g h
  refine va_ti hx hb C.2.2.2.2.2.2.2.2.1 hS (vp_in_iff.mpr g2) rfl dX2_eastOf_7 ?_
  exact ret_i C hr hlocks hP hS h dX2_eastOf_8
set_option maxHeartbeats 4000000 in
set_option maxRecDepth 100000 in
theorem c_X2_northOf {l : Launch} {G : GT} {lam : Lm} {σ : St} {a1 : Int32} {q : Int32 × St} (h : f_X2_northOf σ a1 = some q) : Met l yX2_northOf (Cond.code yX2_northOf cX2_northOf 1 ((some .int)) :: TB) ({ frames := 0, cells := 0, slots := 0, locals := 0 } : Room) (va_Pc [.int a1] (GW G lam σ)) (Ri q G lam) 0 0 (g_A G) := by
  refine mk_Qi (own := RX2) (by decide) (Nat.le_of_ble_eq_true rfl) rfl (fun p e s m args below meth c C hr hlocks hP ls hl => ?_)
  have hx := C.1
  have hb := C.2.1
  have hl : lv_has ls 1 [(0, .int a1)] := hl
  have hS : va_S (g_A G) s.heap s.heap [] := va_S.rf
  unfold f_X2_northOf at h
  refine va_gets hx hb C.2.2.2.2.2.2.2.2.2.1 hS C.2.2.2.1 (C.2.2.2.2.1 _ mw_884) (fun _ h9 => h9) dX2_northOf_0 ?_
  refine lv_iload_n hx hb dX2_northOf_3 rfl (lv_at hl 0 rfl) ?_
  refine lv_bipush (v := 15) hx hb dX2_northOf_4 (by decide) ?_
  refine lv_iand hx hb dX2_northOf_6 ?_
  obtain ⟨g2, h⟩ := h_g h
  refine va_ti hx hb C.2.2.2.2.2.2.2.2.2.2.1 hS (vp_in_iff.mpr g2) rfl dX2_northOf_7 ?_
  exact ret_i C hr hlocks hP hS h dX2_northOf_8
set_option maxHeartbeats 4000000 in
set_option maxRecDepth 100000 in
theorem c_X8_noteKeel {l : Launch} {G : GT} {lam : Lm} {σ : St} {a1 : Int32} {q : St} (h : f_X8_noteKeel σ a1 = some q) : Met l yX8_noteKeel (Cond.code yX8_noteKeel cX8_noteKeel 2 none :: TB) ({ frames := 0, cells := 0, slots := 0, locals := 0 } : Room) (va_Pc [.ref (g_ad G 8), .int a1] (GW G lam σ)) (Rv q G lam) 0 0 (g_A G) := by
  refine mk_Qv (own := RX8) (by decide) (Nat.le_of_ble_eq_true rfl) rfl (fun p e s m args below meth c C hr hlocks hP ls hl => ?_)
  have hx := C.1
  have hb := C.2.1
  have hl : lv_has ls 2 [(0, .ref (g_ad G 8)), (1, .int a1)] := hl
  have J17 : ∀ (σ : St) (x1 : Int32) (H : Heap) (locs : List Loc) (ls : Array Slot), f_X8_noteKeel_p17 σ x1 = some q → va_P (g_D G) vwCl (allW G lam σ) H → va_S (g_A G) s.heap H locs → lv_has ls 2 [(0, .ref (g_ad G 8)), (1, .int x1)] → W p l e ({ frames := 0, cells := 0, slots := 0, locals := 0 } : Room) s m args below meth c H locs 0 0 (Qv q below args s G lam) (F0 m 17 ls []) := by
    intro σ x1 H locs ls h hP hS hl
    unfold f_X8_noteKeel_p17 at h
    refine lv_aload_n hx hb dX8_noteKeel_17 rfl (lv_at hl 0 rfl) ?_
    refine lv_iload_n hx hb dX8_noteKeel_18 rfl (lv_at hl 1 rfl) ?_
    refine pf_X8_42_8 C hP hS dX8_noteKeel_19 (fun H locs hP hS => ?_)
    obtain ⟨σ7, e8, h⟩ := bnd h
    have hP := hPn e8 hP
    refine lv_aload_n hx hb dX8_noteKeel_22 rfl (lv_at hl 0 rfl) ?_
    refine lv_aload_n hx hb dX8_noteKeel_23 rfl (lv_at hl 0 rfl) ?_
    refine gf_X8_20_8 C hP dX8_noteKeel_24 ?_
    refine pf_X8_45_8 C hP hS dX8_noteKeel_27 (fun H locs hP hS => ?_)
    obtain ⟨σ9, e10, h⟩ := bnd h
    have hP := hPn e10 hP
    exact ret_v C hr hlocks hP hS h dX8_noteKeel_30
  have hS : va_S (g_A G) s.heap s.heap [] := va_S.rf
  unfold f_X8_noteKeel at h
  obtain ⟨H, hH⟩ : ∃ H, H = s.heap := ⟨_, rfl⟩
  obtain ⟨locs, hlo⟩ : ∃ k : List Loc, k = [] := ⟨_, rfl⟩
  rw [← hH, ← hlo]
  rw [← hH] at hP
  replace hS : va_S (g_A G) s.heap H locs := by rw [hH, hlo]; exact hS
  refine lv_aload_n hx hb dX8_noteKeel_0 rfl (lv_at hl 0 rfl) ?_
  refine gf_X8_45_8 C hP dX8_noteKeel_1 ?_
  refine lv_ldc hx hb C.2.2.2.1 (C.2.2.2.2.1 _ mw_198) dX8_noteKeel_4 ?_
  refine lv_icmp_eq (tgt := 17) hx hb dX8_noteKeel_6 (by decide) (fun c11 => ?_) (fun c11 => ?_)
  · replace h := h_t c11 h
    exact J17 _ _ H locs ls h hP hS (lv_sub hl [0, 1] rfl)
  · replace h := h_f c11 h
    refine lv_iload_n hx hb dX8_noteKeel_9 rfl (lv_at hl 1 rfl) ?_
    refine lv_aload_n hx hb dX8_noteKeel_10 rfl (lv_at hl 0 rfl) ?_
    refine gf_X8_42_8 C hP dX8_noteKeel_11 ?_
    refine lv_icmp_ge (tgt := 30) hx hb dX8_noteKeel_14 (by decide) (fun c12 => ?_) (fun c12 => ?_)
    · replace h := h_t c12 h
      exact ret_v C hr hlocks hP hS h dX8_noteKeel_30
    · replace h := h_f c12 h
      exact J17 _ _ H locs ls h hP hS (lv_sub hl [0, 1] rfl)
set_option maxHeartbeats 4000000 in
set_option maxRecDepth 100000 in
theorem c_X9_isAbeam {l : Launch} {G : GT} {lam : Lm} {σ : St} {a1 : Int32} {a2 : Int32} {a3 : Int32} {q : Int32 × St} (h : f_X9_isAbeam σ a1 a2 a3 = some q) : Met l yX9_isAbeam (Cond.code yX9_isAbeam cX9_isAbeam 6 ((some .boolean)) :: TB) ({ frames := 2, cells := 0, slots := 0, locals := 45 } : Room) (va_Pc [.ref (g_ad G 12), .int a1, .int a2, .int a3] (GW G lam σ)) (Ri q G lam) 0 0 (g_A G) := by
  refine mk_Qi (own := RX9) (by decide) (Nat.le_of_ble_eq_true rfl) rfl (fun p e s m args below meth c C hr hlocks hP ls hl => ?_)
  have hx := C.1
  have hb := C.2.1
  have hl : lv_has ls 6 [(0, .ref (g_ad G 12)), (1, .int a1), (2, .int a2), (3, .int a3)] := hl
  have hS : va_S (g_A G) s.heap s.heap [] := va_S.rf
  unfold f_X9_isAbeam at h
  refine lv_aload_n hx hb dX9_isAbeam_0 rfl (lv_at hl 0 rfl) ?_
  refine gf_X9_38_12 C hP dX9_isAbeam_1 ?_
  refine lv_aload_n hx hb dX9_isAbeam_4 rfl (lv_at hl 0 rfl) ?_
  refine gf_X9_18_12 C hP dX9_isAbeam_5 ?_
  refine lv_iload_n hx hb dX9_isAbeam_8 rfl (lv_at hl 3 rfl) ?_
  obtain ⟨q10, e11, h⟩ := bnd h
  refine call_i C hP hS (c_X1_markX e11) mi_X1_markX mw_970 7 (by decide) rfl rfl ⟨Nat.le_of_ble_eq_true rfl, Nat.le_of_ble_eq_true rfl⟩ (As := [.int (σ 12 4), .int a3]) rfl hl.1 rfl (lv_room (Nat.le_of_ble_eq_true rfl)) dX9_isAbeam_9 (fun H locs hP hS => ?_)
  refine lv_iload_n hx hb dX9_isAbeam_12 rfl (lv_at hl 1 rfl) ?_
  refine lv_isub hx hb dX9_isAbeam_13 ?_
  obtain ⟨y12, e13, h⟩ := bnd h
  refine r_nm e13 ?_
  refine lv_istore (lv' := [(4, .int y12), (0, .ref (g_ad G 12)), (1, .int a1), (2, .int a2), (3, .int a3)]) hx hb dX9_isAbeam_14 hl (by decide) rfl (fun ls hl => ?_)
  refine lv_aload_n hx hb dX9_isAbeam_16 rfl (lv_at hl 1 rfl) ?_
  refine gf_X9_34_12 C hP dX9_isAbeam_17 ?_
  refine lv_aload_n hx hb dX9_isAbeam_20 rfl (lv_at hl 1 rfl) ?_
  refine gf_X9_18_12 C hP dX9_isAbeam_21 ?_
  refine lv_iconst (v := 2) hx hb dX9_isAbeam_24 (by decide) ?_
  obtain ⟨q14, e15, h⟩ := bnd h
  refine call_i C hP hS (c_X6_thingCell_2 e15) mi_X6_thingCell mw_955 2 (by decide) rfl rfl ⟨Nat.le_of_ble_eq_true rfl, Nat.le_of_ble_eq_true rfl⟩ (As := [.int (q10.2 12 4), .int 2]) rfl hl.1 rfl (lv_room (Nat.le_of_ble_eq_true rfl)) dX9_isAbeam_25 (fun H locs hP hS => ?_)
  refine lv_iload_n hx hb dX9_isAbeam_28 rfl (lv_at hl 3 rfl) ?_
  refine lv_isub hx hb dX9_isAbeam_29 ?_
  obtain ⟨y16, e17, h⟩ := bnd h
  refine r_nm e17 ?_
  refine lv_istore (lv' := [(5, .int y16), (4, .int y12), (0, .ref (g_ad G 12)), (1, .int a1), (2, .int a2), (3, .int a3)]) hx hb dX9_isAbeam_30 hl (by decide) rfl (fun ls hl => ?_)
  refine lv_aload_n hx hb dX9_isAbeam_32 rfl (lv_at hl 2 rfl) ?_
  refine gf_X9_24_12 C hP dX9_isAbeam_33 ?_
  obtain ⟨q18, e19, h⟩ := bnd h
  refine scall_i C hP hS (c_X2_eastOf e19) ms_X2_eastOf mw_991 ⟨Nat.le_of_ble_eq_true rfl, Nat.le_of_ble_eq_true rfl⟩ (As := [.int (q14.2 12 6)]) rfl hl.1 rfl (lv_room (Nat.le_of_ble_eq_true rfl)) dX9_isAbeam_36 (fun H locs hP hS => ?_)
  refine lv_iload hx hb dX9_isAbeam_39 (lv_at hl 1 rfl) ?_
  refine lv_imul hx hb dX9_isAbeam_41 ?_
  refine lv_aload_n hx hb dX9_isAbeam_42 rfl (lv_at hl 2 rfl) ?_
  refine gf_X9_24_12 C hP dX9_isAbeam_43 ?_
  obtain ⟨q20, e21, h⟩ := bnd h
  refine scall_i C hP hS (c_X2_northOf e21) ms_X2_northOf mw_992 ⟨Nat.le_of_ble_eq_true rfl, Nat.le_of_ble_eq_true rfl⟩ (As := [.int (q18.2 12 6)]) rfl hl.1 rfl (lv_room (Nat.le_of_ble_eq_true rfl)) dX9_isAbeam_46 (fun H locs hP hS => ?_)
  refine lv_iload hx hb dX9_isAbeam_49 (lv_at hl 0 rfl) ?_
  refine lv_imul hx hb dX9_isAbeam_51 ?_
  refine lv_iadd hx hb dX9_isAbeam_52 ?_
  refine lv_if_gt (tgt := 60) hx hb dX9_isAbeam_53 (by decide) (fun c22 => ?_) (fun c22 => ?_)
  · replace h := h_t c22 h
    refine lv_iconst (v := 0) hx hb dX9_isAbeam_60 (by decide) ?_
    exact ret_z C hr hlocks hP hS h (Or.inl rfl) dX9_isAbeam_61
  · replace h := h_f c22 h
    refine lv_iconst (v := 1) hx hb dX9_isAbeam_56 (by decide) ?_
    refine lv_goto (tgt := 61) hx hb dX9_isAbeam_57 (by decide) ?_
    exact ret_z C hr hlocks hP hS h (Or.inr rfl) dX9_isAbeam_61
set_option maxHeartbeats 4000000 in
set_option maxRecDepth 100000 in
theorem c_X9_isCrossed {l : Launch} {G : GT} {lam : Lm} {σ : St} {a1 : Int32} {q : Int32 × St} (h : f_X9_isCrossed σ a1 = some q) : Met l yX9_isCrossed (Cond.code yX9_isCrossed cX9_isCrossed 2 ((some .boolean)) :: TB) ({ frames := 0, cells := 0, slots := 0, locals := 0 } : Room) (va_Pc [.ref (g_ad G 12), .int a1] (GW G lam σ)) (Ri q G lam) 0 0 (g_A G) := by
  refine mk_Qi (own := RX9) (by decide) (Nat.le_of_ble_eq_true rfl) rfl (fun p e s m args below meth c C hr hlocks hP ls hl => ?_)
  have hx := C.1
  have hb := C.2.1
  have hl : lv_has ls 2 [(0, .ref (g_ad G 12)), (1, .int a1)] := hl
  have J15 : ∀ (σ : St) (x1 : Int32) (H : Heap) (locs : List Loc) (ls : Array Slot), f_X9_isCrossed_p15 σ x1 = some q → va_P (g_D G) vwCl (allW G lam σ) H → va_S (g_A G) s.heap H locs → lv_has ls 2 [(0, .ref (g_ad G 12)), (1, .int x1)] → W p l e ({ frames := 0, cells := 0, slots := 0, locals := 0 } : Room) s m args below meth c H locs 0 0 (Qi q below args s G lam) (F0 m 15 ls []) := by
    intro σ x1 H locs ls h hP hS hl
    unfold f_X9_isCrossed_p15 at h
    refine lv_iload_n hx hb dX9_isCrossed_15 rfl (lv_at hl 1 rfl) ?_
    refine lv_if_le (tgt := 30) hx hb dX9_isCrossed_16 (by decide) (fun c6 => ?_) (fun c6 => ?_)
    · replace h := h_t c6 h
      refine lv_iconst (v := 0) hx hb dX9_isCrossed_30 (by decide) ?_
      exact ret_z C hr hlocks hP hS h (Or.inl rfl) dX9_isCrossed_31
    · replace h := h_f c6 h
      refine lv_aload_n hx hb dX9_isCrossed_19 rfl (lv_at hl 0 rfl) ?_
      refine gf_X9_31_12 C hP dX9_isCrossed_20 ?_
      refine lv_if_ge (tgt := 30) hx hb dX9_isCrossed_23 (by decide) (fun c7 => ?_) (fun c7 => ?_)
      · replace h := h_t c7 h
        refine lv_iconst (v := 0) hx hb dX9_isCrossed_30 (by decide) ?_
        exact ret_z C hr hlocks hP hS h (Or.inl rfl) dX9_isCrossed_31
      · replace h := h_f c7 h
        refine lv_iconst (v := 1) hx hb dX9_isCrossed_26 (by decide) ?_
        refine lv_goto (tgt := 31) hx hb dX9_isCrossed_27 (by decide) ?_
        exact ret_z C hr hlocks hP hS h (Or.inr rfl) dX9_isCrossed_31
  have hS : va_S (g_A G) s.heap s.heap [] := va_S.rf
  unfold f_X9_isCrossed at h
  obtain ⟨H, hH⟩ : ∃ H, H = s.heap := ⟨_, rfl⟩
  obtain ⟨locs, hlo⟩ : ∃ k : List Loc, k = [] := ⟨_, rfl⟩
  rw [← hH, ← hlo]
  rw [← hH] at hP
  replace hS : va_S (g_A G) s.heap H locs := by rw [hH, hlo]; exact hS
  refine lv_iload_n hx hb dX9_isCrossed_0 rfl (lv_at hl 1 rfl) ?_
  refine lv_if_eq (tgt := 26) hx hb dX9_isCrossed_1 (by decide) (fun c8 => ?_) (fun c8 => ?_)
  · replace h := h_t c8 h
    refine lv_iconst (v := 1) hx hb dX9_isCrossed_26 (by decide) ?_
    refine lv_goto (tgt := 31) hx hb dX9_isCrossed_27 (by decide) ?_
    exact ret_z C hr hlocks hP hS h (Or.inr rfl) dX9_isCrossed_31
  · replace h := h_f c8 h
    refine lv_iload_n hx hb dX9_isCrossed_4 rfl (lv_at hl 1 rfl) ?_
    refine lv_if_ge (tgt := 15) hx hb dX9_isCrossed_5 (by decide) (fun c9 => ?_) (fun c9 => ?_)
    · replace h := h_t c9 h
      exact J15 _ _ H locs ls h hP hS (lv_sub hl [0, 1] rfl)
    · replace h := h_f c9 h
      refine lv_aload_n hx hb dX9_isCrossed_8 rfl (lv_at hl 0 rfl) ?_
      refine gf_X9_31_12 C hP dX9_isCrossed_9 ?_
      refine lv_if_gt (tgt := 26) hx hb dX9_isCrossed_12 (by decide) (fun c10 => ?_) (fun c10 => ?_)
      · replace h := h_t c10 h
        refine lv_iconst (v := 1) hx hb dX9_isCrossed_26 (by decide) ?_
        refine lv_goto (tgt := 31) hx hb dX9_isCrossed_27 (by decide) ?_
        exact ret_z C hr hlocks hP hS h (Or.inr rfl) dX9_isCrossed_31
      · replace h := h_f c10 h
        exact J15 _ _ H locs ls h hP hS (lv_sub hl [0, 1] rfl)
