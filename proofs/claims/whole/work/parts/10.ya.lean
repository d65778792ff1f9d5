def w_X5_in (xp0 : Int32) (xp1 : Int32) (xp2 : Int32) (u : Mem) (post : Int32 → Mem → Prop) : Prop := (xp0 < xp1 → (post 0 u)) ∧ (¬ xp0 < xp1 → ((xp2 < xp0 → (post 0 u)) ∧ (¬ xp2 < xp0 → (post 1 u))))
abbrev rm_X5_in : Room := { frames := 0, cells := 0, slots := 0, locals := 0 }
theorem hd_X5_in : yX5_in.cls ≠ "java/lang/invoke/MethodHandle" ∧ yX5_in.cls ≠ "java/lang/invoke/VarHandle" ∧ (parseMethodDescriptor yX5_in.desc).map (fun d => d.parameters.length) = some 3 := by decide +kernel
set_option maxHeartbeats 4000000 in
set_option maxRecDepth 100000 in
theorem c_X5_in (l : Launch) (D : va_G) (cA : ClassId) (b : Nat → Nat) (u : Mem) (xp0 xp1 xp2 : Int32) (post : Int32 → Mem → Prop) (h : w_X5_in xp0 xp1 xp2 u post) : g_Mi l yX5_in (Cond.code yX5_in cX5_in 3 (some .boolean) :: tT) rm_X5_in D cA (Yw cA b) u [.int xp0, .int xp1, .int xp2] post := by
  refine g_enter_z (by decide) (Yw_adr cA b) (Nat.le_of_ble_eq_true rfl) ?_
  intro p e s m args below meth c A Q S hml hK hA hret ls hl hW
  have hx := S.1
  have hb := S.2.1
  have hl : lv_has ls 3 [(0, .int xp0), (1, .int xp1), (2, .int xp2)] := hl
  skip
  refine lv_iload_n hx hb dX5_in_0 rfl (lv_at hl 0 rfl) ?_
  refine lv_iload_n hx hb dX5_in_1 rfl (lv_at hl 1 rfl) ?_
  refine lv_icmp_lt (tgt := 14) hx hb dX5_in_2 (by decide) (fun c1 => ?_) (fun c1 => ?_)
  · have h := h.1 c1
    refine lv_iconst (v := 0) hx hb dX5_in_14 (by decide) ?_
    exact hret _ _ _ _ _ _ dX5_in_15 hW (Or.inl rfl) h
  · have h := h.2 c1
    refine lv_iload_n hx hb dX5_in_5 rfl (lv_at hl 0 rfl) ?_
    refine lv_iload_n hx hb dX5_in_6 rfl (lv_at hl 2 rfl) ?_
    refine lv_icmp_gt (tgt := 14) hx hb dX5_in_7 (by decide) (fun c2 => ?_) (fun c2 => ?_)
    · have h := h.1 c2
      refine lv_iconst (v := 0) hx hb dX5_in_14 (by decide) ?_
      exact hret _ _ _ _ _ _ dX5_in_15 hW (Or.inl rfl) h
    · have h := h.2 c2
      refine lv_iconst (v := 1) hx hb dX5_in_10 (by decide) ?_
      refine lv_goto (tgt := 15) hx hb dX5_in_11 (by decide) ?_
      exact hret _ _ _ _ _ _ dX5_in_15 hW (Or.inr rfl) h
def w_X5_isLeaf (xp0 : Int32) (u : Mem) (post : Int32 → Mem → Prop) : Prop := w_X5_in xp0 0 31 u (fun x2 u1 => bz x2 ∧ post x2 u1)
abbrev rm_X5_isLeaf : Room := { frames := 1, cells := 0, slots := 0, locals := 22 }
theorem hd_X5_isLeaf : yX5_isLeaf.cls ≠ "java/lang/invoke/MethodHandle" ∧ yX5_isLeaf.cls ≠ "java/lang/invoke/VarHandle" ∧ (parseMethodDescriptor yX5_isLeaf.desc).map (fun d => d.parameters.length) = some 1 := by decide +kernel
set_option maxHeartbeats 4000000 in
set_option maxRecDepth 100000 in
theorem c_X5_isLeaf (l : Launch) (D : va_G) (cA : ClassId) (b : Nat → Nat) (u : Mem) (xp0 : Int32) (post : Int32 → Mem → Prop) (h : w_X5_isLeaf xp0 u post) : g_Mi l yX5_isLeaf (Cond.code yX5_isLeaf cX5_isLeaf 1 (some .boolean) :: tT) rm_X5_isLeaf D cA (Yw cA b) u [.int xp0] post := by
  refine g_enter_z (by decide) (Yw_adr cA b) (Nat.le_of_ble_eq_true rfl) ?_
  intro p e s m args below meth c A Q S hml hK hA hret ls hl hW
  have hx := S.1
  have hb := S.2.1
  have hl : lv_has ls 1 [(0, .int xp0)] := hl
  skip
  refine lv_iload_n hx hb dX5_isLeaf_0 rfl (lv_at hl 0 rfl) ?_
  refine lv_iconst (v := 0) hx hb dX5_isLeaf_1 (by decide) ?_
  refine lv_bipush (v := 31) hx hb dX5_isLeaf_2 (by decide) ?_
  refine g_cali (g_runS S hml hK hW (c_X5_in l D cA b u xp0 0 31 _ h _) kw_487 kw_488 kw_25 kw_489 hd_X5_in ⟨rfl, rfl, Nat.le_of_ble_eq_true rfl, Nat.le_of_ble_eq_true rfl⟩ (As := [.int xp0, .int 0, .int 31]) (rest := []) rfl rfl hl.1 (Nat.le_of_ble_eq_true rfl) dX5_isLeaf_4 ⟨Nat.zero_le _, Nat.zero_le _⟩) (Yw_adr cA b) hA hW (fun x2 u1 H locs h hW => ?_)
  exact hret _ _ _ _ _ _ dX5_isLeaf_7 hW h.1 h.2
def w_X5_write (xp1 : Int32) (xp2 : Int32) (xp3 : Int32) (u : Mem) (post : Int32 → Mem → Prop) : Prop := w_X5_isLeaf xp2 u (fun x2 u1 => (x2 = 0 → (post (-101) u1)) ∧ (¬ x2 = 0 → (w_X5_in xp1 0 999 u1 (fun x5 u4 => (x5 = 0 → (post (-102) u4)) ∧ (¬ x5 = 0 → (((u4 14 0) ≤ 0 → (((u4 14 0) = 60 → (post (-105) u4)) ∧ (¬ (u4 14 0) = 60 → (vp_in (u4 14 0) 60 ∧ nm (g_ms u4 3 ((u4 14 0) : Int32).toNatClampNeg xp1) fun u9 => vp_in (u9 14 0) 60 ∧ nm (g_ms u9 4 ((u9 14 0) : Int32).toNatClampNeg xp2) fun u10 => vp_in (u10 14 0) 60 ∧ nm (g_ms u10 5 ((u10 14 0) : Int32).toNatClampNeg xp3) fun u11 => nm ((u11 14 0) + (1 : Int32) : Int32) fun x12 => nm (g_ms u11 14 0 x12) fun u13 => post (u13 14 0) u13)))) ∧ (¬ (u4 14 0) ≤ 0 → (nm ((u4 14 0) - (1 : Int32) : Int32) fun x14 => vp_in x14 60 ∧ nm (u4 3 (x14 : Int32).toNatClampNeg) fun x15 => (x15 ≤ xp1 → (((u4 14 0) = 60 → (post (-105) u4)) ∧ (¬ (u4 14 0) = 60 → (vp_in (u4 14 0) 60 ∧ nm (g_ms u4 3 ((u4 14 0) : Int32).toNatClampNeg xp1) fun u18 => vp_in (u18 14 0) 60 ∧ nm (g_ms u18 4 ((u18 14 0) : Int32).toNatClampNeg xp2) fun u19 => vp_in (u19 14 0) 60 ∧ nm (g_ms u19 5 ((u19 14 0) : Int32).toNatClampNeg xp3) fun u20 => nm ((u20 14 0) + (1 : Int32) : Int32) fun x21 => nm (g_ms u20 14 0 x21) fun u22 => post (u22 14 0) u22)))) ∧ (¬ x15 ≤ xp1 → (post (-103) u4))))))))))
abbrev rm_X5_write : Room := { frames := 2, cells := 0, slots := 0, locals := 42 }
theorem hd_X5_write : yX5_write.cls ≠ "java/lang/invoke/MethodHandle" ∧ yX5_write.cls ≠ "java/lang/invoke/VarHandle" ∧ (parseMethodDescriptor yX5_write.desc).map (fun d => d.parameters.length) = some 3 := by decide +kernel
set_option maxHeartbeats 4000000 in
set_option maxRecDepth 100000 in
theorem c_X5_write (l : Launch) (D : va_G) (cA : ClassId) (b : Nat → Nat) (u : Mem) (xp1 xp2 xp3 : Int32) (post : Int32 → Mem → Prop) (h : w_X5_write xp1 xp2 xp3 u post) : g_Mi l yX5_write (Cond.code yX5_write cX5_write 4 (some .int) :: tT) rm_X5_write D cA (Yw cA b) u [.ref (b 0), .int xp1, .int xp2, .int xp3] post := by
  refine g_enter_i (by decide) (Yw_adr cA b) (Nat.le_of_ble_eq_true rfl) ?_
  intro p e s m args below meth c A Q S hml hK hA hret ls hl hW
  have hx := S.1
  have hb := S.2.1
  have hl : lv_has ls 4 [(0, .ref (b 0)), (1, .int xp1), (2, .int xp2), (3, .int xp3)] := hl
  skip
  refine lv_iload_n hx hb dX5_write_0 rfl (lv_at hl 2 rfl) ?_
  refine g_cali (g_runS S hml hK hW (c_X5_isLeaf l D cA b u xp2 _ h _) kw_484 kw_485 kw_25 kw_486 hd_X5_isLeaf ⟨rfl, rfl, Nat.le_of_ble_eq_true rfl, Nat.le_of_ble_eq_true rfl⟩ (As := [.int xp2]) (rest := []) rfl rfl hl.1 (Nat.le_of_ble_eq_true rfl) dX5_write_1 ⟨Nat.zero_le _, Nat.zero_le _⟩) (Yw_adr cA b) hA hW (fun x2 u1 H locs h hW => ?_)
  refine lv_if_ne (tgt := 10) hx hb dX5_write_4 (by decide) (fun c3 => ?_) (fun c3 => ?_)
  · have h := h.2 c3
    refine lv_iload_n hx hb dX5_write_10 rfl (lv_at hl 1 rfl) ?_
    refine lv_iconst (v := 0) hx hb dX5_write_11 (by decide) ?_
    refine lv_sipush (v := 999) hx hb dX5_write_12 (by decide) ?_
    refine g_cali (g_runS S hml hK hW (c_X5_in l D cA b u1 xp1 0 999 _ h _) kw_487 kw_488 kw_25 kw_489 hd_X5_in ⟨rfl, rfl, Nat.le_of_ble_eq_true rfl, Nat.le_of_ble_eq_true rfl⟩ (As := [.int xp1, .int 0, .int 999]) (rest := []) rfl rfl hl.1 (Nat.le_of_ble_eq_true rfl) dX5_write_15 ⟨Nat.zero_le _, Nat.zero_le _⟩) (Yw_adr cA b) hA hW (fun x5 u4 H locs h hW => ?_)
    refine lv_if_ne (tgt := 24) hx hb dX5_write_18 (by decide) (fun c6 => ?_) (fun c6 => ?_)
    · have h := h.2 c6
      refine lv_aload_n hx hb dX5_write_24 rfl (lv_at hl 0 rfl) ?_
      refine yg_0_4 S hK hW kw_429 dX5_write_25 ?_
      refine lv_if_le (tgt := 49) hx hb dX5_write_28 (by decide) (fun c7 => ?_) (fun c7 => ?_)
      · have h := h.1 c7
        refine lv_aload_n hx hb dX5_write_49 rfl (lv_at hl 0 rfl) ?_
        refine yg_0_4 S hK hW kw_429 dX5_write_50 ?_
        refine lv_bipush (v := 60) hx hb dX5_write_53 (by decide) ?_
        refine lv_icmp_ne (tgt := 61) hx hb dX5_write_55 (by decide) (fun c8 => ?_) (fun c8 => ?_)
        · have h := h.2 c8
          refine lv_aload_n hx hb dX5_write_61 rfl (lv_at hl 0 rfl) ?_
          refine yg_0_5 S hK hW kw_430 dX5_write_62 ?_
          refine lv_aload_n hx hb dX5_write_65 rfl (lv_at hl 0 rfl) ?_
          refine yg_0_4 S hK hW kw_429 dX5_write_66 ?_
          refine lv_iload_n hx hb dX5_write_69 rfl (lv_at hl 1 rfl) ?_
          obtain ⟨hin, h⟩ := h
          refine ys_3 S hK hW hin dX5_write_70 (fun u9 H locs eu9 hW => ?_)
          have h := nm_use eu9 h
          refine lv_aload_n hx hb dX5_write_71 rfl (lv_at hl 0 rfl) ?_
          refine yg_0_6 S hK hW kw_431 dX5_write_72 ?_
          refine lv_aload_n hx hb dX5_write_75 rfl (lv_at hl 0 rfl) ?_
          refine yg_0_4 S hK hW kw_429 dX5_write_76 ?_
          refine lv_iload_n hx hb dX5_write_79 rfl (lv_at hl 2 rfl) ?_
          obtain ⟨hin, h⟩ := h
          refine ys_4 S hK hW hin dX5_write_80 (fun u10 H locs eu10 hW => ?_)
          have h := nm_use eu10 h
          refine lv_aload_n hx hb dX5_write_81 rfl (lv_at hl 0 rfl) ?_
          refine yg_0_7 S hK hW kw_432 dX5_write_82 ?_
          refine lv_aload_n hx hb dX5_write_85 rfl (lv_at hl 0 rfl) ?_
          refine yg_0_4 S hK hW kw_429 dX5_write_86 ?_
          refine lv_iload_n hx hb dX5_write_89 rfl (lv_at hl 3 rfl) ?_
          obtain ⟨hin, h⟩ := h
          refine ys_5 S hK hW hin dX5_write_90 (fun u11 H locs eu11 hW => ?_)
          have h := nm_use eu11 h
          refine lv_aload_n hx hb dX5_write_91 rfl (lv_at hl 0 rfl) ?_
          refine lv_dup hx hb dX5_write_92 rfl ?_
          refine yg_0_4 S hK hW kw_429 dX5_write_93 ?_
          refine lv_iconst (v := 1) hx hb dX5_write_96 (by decide) ?_
          refine lv_iadd hx hb dX5_write_97 ?_
          refine lv_topi (fun x12 ex12 => ?_)
          have h := nm_use ex12 h
          refine yp_14 S hK hW kw_429 dX5_write_98 (fun u13 H locs eu13 hW => ?_)
          have h := nm_use eu13 h
          refine lv_aload_n hx hb dX5_write_101 rfl (lv_at hl 0 rfl) ?_
          refine yg_0_4 S hK hW kw_429 dX5_write_102 ?_
          exact hret _ _ _ _ _ _ dX5_write_105 hW h
        · have h := h.1 c8
          refine lv_bipush (v := (-105)) hx hb dX5_write_58 (by decide) ?_
          exact hret _ _ _ _ _ _ dX5_write_60 hW h
      · have h := h.2 c7
        refine lv_iload_n hx hb dX5_write_31 rfl (lv_at hl 1 rfl) ?_
        refine lv_aload_n hx hb dX5_write_32 rfl (lv_at hl 0 rfl) ?_
        refine yg_0_5 S hK hW kw_430 dX5_write_33 ?_
        refine lv_aload_n hx hb dX5_write_36 rfl (lv_at hl 0 rfl) ?_
        refine yg_0_4 S hK hW kw_429 dX5_write_37 ?_
        refine lv_iconst (v := 1) hx hb dX5_write_40 (by decide) ?_
        refine lv_isub hx hb dX5_write_41 ?_
        refine lv_topi (fun x14 ex14 => ?_)
        have h := nm_use ex14 h
        obtain ⟨hin, h⟩ := h
        refine yl_3 S hK hW hin dX5_write_42 (fun x15 ex15 => ?_)
        have h := nm_use ex15 h
        refine lv_icmp_ge (tgt := 49) hx hb dX5_write_43 (by decide) (fun c16 => ?_) (fun c16 => ?_)
        · have h := h.1 c16
          refine lv_aload_n hx hb dX5_write_49 rfl (lv_at hl 0 rfl) ?_
          refine yg_0_4 S hK hW kw_429 dX5_write_50 ?_
          refine lv_bipush (v := 60) hx hb dX5_write_53 (by decide) ?_
          refine lv_icmp_ne (tgt := 61) hx hb dX5_write_55 (by decide) (fun c17 => ?_) (fun c17 => ?_)
          · have h := h.2 c17
            refine lv_aload_n hx hb dX5_write_61 rfl (lv_at hl 0 rfl) ?_
            refine yg_0_5 S hK hW kw_430 dX5_write_62 ?_
            refine lv_aload_n hx hb dX5_write_65 rfl (lv_at hl 0 rfl) ?_
            refine yg_0_4 S hK hW kw_429 dX5_write_66 ?_
            refine lv_iload_n hx hb dX5_write_69 rfl (lv_at hl 1 rfl) ?_
            obtain ⟨hin, h⟩ := h
            refine ys_3 S hK hW hin dX5_write_70 (fun u18 H locs eu18 hW => ?_)
            have h := nm_use eu18 h
            refine lv_aload_n hx hb dX5_write_71 rfl (lv_at hl 0 rfl) ?_
            refine yg_0_6 S hK hW kw_431 dX5_write_72 ?_
            refine lv_aload_n hx hb dX5_write_75 rfl (lv_at hl 0 rfl) ?_
            refine yg_0_4 S hK hW kw_429 dX5_write_76 ?_
            refine lv_iload_n hx hb dX5_write_79 rfl (lv_at hl 2 rfl) ?_
            obtain ⟨hin, h⟩ := h
            refine ys_4 S hK hW hin dX5_write_80 (fun u19 H locs eu19 hW => ?_)
            have h := nm_use eu19 h
            refine lv_aload_n hx hb dX5_write_81 rfl (lv_at hl 0 rfl) ?_
            refine yg_0_7 S hK hW kw_432 dX5_write_82 ?_
            refine lv_aload_n hx hb dX5_write_85 rfl (lv_at hl 0 rfl) ?_
            refine yg_0_4 S hK hW kw_429 dX5_write_86 ?_
            refine lv_iload_n hx hb dX5_write_89 rfl (lv_at hl 3 rfl) ?_
            obtain ⟨hin, h⟩ := h
            refine ys_5 S hK hW hin dX5_write_90 (fun u20 H locs eu20 hW => ?_)
            have h := nm_use eu20 h
            refine lv_aload_n hx hb dX5_write_91 rfl (lv_at hl 0 rfl) ?_
            refine lv_dup hx hb dX5_write_92 rfl ?_
            refine yg_0_4 S hK hW kw_429 dX5_write_93 ?_
            refine lv_iconst (v := 1) hx hb dX5_write_96 (by decide) ?_
            refine lv_iadd hx hb dX5_write_97 ?_
            refine lv_topi (fun x21 ex21 => ?_)
            have h := nm_use ex21 h
            refine yp_14 S hK hW kw_429 dX5_write_98 (fun u22 H locs eu22 hW => ?_)
            have h := nm_use eu22 h
            refine lv_aload_n hx hb dX5_write_101 rfl (lv_at hl 0 rfl) ?_
            refine yg_0_4 S hK hW kw_429 dX5_write_102 ?_
            exact hret _ _ _ _ _ _ dX5_write_105 hW h
          · have h := h.1 c17
            refine lv_bipush (v := (-105)) hx hb dX5_write_58 (by decide) ?_
            exact hret _ _ _ _ _ _ dX5_write_60 hW h
        · have h := h.2 c16
          refine lv_bipush (v := (-103)) hx hb dX5_write_46 (by decide) ?_
          exact hret _ _ _ _ _ _ dX5_write_48 hW h
    · have h := h.1 c6
      refine lv_bipush (v := (-102)) hx hb dX5_write_21 (by decide) ?_
      exact hret _ _ _ _ _ _ dX5_write_23 hW h
  · have h := h.1 c3
    refine lv_bipush (v := (-101)) hx hb dX5_write_7 (by decide) ?_
    exact hret _ _ _ _ _ _ dX5_write_9 hW h
def L_X5_lastOf_4 (f1_4 : Int32) (post : Int32 → Mem → Prop) (K : Int32 → Int32 → Mem → Prop) : Nat → Int32 → Int32 → Mem → Prop
  | 0, _, _, _ => False
  | n_4 + 1, y2_4, y3_4, u_4 => ((u_4 14 0) ≤ y3_4 → (K y2_4 y3_4 u_4)) ∧ (¬ (u_4 14 0) ≤ y3_4 → (vp_in y3_4 60 ∧ nm (u_4 4 (y3_4 : Int32).toNatClampNeg) fun x2 => (x2 = f1_4 → (nm (y3_4 + 1) fun x5 => L_X5_lastOf_4 f1_4 post K n_4 y3_4 x5 u_4)) ∧ (¬ x2 = f1_4 → (nm (y3_4 + 1) fun x4 => L_X5_lastOf_4 f1_4 post K n_4 y2_4 x4 u_4))))
def w_X5_lastOf (xp1 : Int32) (u : Mem) (post : Int32 → Mem → Prop) : Prop := ∃ n_4, L_X5_lastOf_4 xp1 post (fun w2_4 w3_4 v_4 => post w2_4 v_4) n_4 (-1) 0 u
abbrev rm_X5_lastOf : Room := { frames := 0, cells := 0, slots := 0, locals := 0 }
theorem hd_X5_lastOf : yX5_lastOf.cls ≠ "java/lang/invoke/MethodHandle" ∧ yX5_lastOf.cls ≠ "java/lang/invoke/VarHandle" ∧ (parseMethodDescriptor yX5_lastOf.desc).map (fun d => d.parameters.length) = some 1 := by decide +kernel
set_option maxHeartbeats 4000000 in
set_option maxRecDepth 100000 in
theorem c_X5_lastOf (l : Launch) (D : va_G) (cA : ClassId) (b : Nat → Nat) (u : Mem) (xp1 : Int32) (post : Int32 → Mem → Prop) (h : w_X5_lastOf xp1 u post) : g_Mi l yX5_lastOf (Cond.code yX5_lastOf cX5_lastOf 4 (some .int) :: tT) rm_X5_lastOf D cA (Yw cA b) u [.ref (b 0), .int xp1] post := by
  refine g_enter_i (by decide) (Yw_adr cA b) (Nat.le_of_ble_eq_true rfl) ?_
  intro p e s m args below meth c A Q S hml hK hA hret ls hl hW
  have hx := S.1
  have hb := S.2.1
  have hl : lv_has ls 4 [(0, .ref (b 0)), (1, .int xp1)] := hl
  skip
  refine lv_iconst (v := (-1)) hx hb dX5_lastOf_0 (by decide) ?_
  refine lv_istore_n (lv' := [(2, .int (-1)), (0, .ref (b 0)), (1, .int xp1)]) hx hb dX5_lastOf_1 rfl hl (by decide) rfl (fun ls hl => ?_)
  refine lv_iconst (v := 0) hx hb dX5_lastOf_2 (by decide) ?_
  refine lv_istore_n (lv' := [(3, .int 0), (2, .int (-1)), (0, .ref (b 0)), (1, .int xp1)]) hx hb dX5_lastOf_3 rfl hl (by decide) rfl (fun ls hl => ?_)
  have loop_4 : ∀ (K : Int32 → Int32 → Mem → Prop), (∀ (w2_4 w3_4 : Int32) (v_4 : Mem) (H : Heap) (locs : List Loc) (ls : Array Slot), K w2_4 w3_4 v_4 → g_W D (Yw cA b) A s.heap v_4 H locs → lv_has ls 4 [(0, .ref (b 0)), (1, .int xp1), (2, .int w2_4), (3, .int w3_4)] → W p l e rm_X5_lastOf s m args below meth c H locs 0 0 Q (F0 m 34 ls [])) → ∀ (n : Nat) (y2_4 y3_4 : Int32) (u_4 : Mem) (H : Heap) (locs : List Loc) (ls : Array Slot), L_X5_lastOf_4 xp1 post K n y2_4 y3_4 u_4 → g_W D (Yw cA b) A s.heap u_4 H locs → lv_has ls 4 [(0, .ref (b 0)), (1, .int xp1), (2, .int y2_4), (3, .int y3_4)] → W p l e rm_X5_lastOf s m args below meth c H locs 0 0 Q (F0 m 4 ls []) := by
    intro K hE n
    induction n with
    | zero => intro y2_4 y3_4 u_4 H locs ls h; exact False.elim h
    | succ n ih =>
      intro y2_4 y3_4 u_4 H locs ls h hW hl
      refine lv_iload_n hx hb dX5_lastOf_4 rfl (lv_at hl 3 rfl) ?_
      refine lv_aload_n hx hb dX5_lastOf_5 rfl (lv_at hl 0 rfl) ?_
      refine yg_0_4 S hK hW kw_429 dX5_lastOf_6 ?_
      refine lv_icmp_ge (tgt := 34) hx hb dX5_lastOf_9 (by decide) (fun c6 => ?_) (fun c6 => ?_)
      · have h := h.1 c6
        exact hE y2_4 y3_4 u_4 _ _ _ h hW (lv_sub hl [0, 1, 2, 3] rfl)
      · have h := h.2 c6
        refine lv_aload_n hx hb dX5_lastOf_12 rfl (lv_at hl 0 rfl) ?_
        refine yg_0_6 S hK hW kw_431 dX5_lastOf_13 ?_
        refine lv_iload_n hx hb dX5_lastOf_16 rfl (lv_at hl 3 rfl) ?_
        obtain ⟨hin, h⟩ := h
        refine yl_4 S hK hW hin dX5_lastOf_17 (fun x7 ex7 => ?_)
        have h := nm_use ex7 h
        refine lv_iload_n hx hb dX5_lastOf_18 rfl (lv_at hl 1 rfl) ?_
        refine lv_icmp_ne (tgt := 26) hx hb dX5_lastOf_19 (by decide) (fun c8 => ?_) (fun c8 => ?_)
        · have h := h.2 c8
          refine lv_iload_n hx hb dX5_lastOf_26 rfl (lv_at hl 2 rfl) ?_
          refine lv_istore_n (lv' := [(2, .int y2_4), (0, .ref (b 0)), (1, .int xp1), (3, .int y3_4)]) hx hb dX5_lastOf_27 rfl hl (by decide) rfl (fun ls hl => ?_)
          obtain ⟨x9, ex9⟩ : ∃ z : Int32, z = y3_4 + 1 := ⟨_, rfl⟩
          have h := nm_use ex9 h
          refine lv_iinc (v := x9) (lv' := [(3, .int x9), (2, .int y2_4), (0, .ref (b 0)), (1, .int xp1)]) hx hb dX5_lastOf_28 hl (k := 3) rfl (by rw [ex9]; rfl) (by decide) rfl (fun ls hl => ?_)
          refine lv_goto (tgt := 4) hx hb dX5_lastOf_31 (by decide) ?_
          exact ih y2_4 x9 u_4 _ _ _ h hW (lv_sub hl [2, 3, 1, 0] rfl)
        · have h := h.1 c8
          refine lv_iload_n hx hb dX5_lastOf_22 rfl (lv_at hl 3 rfl) ?_
          refine lv_goto (tgt := 27) hx hb dX5_lastOf_23 (by decide) ?_
          refine lv_istore_n (lv' := [(2, .int y3_4), (0, .ref (b 0)), (1, .int xp1), (3, .int y3_4)]) hx hb dX5_lastOf_27 rfl hl (by decide) rfl (fun ls hl => ?_)
          obtain ⟨x10, ex10⟩ : ∃ z : Int32, z = y3_4 + 1 := ⟨_, rfl⟩
          have h := nm_use ex10 h
          refine lv_iinc (v := x10) (lv' := [(3, .int x10), (2, .int y3_4), (0, .ref (b 0)), (1, .int xp1)]) hx hb dX5_lastOf_28 hl (k := 3) rfl (by rw [ex10]; rfl) (by decide) rfl (fun ls hl => ?_)
          refine lv_goto (tgt := 4) hx hb dX5_lastOf_31 (by decide) ?_
          exact ih y3_4 x10 u_4 _ _ _ h hW (lv_sub hl [2, 3, 1, 0] rfl)
  obtain ⟨n_4, h⟩ := h
  refine loop_4 _ ?_ n_4 (-1) 0 u _ _ _ h hW (lv_sub hl [2, 3, 1, 0] rfl)
  intro w2_4 w3_4 v_4 H locs ls h hW hl
  refine lv_iload_n hx hb dX5_lastOf_34 rfl (lv_at hl 2 rfl) ?_
  exact hret _ _ _ _ _ _ dX5_lastOf_35 hW h
def w_X5_nowOf (xp1 : Int32) (u : Mem) (post : Int32 → Mem → Prop) : Prop := w_X5_lastOf xp1 u (fun x2 u1 => (0 ≤ x2 → (vp_in x2 60 ∧ nm (u1 5 (x2 : Int32).toNatClampNeg) fun x4 => post x4 u1)) ∧ (¬ 0 ≤ x2 → (nm ((32 : Int32) * (u1 13 0) : Int32) fun x5 => nm (x5 + xp1 : Int32) fun x6 => vp_in x6 6432 ∧ nm (u1 0 (x6 : Int32).toNatClampNeg) fun x7 => post x7 u1)))
abbrev rm_X5_nowOf : Room := { frames := 1, cells := 0, slots := 0, locals := 23 }
theorem hd_X5_nowOf : yX5_nowOf.cls ≠ "java/lang/invoke/MethodHandle" ∧ yX5_nowOf.cls ≠ "java/lang/invoke/VarHandle" ∧ (parseMethodDescriptor yX5_nowOf.desc).map (fun d => d.parameters.length) = some 1 := by decide +kernel
set_option maxHeartbeats 4000000 in
set_option maxRecDepth 100000 in
theorem c_X5_nowOf (l : Launch) (D : va_G) (cA : ClassId) (b : Nat → Nat) (u : Mem) (xp1 : Int32) (post : Int32 → Mem → Prop) (h : w_X5_nowOf xp1 u post) : g_Mi l yX5_nowOf (Cond.code yX5_nowOf cX5_nowOf 3 (some .int) :: tT) rm_X5_nowOf D cA (Yw cA b) u [.ref (b 0), .int xp1] post := by
  refine g_enter_i (by decide) (Yw_adr cA b) (Nat.le_of_ble_eq_true rfl) ?_
  intro p e s m args below meth c A Q S hml hK hA hret ls hl hW
  have hx := S.1
  have hb := S.2.1
  have hl : lv_has ls 3 [(0, .ref (b 0)), (1, .int xp1)] := hl
  skip
  refine lv_aload_n hx hb dX5_nowOf_0 rfl (lv_at hl 0 rfl) ?_
  refine lv_iload_n hx hb dX5_nowOf_1 rfl (lv_at hl 1 rfl) ?_
  refine g_cali (g_runV S hml hK hW (c_X5_lastOf l D cA b u xp1 _ h _) kw_498 kw_500 kw_9 kw_25 kw_501 hd_X5_lastOf ⟨rfl, rfl, Nat.le_of_ble_eq_true rfl, Nat.le_of_ble_eq_true rfl⟩ (q0 := 0) rfl rfl (As := [.int xp1]) (rest := []) rfl rfl hl.1 (Nat.le_of_ble_eq_true rfl) dX5_nowOf_2 ⟨Nat.zero_le _, Nat.zero_le _⟩) (Yw_adr cA b) hA hW (fun x2 u1 H locs h hW => ?_)
  refine lv_istore_n (lv' := [(2, .int x2), (0, .ref (b 0)), (1, .int xp1)]) hx hb dX5_nowOf_5 rfl hl (by decide) rfl (fun ls hl => ?_)
  refine lv_iload_n hx hb dX5_nowOf_6 rfl (lv_at hl 0 rfl) ?_
  refine lv_if_ge (tgt := 27) hx hb dX5_nowOf_7 (by decide) (fun c3 => ?_) (fun c3 => ?_)
  · have h := h.1 c3
    refine lv_aload_n hx hb dX5_nowOf_27 rfl (lv_at hl 1 rfl) ?_
    refine yg_0_7 S hK hW kw_432 dX5_nowOf_28 ?_
    refine lv_iload_n hx hb dX5_nowOf_31 rfl (lv_at hl 0 rfl) ?_
    obtain ⟨hin, h⟩ := h
    refine yl_5 S hK hW hin dX5_nowOf_32 (fun x4 ex4 => ?_)
    have h := nm_use ex4 h
    exact hret _ _ _ _ _ _ dX5_nowOf_33 hW h
  · have h := h.2 c3
    refine lv_aload_n hx hb dX5_nowOf_10 rfl (lv_at hl 1 rfl) ?_
    refine yg_0_1 S hK hW kw_426 dX5_nowOf_11 ?_
    refine lv_bipush (v := 32) hx hb dX5_nowOf_14 (by decide) ?_
    refine lv_aload_n hx hb dX5_nowOf_16 rfl (lv_at hl 1 rfl) ?_
    refine yg_0_0 S hK hW kw_425 dX5_nowOf_17 ?_
    refine lv_imul hx hb dX5_nowOf_20 ?_
    refine lv_topi (fun x5 ex5 => ?_)
    have h := nm_use ex5 h
    refine lv_iload_n hx hb dX5_nowOf_21 rfl (lv_at hl 2 rfl) ?_
    refine lv_iadd hx hb dX5_nowOf_22 ?_
    refine lv_topi (fun x6 ex6 => ?_)
    have h := nm_use ex6 h
    obtain ⟨hin, h⟩ := h
    refine yl_0 S hK hW hin dX5_nowOf_23 (fun x7 ex7 => ?_)
    have h := nm_use ex7 h
    refine lv_goto (tgt := 33) hx hb dX5_nowOf_24 (by decide) ?_
    exact hret _ _ _ _ _ _ dX5_nowOf_33 hW h
def w_X5_ofLeaf (xp0 : Int32) (xp1 : Int32) (u : Mem) (post : Int32 → Mem → Prop) : Prop := nm (xp1 * (31 : Int32) : Int32) fun x1 => nm (x1 + xp0 : Int32) fun x2 => post x2 u
abbrev rm_X5_ofLeaf : Room := { frames := 0, cells := 0, slots := 0, locals := 0 }
theorem hd_X5_ofLeaf : yX5_ofLeaf.cls ≠ "java/lang/invoke/MethodHandle" ∧ yX5_ofLeaf.cls ≠ "java/lang/invoke/VarHandle" ∧ (parseMethodDescriptor yX5_ofLeaf.desc).map (fun d => d.parameters.length) = some 2 := by decide +kernel
set_option maxHeartbeats 4000000 in
set_option maxRecDepth 100000 in
theorem c_X5_ofLeaf (l : Launch) (D : va_G) (cA : ClassId) (b : Nat → Nat) (u : Mem) (xp0 xp1 : Int32) (post : Int32 → Mem → Prop) (h : w_X5_ofLeaf xp0 xp1 u post) : g_Mi l yX5_ofLeaf (Cond.code yX5_ofLeaf cX5_ofLeaf 2 (some .int) :: tT) rm_X5_ofLeaf D cA (Yw cA b) u [.int xp0, .int xp1] post := by
  refine g_enter_i (by decide) (Yw_adr cA b) (Nat.le_of_ble_eq_true rfl) ?_
  intro p e s m args below meth c A Q S hml hK hA hret ls hl hW
  have hx := S.1
  have hb := S.2.1
  have hl : lv_has ls 2 [(0, .int xp0), (1, .int xp1)] := hl
  skip
  refine lv_iload_n hx hb dX5_ofLeaf_0 rfl (lv_at hl 1 rfl) ?_
  refine lv_bipush (v := 31) hx hb dX5_ofLeaf_1 (by decide) ?_
  refine lv_imul hx hb dX5_ofLeaf_3 ?_
  refine lv_topi (fun x1 ex1 => ?_)
  have h := nm_use ex1 h
  refine lv_iload_n hx hb dX5_ofLeaf_4 rfl (lv_at hl 0 rfl) ?_
  refine lv_iadd hx hb dX5_ofLeaf_5 ?_
  refine lv_topi (fun x2 ex2 => ?_)
  have h := nm_use ex2 h
  exact hret _ _ _ _ _ _ dX5_ofLeaf_6 hW h
def w_X5_ofTwo (xp0 : Int32) (xp1 : Int32) (u : Mem) (post : Int32 → Mem → Prop) : Prop := nm ((31 : Int32) * xp0 : Int32) fun x1 => nm (x1 + xp1 : Int32) fun x2 => nm ((x2.toUInt32 >>> ((15 : Int32).toUInt32 &&& Int32.toUInt32 31)).toInt32 : Int32) fun x3 => nm (x2 ^^^ x3 : Int32) fun x4 => nm (x4 * (739982445 : Int32) : Int32) fun x5 => post x5 u
abbrev rm_X5_ofTwo : Room := { frames := 0, cells := 0, slots := 0, locals := 0 }
theorem hd_X5_ofTwo : yX5_ofTwo.cls ≠ "java/lang/invoke/MethodHandle" ∧ yX5_ofTwo.cls ≠ "java/lang/invoke/VarHandle" ∧ (parseMethodDescriptor yX5_ofTwo.desc).map (fun d => d.parameters.length) = some 2 := by decide +kernel
set_option maxHeartbeats 4000000 in
set_option maxRecDepth 100000 in
theorem c_X5_ofTwo (l : Launch) (D : va_G) (cA : ClassId) (b : Nat → Nat) (u : Mem) (xp0 xp1 : Int32) (post : Int32 → Mem → Prop) (h : w_X5_ofTwo xp0 xp1 u post) : g_Mi l yX5_ofTwo (Cond.code yX5_ofTwo cX5_ofTwo 3 (some .int) :: tT) rm_X5_ofTwo D cA (Yw cA b) u [.int xp0, .int xp1] post := by
  refine g_enter_i (by decide) (Yw_adr cA b) (Nat.le_of_ble_eq_true rfl) ?_
  intro p e s m args below meth c A Q S hml hK hA hret ls hl hW
  have hx := S.1
  have hb := S.2.1
  have hl : lv_has ls 3 [(0, .int xp0), (1, .int xp1)] := hl
  skip
  refine lv_bipush (v := 31) hx hb dX5_ofTwo_0 (by decide) ?_
  refine lv_iload_n hx hb dX5_ofTwo_2 rfl (lv_at hl 0 rfl) ?_
  refine lv_imul hx hb dX5_ofTwo_3 ?_
  refine lv_topi (fun x1 ex1 => ?_)
  have h := nm_use ex1 h
  refine lv_iload_n hx hb dX5_ofTwo_4 rfl (lv_at hl 1 rfl) ?_
  refine lv_iadd hx hb dX5_ofTwo_5 ?_
  refine lv_topi (fun x2 ex2 => ?_)
  have h := nm_use ex2 h
  refine lv_istore_n (lv' := [(2, .int x2), (0, .int xp0), (1, .int xp1)]) hx hb dX5_ofTwo_6 rfl hl (by decide) rfl (fun ls hl => ?_)
  refine lv_iload_n hx hb dX5_ofTwo_7 rfl (lv_at hl 0 rfl) ?_
  refine lv_iload_n hx hb dX5_ofTwo_8 rfl (lv_at hl 0 rfl) ?_
  refine lv_bipush (v := 15) hx hb dX5_ofTwo_9 (by decide) ?_
  refine lv_iushr hx hb dX5_ofTwo_11 rfl ?_
  refine lv_topi (fun x3 ex3 => ?_)
  have h := nm_use ex3 h
  refine lv_ixor hx hb dX5_ofTwo_12 ?_
  refine lv_topi (fun x4 ex4 => ?_)
  have h := nm_use ex4 h
  refine lv_istore_n (lv' := [(2, .int x4), (0, .int xp0), (1, .int xp1)]) hx hb dX5_ofTwo_13 rfl hl (by decide) rfl (fun ls hl => ?_)
  refine lv_iload_n hx hb dX5_ofTwo_14 rfl (lv_at hl 0 rfl) ?_
  refine lv_ldc hx hb S.2.2.1 (S.2.2.2 _ kw_424) dX5_ofTwo_15 ?_
  refine lv_imul hx hb dX5_ofTwo_17 ?_
  refine lv_topi (fun x5 ex5 => ?_)
  have h := nm_use ex5 h
  exact hret _ _ _ _ _ _ dX5_ofTwo_18 hW h
def L_X5_digestOf_2 (f1_2 : Int32) (post : Int32 → Mem → Prop) (K : Int32 → Mem → Prop) : Nat → Int32 → Mem → Prop
  | 0, _, _ => False
  | n_2 + 1, y2_2, u_2 => (32 ≤ y2_2 → (K y2_2 u_2)) ∧ (¬ 32 ≤ y2_2 → (nm ((32 : Int32) + y2_2 : Int32) fun x2 => nm ((32 : Int32) * f1_2 : Int32) fun x3 => nm (x3 + y2_2 : Int32) fun x4 => vp_in x4 6432 ∧ nm (u_2 0 (x4 : Int32).toNatClampNeg) fun x5 => w_X5_ofLeaf y2_2 x5 u_2 (fun x7 u6 => vp_in x2 64 ∧ nm (g_ms u6 12 (x2 : Int32).toNatClampNeg x7) fun u8 => nm (y2_2 + 1) fun x9 => L_X5_digestOf_2 f1_2 post K n_2 x9 u8)))
def L_X5_digestOf_41 (f1_41 : Int32) (post : Int32 → Mem → Prop) (K : Int32 → Mem → Prop) : Nat → Int32 → Mem → Prop
  | 0, _, _ => False
  | n_41 + 1, y2_41, u_41 => (y2_41 ≤ 0 → (K y2_41 u_41)) ∧ (¬ y2_41 ≤ 0 → (nm ((2 : Int32) * y2_41 : Int32) fun x11 => vp_in x11 64 ∧ nm (u_41 12 (x11 : Int32).toNatClampNeg) fun x12 => nm ((2 : Int32) * y2_41 : Int32) fun x13 => nm (x13 + (1 : Int32) : Int32) fun x14 => vp_in x14 64 ∧ nm (u_41 12 (x14 : Int32).toNatClampNeg) fun x15 => w_X5_ofTwo x12 x15 u_41 (fun x17 u16 => vp_in y2_41 64 ∧ nm (g_ms u16 12 (y2_41 : Int32).toNatClampNeg x17) fun u18 => nm (y2_41 + (-1)) fun x19 => L_X5_digestOf_41 f1_41 post K n_41 x19 u18)))
def w_X5_digestOf (xp1 : Int32) (u : Mem) (post : Int32 → Mem → Prop) : Prop := ∃ n_2, L_X5_digestOf_2 xp1 post (fun w2_2 v_2 => ∃ n_41, L_X5_digestOf_41 xp1 post (fun w2_41 v_41 => vp_in 1 64 ∧ nm (v_41 12 (1 : Int32).toNatClampNeg) fun x20 => post x20 v_41) n_41 31 v_2) n_2 0 u
abbrev rm_X5_digestOf : Room := { frames := 1, cells := 0, slots := 0, locals := 22 }
theorem hd_X5_digestOf : yX5_digestOf.cls ≠ "java/lang/invoke/MethodHandle" ∧ yX5_digestOf.cls ≠ "java/lang/invoke/VarHandle" ∧ (parseMethodDescriptor yX5_digestOf.desc).map (fun d => d.parameters.length) = some 1 := by decide +kernel
set_option maxHeartbeats 4000000 in
set_option maxRecDepth 100000 in
theorem c_X5_digestOf (l : Launch) (D : va_G) (cA : ClassId) (b : Nat → Nat) (u : Mem) (xp1 : Int32) (post : Int32 → Mem → Prop) (h : w_X5_digestOf xp1 u post) : g_Mi l yX5_digestOf (Cond.code yX5_digestOf cX5_digestOf 3 (some .int) :: tT) rm_X5_digestOf D cA (Yw cA b) u [.ref (b 0), .int xp1] post := by
  refine g_enter_i (by decide) (Yw_adr cA b) (Nat.le_of_ble_eq_true rfl) ?_
  intro p e s m args below meth c A Q S hml hK hA hret ls hl hW
  have hx := S.1
  have hb := S.2.1
  have hl : lv_has ls 3 [(0, .ref (b 0)), (1, .int xp1)] := hl
  skip
  refine lv_iconst (v := 0) hx hb dX5_digestOf_0 (by decide) ?_
  refine lv_istore_n (lv' := [(2, .int 0), (0, .ref (b 0)), (1, .int xp1)]) hx hb dX5_digestOf_1 rfl hl (by decide) rfl (fun ls hl => ?_)
  have loop_2 : ∀ (K : Int32 → Mem → Prop), (∀ (w2_2 : Int32) (v_2 : Mem) (H : Heap) (locs : List Loc) (ls : Array Slot), K w2_2 v_2 → g_W D (Yw cA b) A s.heap v_2 H locs → lv_has ls 3 [(0, .ref (b 0)), (1, .int xp1), (2, .int w2_2)] → W p l e rm_X5_digestOf s m args below meth c H locs 0 0 Q (F0 m 38 ls [])) → ∀ (n : Nat) (y2_2 : Int32) (u_2 : Mem) (H : Heap) (locs : List Loc) (ls : Array Slot), L_X5_digestOf_2 xp1 post K n y2_2 u_2 → g_W D (Yw cA b) A s.heap u_2 H locs → lv_has ls 3 [(0, .ref (b 0)), (1, .int xp1), (2, .int y2_2)] → W p l e rm_X5_digestOf s m args below meth c H locs 0 0 Q (F0 m 2 ls []) := by
    intro K hE n
    induction n with
    | zero => intro y2_2 u_2 H locs ls h; exact False.elim h
    | succ n ih =>
      intro y2_2 u_2 H locs ls h hW hl
      refine lv_iload_n hx hb dX5_digestOf_2 rfl (lv_at hl 2 rfl) ?_
      refine lv_bipush (v := 32) hx hb dX5_digestOf_3 (by decide) ?_
      refine lv_icmp_ge (tgt := 38) hx hb dX5_digestOf_5 (by decide) (fun c31 => ?_) (fun c31 => ?_)
      · have h := h.1 c31
        exact hE y2_2 u_2 _ _ _ h hW (lv_sub hl [0, 1, 2] rfl)
      · have h := h.2 c31
        refine lv_aload_n hx hb dX5_digestOf_8 rfl (lv_at hl 0 rfl) ?_
        refine yg_0_17 S hK hW kw_442 dX5_digestOf_9 ?_
        refine lv_bipush (v := 32) hx hb dX5_digestOf_12 (by decide) ?_
        refine lv_iload_n hx hb dX5_digestOf_14 rfl (lv_at hl 2 rfl) ?_
        refine lv_iadd hx hb dX5_digestOf_15 ?_
        refine lv_topi (fun x32 ex32 => ?_)
        have h := nm_use ex32 h
        refine lv_iload_n hx hb dX5_digestOf_16 rfl (lv_at hl 2 rfl) ?_
        refine lv_aload_n hx hb dX5_digestOf_17 rfl (lv_at hl 0 rfl) ?_
        refine yg_0_1 S hK hW kw_426 dX5_digestOf_18 ?_
        refine lv_bipush (v := 32) hx hb dX5_digestOf_21 (by decide) ?_
        refine lv_iload_n hx hb dX5_digestOf_23 rfl (lv_at hl 1 rfl) ?_
        refine lv_imul hx hb dX5_digestOf_24 ?_
        refine lv_topi (fun x33 ex33 => ?_)
        have h := nm_use ex33 h
        refine lv_iload_n hx hb dX5_digestOf_25 rfl (lv_at hl 2 rfl) ?_
        refine lv_iadd hx hb dX5_digestOf_26 ?_
        refine lv_topi (fun x34 ex34 => ?_)
        have h := nm_use ex34 h
        obtain ⟨hin, h⟩ := h
        refine yl_0 S hK hW hin dX5_digestOf_27 (fun x35 ex35 => ?_)
        have h := nm_use ex35 h
        refine g_cali (g_runS S hml hK hW (c_X5_ofLeaf l D cA b u_2 y2_2 x35 _ h _) kw_418 kw_419 kw_25 kw_420 hd_X5_ofLeaf ⟨rfl, rfl, Nat.le_of_ble_eq_true rfl, Nat.le_of_ble_eq_true rfl⟩ (As := [.int y2_2, .int x35]) (rest := [.int x32, .ref (b 13)]) rfl rfl hl.1 (Nat.le_of_ble_eq_true rfl) dX5_digestOf_28 ⟨Nat.zero_le _, Nat.zero_le _⟩) (Yw_adr cA b) hA hW (fun x37 u36 H locs h hW => ?_)
        obtain ⟨hin, h⟩ := h
        refine ys_12 S hK hW hin dX5_digestOf_31 (fun u38 H locs eu38 hW => ?_)
        have h := nm_use eu38 h
        obtain ⟨x39, ex39⟩ : ∃ z : Int32, z = y2_2 + 1 := ⟨_, rfl⟩
        have h := nm_use ex39 h
        refine lv_iinc (v := x39) (lv' := [(2, .int x39), (0, .ref (b 0)), (1, .int xp1)]) hx hb dX5_digestOf_32 hl (k := 2) rfl (by rw [ex39]; rfl) (by decide) rfl (fun ls hl => ?_)
        refine lv_goto (tgt := 2) hx hb dX5_digestOf_35 (by decide) ?_
        exact ih x39 u38 _ _ _ h hW (lv_sub hl [1, 2, 0] rfl)
  obtain ⟨n_2, h⟩ := h
  refine loop_2 _ ?_ n_2 0 u _ _ _ h hW (lv_sub hl [1, 2, 0] rfl)
  intro w2_2 v_2 H locs ls h hW hl
  refine lv_bipush (v := 31) hx hb dX5_digestOf_38 (by decide) ?_
  refine lv_istore_n (lv' := [(2, .int 31), (0, .ref (b 0)), (1, .int xp1)]) hx hb dX5_digestOf_40 rfl hl (by decide) rfl (fun ls hl => ?_)
  have loop_41 : ∀ (K : Int32 → Mem → Prop), (∀ (w2_41 : Int32) (v_41 : Mem) (H : Heap) (locs : List Loc) (ls : Array Slot), K w2_41 v_41 → g_W D (Yw cA b) A s.heap v_41 H locs → lv_has ls 3 [(0, .ref (b 0)), (1, .int xp1), (2, .int w2_41)] → W p l e rm_X5_digestOf s m args below meth c H locs 0 0 Q (F0 m 78 ls [])) → ∀ (n : Nat) (y2_41 : Int32) (u_41 : Mem) (H : Heap) (locs : List Loc) (ls : Array Slot), L_X5_digestOf_41 xp1 post K n y2_41 u_41 → g_W D (Yw cA b) A s.heap u_41 H locs → lv_has ls 3 [(0, .ref (b 0)), (1, .int xp1), (2, .int y2_41)] → W p l e rm_X5_digestOf s m args below meth c H locs 0 0 Q (F0 m 41 ls []) := by
    intro K hE n
    induction n with
    | zero => intro y2_41 u_41 H locs ls h; exact False.elim h
    | succ n ih =>
      intro y2_41 u_41 H locs ls h hW hl
      refine lv_iload_n hx hb dX5_digestOf_41 rfl (lv_at hl 2 rfl) ?_
      refine lv_if_le (tgt := 78) hx hb dX5_digestOf_42 (by decide) (fun c21 => ?_) (fun c21 => ?_)
      · have h := h.1 c21
        exact hE y2_41 u_41 _ _ _ h hW (lv_sub hl [0, 1, 2] rfl)
      · have h := h.2 c21
        refine lv_aload_n hx hb dX5_digestOf_45 rfl (lv_at hl 0 rfl) ?_
        refine yg_0_17 S hK hW kw_442 dX5_digestOf_46 ?_
        refine lv_iload_n hx hb dX5_digestOf_49 rfl (lv_at hl 2 rfl) ?_
        refine lv_aload_n hx hb dX5_digestOf_50 rfl (lv_at hl 0 rfl) ?_
        refine yg_0_17 S hK hW kw_442 dX5_digestOf_51 ?_
        refine lv_iconst (v := 2) hx hb dX5_digestOf_54 (by decide) ?_
        refine lv_iload_n hx hb dX5_digestOf_55 rfl (lv_at hl 2 rfl) ?_
        refine lv_imul hx hb dX5_digestOf_56 ?_
        refine lv_topi (fun x22 ex22 => ?_)
        have h := nm_use ex22 h
        obtain ⟨hin, h⟩ := h
        refine yl_12 S hK hW hin dX5_digestOf_57 (fun x23 ex23 => ?_)
        have h := nm_use ex23 h
        refine lv_aload_n hx hb dX5_digestOf_58 rfl (lv_at hl 0 rfl) ?_
        refine yg_0_17 S hK hW kw_442 dX5_digestOf_59 ?_
        refine lv_iconst (v := 2) hx hb dX5_digestOf_62 (by decide) ?_
        refine lv_iload_n hx hb dX5_digestOf_63 rfl (lv_at hl 2 rfl) ?_
        refine lv_imul hx hb dX5_digestOf_64 ?_
        refine lv_topi (fun x24 ex24 => ?_)
        have h := nm_use ex24 h
        refine lv_iconst (v := 1) hx hb dX5_digestOf_65 (by decide) ?_
        refine lv_iadd hx hb dX5_digestOf_66 ?_
        refine lv_topi (fun x25 ex25 => ?_)
        have h := nm_use ex25 h
        obtain ⟨hin, h⟩ := h
        refine yl_12 S hK hW hin dX5_digestOf_67 (fun x26 ex26 => ?_)
        have h := nm_use ex26 h
        refine g_cali (g_runS S hml hK hW (c_X5_ofTwo l D cA b u_41 x23 x26 _ h _) kw_421 kw_422 kw_25 kw_423 hd_X5_ofTwo ⟨rfl, rfl, Nat.le_of_ble_eq_true rfl, Nat.le_of_ble_eq_true rfl⟩ (As := [.int x23, .int x26]) (rest := [.int y2_41, .ref (b 13)]) rfl rfl hl.1 (Nat.le_of_ble_eq_true rfl) dX5_digestOf_68 ⟨Nat.zero_le _, Nat.zero_le _⟩) (Yw_adr cA b) hA hW (fun x28 u27 H locs h hW => ?_)
        obtain ⟨hin, h⟩ := h
        refine ys_12 S hK hW hin dX5_digestOf_71 (fun u29 H locs eu29 hW => ?_)
        have h := nm_use eu29 h
        obtain ⟨x30, ex30⟩ : ∃ z : Int32, z = y2_41 + (-1) := ⟨_, rfl⟩
        have h := nm_use ex30 h
        refine lv_iinc (v := x30) (lv' := [(2, .int x30), (0, .ref (b 0)), (1, .int xp1)]) hx hb dX5_digestOf_72 hl (k := 2) rfl (by rw [ex30]; rfl) (by decide) rfl (fun ls hl => ?_)
        refine lv_goto (tgt := 41) hx hb dX5_digestOf_75 (by decide) ?_
        exact ih x30 u29 _ _ _ h hW (lv_sub hl [1, 2, 0] rfl)
  obtain ⟨n_41, h⟩ := h
  refine loop_41 _ ?_ n_41 31 v_2 _ _ _ h hW (lv_sub hl [1, 2, 0] rfl)
  intro w2_41 v_41 H locs ls h hW hl
  refine lv_aload_n hx hb dX5_digestOf_78 rfl (lv_at hl 0 rfl) ?_
  refine yg_0_17 S hK hW kw_442 dX5_digestOf_79 ?_
  refine lv_iconst (v := 1) hx hb dX5_digestOf_82 (by decide) ?_
  obtain ⟨hin, h⟩ := h
  refine yl_12 S hK hW hin dX5_digestOf_83 (fun x20 ex20 => ?_)
  have h := nm_use ex20 h
  exact hret _ _ _ _ _ _ dX5_digestOf_84 hW h
def L_X5_seal_4  (post : Int32 → Mem → Prop) (K : Int32 → Int32 → Mem → Prop) : Nat → Int32 → Int32 → Mem → Prop
  | 0, _, _, _ => False
  | n_4 + 1, y1_4, y2_4, u_4 => (32 ≤ y2_4 → (K y1_4 y2_4 u_4)) ∧ (¬ 32 ≤ y2_4 → (w_X5_nowOf y2_4 u_4 (fun x3 u2 => nm ((32 : Int32) * (u2 13 0) : Int32) fun x4 => nm (x4 + y2_4 : Int32) fun x5 => vp_in x5 6432 ∧ nm (u2 0 (x5 : Int32).toNatClampNeg) fun x6 => (x3 = x6 → (nm (y1_4 + (0 : Int32) : Int32) fun x8 => nm (y2_4 + 1) fun x9 => L_X5_seal_4  post K n_4 x8 x9 u2)) ∧ (¬ x3 = x6 → (nm (y1_4 + (1 : Int32) : Int32) fun x10 => nm (y2_4 + 1) fun x11 => L_X5_seal_4  post K n_4 x10 x11 u2)))))
def L_X5_seal_80 (f1_80 : Int32) (f2_80 : Int32) (post : Int32 → Mem → Prop) (K : Int32 → Mem → Prop) : Nat → Int32 → Mem → Prop
  | 0, _, _ => False
  | n_80 + 1, y3_80, u_80 => (32 ≤ y3_80 → (K y3_80 u_80)) ∧ (¬ 32 ≤ y3_80 → (w_X5_nowOf y3_80 u_80 (fun x18 u17 => nm ((32 : Int32) * f2_80 : Int32) fun x19 => nm (x19 + y3_80 : Int32) fun x20 => vp_in x20 6432 ∧ nm (g_ms u17 0 (x20 : Int32).toNatClampNeg x18) fun u21 => nm ((32 : Int32) * (u21 13 0) : Int32) fun x22 => nm (x22 + y3_80 : Int32) fun x23 => vp_in x23 6432 ∧ nm (u21 0 (x23 : Int32).toNatClampNeg) fun x24 => (x18 = x24 → (nm (y3_80 + 1) fun x26 => L_X5_seal_80 f1_80 f2_80 post K n_80 x26 u21)) ∧ (¬ x18 = x24 → (vp_in (u21 15 0) 400 ∧ nm (g_ms u21 6 ((u21 15 0) : Int32).toNatClampNeg y3_80) fun u27 => vp_in (u27 15 0) 400 ∧ nm (g_ms u27 7 ((u27 15 0) : Int32).toNatClampNeg f2_80) fun u28 => vp_in (u28 15 0) 400 ∧ nm (g_ms u28 8 ((u28 15 0) : Int32).toNatClampNeg x18) fun u29 => w_X5_lastOf y3_80 u29 (fun x31 u30 => vp_in x31 60 ∧ nm (u30 3 (x31 : Int32).toNatClampNeg) fun x32 => vp_in (u29 15 0) 400 ∧ nm (g_ms u30 9 ((u29 15 0) : Int32).toNatClampNeg x32) fun u33 => vp_in (u33 15 0) 400 ∧ nm (g_ms u33 10 ((u33 15 0) : Int32).toNatClampNeg 0) fun u34 => nm ((u34 15 0) + (1 : Int32) : Int32) fun x35 => nm (g_ms u34 15 0 x35) fun u36 => nm (y3_80 + 1) fun x37 => L_X5_seal_80 f1_80 f2_80 post K n_80 x37 u36))))))
def w_X5_seal  (u : Mem) (post : Int32 → Mem → Prop) : Prop := ∃ n_4, L_X5_seal_4  post (fun w1_4 w2_4 v_4 => ((v_4 13 0) = 200 → (post (-105) v_4)) ∧ (¬ (v_4 13 0) = 200 → (nm ((v_4 15 0) + w1_4 : Int32) fun x13 => (x13 ≤ 400 → (nm ((v_4 13 0) + (1 : Int32) : Int32) fun x15 => ∃ n_80, L_X5_seal_80 w1_4 x15 post (fun w3_80 v_80 => nm (g_ms v_80 13 0 x15) fun u38 => nm (g_ms u38 14 0 0) fun u39 => vp_in x15 201 ∧ nm (g_ms u39 2 (x15 : Int32).toNatClampNeg 0) fun u40 => w_X5_digestOf x15 u40 (fun x42 u41 => vp_in x15 201 ∧ nm (g_ms u41 1 (x15 : Int32).toNatClampNeg x42) fun u43 => post x15 u43)) n_80 0 v_4)) ∧ (¬ x13 ≤ 400 → (post (-105) v_4))))) n_4 0 0 u
abbrev rm_X5_seal : Room := { frames := 2, cells := 0, slots := 0, locals := 45 }
theorem hd_X5_seal : yX5_seal.cls ≠ "java/lang/invoke/MethodHandle" ∧ yX5_seal.cls ≠ "java/lang/invoke/VarHandle" ∧ (parseMethodDescriptor yX5_seal.desc).map (fun d => d.parameters.length) = some 0 := by decide +kernel
set_option maxHeartbeats 4000000 in
set_option maxRecDepth 100000 in
theorem c_X5_seal (l : Launch) (D : va_G) (cA : ClassId) (b : Nat → Nat) (u : Mem) (post : Int32 → Mem → Prop) (h : w_X5_seal  u post) : g_Mi l yX5_seal (Cond.code yX5_seal cX5_seal 5 (some .int) :: tT) rm_X5_seal D cA (Yw cA b) u [.ref (b 0)] post := by
  refine g_enter_i (by decide) (Yw_adr cA b) (Nat.le_of_ble_eq_true rfl) ?_
  intro p e s m args below meth c A Q S hml hK hA hret ls hl hW
  have hx := S.1
  have hb := S.2.1
  have hl : lv_has ls 5 [(0, .ref (b 0))] := hl
  skip
  refine lv_iconst (v := 0) hx hb dX5_seal_0 (by decide) ?_
  refine lv_istore_n (lv' := [(1, .int 0), (0, .ref (b 0))]) hx hb dX5_seal_1 rfl hl (by decide) rfl (fun ls hl => ?_)
  refine lv_iconst (v := 0) hx hb dX5_seal_2 (by decide) ?_
  refine lv_istore_n (lv' := [(2, .int 0), (1, .int 0), (0, .ref (b 0))]) hx hb dX5_seal_3 rfl hl (by decide) rfl (fun ls hl => ?_)
  have loop_4 : ∀ (K : Int32 → Int32 → Mem → Prop), (∀ (w1_4 w2_4 : Int32) (v_4 : Mem) (H : Heap) (locs : List Loc) (ls : Array Slot), K w1_4 w2_4 v_4 → g_W D (Yw cA b) A s.heap v_4 H locs → lv_has ls 5 [(0, .ref (b 0)), (1, .int w1_4), (2, .int w2_4)] → W p l e rm_X5_seal s m args below meth c H locs 0 0 Q (F0 m 46 ls [])) → ∀ (n : Nat) (y1_4 y2_4 : Int32) (u_4 : Mem) (H : Heap) (locs : List Loc) (ls : Array Slot), L_X5_seal_4  post K n y1_4 y2_4 u_4 → g_W D (Yw cA b) A s.heap u_4 H locs → lv_has ls 5 [(0, .ref (b 0)), (1, .int y1_4), (2, .int y2_4)] → W p l e rm_X5_seal s m args below meth c H locs 0 0 Q (F0 m 4 ls []) := by
    intro K hE n
    induction n with
    | zero => intro y1_4 y2_4 u_4 H locs ls h; exact False.elim h
    | succ n ih =>
      intro y1_4 y2_4 u_4 H locs ls h hW hl
      refine lv_iload_n hx hb dX5_seal_4 rfl (lv_at hl 2 rfl) ?_
      refine lv_bipush (v := 32) hx hb dX5_seal_5 (by decide) ?_
      refine lv_icmp_ge (tgt := 46) hx hb dX5_seal_7 (by decide) (fun c66 => ?_) (fun c66 => ?_)
      · have h := h.1 c66
        exact hE y1_4 y2_4 u_4 _ _ _ h hW (lv_sub hl [0, 1, 2] rfl)
      · have h := h.2 c66
        refine lv_iload_n hx hb dX5_seal_10 rfl (lv_at hl 1 rfl) ?_
        refine lv_aload_n hx hb dX5_seal_11 rfl (lv_at hl 0 rfl) ?_
        refine lv_iload_n hx hb dX5_seal_12 rfl (lv_at hl 2 rfl) ?_
        refine g_cali (g_runV S hml hK hW (c_X5_nowOf l D cA b u_4 y2_4 _ h _) kw_494 kw_496 kw_8 kw_25 kw_497 hd_X5_nowOf ⟨rfl, rfl, Nat.le_of_ble_eq_true rfl, Nat.le_of_ble_eq_true rfl⟩ (q0 := 0) rfl rfl (As := [.int y2_4]) (rest := [.int y1_4]) rfl rfl hl.1 (Nat.le_of_ble_eq_true rfl) dX5_seal_13 ⟨Nat.zero_le _, Nat.zero_le _⟩) (Yw_adr cA b) hA hW (fun x68 u67 H locs h hW => ?_)
        refine lv_aload_n hx hb dX5_seal_16 rfl (lv_at hl 0 rfl) ?_
        refine yg_0_1 S hK hW kw_426 dX5_seal_17 ?_
        refine lv_bipush (v := 32) hx hb dX5_seal_20 (by decide) ?_
        refine lv_aload_n hx hb dX5_seal_22 rfl (lv_at hl 0 rfl) ?_
        refine yg_0_0 S hK hW kw_425 dX5_seal_23 ?_
        refine lv_imul hx hb dX5_seal_26 ?_
        refine lv_topi (fun x69 ex69 => ?_)
        have h := nm_use ex69 h
        refine lv_iload_n hx hb dX5_seal_27 rfl (lv_at hl 2 rfl) ?_
        refine lv_iadd hx hb dX5_seal_28 ?_
        refine lv_topi (fun x70 ex70 => ?_)
        have h := nm_use ex70 h
        obtain ⟨hin, h⟩ := h
        refine yl_0 S hK hW hin dX5_seal_29 (fun x71 ex71 => ?_)
        have h := nm_use ex71 h
        refine lv_icmp_eq (tgt := 37) hx hb dX5_seal_30 (by decide) (fun c72 => ?_) (fun c72 => ?_)
        · have h := h.1 c72
          refine lv_iconst (v := 0) hx hb dX5_seal_37 (by decide) ?_
          refine lv_iadd hx hb dX5_seal_38 ?_
          refine lv_topi (fun x73 ex73 => ?_)
          have h := nm_use ex73 h
          refine lv_istore_n (lv' := [(1, .int x73), (0, .ref (b 0)), (2, .int y2_4)]) hx hb dX5_seal_39 rfl hl (by decide) rfl (fun ls hl => ?_)
          obtain ⟨x74, ex74⟩ : ∃ z : Int32, z = y2_4 + 1 := ⟨_, rfl⟩
          have h := nm_use ex74 h
          refine lv_iinc (v := x74) (lv' := [(2, .int x74), (1, .int x73), (0, .ref (b 0))]) hx hb dX5_seal_40 hl (k := 2) rfl (by rw [ex74]; rfl) (by decide) rfl (fun ls hl => ?_)
          refine lv_goto (tgt := 4) hx hb dX5_seal_43 (by decide) ?_
          exact ih x73 x74 u67 _ _ _ h hW (lv_sub hl [2, 1, 0] rfl)
        · have h := h.2 c72
          refine lv_iconst (v := 1) hx hb dX5_seal_33 (by decide) ?_
          refine lv_goto (tgt := 38) hx hb dX5_seal_34 (by decide) ?_
          refine lv_iadd hx hb dX5_seal_38 ?_
          refine lv_topi (fun x75 ex75 => ?_)
          have h := nm_use ex75 h
          refine lv_istore_n (lv' := [(1, .int x75), (0, .ref (b 0)), (2, .int y2_4)]) hx hb dX5_seal_39 rfl hl (by decide) rfl (fun ls hl => ?_)
          obtain ⟨x76, ex76⟩ : ∃ z : Int32, z = y2_4 + 1 := ⟨_, rfl⟩
          have h := nm_use ex76 h
          refine lv_iinc (v := x76) (lv' := [(2, .int x76), (1, .int x75), (0, .ref (b 0))]) hx hb dX5_seal_40 hl (k := 2) rfl (by rw [ex76]; rfl) (by decide) rfl (fun ls hl => ?_)
          refine lv_goto (tgt := 4) hx hb dX5_seal_43 (by decide) ?_
          exact ih x75 x76 u67 _ _ _ h hW (lv_sub hl [2, 1, 0] rfl)
  obtain ⟨n_4, h⟩ := h
  refine loop_4 _ ?_ n_4 0 0 u _ _ _ h hW (lv_sub hl [2, 1, 0] rfl)
  intro w1_4 w2_4 v_4 H locs ls h hW hl
  refine lv_aload_n hx hb dX5_seal_46 rfl (lv_at hl 0 rfl) ?_
  refine yg_0_0 S hK hW kw_425 dX5_seal_47 ?_
  refine lv_sipush (v := 200) hx hb dX5_seal_50 (by decide) ?_
  refine lv_icmp_eq (tgt := 68) hx hb dX5_seal_53 (by decide) (fun c12 => ?_) (fun c12 => ?_)
  · have h := h.1 c12
    refine lv_bipush (v := (-105)) hx hb dX5_seal_68 (by decide) ?_
    exact hret _ _ _ _ _ _ dX5_seal_70 hW h
  · have h := h.2 c12
    refine lv_aload_n hx hb dX5_seal_56 rfl (lv_at hl 0 rfl) ?_
    refine yg_0_8 S hK hW kw_433 dX5_seal_57 ?_
    refine lv_iload_n hx hb dX5_seal_60 rfl (lv_at hl 1 rfl) ?_
    refine lv_iadd hx hb dX5_seal_61 ?_
    refine lv_topi (fun x13 ex13 => ?_)
    have h := nm_use ex13 h
    refine lv_sipush (v := 400) hx hb dX5_seal_62 (by decide) ?_
    refine lv_icmp_le (tgt := 71) hx hb dX5_seal_65 (by decide) (fun c14 => ?_) (fun c14 => ?_)
    · have h := h.1 c14
      refine lv_aload_n hx hb dX5_seal_71 rfl (lv_at hl 0 rfl) ?_
      refine yg_0_0 S hK hW kw_425 dX5_seal_72 ?_
      refine lv_iconst (v := 1) hx hb dX5_seal_75 (by decide) ?_
      refine lv_iadd hx hb dX5_seal_76 ?_
      refine lv_topi (fun x15 ex15 => ?_)
      have h := nm_use ex15 h
      refine lv_istore_n (lv' := [(2, .int x15), (0, .ref (b 0)), (1, .int w1_4)]) hx hb dX5_seal_77 rfl hl (by decide) rfl (fun ls hl => ?_)
      refine lv_iconst (v := 0) hx hb dX5_seal_78 (by decide) ?_
      refine lv_istore_n (lv' := [(3, .int 0), (2, .int x15), (0, .ref (b 0)), (1, .int w1_4)]) hx hb dX5_seal_79 rfl hl (by decide) rfl (fun ls hl => ?_)
      have loop_80 : ∀ (K : Int32 → Mem → Prop), (∀ (w3_80 : Int32) (v_80 : Mem) (H : Heap) (locs : List Loc) (ls : Array Slot), K w3_80 v_80 → g_W D (Yw cA b) A s.heap v_80 H locs → lv_has ls 5 [(0, .ref (b 0)), (1, .int w1_4), (2, .int x15), (3, .int w3_80)] → W p l e rm_X5_seal s m args below meth c H locs 0 0 Q (F0 m 201 ls [])) → ∀ (n : Nat) (y3_80 : Int32) (u_80 : Mem) (H : Heap) (locs : List Loc) (ls : Array Slot), L_X5_seal_80 w1_4 x15 post K n y3_80 u_80 → g_W D (Yw cA b) A s.heap u_80 H locs → lv_has ls 5 [(0, .ref (b 0)), (1, .int w1_4), (2, .int x15), (3, .int y3_80)] → W p l e rm_X5_seal s m args below meth c H locs 0 0 Q (F0 m 80 ls []) := by
        intro K hE n
        induction n with
        | zero => intro y3_80 u_80 H locs ls h; exact False.elim h
        | succ n ih =>
          intro y3_80 u_80 H locs ls h hW hl
          refine lv_iload_n hx hb dX5_seal_80 rfl (lv_at hl 3 rfl) ?_
          refine lv_bipush (v := 32) hx hb dX5_seal_81 (by decide) ?_
          refine lv_icmp_ge (tgt := 201) hx hb dX5_seal_83 (by decide) (fun c44 => ?_) (fun c44 => ?_)
          · have h := h.1 c44
            exact hE y3_80 u_80 _ _ _ h hW (lv_sub hl [0, 1, 2, 3] rfl)
          · have h := h.2 c44
            refine lv_aload_n hx hb dX5_seal_86 rfl (lv_at hl 0 rfl) ?_
            refine lv_iload_n hx hb dX5_seal_87 rfl (lv_at hl 3 rfl) ?_
            refine g_cali (g_runV S hml hK hW (c_X5_nowOf l D cA b u_80 y3_80 _ h _) kw_494 kw_496 kw_8 kw_25 kw_497 hd_X5_nowOf ⟨rfl, rfl, Nat.le_of_ble_eq_true rfl, Nat.le_of_ble_eq_true rfl⟩ (q0 := 0) rfl rfl (As := [.int y3_80]) (rest := []) rfl rfl hl.1 (Nat.le_of_ble_eq_true rfl) dX5_seal_88 ⟨Nat.zero_le _, Nat.zero_le _⟩) (Yw_adr cA b) hA hW (fun x46 u45 H locs h hW => ?_)
            refine lv_istore (lv' := [(4, .int x46), (0, .ref (b 0)), (1, .int w1_4), (2, .int x15), (3, .int y3_80)]) hx hb dX5_seal_91 hl (by decide) rfl (fun ls hl => ?_)
            refine lv_aload_n hx hb dX5_seal_93 rfl (lv_at hl 1 rfl) ?_
            refine yg_0_1 S hK hW kw_426 dX5_seal_94 ?_
            refine lv_bipush (v := 32) hx hb dX5_seal_97 (by decide) ?_
            refine lv_iload_n hx hb dX5_seal_99 rfl (lv_at hl 3 rfl) ?_
            refine lv_imul hx hb dX5_seal_100 ?_
            refine lv_topi (fun x47 ex47 => ?_)
            have h := nm_use ex47 h
            refine lv_iload_n hx hb dX5_seal_101 rfl (lv_at hl 4 rfl) ?_
            refine lv_iadd hx hb dX5_seal_102 ?_
            refine lv_topi (fun x48 ex48 => ?_)
            have h := nm_use ex48 h
            refine lv_iload hx hb dX5_seal_103 (lv_at hl 0 rfl) ?_
            obtain ⟨hin, h⟩ := h
            refine ys_0 S hK hW hin dX5_seal_105 (fun u49 H locs eu49 hW => ?_)
            have h := nm_use eu49 h
            refine lv_iload hx hb dX5_seal_106 (lv_at hl 0 rfl) ?_
            refine lv_aload_n hx hb dX5_seal_108 rfl (lv_at hl 1 rfl) ?_
            refine yg_0_1 S hK hW kw_426 dX5_seal_109 ?_
            refine lv_bipush (v := 32) hx hb dX5_seal_112 (by decide) ?_
            refine lv_aload_n hx hb dX5_seal_114 rfl (lv_at hl 1 rfl) ?_
            refine yg_0_0 S hK hW kw_425 dX5_seal_115 ?_
            refine lv_imul hx hb dX5_seal_118 ?_
            refine lv_topi (fun x50 ex50 => ?_)
            have h := nm_use ex50 h
            refine lv_iload_n hx hb dX5_seal_119 rfl (lv_at hl 4 rfl) ?_
            refine lv_iadd hx hb dX5_seal_120 ?_
            refine lv_topi (fun x51 ex51 => ?_)
            have h := nm_use ex51 h
            obtain ⟨hin, h⟩ := h
            refine yl_0 S hK hW hin dX5_seal_121 (fun x52 ex52 => ?_)
            have h := nm_use ex52 h
            refine lv_icmp_eq (tgt := 195) hx hb dX5_seal_122 (by decide) (fun c53 => ?_) (fun c53 => ?_)
            · have h := h.1 c53
              obtain ⟨x54, ex54⟩ : ∃ z : Int32, z = y3_80 + 1 := ⟨_, rfl⟩
              have h := nm_use ex54 h
              refine lv_iinc (v := x54) (lv' := [(3, .int x54), (4, .int x46), (0, .ref (b 0)), (1, .int w1_4), (2, .int x15)]) hx hb dX5_seal_195 hl (k := 4) rfl (by rw [ex54]; rfl) (by decide) rfl (fun ls hl => ?_)
              refine lv_goto (tgt := 80) hx hb dX5_seal_198 (by decide) ?_
              exact ih x54 u49 _ _ _ h hW (lv_sub hl [2, 3, 4, 0] rfl)
            · have h := h.2 c53
              refine lv_aload_n hx hb dX5_seal_125 rfl (lv_at hl 1 rfl) ?_
              refine yg_0_9 S hK hW kw_434 dX5_seal_126 ?_
              refine lv_aload_n hx hb dX5_seal_129 rfl (lv_at hl 1 rfl) ?_
              refine yg_0_8 S hK hW kw_433 dX5_seal_130 ?_
              refine lv_iload_n hx hb dX5_seal_133 rfl (lv_at hl 4 rfl) ?_
              obtain ⟨hin, h⟩ := h
              refine ys_6 S hK hW hin dX5_seal_134 (fun u55 H locs eu55 hW => ?_)
              have h := nm_use eu55 h
              refine lv_aload_n hx hb dX5_seal_135 rfl (lv_at hl 1 rfl) ?_
              refine yg_0_10 S hK hW kw_435 dX5_seal_136 ?_
              refine lv_aload_n hx hb dX5_seal_139 rfl (lv_at hl 1 rfl) ?_
              refine yg_0_8 S hK hW kw_433 dX5_seal_140 ?_
              refine lv_iload_n hx hb dX5_seal_143 rfl (lv_at hl 3 rfl) ?_
              obtain ⟨hin, h⟩ := h
              refine ys_7 S hK hW hin dX5_seal_144 (fun u56 H locs eu56 hW => ?_)
              have h := nm_use eu56 h
              refine lv_aload_n hx hb dX5_seal_145 rfl (lv_at hl 1 rfl) ?_
              refine yg_0_11 S hK hW kw_436 dX5_seal_146 ?_
              refine lv_aload_n hx hb dX5_seal_149 rfl (lv_at hl 1 rfl) ?_
              refine yg_0_8 S hK hW kw_433 dX5_seal_150 ?_
              refine lv_iload hx hb dX5_seal_153 (lv_at hl 0 rfl) ?_
              obtain ⟨hin, h⟩ := h
              refine ys_8 S hK hW hin dX5_seal_155 (fun u57 H locs eu57 hW => ?_)
              have h := nm_use eu57 h
              refine lv_aload_n hx hb dX5_seal_156 rfl (lv_at hl 1 rfl) ?_
              refine yg_0_12 S hK hW kw_437 dX5_seal_157 ?_
              refine lv_aload_n hx hb dX5_seal_160 rfl (lv_at hl 1 rfl) ?_
              refine yg_0_8 S hK hW kw_433 dX5_seal_161 ?_
              refine lv_aload_n hx hb dX5_seal_164 rfl (lv_at hl 1 rfl) ?_
              refine yg_0_5 S hK hW kw_430 dX5_seal_165 ?_
              refine lv_aload_n hx hb dX5_seal_168 rfl (lv_at hl 1 rfl) ?_
              refine lv_iload_n hx hb dX5_seal_169 rfl (lv_at hl 4 rfl) ?_
              refine g_cali (g_runV S hml hK hW (c_X5_lastOf l D cA b u57 y3_80 _ h _) kw_498 kw_500 kw_9 kw_25 kw_501 hd_X5_lastOf ⟨rfl, rfl, Nat.le_of_ble_eq_true rfl, Nat.le_of_ble_eq_true rfl⟩ (q0 := 0) rfl rfl (As := [.int y3_80]) (rest := [.ref (b 4), .int (u57 15 0), .ref (b 10)]) rfl rfl hl.1 (Nat.le_of_ble_eq_true rfl) dX5_seal_170 ⟨Nat.zero_le _, Nat.zero_le _⟩) (Yw_adr cA b) hA hW (fun x59 u58 H locs h hW => ?_)
              obtain ⟨hin, h⟩ := h
              refine yl_3 S hK hW hin dX5_seal_173 (fun x60 ex60 => ?_)
              have h := nm_use ex60 h
              obtain ⟨hin, h⟩ := h
              refine ys_9 S hK hW hin dX5_seal_174 (fun u61 H locs eu61 hW => ?_)
              have h := nm_use eu61 h
              refine lv_aload_n hx hb dX5_seal_175 rfl (lv_at hl 1 rfl) ?_
              refine yg_0_13 S hK hW kw_438 dX5_seal_176 ?_
              refine lv_aload_n hx hb dX5_seal_179 rfl (lv_at hl 1 rfl) ?_
              refine yg_0_8 S hK hW kw_433 dX5_seal_180 ?_
              refine lv_iconst (v := 0) hx hb dX5_seal_183 (by decide) ?_
              obtain ⟨hin, h⟩ := h
              refine ys_10 S hK hW hin dX5_seal_184 (fun u62 H locs eu62 hW => ?_)
              have h := nm_use eu62 h
              refine lv_aload_n hx hb dX5_seal_185 rfl (lv_at hl 1 rfl) ?_
              refine lv_dup hx hb dX5_seal_186 rfl ?_
              refine yg_0_8 S hK hW kw_433 dX5_seal_187 ?_
              refine lv_iconst (v := 1) hx hb dX5_seal_190 (by decide) ?_
              refine lv_iadd hx hb dX5_seal_191 ?_
              refine lv_topi (fun x63 ex63 => ?_)
              have h := nm_use ex63 h
              refine yp_15 S hK hW kw_433 dX5_seal_192 (fun u64 H locs eu64 hW => ?_)
              have h := nm_use eu64 h
              obtain ⟨x65, ex65⟩ : ∃ z : Int32, z = y3_80 + 1 := ⟨_, rfl⟩
              have h := nm_use ex65 h
              refine lv_iinc (v := x65) (lv' := [(3, .int x65), (4, .int x46), (0, .ref (b 0)), (1, .int w1_4), (2, .int x15)]) hx hb dX5_seal_195 hl (k := 4) rfl (by rw [ex65]; rfl) (by decide) rfl (fun ls hl => ?_)
              refine lv_goto (tgt := 80) hx hb dX5_seal_198 (by decide) ?_
              exact ih x65 u64 _ _ _ h hW (lv_sub hl [2, 3, 4, 0] rfl)
      obtain ⟨n_80, h⟩ := h
      refine loop_80 _ ?_ n_80 0 v_4 _ _ _ h hW (lv_sub hl [2, 3, 1, 0] rfl)
      intro w3_80 v_80 H locs ls h hW hl
      refine lv_aload_n hx hb dX5_seal_201 rfl (lv_at hl 0 rfl) ?_
      refine lv_iload_n hx hb dX5_seal_202 rfl (lv_at hl 2 rfl) ?_
      refine yp_13 S hK hW kw_425 dX5_seal_203 (fun u38 H locs eu38 hW => ?_)
      have h := nm_use eu38 h
      refine lv_aload_n hx hb dX5_seal_206 rfl (lv_at hl 0 rfl) ?_
      refine lv_iconst (v := 0) hx hb dX5_seal_207 (by decide) ?_
      refine yp_14 S hK hW kw_429 dX5_seal_208 (fun u39 H locs eu39 hW => ?_)
      have h := nm_use eu39 h
      refine lv_aload_n hx hb dX5_seal_211 rfl (lv_at hl 0 rfl) ?_
      refine yg_0_3 S hK hW kw_428 dX5_seal_212 ?_
      refine lv_iload_n hx hb dX5_seal_215 rfl (lv_at hl 2 rfl) ?_
      refine lv_iconst (v := 0) hx hb dX5_seal_216 (by decide) ?_
      obtain ⟨hin, h⟩ := h
      refine ys_2 S hK hW hin dX5_seal_217 (fun u40 H locs eu40 hW => ?_)
      have h := nm_use eu40 h
      refine lv_aload_n hx hb dX5_seal_218 rfl (lv_at hl 0 rfl) ?_
      refine yg_0_2 S hK hW kw_427 dX5_seal_219 ?_
      refine lv_iload_n hx hb dX5_seal_222 rfl (lv_at hl 2 rfl) ?_
      refine lv_aload_n hx hb dX5_seal_223 rfl (lv_at hl 0 rfl) ?_
      refine lv_iload_n hx hb dX5_seal_224 rfl (lv_at hl 2 rfl) ?_
      refine g_cali (g_runV S hml hK hW (c_X5_digestOf l D cA b u40 x15 _ h _) kw_414 kw_416 kw_7 kw_25 kw_417 hd_X5_digestOf ⟨rfl, rfl, Nat.le_of_ble_eq_true rfl, Nat.le_of_ble_eq_true rfl⟩ (q0 := 0) rfl rfl (As := [.int x15]) (rest := [.int x15, .ref (b 2)]) rfl rfl hl.1 (Nat.le_of_ble_eq_true rfl) dX5_seal_225 ⟨Nat.zero_le _, Nat.zero_le _⟩) (Yw_adr cA b) hA hW (fun x42 u41 H locs h hW => ?_)
      obtain ⟨hin, h⟩ := h
      refine ys_1 S hK hW hin dX5_seal_228 (fun u43 H locs eu43 hW => ?_)
      have h := nm_use eu43 h
      refine lv_iload_n hx hb dX5_seal_229 rfl (lv_at hl 2 rfl) ?_
      exact hret _ _ _ _ _ _ dX5_seal_230 hW h
    · have h := h.2 c14
      refine lv_bipush (v := (-105)) hx hb dX5_seal_68 (by decide) ?_
      exact hret _ _ _ _ _ _ dX5_seal_70 hW h
def w_X5_drop  (u : Mem) (post : Int32 → Mem → Prop) : Prop := nm (g_ms u 14 0 0) fun u1 => post (u 14 0) u1
abbrev rm_X5_drop : Room := { frames := 0, cells := 0, slots := 0, locals := 0 }
theorem hd_X5_drop : yX5_drop.cls ≠ "java/lang/invoke/MethodHandle" ∧ yX5_drop.cls ≠ "java/lang/invoke/VarHandle" ∧ (parseMethodDescriptor yX5_drop.desc).map (fun d => d.parameters.length) = some 0 := by decide +kernel
set_option maxHeartbeats 4000000 in
set_option maxRecDepth 100000 in
theorem c_X5_drop (l : Launch) (D : va_G) (cA : ClassId) (b : Nat → Nat) (u : Mem) (post : Int32 → Mem → Prop) (h : w_X5_drop  u post) : g_Mi l yX5_drop (Cond.code yX5_drop cX5_drop 2 (some .int) :: tT) rm_X5_drop D cA (Yw cA b) u [.ref (b 0)] post := by
  refine g_enter_i (by decide) (Yw_adr cA b) (Nat.le_of_ble_eq_true rfl) ?_
  intro p e s m args below meth c A Q S hml hK hA hret ls hl hW
  have hx := S.1
  have hb := S.2.1
  have hl : lv_has ls 2 [(0, .ref (b 0))] := hl
  skip
  refine lv_aload_n hx hb dX5_drop_0 rfl (lv_at hl 0 rfl) ?_
  refine yg_0_4 S hK hW kw_429 dX5_drop_1 ?_
  refine lv_istore_n (lv' := [(1, .int (u 14 0)), (0, .ref (b 0))]) hx hb dX5_drop_4 rfl hl (by decide) rfl (fun ls hl => ?_)
  refine lv_aload_n hx hb dX5_drop_5 rfl (lv_at hl 1 rfl) ?_
  refine lv_iconst (v := 0) hx hb dX5_drop_6 (by decide) ?_
  refine yp_14 S hK hW kw_429 dX5_drop_7 (fun u1 H locs eu1 hW => ?_)
  have h := nm_use eu1 h
  refine lv_iload_n hx hb dX5_drop_10 rfl (lv_at hl 0 rfl) ?_
  exact hret _ _ _ _ _ _ dX5_drop_11 hW h
def w_X5_isHeight (xp1 : Int32) (u : Mem) (post : Int32 → Mem → Prop) : Prop := w_X5_in xp1 0 (u 13 0) u (fun x2 u1 => bz x2 ∧ post x2 u1)
abbrev rm_X5_isHeight : Room := { frames := 1, cells := 0, slots := 0, locals := 22 }
theorem hd_X5_isHeight : yX5_isHeight.cls ≠ "java/lang/invoke/MethodHandle" ∧ yX5_isHeight.cls ≠ "java/lang/invoke/VarHandle" ∧ (parseMethodDescriptor yX5_isHeight.desc).map (fun d => d.parameters.length) = some 1 := by decide +kernel
set_option maxHeartbeats 4000000 in
set_option maxRecDepth 100000 in
theorem c_X5_isHeight (l : Launch) (D : va_G) (cA : ClassId) (b : Nat → Nat) (u : Mem) (xp1 : Int32) (post : Int32 → Mem → Prop) (h : w_X5_isHeight xp1 u post) : g_Mi l yX5_isHeight (Cond.code yX5_isHeight cX5_isHeight 2 (some .boolean) :: tT) rm_X5_isHeight D cA (Yw cA b) u [.ref (b 0), .int xp1] post := by
  refine g_enter_z (by decide) (Yw_adr cA b) (Nat.le_of_ble_eq_true rfl) ?_
  intro p e s m args below meth c A Q S hml hK hA hret ls hl hW
  have hx := S.1
  have hb := S.2.1
  have hl : lv_has ls 2 [(0, .ref (b 0)), (1, .int xp1)] := hl
  skip
  refine lv_iload_n hx hb dX5_isHeight_0 rfl (lv_at hl 1 rfl) ?_
  refine lv_iconst (v := 0) hx hb dX5_isHeight_1 (by decide) ?_
  refine lv_aload_n hx hb dX5_isHeight_2 rfl (lv_at hl 0 rfl) ?_
  refine yg_0_0 S hK hW kw_425 dX5_isHeight_3 ?_
  refine g_cali (g_runS S hml hK hW (c_X5_in l D cA b u xp1 0 (u 13 0) _ h _) kw_487 kw_488 kw_25 kw_489 hd_X5_in ⟨rfl, rfl, Nat.le_of_ble_eq_true rfl, Nat.le_of_ble_eq_true rfl⟩ (As := [.int xp1, .int 0, .int (u 13 0)]) (rest := []) rfl rfl hl.1 (Nat.le_of_ble_eq_true rfl) dX5_isHeight_6 ⟨Nat.zero_le _, Nat.zero_le _⟩) (Yw_adr cA b) hA hW (fun x2 u1 H locs h hW => ?_)
  exact hret _ _ _ _ _ _ dX5_isHeight_9 hW h.1 h.2
def w_X5_at (xp1 : Int32) (xp2 : Int32) (u : Mem) (post : Int64 → Mem → Prop) : Prop := w_X5_isLeaf xp1 u (fun x2 u1 => (x2 = 0 → (post (-4000000101) u1)) ∧ (¬ x2 = 0 → (w_X5_isHeight xp2 u1 (fun x5 u4 => (x5 = 0 → (post (-4000000101) u4)) ∧ (¬ x5 = 0 → (vp_in xp2 201 ∧ nm (u4 2 (xp2 : Int32).toNatClampNeg) fun x7 => (x7 ≤ 0 → (nm ((32 : Int32) * xp2 : Int32) fun x9 => nm (x9 + xp1 : Int32) fun x10 => vp_in x10 6432 ∧ nm (u4 0 (x10 : Int32).toNatClampNeg) fun x11 => nm ((x11 : Int32).toInt64) fun z12 => post z12 u4)) ∧ (¬ x7 ≤ 0 → (post (-4000000104) u4))))))))
abbrev rm_X5_at : Room := { frames := 2, cells := 0, slots := 0, locals := 43 }
theorem hd_X5_at : yX5_at.cls ≠ "java/lang/invoke/MethodHandle" ∧ yX5_at.cls ≠ "java/lang/invoke/VarHandle" ∧ (parseMethodDescriptor yX5_at.desc).map (fun d => d.parameters.length) = some 2 := by decide +kernel
set_option maxHeartbeats 4000000 in
set_option maxRecDepth 100000 in
theorem c_X5_at (l : Launch) (D : va_G) (cA : ClassId) (b : Nat → Nat) (u : Mem) (xp1 xp2 : Int32) (post : Int64 → Mem → Prop) (h : w_X5_at xp1 xp2 u post) : g_Ml l yX5_at (Cond.code yX5_at cX5_at 3 (some .long) :: tT) rm_X5_at D cA (Yw cA b) u [.ref (b 0), .int xp1, .int xp2] post := by
  refine g_enter_l (by decide) (Yw_adr cA b) (Nat.le_of_ble_eq_true rfl) ?_
  intro p e s m args below meth c A Q S hml hK hA hret ls hl hW
  have hx := S.1
  have hb := S.2.1
  have hl : lv_has ls 3 [(0, .ref (b 0)), (1, .int xp1), (2, .int xp2)] := hl
  skip
  refine lv_iload_n hx hb dX5_at_0 rfl (lv_at hl 1 rfl) ?_
  refine g_cali (g_runS S hml hK hW (c_X5_isLeaf l D cA b u xp1 _ h _) kw_484 kw_485 kw_25 kw_486 hd_X5_isLeaf ⟨rfl, rfl, Nat.le_of_ble_eq_true rfl, Nat.le_of_ble_eq_true rfl⟩ (As := [.int xp1]) (rest := []) rfl rfl hl.1 (Nat.le_of_ble_eq_true rfl) dX5_at_1 ⟨Nat.zero_le _, Nat.zero_le _⟩) (Yw_adr cA b) hA hW (fun x2 u1 H locs h hW => ?_)
  refine lv_if_eq (tgt := 15) hx hb dX5_at_4 (by decide) (fun c3 => ?_) (fun c3 => ?_)
  · have h := h.1 c3
    refine lv_ldc2 hx hb S.2.2.1 (S.2.2.2 _ kw_514) dX5_at_15 ?_
    exact hret _ _ _ _ _ _ dX5_at_18 hW h
  · have h := h.2 c3
    refine lv_aload_n hx hb dX5_at_7 rfl (lv_at hl 0 rfl) ?_
    refine lv_iload_n hx hb dX5_at_8 rfl (lv_at hl 2 rfl) ?_
    refine g_cali (g_runV S hml hK hW (c_X5_isHeight l D cA b u1 xp2 _ h _) kw_510 kw_512 kw_10 kw_25 kw_513 hd_X5_isHeight ⟨rfl, rfl, Nat.le_of_ble_eq_true rfl, Nat.le_of_ble_eq_true rfl⟩ (q0 := 0) rfl rfl (As := [.int xp2]) (rest := []) rfl rfl hl.1 (Nat.le_of_ble_eq_true rfl) dX5_at_9 ⟨Nat.zero_le _, Nat.zero_le _⟩) (Yw_adr cA b) hA hW (fun x5 u4 H locs h hW => ?_)
    refine lv_if_ne (tgt := 19) hx hb dX5_at_12 (by decide) (fun c6 => ?_) (fun c6 => ?_)
    · have h := h.2 c6
      refine lv_aload_n hx hb dX5_at_19 rfl (lv_at hl 0 rfl) ?_
      refine yg_0_3 S hK hW kw_428 dX5_at_20 ?_
      refine lv_iload_n hx hb dX5_at_23 rfl (lv_at hl 2 rfl) ?_
      obtain ⟨hin, h⟩ := h
      refine yl_2 S hK hW hin dX5_at_24 (fun x7 ex7 => ?_)
      have h := nm_use ex7 h
      refine lv_if_le (tgt := 34) hx hb dX5_at_25 (by decide) (fun c8 => ?_) (fun c8 => ?_)
      · have h := h.1 c8
        refine lv_aload_n hx hb dX5_at_34 rfl (lv_at hl 0 rfl) ?_
        refine yg_0_1 S hK hW kw_426 dX5_at_35 ?_
        refine lv_bipush (v := 32) hx hb dX5_at_38 (by decide) ?_
        refine lv_iload_n hx hb dX5_at_40 rfl (lv_at hl 2 rfl) ?_
        refine lv_imul hx hb dX5_at_41 ?_
        refine lv_topi (fun x9 ex9 => ?_)
        have h := nm_use ex9 h
        refine lv_iload_n hx hb dX5_at_42 rfl (lv_at hl 1 rfl) ?_
        refine lv_iadd hx hb dX5_at_43 ?_
        refine lv_topi (fun x10 ex10 => ?_)
        have h := nm_use ex10 h
        obtain ⟨hin, h⟩ := h
        refine yl_0 S hK hW hin dX5_at_44 (fun x11 ex11 => ?_)
        have h := nm_use ex11 h
        refine lv_i2l hx hb dX5_at_45 rfl ?_
        refine lv_topl (fun z12 ez12 => ?_)
        have h := nm_use ez12 h
        exact hret _ _ _ _ _ _ dX5_at_46 hW h
      · have h := h.2 c8
        refine lv_ldc2 hx hb S.2.2.1 (S.2.2.2 _ kw_515) dX5_at_28 ?_
        refine lv_goto (tgt := 46) hx hb dX5_at_31 (by decide) ?_
        exact hret _ _ _ _ _ _ dX5_at_46 hW h
    · have h := h.1 c6
      refine lv_ldc2 hx hb S.2.2.1 (S.2.2.2 _ kw_514) dX5_at_15 ?_
      exact hret _ _ _ _ _ _ dX5_at_18 hW h
def w_X5_now (xp1 : Int32) (u : Mem) (post : Int64 → Mem → Prop) : Prop := w_X5_isLeaf xp1 u (fun x2 u1 => (x2 = 0 → (post (-4000000101) u1)) ∧ (¬ x2 = 0 → (w_X5_nowOf xp1 u1 (fun x5 u4 => nm ((x5 : Int32).toInt64) fun z6 => post z6 u4))))
abbrev rm_X5_now : Room := { frames := 2, cells := 0, slots := 0, locals := 45 }
theorem hd_X5_now : yX5_now.cls ≠ "java/lang/invoke/MethodHandle" ∧ yX5_now.cls ≠ "java/lang/invoke/VarHandle" ∧ (parseMethodDescriptor yX5_now.desc).map (fun d => d.parameters.length) = some 1 := by decide +kernel
set_option maxHeartbeats 4000000 in
set_option maxRecDepth 100000 in
theorem c_X5_now (l : Launch) (D : va_G) (cA : ClassId) (b : Nat → Nat) (u : Mem) (xp1 : Int32) (post : Int64 → Mem → Prop) (h : w_X5_now xp1 u post) : g_Ml l yX5_now (Cond.code yX5_now cX5_now 2 (some .long) :: tT) rm_X5_now D cA (Yw cA b) u [.ref (b 0), .int xp1] post := by
  refine g_enter_l (by decide) (Yw_adr cA b) (Nat.le_of_ble_eq_true rfl) ?_
  intro p e s m args below meth c A Q S hml hK hA hret ls hl hW
  have hx := S.1
  have hb := S.2.1
  have hl : lv_has ls 2 [(0, .ref (b 0)), (1, .int xp1)] := hl
  skip
  refine lv_iload_n hx hb dX5_now_0 rfl (lv_at hl 1 rfl) ?_
  refine g_cali (g_runS S hml hK hW (c_X5_isLeaf l D cA b u xp1 _ h _) kw_484 kw_485 kw_25 kw_486 hd_X5_isLeaf ⟨rfl, rfl, Nat.le_of_ble_eq_true rfl, Nat.le_of_ble_eq_true rfl⟩ (As := [.int xp1]) (rest := []) rfl rfl hl.1 (Nat.le_of_ble_eq_true rfl) dX5_now_1 ⟨Nat.zero_le _, Nat.zero_le _⟩) (Yw_adr cA b) hA hW (fun x2 u1 H locs h hW => ?_)
  refine lv_if_eq (tgt := 16) hx hb dX5_now_4 (by decide) (fun c3 => ?_) (fun c3 => ?_)
  · have h := h.1 c3
    refine lv_ldc2 hx hb S.2.2.1 (S.2.2.2 _ kw_514) dX5_now_16 ?_
    exact hret _ _ _ _ _ _ dX5_now_19 hW h
  · have h := h.2 c3
    refine lv_aload_n hx hb dX5_now_7 rfl (lv_at hl 0 rfl) ?_
    refine lv_iload_n hx hb dX5_now_8 rfl (lv_at hl 1 rfl) ?_
    refine g_cali (g_runV S hml hK hW (c_X5_nowOf l D cA b u1 xp1 _ h _) kw_494 kw_496 kw_8 kw_25 kw_497 hd_X5_nowOf ⟨rfl, rfl, Nat.le_of_ble_eq_true rfl, Nat.le_of_ble_eq_true rfl⟩ (q0 := 0) rfl rfl (As := [.int xp1]) (rest := []) rfl rfl hl.1 (Nat.le_of_ble_eq_true rfl) dX5_now_9 ⟨Nat.zero_le _, Nat.zero_le _⟩) (Yw_adr cA b) hA hW (fun x5 u4 H locs h hW => ?_)
    refine lv_i2l hx hb dX5_now_12 rfl ?_
    refine lv_topl (fun z6 ez6 => ?_)
    have h := nm_use ez6 h
    refine lv_goto (tgt := 19) hx hb dX5_now_13 (by decide) ?_
    exact hret _ _ _ _ _ _ dX5_now_19 hW h
def w_X5_digest (xp1 : Int32) (u : Mem) (post : Int64 → Mem → Prop) : Prop := w_X5_isHeight xp1 u (fun x2 u1 => (x2 = 0 → (post (-4000000101) u1)) ∧ (¬ x2 = 0 → (vp_in xp1 201 ∧ nm (u1 1 (xp1 : Int32).toNatClampNeg) fun x4 => nm ((x4 : Int32).toInt64) fun z5 => post z5 u1)))
abbrev rm_X5_digest : Room := { frames := 2, cells := 0, slots := 0, locals := 43 }
theorem hd_X5_digest : yX5_digest.cls ≠ "java/lang/invoke/MethodHandle" ∧ yX5_digest.cls ≠ "java/lang/invoke/VarHandle" ∧ (parseMethodDescriptor yX5_digest.desc).map (fun d => d.parameters.length) = some 1 := by decide +kernel
set_option maxHeartbeats 4000000 in
set_option maxRecDepth 100000 in
theorem c_X5_digest (l : Launch) (D : va_G) (cA : ClassId) (b : Nat → Nat) (u : Mem) (xp1 : Int32) (post : Int64 → Mem → Prop) (h : w_X5_digest xp1 u post) : g_Ml l yX5_digest (Cond.code yX5_digest cX5_digest 2 (some .long) :: tT) rm_X5_digest D cA (Yw cA b) u [.ref (b 0), .int xp1] post := by
  refine g_enter_l (by decide) (Yw_adr cA b) (Nat.le_of_ble_eq_true rfl) ?_
  intro p e s m args below meth c A Q S hml hK hA hret ls hl hW
  have hx := S.1
  have hb := S.2.1
  have hl : lv_has ls 2 [(0, .ref (b 0)), (1, .int xp1)] := hl
  skip
  refine lv_aload_n hx hb dX5_digest_0 rfl (lv_at hl 0 rfl) ?_
  refine lv_iload_n hx hb dX5_digest_1 rfl (lv_at hl 1 rfl) ?_
  refine g_cali (g_runV S hml hK hW (c_X5_isHeight l D cA b u xp1 _ h _) kw_510 kw_512 kw_10 kw_25 kw_513 hd_X5_isHeight ⟨rfl, rfl, Nat.le_of_ble_eq_true rfl, Nat.le_of_ble_eq_true rfl⟩ (q0 := 0) rfl rfl (As := [.int xp1]) (rest := []) rfl rfl hl.1 (Nat.le_of_ble_eq_true rfl) dX5_digest_2 ⟨Nat.zero_le _, Nat.zero_le _⟩) (Yw_adr cA b) hA hW (fun x2 u1 H locs h hW => ?_)
  refine lv_if_eq (tgt := 18) hx hb dX5_digest_5 (by decide) (fun c3 => ?_) (fun c3 => ?_)
  · have h := h.1 c3
    refine lv_ldc2 hx hb S.2.2.1 (S.2.2.2 _ kw_514) dX5_digest_18 ?_
    exact hret _ _ _ _ _ _ dX5_digest_21 hW h
  · have h := h.2 c3
    refine lv_aload_n hx hb dX5_digest_8 rfl (lv_at hl 0 rfl) ?_
    refine yg_0_2 S hK hW kw_427 dX5_digest_9 ?_
    refine lv_iload_n hx hb dX5_digest_12 rfl (lv_at hl 1 rfl) ?_
    obtain ⟨hin, h⟩ := h
    refine yl_1 S hK hW hin dX5_digest_13 (fun x4 ex4 => ?_)
    have h := nm_use ex4 h
    refine lv_i2l hx hb dX5_digest_14 rfl ?_
    refine lv_topl (fun z5 ez5 => ?_)
    have h := nm_use ez5 h
    refine lv_goto (tgt := 21) hx hb dX5_digest_15 (by decide) ?_
    exact hret _ _ _ _ _ _ dX5_digest_21 hW h
def L_X5_blame_48 (f1_48 : Int32) (f2_48 : Int32) (f3_48 : Int32) (post : Int32 → Mem → Prop) (K : Int32 → Int32 → Mem → Prop) : Nat → Int32 → Int32 → Mem → Prop
  | 0, _, _, _ => False
  | n_48 + 1, y4_48, y5_48, u_48 => ((u_48 15 0) ≤ y5_48 → (K y4_48 y5_48 u_48)) ∧ (¬ (u_48 15 0) ≤ y5_48 → (vp_in y5_48 400 ∧ nm (u_48 10 (y5_48 : Int32).toNatClampNeg) fun x13 => (x13 = 0 → (vp_in y5_48 400 ∧ nm (u_48 6 (y5_48 : Int32).toNatClampNeg) fun x16 => (x16 = f1_48 → (vp_in y5_48 400 ∧ nm (u_48 7 (y5_48 : Int32).toNatClampNeg) fun x19 => (f2_48 < x19 → (nm (y5_48 + 1) fun x21 => L_X5_blame_48 f1_48 f2_48 f3_48 post K n_48 y4_48 x21 u_48)) ∧ (¬ f2_48 < x19 → ((f3_48 = 0 → (vp_in y5_48 400 ∧ nm (u_48 9 (y5_48 : Int32).toNatClampNeg) fun x25 => nm (y5_48 + 1) fun x26 => L_X5_blame_48 f1_48 f2_48 f3_48 post K n_48 x25 x26 u_48)) ∧ (¬ f3_48 = 0 → (vp_in y5_48 400 ∧ nm (u_48 7 (y5_48 : Int32).toNatClampNeg) fun x23 => nm (y5_48 + 1) fun x24 => L_X5_blame_48 f1_48 f2_48 f3_48 post K n_48 x23 x24 u_48)))))) ∧ (¬ x16 = f1_48 → (nm (y5_48 + 1) fun x18 => L_X5_blame_48 f1_48 f2_48 f3_48 post K n_48 y4_48 x18 u_48)))) ∧ (¬ x13 = 0 → (nm (y5_48 + 1) fun x15 => L_X5_blame_48 f1_48 f2_48 f3_48 post K n_48 y4_48 x15 u_48))))
def w_X5_blame (xp1 : Int32) (xp2 : Int32) (xp3 : Int32) (u : Mem) (post : Int32 → Mem → Prop) : Prop := w_X5_isLeaf xp1 u (fun x2 u1 => (x2 = 0 → (post (-101) u1)) ∧ (¬ x2 = 0 → (w_X5_isHeight xp2 u1 (fun x5 u4 => (x5 = 0 → (post (-101) u4)) ∧ (¬ x5 = 0 → (w_X5_in xp3 0 1 u4 (fun x8 u7 => (x8 = 0 → (post (-102) u7)) ∧ (¬ x8 = 0 → (vp_in xp2 201 ∧ nm (u7 2 (xp2 : Int32).toNatClampNeg) fun x10 => (x10 ≤ 0 → (∃ n_48, L_X5_blame_48 xp1 xp2 xp3 post (fun w4_48 w5_48 v_48 => post w4_48 v_48) n_48 (-1) 0 u7)) ∧ (¬ x10 ≤ 0 → (post (-104) u7)))))))))))
abbrev rm_X5_blame : Room := { frames := 2, cells := 0, slots := 0, locals := 43 }
theorem hd_X5_blame : yX5_blame.cls ≠ "java/lang/invoke/MethodHandle" ∧ yX5_blame.cls ≠ "java/lang/invoke/VarHandle" ∧ (parseMethodDescriptor yX5_blame.desc).map (fun d => d.parameters.length) = some 3 := by decide +kernel
set_option maxHeartbeats 4000000 in
set_option maxRecDepth 100000 in
theorem c_X5_blame (l : Launch) (D : va_G) (cA : ClassId) (b : Nat → Nat) (u : Mem) (xp1 xp2 xp3 : Int32) (post : Int32 → Mem → Prop) (h : w_X5_blame xp1 xp2 xp3 u post) : g_Mi l yX5_blame (Cond.code yX5_blame cX5_blame 7 (some .int) :: tT) rm_X5_blame D cA (Yw cA b) u [.ref (b 0), .int xp1, .int xp2, .int xp3] post := by
  refine g_enter_i (by decide) (Yw_adr cA b) (Nat.le_of_ble_eq_true rfl) ?_
  intro p e s m args below meth c A Q S hml hK hA hret ls hl hW
  have hx := S.1
  have hb := S.2.1
  have hl : lv_has ls 7 [(0, .ref (b 0)), (1, .int xp1), (2, .int xp2), (3, .int xp3)] := hl
  skip
  refine lv_iload_n hx hb dX5_blame_0 rfl (lv_at hl 1 rfl) ?_
  refine g_cali (g_runS S hml hK hW (c_X5_isLeaf l D cA b u xp1 _ h _) kw_484 kw_485 kw_25 kw_486 hd_X5_isLeaf ⟨rfl, rfl, Nat.le_of_ble_eq_true rfl, Nat.le_of_ble_eq_true rfl⟩ (As := [.int xp1]) (rest := []) rfl rfl hl.1 (Nat.le_of_ble_eq_true rfl) dX5_blame_1 ⟨Nat.zero_le _, Nat.zero_le _⟩) (Yw_adr cA b) hA hW (fun x2 u1 H locs h hW => ?_)
  refine lv_if_eq (tgt := 15) hx hb dX5_blame_4 (by decide) (fun c3 => ?_) (fun c3 => ?_)
  · have h := h.1 c3
    refine lv_bipush (v := (-101)) hx hb dX5_blame_15 (by decide) ?_
    exact hret _ _ _ _ _ _ dX5_blame_17 hW h
  · have h := h.2 c3
    refine lv_aload_n hx hb dX5_blame_7 rfl (lv_at hl 0 rfl) ?_
    refine lv_iload_n hx hb dX5_blame_8 rfl (lv_at hl 2 rfl) ?_
    refine g_cali (g_runV S hml hK hW (c_X5_isHeight l D cA b u1 xp2 _ h _) kw_510 kw_512 kw_10 kw_25 kw_513 hd_X5_isHeight ⟨rfl, rfl, Nat.le_of_ble_eq_true rfl, Nat.le_of_ble_eq_true rfl⟩ (q0 := 0) rfl rfl (As := [.int xp2]) (rest := []) rfl rfl hl.1 (Nat.le_of_ble_eq_true rfl) dX5_blame_9 ⟨Nat.zero_le _, Nat.zero_le _⟩) (Yw_adr cA b) hA hW (fun x5 u4 H locs h hW => ?_)
    refine lv_if_ne (tgt := 18) hx hb dX5_blame_12 (by decide) (fun c6 => ?_) (fun c6 => ?_)
    · have h := h.2 c6
      refine lv_iload_n hx hb dX5_blame_18 rfl (lv_at hl 3 rfl) ?_
      refine lv_iconst (v := 0) hx hb dX5_blame_19 (by decide) ?_
      refine lv_iconst (v := 1) hx hb dX5_blame_20 (by decide) ?_
      refine g_cali (g_runS S hml hK hW (c_X5_in l D cA b u4 xp3 0 1 _ h _) kw_487 kw_488 kw_25 kw_489 hd_X5_in ⟨rfl, rfl, Nat.le_of_ble_eq_true rfl, Nat.le_of_ble_eq_true rfl⟩ (As := [.int xp3, .int 0, .int 1]) (rest := []) rfl rfl hl.1 (Nat.le_of_ble_eq_true rfl) dX5_blame_21 ⟨Nat.zero_le _, Nat.zero_le _⟩) (Yw_adr cA b) hA hW (fun x8 u7 H locs h hW => ?_)
      refine lv_if_ne (tgt := 30) hx hb dX5_blame_24 (by decide) (fun c9 => ?_) (fun c9 => ?_)
      · have h := h.2 c9
        refine lv_aload_n hx hb dX5_blame_30 rfl (lv_at hl 0 rfl) ?_
        refine yg_0_3 S hK hW kw_428 dX5_blame_31 ?_
        refine lv_iload_n hx hb dX5_blame_34 rfl (lv_at hl 2 rfl) ?_
        obtain ⟨hin, h⟩ := h
        refine yl_2 S hK hW hin dX5_blame_35 (fun x10 ex10 => ?_)
        have h := nm_use ex10 h
        refine lv_if_le (tgt := 42) hx hb dX5_blame_36 (by decide) (fun c11 => ?_) (fun c11 => ?_)
        · have h := h.1 c11
          refine lv_iconst (v := (-1)) hx hb dX5_blame_42 (by decide) ?_
          refine lv_istore (lv' := [(4, .int (-1)), (0, .ref (b 0)), (1, .int xp1), (2, .int xp2), (3, .int xp3)]) hx hb dX5_blame_43 hl (by decide) rfl (fun ls hl => ?_)
          refine lv_iconst (v := 0) hx hb dX5_blame_45 (by decide) ?_
          refine lv_istore (lv' := [(5, .int 0), (4, .int (-1)), (0, .ref (b 0)), (1, .int xp1), (2, .int xp2), (3, .int xp3)]) hx hb dX5_blame_46 hl (by decide) rfl (fun ls hl => ?_)
          have loop_48 : ∀ (K : Int32 → Int32 → Mem → Prop), (∀ (w4_48 w5_48 : Int32) (v_48 : Mem) (H : Heap) (locs : List Loc) (ls : Array Slot), K w4_48 w5_48 v_48 → g_W D (Yw cA b) A s.heap v_48 H locs → lv_has ls 7 [(0, .ref (b 0)), (1, .int xp1), (2, .int xp2), (3, .int xp3), (4, .int w4_48), (5, .int w5_48)] → W p l e rm_X5_blame s m args below meth c H locs 0 0 Q (F0 m 135 ls [])) → ∀ (n : Nat) (y4_48 y5_48 : Int32) (u_48 : Mem) (H : Heap) (locs : List Loc) (ls : Array Slot), L_X5_blame_48 xp1 xp2 xp3 post K n y4_48 y5_48 u_48 → g_W D (Yw cA b) A s.heap u_48 H locs → lv_has ls 7 [(0, .ref (b 0)), (1, .int xp1), (2, .int xp2), (3, .int xp3), (4, .int y4_48), (5, .int y5_48)] → W p l e rm_X5_blame s m args below meth c H locs 0 0 Q (F0 m 48 ls []) := by
            intro K hE n
            induction n with
            | zero => intro y4_48 y5_48 u_48 H locs ls h; exact False.elim h
            | succ n ih =>
              intro y4_48 y5_48 u_48 H locs ls h hW hl
              refine lv_iload hx hb dX5_blame_48 (lv_at hl 5 rfl) ?_
              refine lv_aload_n hx hb dX5_blame_50 rfl (lv_at hl 0 rfl) ?_
              refine yg_0_8 S hK hW kw_433 dX5_blame_51 ?_
              refine lv_icmp_ge (tgt := 135) hx hb dX5_blame_54 (by decide) (fun c27 => ?_) (fun c27 => ?_)
              · have h := h.1 c27
                exact hE y4_48 y5_48 u_48 _ _ _ h hW (lv_sub hl [0, 1, 2, 3, 4, 5] rfl)
              · have h := h.2 c27
                refine lv_aload_n hx hb dX5_blame_57 rfl (lv_at hl 0 rfl) ?_
                refine yg_0_13 S hK hW kw_438 dX5_blame_58 ?_
                refine lv_iload hx hb dX5_blame_61 (lv_at hl 5 rfl) ?_
                obtain ⟨hin, h⟩ := h
                refine yl_10 S hK hW hin dX5_blame_63 (fun x28 ex28 => ?_)
                have h := nm_use ex28 h
                refine lv_if_ne (tgt := 93) hx hb dX5_blame_64 (by decide) (fun c29 => ?_) (fun c29 => ?_)
                · have h := h.2 c29
                  refine lv_iconst (v := 0) hx hb dX5_blame_93 (by decide) ?_
                  refine lv_istore (lv' := [(6, .int 0), (0, .ref (b 0)), (1, .int xp1), (2, .int xp2), (3, .int xp3), (4, .int y4_48), (5, .int y5_48)]) hx hb dX5_blame_94 hl (by decide) rfl (fun ls hl => ?_)
                  refine lv_iload hx hb dX5_blame_96 (lv_at hl 0 rfl) ?_
                  refine lv_if_eq (tgt := 125) hx hb dX5_blame_98 (by decide) (fun _ => ?_) (fun cc_ => absurd cc_ (by decide))
                  refine lv_iload hx hb dX5_blame_125 (lv_at hl 5 rfl) ?_
                  refine lv_istore (lv' := [(4, .int y4_48), (6, .int 0), (0, .ref (b 0)), (1, .int xp1), (2, .int xp2), (3, .int xp3), (5, .int y5_48)]) hx hb dX5_blame_127 hl (by decide) rfl (fun ls hl => ?_)
                  obtain ⟨x30, ex30⟩ : ∃ z : Int32, z = y5_48 + 1 := ⟨_, rfl⟩
                  have h := nm_use ex30 h
                  refine lv_iinc (v := x30) (lv' := [(5, .int x30), (4, .int y4_48), (6, .int 0), (0, .ref (b 0)), (1, .int xp1), (2, .int xp2), (3, .int xp3)]) hx hb dX5_blame_129 hl (k := 6) rfl (by rw [ex30]; rfl) (by decide) rfl (fun ls hl => ?_)
                  refine lv_goto (tgt := 48) hx hb dX5_blame_132 (by decide) ?_
                  exact ih y4_48 x30 u_48 _ _ _ h hW (lv_sub hl [3, 4, 5, 6, 1, 0] rfl)
                · have h := h.1 c29
                  refine lv_aload_n hx hb dX5_blame_67 rfl (lv_at hl 0 rfl) ?_
                  refine yg_0_9 S hK hW kw_434 dX5_blame_68 ?_
                  refine lv_iload hx hb dX5_blame_71 (lv_at hl 5 rfl) ?_
                  obtain ⟨hin, h⟩ := h
                  refine yl_6 S hK hW hin dX5_blame_73 (fun x31 ex31 => ?_)
                  have h := nm_use ex31 h
                  refine lv_iload_n hx hb dX5_blame_74 rfl (lv_at hl 1 rfl) ?_
                  refine lv_icmp_ne (tgt := 93) hx hb dX5_blame_75 (by decide) (fun c32 => ?_) (fun c32 => ?_)
                  · have h := h.2 c32
                    refine lv_iconst (v := 0) hx hb dX5_blame_93 (by decide) ?_
                    refine lv_istore (lv' := [(6, .int 0), (0, .ref (b 0)), (1, .int xp1), (2, .int xp2), (3, .int xp3), (4, .int y4_48), (5, .int y5_48)]) hx hb dX5_blame_94 hl (by decide) rfl (fun ls hl => ?_)
                    refine lv_iload hx hb dX5_blame_96 (lv_at hl 0 rfl) ?_
                    refine lv_if_eq (tgt := 125) hx hb dX5_blame_98 (by decide) (fun _ => ?_) (fun cc_ => absurd cc_ (by decide))
                    refine lv_iload hx hb dX5_blame_125 (lv_at hl 5 rfl) ?_
                    refine lv_istore (lv' := [(4, .int y4_48), (6, .int 0), (0, .ref (b 0)), (1, .int xp1), (2, .int xp2), (3, .int xp3), (5, .int y5_48)]) hx hb dX5_blame_127 hl (by decide) rfl (fun ls hl => ?_)
                    obtain ⟨x33, ex33⟩ : ∃ z : Int32, z = y5_48 + 1 := ⟨_, rfl⟩
                    have h := nm_use ex33 h
                    refine lv_iinc (v := x33) (lv' := [(5, .int x33), (4, .int y4_48), (6, .int 0), (0, .ref (b 0)), (1, .int xp1), (2, .int xp2), (3, .int xp3)]) hx hb dX5_blame_129 hl (k := 6) rfl (by rw [ex33]; rfl) (by decide) rfl (fun ls hl => ?_)
                    refine lv_goto (tgt := 48) hx hb dX5_blame_132 (by decide) ?_
                    exact ih y4_48 x33 u_48 _ _ _ h hW (lv_sub hl [3, 4, 5, 6, 1, 0] rfl)
                  · have h := h.1 c32
                    refine lv_aload_n hx hb dX5_blame_78 rfl (lv_at hl 0 rfl) ?_
                    refine yg_0_10 S hK hW kw_435 dX5_blame_79 ?_
                    refine lv_iload hx hb dX5_blame_82 (lv_at hl 5 rfl) ?_
                    obtain ⟨hin, h⟩ := h
                    refine yl_7 S hK hW hin dX5_blame_84 (fun x34 ex34 => ?_)
                    have h := nm_use ex34 h
                    refine lv_iload_n hx hb dX5_blame_85 rfl (lv_at hl 2 rfl) ?_
                    refine lv_icmp_gt (tgt := 93) hx hb dX5_blame_86 (by decide) (fun c35 => ?_) (fun c35 => ?_)
                    · have h := h.1 c35
                      refine lv_iconst (v := 0) hx hb dX5_blame_93 (by decide) ?_
                      refine lv_istore (lv' := [(6, .int 0), (0, .ref (b 0)), (1, .int xp1), (2, .int xp2), (3, .int xp3), (4, .int y4_48), (5, .int y5_48)]) hx hb dX5_blame_94 hl (by decide) rfl (fun ls hl => ?_)
                      refine lv_iload hx hb dX5_blame_96 (lv_at hl 0 rfl) ?_
                      refine lv_if_eq (tgt := 125) hx hb dX5_blame_98 (by decide) (fun _ => ?_) (fun cc_ => absurd cc_ (by decide))
                      refine lv_iload hx hb dX5_blame_125 (lv_at hl 5 rfl) ?_
                      refine lv_istore (lv' := [(4, .int y4_48), (6, .int 0), (0, .ref (b 0)), (1, .int xp1), (2, .int xp2), (3, .int xp3), (5, .int y5_48)]) hx hb dX5_blame_127 hl (by decide) rfl (fun ls hl => ?_)
                      obtain ⟨x36, ex36⟩ : ∃ z : Int32, z = y5_48 + 1 := ⟨_, rfl⟩
                      have h := nm_use ex36 h
                      refine lv_iinc (v := x36) (lv' := [(5, .int x36), (4, .int y4_48), (6, .int 0), (0, .ref (b 0)), (1, .int xp1), (2, .int xp2), (3, .int xp3)]) hx hb dX5_blame_129 hl (k := 6) rfl (by rw [ex36]; rfl) (by decide) rfl (fun ls hl => ?_)
                      refine lv_goto (tgt := 48) hx hb dX5_blame_132 (by decide) ?_
                      exact ih y4_48 x36 u_48 _ _ _ h hW (lv_sub hl [3, 4, 5, 6, 1, 0] rfl)
                    · have h := h.2 c35
                      refine lv_iconst (v := 1) hx hb dX5_blame_89 (by decide) ?_
                      refine lv_goto (tgt := 94) hx hb dX5_blame_90 (by decide) ?_
                      refine lv_istore (lv' := [(6, .int 1), (0, .ref (b 0)), (1, .int xp1), (2, .int xp2), (3, .int xp3), (4, .int y4_48), (5, .int y5_48)]) hx hb dX5_blame_94 hl (by decide) rfl (fun ls hl => ?_)
                      refine lv_iload hx hb dX5_blame_96 (lv_at hl 0 rfl) ?_
                      refine lv_if_eq (tgt := 125) hx hb dX5_blame_98 (by decide) (fun cc_ => absurd cc_ (by decide)) (fun _ => ?_)
                      refine lv_iload_n hx hb dX5_blame_101 rfl (lv_at hl 4 rfl) ?_
                      refine lv_if_ne (tgt := 115) hx hb dX5_blame_102 (by decide) (fun c37 => ?_) (fun c37 => ?_)
                      · have h := h.2 c37
                        refine lv_aload_n hx hb dX5_blame_115 rfl (lv_at hl 1 rfl) ?_
                        refine yg_0_10 S hK hW kw_435 dX5_blame_116 ?_
                        refine lv_iload hx hb dX5_blame_119 (lv_at hl 6 rfl) ?_
                        obtain ⟨hin, h⟩ := h
                        refine yl_7 S hK hW hin dX5_blame_121 (fun x38 ex38 => ?_)
                        have h := nm_use ex38 h
                        refine lv_goto (tgt := 127) hx hb dX5_blame_122 (by decide) ?_
                        refine lv_istore (lv' := [(4, .int x38), (6, .int 1), (0, .ref (b 0)), (1, .int xp1), (2, .int xp2), (3, .int xp3), (5, .int y5_48)]) hx hb dX5_blame_127 hl (by decide) rfl (fun ls hl => ?_)
                        obtain ⟨x39, ex39⟩ : ∃ z : Int32, z = y5_48 + 1 := ⟨_, rfl⟩
                        have h := nm_use ex39 h
                        refine lv_iinc (v := x39) (lv' := [(5, .int x39), (4, .int x38), (6, .int 1), (0, .ref (b 0)), (1, .int xp1), (2, .int xp2), (3, .int xp3)]) hx hb dX5_blame_129 hl (k := 6) rfl (by rw [ex39]; rfl) (by decide) rfl (fun ls hl => ?_)
                        refine lv_goto (tgt := 48) hx hb dX5_blame_132 (by decide) ?_
                        exact ih x38 x39 u_48 _ _ _ h hW (lv_sub hl [3, 4, 5, 6, 1, 0] rfl)
                      · have h := h.1 c37
                        refine lv_aload_n hx hb dX5_blame_105 rfl (lv_at hl 1 rfl) ?_
                        refine yg_0_12 S hK hW kw_437 dX5_blame_106 ?_
                        refine lv_iload hx hb dX5_blame_109 (lv_at hl 6 rfl) ?_
                        obtain ⟨hin, h⟩ := h
                        refine yl_9 S hK hW hin dX5_blame_111 (fun x40 ex40 => ?_)
                        have h := nm_use ex40 h
                        refine lv_goto (tgt := 127) hx hb dX5_blame_112 (by decide) ?_
                        refine lv_istore (lv' := [(4, .int x40), (6, .int 1), (0, .ref (b 0)), (1, .int xp1), (2, .int xp2), (3, .int xp3), (5, .int y5_48)]) hx hb dX5_blame_127 hl (by decide) rfl (fun ls hl => ?_)
                        obtain ⟨x41, ex41⟩ : ∃ z : Int32, z = y5_48 + 1 := ⟨_, rfl⟩
                        have h := nm_use ex41 h
                        refine lv_iinc (v := x41) (lv' := [(5, .int x41), (4, .int x40), (6, .int 1), (0, .ref (b 0)), (1, .int xp1), (2, .int xp2), (3, .int xp3)]) hx hb dX5_blame_129 hl (k := 6) rfl (by rw [ex41]; rfl) (by decide) rfl (fun ls hl => ?_)
                        refine lv_goto (tgt := 48) hx hb dX5_blame_132 (by decide) ?_
                        exact ih x40 x41 u_48 _ _ _ h hW (lv_sub hl [3, 4, 5, 6, 1, 0] rfl)
          obtain ⟨n_48, h⟩ := h
          refine loop_48 _ ?_ n_48 (-1) 0 u7 _ _ _ h hW (lv_sub hl [2, 3, 4, 5, 1, 0] rfl)
          intro w4_48 w5_48 v_48 H locs ls h hW hl
          refine lv_iload hx hb dX5_blame_135 (lv_at hl 4 rfl) ?_
          exact hret _ _ _ _ _ _ dX5_blame_137 hW h
        · have h := h.2 c11
          refine lv_bipush (v := (-104)) hx hb dX5_blame_39 (by decide) ?_
          exact hret _ _ _ _ _ _ dX5_blame_41 hW h
      · have h := h.1 c9
        refine lv_bipush (v := (-102)) hx hb dX5_blame_27 (by decide) ?_
        exact hret _ _ _ _ _ _ dX5_blame_29 hW h
    · have h := h.1 c6
      refine lv_bipush (v := (-101)) hx hb dX5_blame_15 (by decide) ?_
      exact hret _ _ _ _ _ _ dX5_blame_17 hW h
def L_X5_first_12 (f1_12 : Int32) (f2_12 : Int32) (post : Int32 → Mem → Prop) (K : Int32 → Mem → Prop) : Nat → Int32 → Mem → Prop
  | 0, _, _ => False
  | n_12 + 1, y3_12, u_12 => ((u_12 13 0) < y3_12 → (K y3_12 u_12)) ∧ (¬ (u_12 13 0) < y3_12 → (vp_in y3_12 201 ∧ nm (u_12 2 (y3_12 : Int32).toNatClampNeg) fun x5 => (x5 = 0 → (nm ((32 : Int32) * y3_12 : Int32) fun x8 => nm (x8 + f1_12 : Int32) fun x9 => vp_in x9 6432 ∧ nm (u_12 0 (x9 : Int32).toNatClampNeg) fun x10 => (x10 = f2_12 → (post y3_12 u_12)) ∧ (¬ x10 = f2_12 → (nm (y3_12 + 1) fun x12 => L_X5_first_12 f1_12 f2_12 post K n_12 x12 u_12)))) ∧ (¬ x5 = 0 → (nm (y3_12 + 1) fun x7 => L_X5_first_12 f1_12 f2_12 post K n_12 x7 u_12))))
def w_X5_first (xp1 : Int32) (xp2 : Int32) (u : Mem) (post : Int32 → Mem → Prop) : Prop := w_X5_isLeaf xp1 u (fun x2 u1 => (x2 = 0 → (post (-101) u1)) ∧ (¬ x2 = 0 → (∃ n_12, L_X5_first_12 xp1 xp2 post (fun w3_12 v_12 => post (-1) v_12) n_12 0 u1)))
abbrev rm_X5_first : Room := { frames := 2, cells := 0, slots := 0, locals := 42 }
theorem hd_X5_first : yX5_first.cls ≠ "java/lang/invoke/MethodHandle" ∧ yX5_first.cls ≠ "java/lang/invoke/VarHandle" ∧ (parseMethodDescriptor yX5_first.desc).map (fun d => d.parameters.length) = some 2 := by decide +kernel
set_option maxHeartbeats 4000000 in
set_option maxRecDepth 100000 in
theorem c_X5_first (l : Launch) (D : va_G) (cA : ClassId) (b : Nat → Nat) (u : Mem) (xp1 xp2 : Int32) (post : Int32 → Mem → Prop) (h : w_X5_first xp1 xp2 u post) : g_Mi l yX5_first (Cond.code yX5_first cX5_first 4 (some .int) :: tT) rm_X5_first D cA (Yw cA b) u [.ref (b 0), .int xp1, .int xp2] post := by
  refine g_enter_i (by decide) (Yw_adr cA b) (Nat.le_of_ble_eq_true rfl) ?_
  intro p e s m args below meth c A Q S hml hK hA hret ls hl hW
  have hx := S.1
  have hb := S.2.1
  have hl : lv_has ls 4 [(0, .ref (b 0)), (1, .int xp1), (2, .int xp2)] := hl
  skip
  refine lv_iload_n hx hb dX5_first_0 rfl (lv_at hl 1 rfl) ?_
  refine g_cali (g_runS S hml hK hW (c_X5_isLeaf l D cA b u xp1 _ h _) kw_484 kw_485 kw_25 kw_486 hd_X5_isLeaf ⟨rfl, rfl, Nat.le_of_ble_eq_true rfl, Nat.le_of_ble_eq_true rfl⟩ (As := [.int xp1]) (rest := []) rfl rfl hl.1 (Nat.le_of_ble_eq_true rfl) dX5_first_1 ⟨Nat.zero_le _, Nat.zero_le _⟩) (Yw_adr cA b) hA hW (fun x2 u1 H locs h hW => ?_)
  refine lv_if_ne (tgt := 10) hx hb dX5_first_4 (by decide) (fun c3 => ?_) (fun c3 => ?_)
  · have h := h.2 c3
    refine lv_iconst (v := 0) hx hb dX5_first_10 (by decide) ?_
    refine lv_istore_n (lv' := [(3, .int 0), (0, .ref (b 0)), (1, .int xp1), (2, .int xp2)]) hx hb dX5_first_11 rfl hl (by decide) rfl (fun ls hl => ?_)
    have loop_12 : ∀ (K : Int32 → Mem → Prop), (∀ (w3_12 : Int32) (v_12 : Mem) (H : Heap) (locs : List Loc) (ls : Array Slot), K w3_12 v_12 → g_W D (Yw cA b) A s.heap v_12 H locs → lv_has ls 4 [(0, .ref (b 0)), (1, .int xp1), (2, .int xp2), (3, .int w3_12)] → W p l e rm_X5_first s m args below meth c H locs 0 0 Q (F0 m 52 ls [])) → ∀ (n : Nat) (y3_12 : Int32) (u_12 : Mem) (H : Heap) (locs : List Loc) (ls : Array Slot), L_X5_first_12 xp1 xp2 post K n y3_12 u_12 → g_W D (Yw cA b) A s.heap u_12 H locs → lv_has ls 4 [(0, .ref (b 0)), (1, .int xp1), (2, .int xp2), (3, .int y3_12)] → W p l e rm_X5_first s m args below meth c H locs 0 0 Q (F0 m 12 ls []) := by
      intro K hE n
      induction n with
      | zero => intro y3_12 u_12 H locs ls h; exact False.elim h
      | succ n ih =>
        intro y3_12 u_12 H locs ls h hW hl
        refine lv_iload_n hx hb dX5_first_12 rfl (lv_at hl 3 rfl) ?_
        refine lv_aload_n hx hb dX5_first_13 rfl (lv_at hl 0 rfl) ?_
        refine yg_0_0 S hK hW kw_425 dX5_first_14 ?_
        refine lv_icmp_gt (tgt := 52) hx hb dX5_first_17 (by decide) (fun c13 => ?_) (fun c13 => ?_)
        · have h := h.1 c13
          exact hE y3_12 u_12 _ _ _ h hW (lv_sub hl [0, 1, 2, 3] rfl)
        · have h := h.2 c13
          refine lv_aload_n hx hb dX5_first_20 rfl (lv_at hl 0 rfl) ?_
          refine yg_0_3 S hK hW kw_428 dX5_first_21 ?_
          refine lv_iload_n hx hb dX5_first_24 rfl (lv_at hl 3 rfl) ?_
          obtain ⟨hin, h⟩ := h
          refine yl_2 S hK hW hin dX5_first_25 (fun x14 ex14 => ?_)
          have h := nm_use ex14 h
          refine lv_if_ne (tgt := 46) hx hb dX5_first_26 (by decide) (fun c15 => ?_) (fun c15 => ?_)
          · have h := h.2 c15
            obtain ⟨x16, ex16⟩ : ∃ z : Int32, z = y3_12 + 1 := ⟨_, rfl⟩
            have h := nm_use ex16 h
            refine lv_iinc (v := x16) (lv' := [(3, .int x16), (0, .ref (b 0)), (1, .int xp1), (2, .int xp2)]) hx hb dX5_first_46 hl (k := 3) rfl (by rw [ex16]; rfl) (by decide) rfl (fun ls hl => ?_)
            refine lv_goto (tgt := 12) hx hb dX5_first_49 (by decide) ?_
            exact ih x16 u_12 _ _ _ h hW (lv_sub hl [1, 2, 3, 0] rfl)
          · have h := h.1 c15
            refine lv_aload_n hx hb dX5_first_29 rfl (lv_at hl 0 rfl) ?_
            refine yg_0_1 S hK hW kw_426 dX5_first_30 ?_
            refine lv_bipush (v := 32) hx hb dX5_first_33 (by decide) ?_
            refine lv_iload_n hx hb dX5_first_35 rfl (lv_at hl 3 rfl) ?_
            refine lv_imul hx hb dX5_first_36 ?_
            refine lv_topi (fun x17 ex17 => ?_)
            have h := nm_use ex17 h
            refine lv_iload_n hx hb dX5_first_37 rfl (lv_at hl 1 rfl) ?_
            refine lv_iadd hx hb dX5_first_38 ?_
            refine lv_topi (fun x18 ex18 => ?_)
            have h := nm_use ex18 h
            obtain ⟨hin, h⟩ := h
            refine yl_0 S hK hW hin dX5_first_39 (fun x19 ex19 => ?_)
            have h := nm_use ex19 h
            refine lv_iload_n hx hb dX5_first_40 rfl (lv_at hl 2 rfl) ?_
            refine lv_icmp_ne (tgt := 46) hx hb dX5_first_41 (by decide) (fun c20 => ?_) (fun c20 => ?_)
            · have h := h.2 c20
              obtain ⟨x21, ex21⟩ : ∃ z : Int32, z = y3_12 + 1 := ⟨_, rfl⟩
              have h := nm_use ex21 h
              refine lv_iinc (v := x21) (lv' := [(3, .int x21), (0, .ref (b 0)), (1, .int xp1), (2, .int xp2)]) hx hb dX5_first_46 hl (k := 3) rfl (by rw [ex21]; rfl) (by decide) rfl (fun ls hl => ?_)
              refine lv_goto (tgt := 12) hx hb dX5_first_49 (by decide) ?_
              exact ih x21 u_12 _ _ _ h hW (lv_sub hl [1, 2, 3, 0] rfl)
            · have h := h.1 c20
              refine lv_iload_n hx hb dX5_first_44 rfl (lv_at hl 3 rfl) ?_
              exact hret _ _ _ _ _ _ dX5_first_45 hW h
    obtain ⟨n_12, h⟩ := h
    refine loop_12 _ ?_ n_12 0 u1 _ _ _ h hW (lv_sub hl [1, 2, 3, 0] rfl)
    intro w3_12 v_12 H locs ls h hW hl
    refine lv_iconst (v := (-1)) hx hb dX5_first_52 (by decide) ?_
    exact hret _ _ _ _ _ _ dX5_first_53 hW h
  · have h := h.1 c3
    refine lv_bipush (v := (-101)) hx hb dX5_first_7 (by decide) ?_
    exact hret _ _ _ _ _ _ dX5_first_9 hW h
def w_X5_bars (xp1 : Int32) (xp2 : Int32) (u : Mem) (post : Int32 → Mem → Prop) : Prop := w_X5_isHeight xp1 u (fun x2 u1 => (x2 = 0 → (post (-101) u1)) ∧ (¬ x2 = 0 → (w_X5_isHeight xp2 u1 (fun x5 u4 => (x5 = 0 → (post (-101) u4)) ∧ (¬ x5 = 0 → (vp_in xp1 201 ∧ nm (u4 2 (xp1 : Int32).toNatClampNeg) fun x7 => (0 < x7 → (post (-104) u4)) ∧ (¬ 0 < x7 → (vp_in xp2 201 ∧ nm (u4 2 (xp2 : Int32).toNatClampNeg) fun x9 => (x9 ≤ 0 → (post 0 u4)) ∧ (¬ x9 ≤ 0 → (post (-104) u4))))))))))
abbrev rm_X5_bars : Room := { frames := 2, cells := 0, slots := 0, locals := 43 }
theorem hd_X5_bars : yX5_bars.cls ≠ "java/lang/invoke/MethodHandle" ∧ yX5_bars.cls ≠ "java/lang/invoke/VarHandle" ∧ (parseMethodDescriptor yX5_bars.desc).map (fun d => d.parameters.length) = some 2 := by decide +kernel
set_option maxHeartbeats 4000000 in
set_option maxRecDepth 100000 in
theorem c_X5_bars (l : Launch) (D : va_G) (cA : ClassId) (b : Nat → Nat) (u : Mem) (xp1 xp2 : Int32) (post : Int32 → Mem → Prop) (h : w_X5_bars xp1 xp2 u post) : g_Mi l yX5_bars (Cond.code yX5_bars cX5_bars 3 (some .int) :: tT) rm_X5_bars D cA (Yw cA b) u [.ref (b 0), .int xp1, .int xp2] post := by
  refine g_enter_i (by decide) (Yw_adr cA b) (Nat.le_of_ble_eq_true rfl) ?_
  intro p e s m args below meth c A Q S hml hK hA hret ls hl hW
  have hx := S.1
  have hb := S.2.1
  have hl : lv_has ls 3 [(0, .ref (b 0)), (1, .int xp1), (2, .int xp2)] := hl
  skip
  refine lv_aload_n hx hb dX5_bars_0 rfl (lv_at hl 0 rfl) ?_
  refine lv_iload_n hx hb dX5_bars_1 rfl (lv_at hl 1 rfl) ?_
  refine g_cali (g_runV S hml hK hW (c_X5_isHeight l D cA b u xp1 _ h _) kw_510 kw_512 kw_10 kw_25 kw_513 hd_X5_isHeight ⟨rfl, rfl, Nat.le_of_ble_eq_true rfl, Nat.le_of_ble_eq_true rfl⟩ (q0 := 0) rfl rfl (As := [.int xp1]) (rest := []) rfl rfl hl.1 (Nat.le_of_ble_eq_true rfl) dX5_bars_2 ⟨Nat.zero_le _, Nat.zero_le _⟩) (Yw_adr cA b) hA hW (fun x2 u1 H locs h hW => ?_)
  refine lv_if_eq (tgt := 16) hx hb dX5_bars_5 (by decide) (fun c3 => ?_) (fun c3 => ?_)
  · have h := h.1 c3
    refine lv_bipush (v := (-101)) hx hb dX5_bars_16 (by decide) ?_
    exact hret _ _ _ _ _ _ dX5_bars_18 hW h
  · have h := h.2 c3
    refine lv_aload_n hx hb dX5_bars_8 rfl (lv_at hl 0 rfl) ?_
    refine lv_iload_n hx hb dX5_bars_9 rfl (lv_at hl 2 rfl) ?_
    refine g_cali (g_runV S hml hK hW (c_X5_isHeight l D cA b u1 xp2 _ h _) kw_510 kw_512 kw_10 kw_25 kw_513 hd_X5_isHeight ⟨rfl, rfl, Nat.le_of_ble_eq_true rfl, Nat.le_of_ble_eq_true rfl⟩ (q0 := 0) rfl rfl (As := [.int xp2]) (rest := []) rfl rfl hl.1 (Nat.le_of_ble_eq_true rfl) dX5_bars_10 ⟨Nat.zero_le _, Nat.zero_le _⟩) (Yw_adr cA b) hA hW (fun x5 u4 H locs h hW => ?_)
    refine lv_if_ne (tgt := 19) hx hb dX5_bars_13 (by decide) (fun c6 => ?_) (fun c6 => ?_)
    · have h := h.2 c6
      refine lv_aload_n hx hb dX5_bars_19 rfl (lv_at hl 0 rfl) ?_
      refine yg_0_3 S hK hW kw_428 dX5_bars_20 ?_
      refine lv_iload_n hx hb dX5_bars_23 rfl (lv_at hl 1 rfl) ?_
      obtain ⟨hin, h⟩ := h
      refine yl_2 S hK hW hin dX5_bars_24 (fun x7 ex7 => ?_)
      have h := nm_use ex7 h
      refine lv_if_gt (tgt := 37) hx hb dX5_bars_25 (by decide) (fun c8 => ?_) (fun c8 => ?_)
      · have h := h.1 c8
        refine lv_bipush (v := (-104)) hx hb dX5_bars_37 (by decide) ?_
        refine lv_goto (tgt := 43) hx hb dX5_bars_39 (by decide) ?_
        exact hret _ _ _ _ _ _ dX5_bars_43 hW h
      · have h := h.2 c8
        refine lv_aload_n hx hb dX5_bars_28 rfl (lv_at hl 0 rfl) ?_
        refine yg_0_3 S hK hW kw_428 dX5_bars_29 ?_
        refine lv_iload_n hx hb dX5_bars_32 rfl (lv_at hl 2 rfl) ?_
        obtain ⟨hin, h⟩ := h
        refine yl_2 S hK hW hin dX5_bars_33 (fun x9 ex9 => ?_)
        have h := nm_use ex9 h
        refine lv_if_le (tgt := 42) hx hb dX5_bars_34 (by decide) (fun c10 => ?_) (fun c10 => ?_)
        · have h := h.1 c10
          refine lv_iconst (v := 0) hx hb dX5_bars_42 (by decide) ?_
          exact hret _ _ _ _ _ _ dX5_bars_43 hW h
        · have h := h.2 c10
          refine lv_bipush (v := (-104)) hx hb dX5_bars_37 (by decide) ?_
          refine lv_goto (tgt := 43) hx hb dX5_bars_39 (by decide) ?_
          exact hret _ _ _ _ _ _ dX5_bars_43 hW h
    · have h := h.1 c6
      refine lv_bipush (v := (-101)) hx hb dX5_bars_16 (by decide) ?_
      exact hret _ _ _ _ _ _ dX5_bars_18 hW h
def L_X5_differs_19 (f1_19 : Int32) (f2_19 : Int32) (f3_19 : Int32) (post : Int32 → Mem → Prop) (K : Int32 → Int32 → Mem → Prop) : Nat → Int32 → Int32 → Mem → Prop
  | 0, _, _, _ => False
  | n_19 + 1, y4_19, y5_19, u_19 => (32 ≤ y5_19 → (K y4_19 y5_19 u_19)) ∧ (¬ 32 ≤ y5_19 → (nm ((32 : Int32) * f1_19 : Int32) fun x5 => nm (x5 + y5_19 : Int32) fun x6 => vp_in x6 6432 ∧ nm (u_19 0 (x6 : Int32).toNatClampNeg) fun x7 => nm ((32 : Int32) * f2_19 : Int32) fun x8 => nm (x8 + y5_19 : Int32) fun x9 => vp_in x9 6432 ∧ nm (u_19 0 (x9 : Int32).toNatClampNeg) fun x10 => (x7 = x10 → (nm (y4_19 + (0 : Int32) : Int32) fun x12 => nm (y5_19 + 1) fun x13 => L_X5_differs_19 f1_19 f2_19 f3_19 post K n_19 x12 x13 u_19)) ∧ (¬ x7 = x10 → (nm (y4_19 + (1 : Int32) : Int32) fun x14 => nm (y5_19 + 1) fun x15 => L_X5_differs_19 f1_19 f2_19 f3_19 post K n_19 x14 x15 u_19))))
def w_X5_differs (xp1 : Int32) (xp2 : Int32) (u : Mem) (post : Int32 → Mem → Prop) : Prop := w_X5_bars xp1 xp2 u (fun x2 u1 => (0 ≤ x2 → (∃ n_19, L_X5_differs_19 xp1 xp2 x2 post (fun w4_19 w5_19 v_19 => post w4_19 v_19) n_19 0 0 u1)) ∧ (¬ 0 ≤ x2 → (post x2 u1)))
abbrev rm_X5_differs : Room := { frames := 3, cells := 0, slots := 0, locals := 65 }
theorem hd_X5_differs : yX5_differs.cls ≠ "java/lang/invoke/MethodHandle" ∧ yX5_differs.cls ≠ "java/lang/invoke/VarHandle" ∧ (parseMethodDescriptor yX5_differs.desc).map (fun d => d.parameters.length) = some 2 := by decide +kernel
set_option maxHeartbeats 4000000 in
set_option maxRecDepth 100000 in
theorem c_X5_differs (l : Launch) (D : va_G) (cA : ClassId) (b : Nat → Nat) (u : Mem) (xp1 xp2 : Int32) (post : Int32 → Mem → Prop) (h : w_X5_differs xp1 xp2 u post) : g_Mi l yX5_differs (Cond.code yX5_differs cX5_differs 6 (some .int) :: tT) rm_X5_differs D cA (Yw cA b) u [.ref (b 0), .int xp1, .int xp2] post := by
  refine g_enter_i (by decide) (Yw_adr cA b) (Nat.le_of_ble_eq_true rfl) ?_
  intro p e s m args below meth c A Q S hml hK hA hret ls hl hW
  have hx := S.1
  have hb := S.2.1
  have hl : lv_has ls 6 [(0, .ref (b 0)), (1, .int xp1), (2, .int xp2)] := hl
  skip
  refine lv_aload_n hx hb dX5_differs_0 rfl (lv_at hl 0 rfl) ?_
  refine lv_iload_n hx hb dX5_differs_1 rfl (lv_at hl 1 rfl) ?_
  refine lv_iload_n hx hb dX5_differs_2 rfl (lv_at hl 2 rfl) ?_
  refine g_cali (g_runV S hml hK hW (c_X5_bars l D cA b u xp1 xp2 _ h _) kw_536 kw_538 kw_11 kw_25 kw_539 hd_X5_bars ⟨rfl, rfl, Nat.le_of_ble_eq_true rfl, Nat.le_of_ble_eq_true rfl⟩ (q0 := 0) rfl rfl (As := [.int xp1, .int xp2]) (rest := []) rfl rfl hl.1 (Nat.le_of_ble_eq_true rfl) dX5_differs_3 ⟨Nat.zero_le _, Nat.zero_le _⟩) (Yw_adr cA b) hA hW (fun x2 u1 H locs h hW => ?_)
  refine lv_istore_n (lv' := [(3, .int x2), (0, .ref (b 0)), (1, .int xp1), (2, .int xp2)]) hx hb dX5_differs_6 rfl hl (by decide) rfl (fun ls hl => ?_)
  refine lv_iload_n hx hb dX5_differs_7 rfl (lv_at hl 0 rfl) ?_
  refine lv_if_ge (tgt := 13) hx hb dX5_differs_8 (by decide) (fun c3 => ?_) (fun c3 => ?_)
  · have h := h.1 c3
    refine lv_iconst (v := 0) hx hb dX5_differs_13 (by decide) ?_
    refine lv_istore (lv' := [(4, .int 0), (3, .int x2), (0, .ref (b 0)), (1, .int xp1), (2, .int xp2)]) hx hb dX5_differs_14 hl (by decide) rfl (fun ls hl => ?_)
    refine lv_iconst (v := 0) hx hb dX5_differs_16 (by decide) ?_
    refine lv_istore (lv' := [(5, .int 0), (4, .int 0), (3, .int x2), (0, .ref (b 0)), (1, .int xp1), (2, .int xp2)]) hx hb dX5_differs_17 hl (by decide) rfl (fun ls hl => ?_)
    have loop_19 : ∀ (K : Int32 → Int32 → Mem → Prop), (∀ (w4_19 w5_19 : Int32) (v_19 : Mem) (H : Heap) (locs : List Loc) (ls : Array Slot), K w4_19 w5_19 v_19 → g_W D (Yw cA b) A s.heap v_19 H locs → lv_has ls 6 [(0, .ref (b 0)), (1, .int xp1), (2, .int xp2), (3, .int x2), (4, .int w4_19), (5, .int w5_19)] → W p l e rm_X5_differs s m args below meth c H locs 0 0 Q (F0 m 69 ls [])) → ∀ (n : Nat) (y4_19 y5_19 : Int32) (u_19 : Mem) (H : Heap) (locs : List Loc) (ls : Array Slot), L_X5_differs_19 xp1 xp2 x2 post K n y4_19 y5_19 u_19 → g_W D (Yw cA b) A s.heap u_19 H locs → lv_has ls 6 [(0, .ref (b 0)), (1, .int xp1), (2, .int xp2), (3, .int x2), (4, .int y4_19), (5, .int y5_19)] → W p l e rm_X5_differs s m args below meth c H locs 0 0 Q (F0 m 19 ls []) := by
      intro K hE n
      induction n with
      | zero => intro y4_19 y5_19 u_19 H locs ls h; exact False.elim h
      | succ n ih =>
        intro y4_19 y5_19 u_19 H locs ls h hW hl
        refine lv_iload hx hb dX5_differs_19 (lv_at hl 5 rfl) ?_
        refine lv_bipush (v := 32) hx hb dX5_differs_21 (by decide) ?_
        refine lv_icmp_ge (tgt := 69) hx hb dX5_differs_23 (by decide) (fun c16 => ?_) (fun c16 => ?_)
        · have h := h.1 c16
          exact hE y4_19 y5_19 u_19 _ _ _ h hW (lv_sub hl [0, 1, 2, 3, 4, 5] rfl)
        · have h := h.2 c16
          refine lv_iload hx hb dX5_differs_26 (lv_at hl 4 rfl) ?_
          refine lv_aload_n hx hb dX5_differs_28 rfl (lv_at hl 0 rfl) ?_
          refine yg_0_1 S hK hW kw_426 dX5_differs_29 ?_
          refine lv_bipush (v := 32) hx hb dX5_differs_32 (by decide) ?_
          refine lv_iload_n hx hb dX5_differs_34 rfl (lv_at hl 1 rfl) ?_
          refine lv_imul hx hb dX5_differs_35 ?_
          refine lv_topi (fun x17 ex17 => ?_)
          have h := nm_use ex17 h
          refine lv_iload hx hb dX5_differs_36 (lv_at hl 5 rfl) ?_
          refine lv_iadd hx hb dX5_differs_38 ?_
          refine lv_topi (fun x18 ex18 => ?_)
          have h := nm_use ex18 h
          obtain ⟨hin, h⟩ := h
          refine yl_0 S hK hW hin dX5_differs_39 (fun x19 ex19 => ?_)
          have h := nm_use ex19 h
          refine lv_aload_n hx hb dX5_differs_40 rfl (lv_at hl 0 rfl) ?_
          refine yg_0_1 S hK hW kw_426 dX5_differs_41 ?_
          refine lv_bipush (v := 32) hx hb dX5_differs_44 (by decide) ?_
          refine lv_iload_n hx hb dX5_differs_46 rfl (lv_at hl 2 rfl) ?_
          refine lv_imul hx hb dX5_differs_47 ?_
          refine lv_topi (fun x20 ex20 => ?_)
          have h := nm_use ex20 h
          refine lv_iload hx hb dX5_differs_48 (lv_at hl 5 rfl) ?_
          refine lv_iadd hx hb dX5_differs_50 ?_
          refine lv_topi (fun x21 ex21 => ?_)
          have h := nm_use ex21 h
          obtain ⟨hin, h⟩ := h
          refine yl_0 S hK hW hin dX5_differs_51 (fun x22 ex22 => ?_)
          have h := nm_use ex22 h
          refine lv_icmp_eq (tgt := 59) hx hb dX5_differs_52 (by decide) (fun c23 => ?_) (fun c23 => ?_)
          · have h := h.1 c23
            refine lv_iconst (v := 0) hx hb dX5_differs_59 (by decide) ?_
            refine lv_iadd hx hb dX5_differs_60 ?_
            refine lv_topi (fun x24 ex24 => ?_)
            have h := nm_use ex24 h
            refine lv_istore (lv' := [(4, .int x24), (0, .ref (b 0)), (1, .int xp1), (2, .int xp2), (3, .int x2), (5, .int y5_19)]) hx hb dX5_differs_61 hl (by decide) rfl (fun ls hl => ?_)
            obtain ⟨x25, ex25⟩ : ∃ z : Int32, z = y5_19 + 1 := ⟨_, rfl⟩
            have h := nm_use ex25 h
            refine lv_iinc (v := x25) (lv' := [(5, .int x25), (4, .int x24), (0, .ref (b 0)), (1, .int xp1), (2, .int xp2), (3, .int x2)]) hx hb dX5_differs_63 hl (k := 5) rfl (by rw [ex25]; rfl) (by decide) rfl (fun ls hl => ?_)
            refine lv_goto (tgt := 19) hx hb dX5_differs_66 (by decide) ?_
            exact ih x24 x25 u_19 _ _ _ h hW (lv_sub hl [2, 3, 4, 5, 1, 0] rfl)
          · have h := h.2 c23
            refine lv_iconst (v := 1) hx hb dX5_differs_55 (by decide) ?_
            refine lv_goto (tgt := 60) hx hb dX5_differs_56 (by decide) ?_
            refine lv_iadd hx hb dX5_differs_60 ?_
            refine lv_topi (fun x26 ex26 => ?_)
            have h := nm_use ex26 h
            refine lv_istore (lv' := [(4, .int x26), (0, .ref (b 0)), (1, .int xp1), (2, .int xp2), (3, .int x2), (5, .int y5_19)]) hx hb dX5_differs_61 hl (by decide) rfl (fun ls hl => ?_)
            obtain ⟨x27, ex27⟩ : ∃ z : Int32, z = y5_19 + 1 := ⟨_, rfl⟩
            have h := nm_use ex27 h
            refine lv_iinc (v := x27) (lv' := [(5, .int x27), (4, .int x26), (0, .ref (b 0)), (1, .int xp1), (2, .int xp2), (3, .int x2)]) hx hb dX5_differs_63 hl (k := 5) rfl (by rw [ex27]; rfl) (by decide) rfl (fun ls hl => ?_)
            refine lv_goto (tgt := 19) hx hb dX5_differs_66 (by decide) ?_
            exact ih x26 x27 u_19 _ _ _ h hW (lv_sub hl [2, 3, 4, 5, 1, 0] rfl)
    obtain ⟨n_19, h⟩ := h
    refine loop_19 _ ?_ n_19 0 0 u1 _ _ _ h hW (lv_sub hl [3, 4, 5, 2, 1, 0] rfl)
    intro w4_19 w5_19 v_19 H locs ls h hW hl
    refine lv_iload hx hb dX5_differs_69 (lv_at hl 4 rfl) ?_
    exact hret _ _ _ _ _ _ dX5_differs_71 hW h
  · have h := h.2 c3
    refine lv_iload_n hx hb dX5_differs_11 rfl (lv_at hl 0 rfl) ?_
    exact hret _ _ _ _ _ _ dX5_differs_12 hW h
def L_X5_difference_22 (f1_22 : Int32) (f2_22 : Int32) (f3_22 : Int32) (f4_22 : Int32) (post : Int32 → Mem → Prop) (K : Int32 → Int32 → Mem → Prop) : Nat → Int32 → Int32 → Mem → Prop
  | 0, _, _, _ => False
  | n_22 + 1, y5_22, y6_22, u_22 => (32 ≤ y6_22 → (K y5_22 y6_22 u_22)) ∧ (¬ 32 ≤ y6_22 → (nm ((32 : Int32) * f1_22 : Int32) fun x5 => nm (x5 + y6_22 : Int32) fun x6 => vp_in x6 6432 ∧ nm (u_22 0 (x6 : Int32).toNatClampNeg) fun x7 => nm ((32 : Int32) * f2_22 : Int32) fun x8 => nm (x8 + y6_22 : Int32) fun x9 => vp_in x9 6432 ∧ nm (u_22 0 (x9 : Int32).toNatClampNeg) fun x10 => (x7 = x10 → (nm (y6_22 + 1) fun x12 => L_X5_difference_22 f1_22 f2_22 f3_22 f4_22 post K n_22 y5_22 x12 u_22)) ∧ (¬ x7 = x10 → ((y5_22 = f3_22 → (post y6_22 u_22)) ∧ (¬ y5_22 = f3_22 → (nm (y5_22 + 1) fun x14 => nm (y6_22 + 1) fun x15 => L_X5_difference_22 f1_22 f2_22 f3_22 f4_22 post K n_22 x14 x15 u_22))))))
def w_X5_difference (xp1 : Int32) (xp2 : Int32) (xp3 : Int32) (u : Mem) (post : Int32 → Mem → Prop) : Prop := w_X5_bars xp1 xp2 u (fun x2 u1 => (0 ≤ x2 → (∃ n_22, L_X5_difference_22 xp1 xp2 xp3 x2 post (fun w5_22 w6_22 v_22 => post (-1) v_22) n_22 0 0 u1)) ∧ (¬ 0 ≤ x2 → (post x2 u1)))
abbrev rm_X5_difference : Room := { frames := 3, cells := 0, slots := 0, locals := 65 }
theorem hd_X5_difference : yX5_difference.cls ≠ "java/lang/invoke/MethodHandle" ∧ yX5_difference.cls ≠ "java/lang/invoke/VarHandle" ∧ (parseMethodDescriptor yX5_difference.desc).map (fun d => d.parameters.length) = some 3 := by decide +kernel
set_option maxHeartbeats 4000000 in
set_option maxRecDepth 100000 in
theorem c_X5_difference (l : Launch) (D : va_G) (cA : ClassId) (b : Nat → Nat) (u : Mem) (xp1 xp2 xp3 : Int32) (post : Int32 → Mem → Prop) (h : w_X5_difference xp1 xp2 xp3 u post) : g_Mi l yX5_difference (Cond.code yX5_difference cX5_difference 7 (some .int) :: tT) rm_X5_difference D cA (Yw cA b) u [.ref (b 0), .int xp1, .int xp2, .int xp3] post := by
  refine g_enter_i (by decide) (Yw_adr cA b) (Nat.le_of_ble_eq_true rfl) ?_
  intro p e s m args below meth c A Q S hml hK hA hret ls hl hW
  have hx := S.1
  have hb := S.2.1
  have hl : lv_has ls 7 [(0, .ref (b 0)), (1, .int xp1), (2, .int xp2), (3, .int xp3)] := hl
  skip
  refine lv_aload_n hx hb dX5_difference_0 rfl (lv_at hl 0 rfl) ?_
  refine lv_iload_n hx hb dX5_difference_1 rfl (lv_at hl 1 rfl) ?_
  refine lv_iload_n hx hb dX5_difference_2 rfl (lv_at hl 2 rfl) ?_
  refine g_cali (g_runV S hml hK hW (c_X5_bars l D cA b u xp1 xp2 _ h _) kw_536 kw_538 kw_11 kw_25 kw_539 hd_X5_bars ⟨rfl, rfl, Nat.le_of_ble_eq_true rfl, Nat.le_of_ble_eq_true rfl⟩ (q0 := 0) rfl rfl (As := [.int xp1, .int xp2]) (rest := []) rfl rfl hl.1 (Nat.le_of_ble_eq_true rfl) dX5_difference_3 ⟨Nat.zero_le _, Nat.zero_le _⟩) (Yw_adr cA b) hA hW (fun x2 u1 H locs h hW => ?_)
  refine lv_istore (lv' := [(4, .int x2), (0, .ref (b 0)), (1, .int xp1), (2, .int xp2), (3, .int xp3)]) hx hb dX5_difference_6 hl (by decide) rfl (fun ls hl => ?_)
  refine lv_iload hx hb dX5_difference_8 (lv_at hl 0 rfl) ?_
  refine lv_if_ge (tgt := 16) hx hb dX5_difference_10 (by decide) (fun c3 => ?_) (fun c3 => ?_)
  · have h := h.1 c3
    refine lv_iconst (v := 0) hx hb dX5_difference_16 (by decide) ?_
    refine lv_istore (lv' := [(5, .int 0), (4, .int x2), (0, .ref (b 0)), (1, .int xp1), (2, .int xp2), (3, .int xp3)]) hx hb dX5_difference_17 hl (by decide) rfl (fun ls hl => ?_)
    refine lv_iconst (v := 0) hx hb dX5_difference_19 (by decide) ?_
    refine lv_istore (lv' := [(6, .int 0), (5, .int 0), (4, .int x2), (0, .ref (b 0)), (1, .int xp1), (2, .int xp2), (3, .int xp3)]) hx hb dX5_difference_20 hl (by decide) rfl (fun ls hl => ?_)
    have loop_22 : ∀ (K : Int32 → Int32 → Mem → Prop), (∀ (w5_22 w6_22 : Int32) (v_22 : Mem) (H : Heap) (locs : List Loc) (ls : Array Slot), K w5_22 w6_22 v_22 → g_W D (Yw cA b) A s.heap v_22 H locs → lv_has ls 7 [(0, .ref (b 0)), (1, .int xp1), (2, .int xp2), (3, .int xp3), (4, .int x2), (5, .int w5_22), (6, .int w6_22)] → W p l e rm_X5_difference s m args below meth c H locs 0 0 Q (F0 m 74 ls [])) → ∀ (n : Nat) (y5_22 y6_22 : Int32) (u_22 : Mem) (H : Heap) (locs : List Loc) (ls : Array Slot), L_X5_difference_22 xp1 xp2 xp3 x2 post K n y5_22 y6_22 u_22 → g_W D (Yw cA b) A s.heap u_22 H locs → lv_has ls 7 [(0, .ref (b 0)), (1, .int xp1), (2, .int xp2), (3, .int xp3), (4, .int x2), (5, .int y5_22), (6, .int y6_22)] → W p l e rm_X5_difference s m args below meth c H locs 0 0 Q (F0 m 22 ls []) := by
      intro K hE n
      induction n with
      | zero => intro y5_22 y6_22 u_22 H locs ls h; exact False.elim h
      | succ n ih =>
        intro y5_22 y6_22 u_22 H locs ls h hW hl
        refine lv_iload hx hb dX5_difference_22 (lv_at hl 6 rfl) ?_
        refine lv_bipush (v := 32) hx hb dX5_difference_24 (by decide) ?_
        refine lv_icmp_ge (tgt := 74) hx hb dX5_difference_26 (by decide) (fun c16 => ?_) (fun c16 => ?_)
        · have h := h.1 c16
          exact hE y5_22 y6_22 u_22 _ _ _ h hW (lv_sub hl [0, 1, 2, 3, 4, 5, 6] rfl)
        · have h := h.2 c16
          refine lv_aload_n hx hb dX5_difference_29 rfl (lv_at hl 0 rfl) ?_
          refine yg_0_1 S hK hW kw_426 dX5_difference_30 ?_
          refine lv_bipush (v := 32) hx hb dX5_difference_33 (by decide) ?_
          refine lv_iload_n hx hb dX5_difference_35 rfl (lv_at hl 1 rfl) ?_
          refine lv_imul hx hb dX5_difference_36 ?_
          refine lv_topi (fun x17 ex17 => ?_)
          have h := nm_use ex17 h
          refine lv_iload hx hb dX5_difference_37 (lv_at hl 6 rfl) ?_
          refine lv_iadd hx hb dX5_difference_39 ?_
          refine lv_topi (fun x18 ex18 => ?_)
          have h := nm_use ex18 h
          obtain ⟨hin, h⟩ := h
          refine yl_0 S hK hW hin dX5_difference_40 (fun x19 ex19 => ?_)
          have h := nm_use ex19 h
          refine lv_aload_n hx hb dX5_difference_41 rfl (lv_at hl 0 rfl) ?_
          refine yg_0_1 S hK hW kw_426 dX5_difference_42 ?_
          refine lv_bipush (v := 32) hx hb dX5_difference_45 (by decide) ?_
          refine lv_iload_n hx hb dX5_difference_47 rfl (lv_at hl 2 rfl) ?_
          refine lv_imul hx hb dX5_difference_48 ?_
          refine lv_topi (fun x20 ex20 => ?_)
          have h := nm_use ex20 h
          refine lv_iload hx hb dX5_difference_49 (lv_at hl 6 rfl) ?_
          refine lv_iadd hx hb dX5_difference_51 ?_
          refine lv_topi (fun x21 ex21 => ?_)
          have h := nm_use ex21 h
          obtain ⟨hin, h⟩ := h
          refine yl_0 S hK hW hin dX5_difference_52 (fun x22 ex22 => ?_)
          have h := nm_use ex22 h
          refine lv_icmp_eq (tgt := 68) hx hb dX5_difference_53 (by decide) (fun c23 => ?_) (fun c23 => ?_)
          · have h := h.1 c23
            obtain ⟨x24, ex24⟩ : ∃ z : Int32, z = y6_22 + 1 := ⟨_, rfl⟩
            have h := nm_use ex24 h
            refine lv_iinc (v := x24) (lv' := [(6, .int x24), (0, .ref (b 0)), (1, .int xp1), (2, .int xp2), (3, .int xp3), (4, .int x2), (5, .int y5_22)]) hx hb dX5_difference_68 hl (k := 6) rfl (by rw [ex24]; rfl) (by decide) rfl (fun ls hl => ?_)
            refine lv_goto (tgt := 22) hx hb dX5_difference_71 (by decide) ?_
            exact ih y5_22 x24 u_22 _ _ _ h hW (lv_sub hl [1, 2, 3, 4, 5, 6, 0] rfl)
          · have h := h.2 c23
            refine lv_iload hx hb dX5_difference_56 (lv_at hl 5 rfl) ?_
            refine lv_iload_n hx hb dX5_difference_58 rfl (lv_at hl 3 rfl) ?_
            refine lv_icmp_ne (tgt := 65) hx hb dX5_difference_59 (by decide) (fun c25 => ?_) (fun c25 => ?_)
            · have h := h.2 c25
              obtain ⟨x26, ex26⟩ : ∃ z : Int32, z = y5_22 + 1 := ⟨_, rfl⟩
              have h := nm_use ex26 h
              refine lv_iinc (v := x26) (lv' := [(5, .int x26), (0, .ref (b 0)), (1, .int xp1), (2, .int xp2), (3, .int xp3), (4, .int x2), (6, .int y6_22)]) hx hb dX5_difference_65 hl (k := 5) rfl (by rw [ex26]; rfl) (by decide) rfl (fun ls hl => ?_)
              obtain ⟨x27, ex27⟩ : ∃ z : Int32, z = y6_22 + 1 := ⟨_, rfl⟩
              have h := nm_use ex27 h
              refine lv_iinc (v := x27) (lv' := [(6, .int x27), (5, .int x26), (0, .ref (b 0)), (1, .int xp1), (2, .int xp2), (3, .int xp3), (4, .int x2)]) hx hb dX5_difference_68 hl (k := 6) rfl (by rw [ex27]; rfl) (by decide) rfl (fun ls hl => ?_)
              refine lv_goto (tgt := 22) hx hb dX5_difference_71 (by decide) ?_
              exact ih x26 x27 u_22 _ _ _ h hW (lv_sub hl [2, 3, 4, 5, 6, 1, 0] rfl)
            · have h := h.1 c25
              refine lv_iload hx hb dX5_difference_62 (lv_at hl 6 rfl) ?_
              exact hret _ _ _ _ _ _ dX5_difference_64 hW h
    obtain ⟨n_22, h⟩ := h
    refine loop_22 _ ?_ n_22 0 0 u1 _ _ _ h hW (lv_sub hl [3, 4, 5, 6, 2, 1, 0] rfl)
    intro w5_22 w6_22 v_22 H locs ls h hW hl
    refine lv_iconst (v := (-1)) hx hb dX5_difference_74 (by decide) ?_
    exact hret _ _ _ _ _ _ dX5_difference_75 hW h
  · have h := h.2 c3
    refine lv_iload hx hb dX5_difference_13 (lv_at hl 0 rfl) ?_
    exact hret _ _ _ _ _ _ dX5_difference_15 hW h
def w_X5_rule (xp1 : Int32) (u : Mem) (post : Int32 → Mem → Prop) : Prop := w_X5_in xp1 0 100 u (fun x2 u1 => (x2 = 0 → (post (-102) u1)) ∧ (¬ x2 = 0 → (nm (g_ms u1 17 0 xp1) fun u4 => post (u1 17 0) u4)))
abbrev rm_X5_rule : Room := { frames := 1, cells := 0, slots := 0, locals := 22 }
theorem hd_X5_rule : yX5_rule.cls ≠ "java/lang/invoke/MethodHandle" ∧ yX5_rule.cls ≠ "java/lang/invoke/VarHandle" ∧ (parseMethodDescriptor yX5_rule.desc).map (fun d => d.parameters.length) = some 1 := by decide +kernel
set_option maxHeartbeats 4000000 in
set_option maxRecDepth 100000 in
theorem c_X5_rule (l : Launch) (D : va_G) (cA : ClassId) (b : Nat → Nat) (u : Mem) (xp1 : Int32) (post : Int32 → Mem → Prop) (h : w_X5_rule xp1 u post) : g_Mi l yX5_rule (Cond.code yX5_rule cX5_rule 3 (some .int) :: tT) rm_X5_rule D cA (Yw cA b) u [.ref (b 0), .int xp1] post := by
  refine g_enter_i (by decide) (Yw_adr cA b) (Nat.le_of_ble_eq_true rfl) ?_
  intro p e s m args below meth c A Q S hml hK hA hret ls hl hW
  have hx := S.1
  have hb := S.2.1
  have hl : lv_has ls 3 [(0, .ref (b 0)), (1, .int xp1)] := hl
  skip
  refine lv_iload_n hx hb dX5_rule_0 rfl (lv_at hl 1 rfl) ?_
  refine lv_iconst (v := 0) hx hb dX5_rule_1 (by decide) ?_
  refine lv_bipush (v := 100) hx hb dX5_rule_2 (by decide) ?_
  refine g_cali (g_runS S hml hK hW (c_X5_in l D cA b u xp1 0 100 _ h _) kw_487 kw_488 kw_25 kw_489 hd_X5_in ⟨rfl, rfl, Nat.le_of_ble_eq_true rfl, Nat.le_of_ble_eq_true rfl⟩ (As := [.int xp1, .int 0, .int 100]) (rest := []) rfl rfl hl.1 (Nat.le_of_ble_eq_true rfl) dX5_rule_4 ⟨Nat.zero_le _, Nat.zero_le _⟩) (Yw_adr cA b) hA hW (fun x2 u1 H locs h hW => ?_)
  refine lv_if_ne (tgt := 13) hx hb dX5_rule_7 (by decide) (fun c3 => ?_) (fun c3 => ?_)
  · have h := h.2 c3
    refine lv_aload_n hx hb dX5_rule_13 rfl (lv_at hl 0 rfl) ?_
    refine yg_0_15 S hK hW kw_440 dX5_rule_14 ?_
    refine lv_istore_n (lv' := [(2, .int (u1 17 0)), (0, .ref (b 0)), (1, .int xp1)]) hx hb dX5_rule_17 rfl hl (by decide) rfl (fun ls hl => ?_)
    refine lv_aload_n hx hb dX5_rule_18 rfl (lv_at hl 1 rfl) ?_
    refine lv_iload_n hx hb dX5_rule_19 rfl (lv_at hl 2 rfl) ?_
    refine yp_17 S hK hW kw_440 dX5_rule_20 (fun u4 H locs eu4 hW => ?_)
    have h := nm_use eu4 h
    refine lv_iload_n hx hb dX5_rule_23 rfl (lv_at hl 0 rfl) ?_
    exact hret _ _ _ _ _ _ dX5_rule_24 hW h
  · have h := h.1 c3
    refine lv_bipush (v := (-102)) hx hb dX5_rule_10 (by decide) ?_
    exact hret _ _ _ _ _ _ dX5_rule_12 hW h
