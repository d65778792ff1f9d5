def w_X0_put (xp1 : Int32) (xp2 : Int32) (xp3 : Int32) (u : Mem) (post : Mem → Prop) : Prop := vp_in xp2 32 ∧ nm (g_ms u 12 (xp2 : Int32).toNatClampNeg xp3) fun u1 => vp_in xp2 32 ∧ nm (g_ms u1 13 (xp2 : Int32).toNatClampNeg xp1) fun u2 => nm (g_ms u2 20 0 xp1) fun u3 => nm ((u3 19 0) + (1 : Int32) : Int32) fun x4 => nm (g_ms u3 19 0 x4) fun u5 => post u5
abbrev rm_X0_put : Room := { frames := 0, cells := 0, slots := 0, locals := 0 }
theorem hd_X0_put : yX0_put.cls ≠ "java/lang/invoke/MethodHandle" ∧ yX0_put.cls ≠ "java/lang/invoke/VarHandle" ∧ (parseMethodDescriptor yX0_put.desc).map (fun d => d.parameters.length) = some 3 := by decide +kernel
set_option maxHeartbeats 4000000 in
set_option maxRecDepth 100000 in
theorem c_X0_put (l : Launch) (D : va_G) (cA : ClassId) (a : Nat → Nat) (u : Mem) (xp1 xp2 xp3 : Int32) (post : Mem → Prop) (h : w_X0_put xp1 xp2 xp3 u post) : g_Mv l yX0_put (Cond.code yX0_put cX0_put 4 none :: tT) rm_X0_put D cA (Xw cA a) u [.ref (a 3), .int xp1, .int xp2, .int xp3] post := by
  refine g_enter_v (by decide) (Xw_adr cA a) (Nat.le_of_ble_eq_true rfl) ?_
  intro p e s m args below meth c A Q S hml hK hA hret ls hl hW
  have hx := S.1
  have hb := S.2.1
  have hl : lv_has ls 4 [(0, .ref (a 3)), (1, .int xp1), (2, .int xp2), (3, .int xp3)] := hl
  skip
  refine lv_aload_n hx hb dX0_put_0 rfl (lv_at hl 0 rfl) ?_
  refine xg_3_1 S hK hW kw_94 dX0_put_1 ?_
  refine lv_iload_n hx hb dX0_put_4 rfl (lv_at hl 2 rfl) ?_
  refine lv_iload_n hx hb dX0_put_5 rfl (lv_at hl 3 rfl) ?_
  obtain ⟨hin, h⟩ := h
  refine xs_12 S hK hW hin dX0_put_6 (fun u1 H locs eu1 hW => ?_)
  have h := nm_use eu1 h
  refine lv_aload_n hx hb dX0_put_7 rfl (lv_at hl 0 rfl) ?_
  refine xg_3_2 S hK hW kw_96 dX0_put_8 ?_
  refine lv_iload_n hx hb dX0_put_11 rfl (lv_at hl 2 rfl) ?_
  refine lv_iload_n hx hb dX0_put_12 rfl (lv_at hl 1 rfl) ?_
  obtain ⟨hin, h⟩ := h
  refine xs_13 S hK hW hin dX0_put_13 (fun u2 H locs eu2 hW => ?_)
  have h := nm_use eu2 h
  refine lv_aload_n hx hb dX0_put_14 rfl (lv_at hl 0 rfl) ?_
  refine lv_iload_n hx hb dX0_put_15 rfl (lv_at hl 1 rfl) ?_
  refine xp_20 S hK hW kw_101 dX0_put_16 (fun u3 H locs eu3 hW => ?_)
  have h := nm_use eu3 h
  refine lv_aload_n hx hb dX0_put_19 rfl (lv_at hl 0 rfl) ?_
  refine lv_dup hx hb dX0_put_20 rfl ?_
  refine xg_3_3 S hK hW kw_98 dX0_put_21 ?_
  refine lv_iconst (v := 1) hx hb dX0_put_24 (by decide) ?_
  refine lv_iadd hx hb dX0_put_25 ?_
  refine lv_topi (fun x4 ex4 => ?_)
  have h := nm_use ex4 h
  refine xp_19 S hK hW kw_98 dX0_put_26 (fun u5 H locs eu5 hW => ?_)
  have h := nm_use eu5 h
  exact hret _ _ _ _ _ dX0_put_29 hW h
def w_X0_changesLeaf (xp1 : Int32) (u : Mem) (post : Int32 → Mem → Prop) : Prop := vp_in xp1 32 ∧ nm (u 11 (xp1 : Int32).toNatClampNeg) fun x1 => vp_in xp1 32 ∧ nm (u 12 (xp1 : Int32).toNatClampNeg) fun x2 => (x1 = x2 → (post 0 u)) ∧ (¬ x1 = x2 → (post 1 u))
abbrev rm_X0_changesLeaf : Room := { frames := 0, cells := 0, slots := 0, locals := 0 }
theorem hd_X0_changesLeaf : yX0_changesLeaf.cls ≠ "java/lang/invoke/MethodHandle" ∧ yX0_changesLeaf.cls ≠ "java/lang/invoke/VarHandle" ∧ (parseMethodDescriptor yX0_changesLeaf.desc).map (fun d => d.parameters.length) = some 1 := by decide +kernel
set_option maxHeartbeats 4000000 in
set_option maxRecDepth 100000 in
theorem c_X0_changesLeaf (l : Launch) (D : va_G) (cA : ClassId) (a : Nat → Nat) (u : Mem) (xp1 : Int32) (post : Int32 → Mem → Prop) (h : w_X0_changesLeaf xp1 u post) : g_Mi l yX0_changesLeaf (Cond.code yX0_changesLeaf cX0_changesLeaf 2 (some .boolean) :: tT) rm_X0_changesLeaf D cA (Xw cA a) u [.ref (a 3), .int xp1] post := by
  refine g_enter_z (by decide) (Xw_adr cA a) (Nat.le_of_ble_eq_true rfl) ?_
  intro p e s m args below meth c A Q S hml hK hA hret ls hl hW
  have hx := S.1
  have hb := S.2.1
  have hl : lv_has ls 2 [(0, .ref (a 3)), (1, .int xp1)] := hl
  skip
  refine lv_aload_n hx hb dX0_changesLeaf_0 rfl (lv_at hl 0 rfl) ?_
  refine xg_3_0 S hK hW kw_92 dX0_changesLeaf_1 ?_
  refine lv_iload_n hx hb dX0_changesLeaf_4 rfl (lv_at hl 1 rfl) ?_
  obtain ⟨hin, h⟩ := h
  refine xl_11 S hK hW hin dX0_changesLeaf_5 (fun x1 ex1 => ?_)
  have h := nm_use ex1 h
  refine lv_aload_n hx hb dX0_changesLeaf_6 rfl (lv_at hl 0 rfl) ?_
  refine xg_3_1 S hK hW kw_94 dX0_changesLeaf_7 ?_
  refine lv_iload_n hx hb dX0_changesLeaf_10 rfl (lv_at hl 1 rfl) ?_
  obtain ⟨hin, h⟩ := h
  refine xl_12 S hK hW hin dX0_changesLeaf_11 (fun x2 ex2 => ?_)
  have h := nm_use ex2 h
  refine lv_icmp_eq (tgt := 19) hx hb dX0_changesLeaf_12 (by decide) (fun c3 => ?_) (fun c3 => ?_)
  · have h := h.1 c3
    refine lv_iconst (v := 0) hx hb dX0_changesLeaf_19 (by decide) ?_
    exact hret _ _ _ _ _ _ dX0_changesLeaf_20 hW (Or.inl rfl) h
  · have h := h.2 c3
    refine lv_iconst (v := 1) hx hb dX0_changesLeaf_15 (by decide) ?_
    refine lv_goto (tgt := 20) hx hb dX0_changesLeaf_16 (by decide) ?_
    exact hret _ _ _ _ _ _ dX0_changesLeaf_20 hW (Or.inr rfl) h
def L_X0_changes_4  (post : Int32 → Mem → Prop) (K : Int32 → Int32 → Mem → Prop) : Nat → Int32 → Int32 → Mem → Prop
  | 0, _, _, _ => False
  | n_4 + 1, y1_4, y2_4, u_4 => (32 ≤ y2_4 → (K y1_4 y2_4 u_4)) ∧ (¬ 32 ≤ y2_4 → (w_X0_changesLeaf y2_4 u_4 (fun x3 u2 => (x3 = 0 → (nm (y2_4 + 1) fun x5 => L_X0_changes_4  post K n_4 y1_4 x5 u2)) ∧ (¬ x3 = 0 → (nm (y1_4 + 1) fun x6 => nm (y2_4 + 1) fun x7 => L_X0_changes_4  post K n_4 x6 x7 u2)))))
def w_X0_changes  (u : Mem) (post : Int32 → Mem → Prop) : Prop := ∃ n_4, L_X0_changes_4  post (fun w1_4 w2_4 v_4 => post w1_4 v_4) n_4 0 0 u
abbrev rm_X0_changes : Room := { frames := 1, cells := 0, slots := 0, locals := 21 }
theorem hd_X0_changes : yX0_changes.cls ≠ "java/lang/invoke/MethodHandle" ∧ yX0_changes.cls ≠ "java/lang/invoke/VarHandle" ∧ (parseMethodDescriptor yX0_changes.desc).map (fun d => d.parameters.length) = some 0 := by decide +kernel
set_option maxHeartbeats 4000000 in
set_option maxRecDepth 100000 in
theorem c_X0_changes (l : Launch) (D : va_G) (cA : ClassId) (a : Nat → Nat) (u : Mem) (post : Int32 → Mem → Prop) (h : w_X0_changes  u post) : g_Mi l yX0_changes (Cond.code yX0_changes cX0_changes 3 (some .int) :: tT) rm_X0_changes D cA (Xw cA a) u [.ref (a 3)] post := by
  refine g_enter_i (by decide) (Xw_adr cA a) (Nat.le_of_ble_eq_true rfl) ?_
  intro p e s m args below meth c A Q S hml hK hA hret ls hl hW
  have hx := S.1
  have hb := S.2.1
  have hl : lv_has ls 3 [(0, .ref (a 3))] := hl
  skip
  refine lv_iconst (v := 0) hx hb dX0_changes_0 (by decide) ?_
  refine lv_istore_n (lv' := [(1, .int 0), (0, .ref (a 3))]) hx hb dX0_changes_1 rfl hl (by decide) rfl (fun ls hl => ?_)
  refine lv_iconst (v := 0) hx hb dX0_changes_2 (by decide) ?_
  refine lv_istore_n (lv' := [(2, .int 0), (1, .int 0), (0, .ref (a 3))]) hx hb dX0_changes_3 rfl hl (by decide) rfl (fun ls hl => ?_)
  have loop_4 : ∀ (K : Int32 → Int32 → Mem → Prop), (∀ (w1_4 w2_4 : Int32) (v_4 : Mem) (H : Heap) (locs : List Loc) (ls : Array Slot), K w1_4 w2_4 v_4 → g_W D (Xw cA a) A s.heap v_4 H locs → lv_has ls 3 [(0, .ref (a 3)), (1, .int w1_4), (2, .int w2_4)] → W p l e rm_X0_changes s m args below meth c H locs 0 0 Q (F0 m 27 ls [])) → ∀ (n : Nat) (y1_4 y2_4 : Int32) (u_4 : Mem) (H : Heap) (locs : List Loc) (ls : Array Slot), L_X0_changes_4  post K n y1_4 y2_4 u_4 → g_W D (Xw cA a) A s.heap u_4 H locs → lv_has ls 3 [(0, .ref (a 3)), (1, .int y1_4), (2, .int y2_4)] → W p l e rm_X0_changes s m args below meth c H locs 0 0 Q (F0 m 4 ls []) := by
    intro K hE n
    induction n with
    | zero => intro y1_4 y2_4 u_4 H locs ls h; exact False.elim h
    | succ n ih =>
      intro y1_4 y2_4 u_4 H locs ls h hW hl
      refine lv_iload_n hx hb dX0_changes_4 rfl (lv_at hl 2 rfl) ?_
      refine lv_bipush (v := 32) hx hb dX0_changes_5 (by decide) ?_
      refine lv_icmp_ge (tgt := 27) hx hb dX0_changes_7 (by decide) (fun c8 => ?_) (fun c8 => ?_)
      · have h := h.1 c8
        exact hE y1_4 y2_4 u_4 _ _ _ h hW (lv_sub hl [0, 1, 2] rfl)
      · have h := h.2 c8
        refine lv_aload_n hx hb dX0_changes_10 rfl (lv_at hl 0 rfl) ?_
        refine lv_iload_n hx hb dX0_changes_11 rfl (lv_at hl 2 rfl) ?_
        refine g_cali (g_runV S hml hK hW (c_X0_changesLeaf l D cA a u_4 y2_4 _ h _) kw_196 kw_197 kw_198 kw_22 kw_199 hd_X0_changesLeaf ⟨rfl, rfl, Nat.le_of_ble_eq_true rfl, Nat.le_of_ble_eq_true rfl⟩ (q0 := 3) rfl rfl (As := [.int y2_4]) (rest := []) rfl rfl hl.1 (Nat.le_of_ble_eq_true rfl) dX0_changes_12 ⟨Nat.zero_le _, Nat.zero_le _⟩) (Xw_adr cA a) hA hW (fun x10 u9 H locs h hW => ?_)
        refine lv_if_eq (tgt := 21) hx hb dX0_changes_15 (by decide) (fun c11 => ?_) (fun c11 => ?_)
        · have h := h.1 c11
          obtain ⟨x12, ex12⟩ : ∃ z : Int32, z = y2_4 + 1 := ⟨_, rfl⟩
          have h := nm_use ex12 h
          refine lv_iinc (v := x12) (lv' := [(2, .int x12), (0, .ref (a 3)), (1, .int y1_4)]) hx hb dX0_changes_21 hl (k := 2) rfl (by rw [ex12]; rfl) (by decide) rfl (fun ls hl => ?_)
          refine lv_goto (tgt := 4) hx hb dX0_changes_24 (by decide) ?_
          exact ih y1_4 x12 u9 _ _ _ h hW (lv_sub hl [1, 2, 0] rfl)
        · have h := h.2 c11
          obtain ⟨x13, ex13⟩ : ∃ z : Int32, z = y1_4 + 1 := ⟨_, rfl⟩
          have h := nm_use ex13 h
          refine lv_iinc (v := x13) (lv' := [(1, .int x13), (0, .ref (a 3)), (2, .int y2_4)]) hx hb dX0_changes_18 hl (k := 1) rfl (by rw [ex13]; rfl) (by decide) rfl (fun ls hl => ?_)
          obtain ⟨x14, ex14⟩ : ∃ z : Int32, z = y2_4 + 1 := ⟨_, rfl⟩
          have h := nm_use ex14 h
          refine lv_iinc (v := x14) (lv' := [(2, .int x14), (1, .int x13), (0, .ref (a 3))]) hx hb dX0_changes_21 hl (k := 2) rfl (by rw [ex14]; rfl) (by decide) rfl (fun ls hl => ?_)
          refine lv_goto (tgt := 4) hx hb dX0_changes_24 (by decide) ?_
          exact ih x13 x14 u9 _ _ _ h hW (lv_sub hl [2, 1, 0] rfl)
  obtain ⟨n_4, h⟩ := h
  refine loop_4 _ ?_ n_4 0 0 u _ _ _ h hW (lv_sub hl [2, 1, 0] rfl)
  intro w1_4 w2_4 v_4 H locs ls h hW hl
  refine lv_iload_n hx hb dX0_changes_27 rfl (lv_at hl 1 rfl) ?_
  exact hret _ _ _ _ _ _ dX0_changes_28 hW h
def w_X2_add (xp1 : Int32) (xp2 : Int32) (xp3 : Int32) (xp4 : Int32) (u : Mem) (post : Mem → Prop) : Prop := ((u 17 0) < 400 → (vp_in (u 17 0) 400 ∧ nm (g_ms u 3 ((u 17 0) : Int32).toNatClampNeg xp1) fun u2 => vp_in (u2 17 0) 400 ∧ nm (g_ms u2 4 ((u2 17 0) : Int32).toNatClampNeg xp2) fun u3 => vp_in (u3 17 0) 400 ∧ nm (g_ms u3 5 ((u3 17 0) : Int32).toNatClampNeg xp3) fun u4 => vp_in (u4 17 0) 400 ∧ nm (g_ms u4 6 ((u4 17 0) : Int32).toNatClampNeg xp4) fun u5 => vp_in (u5 17 0) 400 ∧ nm (g_ms u5 7 ((u5 17 0) : Int32).toNatClampNeg (-1)) fun u6 => nm ((u6 17 0) + (1 : Int32) : Int32) fun x7 => nm (g_ms u6 17 0 x7) fun u8 => post u8)) ∧ (¬ (u 17 0) < 400 → (post u))
abbrev rm_X2_add : Room := { frames := 0, cells := 0, slots := 0, locals := 0 }
theorem hd_X2_add : yX2_add.cls ≠ "java/lang/invoke/MethodHandle" ∧ yX2_add.cls ≠ "java/lang/invoke/VarHandle" ∧ (parseMethodDescriptor yX2_add.desc).map (fun d => d.parameters.length) = some 4 := by decide +kernel
set_option maxHeartbeats 4000000 in
set_option maxRecDepth 100000 in
theorem c_X2_add (l : Launch) (D : va_G) (cA : ClassId) (a : Nat → Nat) (u : Mem) (xp1 xp2 xp3 xp4 : Int32) (post : Mem → Prop) (h : w_X2_add xp1 xp2 xp3 xp4 u post) : g_Mv l yX2_add (Cond.code yX2_add cX2_add 5 none :: tT) rm_X2_add D cA (Xw cA a) u [.ref (a 1), .int xp1, .int xp2, .int xp3, .int xp4] post := by
  refine g_enter_v (by decide) (Xw_adr cA a) (Nat.le_of_ble_eq_true rfl) ?_
  intro p e s m args below meth c A Q S hml hK hA hret ls hl hW
  have hx := S.1
  have hb := S.2.1
  have hl : lv_has ls 5 [(0, .ref (a 1)), (1, .int xp1), (2, .int xp2), (3, .int xp3), (4, .int xp4)] := hl
  skip
  refine lv_aload_n hx hb dX2_add_0 rfl (lv_at hl 0 rfl) ?_
  refine xg_1_6 S hK hW kw_49 dX2_add_1 ?_
  refine lv_sipush (v := 400) hx hb dX2_add_4 (by decide) ?_
  refine lv_icmp_lt (tgt := 11) hx hb dX2_add_7 (by decide) (fun c1 => ?_) (fun c1 => ?_)
  · have h := h.1 c1
    refine lv_aload_n hx hb dX2_add_11 rfl (lv_at hl 0 rfl) ?_
    refine xg_1_0 S hK hW kw_40 dX2_add_12 ?_
    refine lv_aload_n hx hb dX2_add_15 rfl (lv_at hl 0 rfl) ?_
    refine xg_1_6 S hK hW kw_49 dX2_add_16 ?_
    refine lv_iload_n hx hb dX2_add_19 rfl (lv_at hl 1 rfl) ?_
    obtain ⟨hin, h⟩ := h
    refine xs_3 S hK hW hin dX2_add_20 (fun u2 H locs eu2 hW => ?_)
    have h := nm_use eu2 h
    refine lv_aload_n hx hb dX2_add_21 rfl (lv_at hl 0 rfl) ?_
    refine xg_1_1 S hK hW kw_42 dX2_add_22 ?_
    refine lv_aload_n hx hb dX2_add_25 rfl (lv_at hl 0 rfl) ?_
    refine xg_1_6 S hK hW kw_49 dX2_add_26 ?_
    refine lv_iload_n hx hb dX2_add_29 rfl (lv_at hl 2 rfl) ?_
    obtain ⟨hin, h⟩ := h
    refine xs_4 S hK hW hin dX2_add_30 (fun u3 H locs eu3 hW => ?_)
    have h := nm_use eu3 h
    refine lv_aload_n hx hb dX2_add_31 rfl (lv_at hl 0 rfl) ?_
    refine xg_1_2 S hK hW kw_43 dX2_add_32 ?_
    refine lv_aload_n hx hb dX2_add_35 rfl (lv_at hl 0 rfl) ?_
    refine xg_1_6 S hK hW kw_49 dX2_add_36 ?_
    refine lv_iload_n hx hb dX2_add_39 rfl (lv_at hl 3 rfl) ?_
    obtain ⟨hin, h⟩ := h
    refine xs_5 S hK hW hin dX2_add_40 (fun u4 H locs eu4 hW => ?_)
    have h := nm_use eu4 h
    refine lv_aload_n hx hb dX2_add_41 rfl (lv_at hl 0 rfl) ?_
    refine xg_1_3 S hK hW kw_45 dX2_add_42 ?_
    refine lv_aload_n hx hb dX2_add_45 rfl (lv_at hl 0 rfl) ?_
    refine xg_1_6 S hK hW kw_49 dX2_add_46 ?_
    refine lv_iload hx hb dX2_add_49 (lv_at hl 4 rfl) ?_
    obtain ⟨hin, h⟩ := h
    refine xs_6 S hK hW hin dX2_add_51 (fun u5 H locs eu5 hW => ?_)
    have h := nm_use eu5 h
    refine lv_aload_n hx hb dX2_add_52 rfl (lv_at hl 0 rfl) ?_
    refine xg_1_4 S hK hW kw_47 dX2_add_53 ?_
    refine lv_aload_n hx hb dX2_add_56 rfl (lv_at hl 0 rfl) ?_
    refine xg_1_6 S hK hW kw_49 dX2_add_57 ?_
    refine lv_iconst (v := (-1)) hx hb dX2_add_60 (by decide) ?_
    obtain ⟨hin, h⟩ := h
    refine xs_7 S hK hW hin dX2_add_61 (fun u6 H locs eu6 hW => ?_)
    have h := nm_use eu6 h
    refine lv_aload_n hx hb dX2_add_62 rfl (lv_at hl 0 rfl) ?_
    refine lv_dup hx hb dX2_add_63 rfl ?_
    refine xg_1_6 S hK hW kw_49 dX2_add_64 ?_
    refine lv_iconst (v := 1) hx hb dX2_add_67 (by decide) ?_
    refine lv_iadd hx hb dX2_add_68 ?_
    refine lv_topi (fun x7 ex7 => ?_)
    have h := nm_use ex7 h
    refine xp_17 S hK hW kw_49 dX2_add_69 (fun u8 H locs eu8 hW => ?_)
    have h := nm_use eu8 h
    exact hret _ _ _ _ _ dX2_add_72 hW h
  · have h := h.2 c1
    exact hret _ _ _ _ _ dX2_add_10 hW h
def w_X3_ofLeaf (xp0 : Int32) (xp1 : Int32) (u : Mem) (post : Int32 → Mem → Prop) : Prop := nm ((31 : Int32) * xp1 : Int32) fun x1 => nm (x1 + xp0 : Int32) fun x2 => post x2 u
abbrev rm_X3_ofLeaf : Room := { frames := 0, cells := 0, slots := 0, locals := 0 }
theorem hd_X3_ofLeaf : yX3_ofLeaf.cls ≠ "java/lang/invoke/MethodHandle" ∧ yX3_ofLeaf.cls ≠ "java/lang/invoke/VarHandle" ∧ (parseMethodDescriptor yX3_ofLeaf.desc).map (fun d => d.parameters.length) = some 2 := by decide +kernel
set_option maxHeartbeats 4000000 in
set_option maxRecDepth 100000 in
theorem c_X3_ofLeaf (l : Launch) (D : va_G) (cA : ClassId) (a : Nat → Nat) (u : Mem) (xp0 xp1 : Int32) (post : Int32 → Mem → Prop) (h : w_X3_ofLeaf xp0 xp1 u post) : g_Mi l yX3_ofLeaf (Cond.code yX3_ofLeaf cX3_ofLeaf 2 (some .int) :: tT) rm_X3_ofLeaf D cA (Xw cA a) u [.int xp0, .int xp1] post := by
  refine g_enter_i (by decide) (Xw_adr cA a) (Nat.le_of_ble_eq_true rfl) ?_
  intro p e s m args below meth c A Q S hml hK hA hret ls hl hW
  have hx := S.1
  have hb := S.2.1
  have hl : lv_has ls 2 [(0, .int xp0), (1, .int xp1)] := hl
  skip
  refine lv_bipush (v := 31) hx hb dX3_ofLeaf_0 (by decide) ?_
  refine lv_iload_n hx hb dX3_ofLeaf_2 rfl (lv_at hl 1 rfl) ?_
  refine lv_imul hx hb dX3_ofLeaf_3 ?_
  refine lv_topi (fun x1 ex1 => ?_)
  have h := nm_use ex1 h
  refine lv_iload_n hx hb dX3_ofLeaf_4 rfl (lv_at hl 0 rfl) ?_
  refine lv_iadd hx hb dX3_ofLeaf_5 ?_
  refine lv_topi (fun x2 ex2 => ?_)
  have h := nm_use ex2 h
  exact hret _ _ _ _ _ _ dX3_ofLeaf_6 hW h
def w_X3_join (xp0 : Int32) (xp1 : Int32) (u : Mem) (post : Int32 → Mem → Prop) : Prop := nm ((31 : Int32) * xp0 : Int32) fun x1 => nm (x1 + xp1 : Int32) fun x2 => nm ((x2.toUInt32 >>> ((15 : Int32).toUInt32 &&& Int32.toUInt32 31)).toInt32 : Int32) fun x3 => nm (x2 ^^^ x3 : Int32) fun x4 => nm (x4 * (739982445 : Int32) : Int32) fun x5 => post x5 u
abbrev rm_X3_join : Room := { frames := 0, cells := 0, slots := 0, locals := 0 }
theorem hd_X3_join : yX3_join.cls ≠ "java/lang/invoke/MethodHandle" ∧ yX3_join.cls ≠ "java/lang/invoke/VarHandle" ∧ (parseMethodDescriptor yX3_join.desc).map (fun d => d.parameters.length) = some 2 := by decide +kernel
set_option maxHeartbeats 4000000 in
set_option maxRecDepth 100000 in
theorem c_X3_join (l : Launch) (D : va_G) (cA : ClassId) (a : Nat → Nat) (u : Mem) (xp0 xp1 : Int32) (post : Int32 → Mem → Prop) (h : w_X3_join xp0 xp1 u post) : g_Mi l yX3_join (Cond.code yX3_join cX3_join 3 (some .int) :: tT) rm_X3_join D cA (Xw cA a) u [.int xp0, .int xp1] post := by
  refine g_enter_i (by decide) (Xw_adr cA a) (Nat.le_of_ble_eq_true rfl) ?_
  intro p e s m args below meth c A Q S hml hK hA hret ls hl hW
  have hx := S.1
  have hb := S.2.1
  have hl : lv_has ls 3 [(0, .int xp0), (1, .int xp1)] := hl
  skip
  refine lv_bipush (v := 31) hx hb dX3_join_0 (by decide) ?_
  refine lv_iload_n hx hb dX3_join_2 rfl (lv_at hl 0 rfl) ?_
  refine lv_imul hx hb dX3_join_3 ?_
  refine lv_topi (fun x1 ex1 => ?_)
  have h := nm_use ex1 h
  refine lv_iload_n hx hb dX3_join_4 rfl (lv_at hl 1 rfl) ?_
  refine lv_iadd hx hb dX3_join_5 ?_
  refine lv_topi (fun x2 ex2 => ?_)
  have h := nm_use ex2 h
  refine lv_istore_n (lv' := [(2, .int x2), (0, .int xp0), (1, .int xp1)]) hx hb dX3_join_6 rfl hl (by decide) rfl (fun ls hl => ?_)
  refine lv_iload_n hx hb dX3_join_7 rfl (lv_at hl 0 rfl) ?_
  refine lv_iload_n hx hb dX3_join_8 rfl (lv_at hl 0 rfl) ?_
  refine lv_bipush (v := 15) hx hb dX3_join_9 (by decide) ?_
  refine lv_iushr hx hb dX3_join_11 rfl ?_
  refine lv_topi (fun x3 ex3 => ?_)
  have h := nm_use ex3 h
  refine lv_ixor hx hb dX3_join_12 ?_
  refine lv_topi (fun x4 ex4 => ?_)
  have h := nm_use ex4 h
  refine lv_ldc hx hb S.2.2.1 (S.2.2.2 _ kw_144) dX3_join_13 ?_
  refine lv_imul hx hb dX3_join_15 ?_
  refine lv_topi (fun x5 ex5 => ?_)
  have h := nm_use ex5 h
  exact hret _ _ _ _ _ _ dX3_join_16 hW h
def L_X3_grow_2 (j1 n1 : Nat) (post : Int32 → Mem → Prop) (K : Int32 → Mem → Prop) : Nat → Int32 → Mem → Prop
  | 0, _, _ => False
  | n_2 + 1, y2_2, u_2 => (32 ≤ y2_2 → (K y2_2 u_2)) ∧ (¬ 32 ≤ y2_2 → (nm ((32 : Int32) + y2_2 : Int32) fun x2 => vp_in y2_2 n1 ∧ nm (u_2 j1 (y2_2 : Int32).toNatClampNeg) fun x3 => w_X3_ofLeaf y2_2 x3 u_2 (fun x5 u4 => vp_in x2 64 ∧ nm (g_ms u4 14 (x2 : Int32).toNatClampNeg x5) fun u6 => nm (y2_2 + 1) fun x7 => L_X3_grow_2 j1 n1 post K n_2 x7 u6)))
def L_X3_grow_33 (j1 n1 : Nat) (post : Int32 → Mem → Prop) (K : Int32 → Mem → Prop) : Nat → Int32 → Mem → Prop
  | 0, _, _ => False
  | n_33 + 1, y2_33, u_33 => (y2_33 < 1 → (K y2_33 u_33)) ∧ (¬ y2_33 < 1 → (nm ((2 : Int32) * y2_33 : Int32) fun x9 => vp_in x9 64 ∧ nm (u_33 14 (x9 : Int32).toNatClampNeg) fun x10 => nm ((2 : Int32) * y2_33 : Int32) fun x11 => nm (x11 + (1 : Int32) : Int32) fun x12 => vp_in x12 64 ∧ nm (u_33 14 (x12 : Int32).toNatClampNeg) fun x13 => w_X3_join x10 x13 u_33 (fun x15 u14 => vp_in y2_33 64 ∧ nm (g_ms u14 14 (y2_33 : Int32).toNatClampNeg x15) fun u16 => nm (y2_33 + (-1)) fun x17 => L_X3_grow_33 j1 n1 post K n_33 x17 u16)))
def w_X3_grow (j1 n1 : Nat) (u : Mem) (post : Int32 → Mem → Prop) : Prop := ∃ n_2, L_X3_grow_2 j1 n1 post (fun w2_2 v_2 => ∃ n_33, L_X3_grow_33 j1 n1 post (fun w2_33 v_33 => vp_in 1 64 ∧ nm (v_33 14 (1 : Int32).toNatClampNeg) fun x18 => post x18 v_33) n_33 31 v_2) n_2 0 u
abbrev rm_X3_grow : Room := { frames := 1, cells := 0, slots := 0, locals := 22 }
theorem hd_X3_grow : yX3_grow.cls ≠ "java/lang/invoke/MethodHandle" ∧ yX3_grow.cls ≠ "java/lang/invoke/VarHandle" ∧ (parseMethodDescriptor yX3_grow.desc).map (fun d => d.parameters.length) = some 1 := by decide +kernel
set_option maxHeartbeats 4000000 in
set_option maxRecDepth 100000 in
theorem c_X3_grow_12 (l : Launch) (D : va_G) (cA : ClassId) (a : Nat → Nat) (u : Mem) (post : Int32 → Mem → Prop) (h : w_X3_grow 12 32 u post) : g_Mi l yX3_grow (Cond.code yX3_grow cX3_grow 3 (some .int) :: tT) rm_X3_grow D cA (Xw cA a) u [.ref (a 4), .ref (a 17)] post := by
  refine g_enter_i (by decide) (Xw_adr cA a) (Nat.le_of_ble_eq_true rfl) ?_
  intro p e s m args below meth c A Q S hml hK hA hret ls hl hW
  have hx := S.1
  have hb := S.2.1
  have hl : lv_has ls 3 [(0, .ref (a 4)), (1, .ref (a 17))] := hl
  skip
  refine lv_iconst (v := 0) hx hb dX3_grow_0 (by decide) ?_
  refine lv_istore_n (lv' := [(2, .int 0), (0, .ref (a 4)), (1, .ref (a 17))]) hx hb dX3_grow_1 rfl hl (by decide) rfl (fun ls hl => ?_)
  have loop_2 : ∀ (K : Int32 → Mem → Prop), (∀ (w2_2 : Int32) (v_2 : Mem) (H : Heap) (locs : List Loc) (ls : Array Slot), K w2_2 v_2 → g_W D (Xw cA a) A s.heap v_2 H locs → lv_has ls 3 [(0, .ref (a 4)), (1, .ref (a 17)), (2, .int w2_2)] → W p l e rm_X3_grow s m args below meth c H locs 0 0 Q (F0 m 30 ls [])) → ∀ (n : Nat) (y2_2 : Int32) (u_2 : Mem) (H : Heap) (locs : List Loc) (ls : Array Slot), L_X3_grow_2 12 32 post K n y2_2 u_2 → g_W D (Xw cA a) A s.heap u_2 H locs → lv_has ls 3 [(0, .ref (a 4)), (1, .ref (a 17)), (2, .int y2_2)] → W p l e rm_X3_grow s m args below meth c H locs 0 0 Q (F0 m 2 ls []) := by
    intro K hE n
    induction n with
    | zero => intro y2_2 u_2 H locs ls h; exact False.elim h
    | succ n ih =>
      intro y2_2 u_2 H locs ls h hW hl
      refine lv_iload_n hx hb dX3_grow_2 rfl (lv_at hl 2 rfl) ?_
      refine lv_bipush (v := 32) hx hb dX3_grow_3 (by decide) ?_
      refine lv_icmp_ge (tgt := 30) hx hb dX3_grow_5 (by decide) (fun c29 => ?_) (fun c29 => ?_)
      · have h := h.1 c29
        exact hE y2_2 u_2 _ _ _ h hW (lv_sub hl [0, 1, 2] rfl)
      · have h := h.2 c29
        refine lv_aload_n hx hb dX3_grow_8 rfl (lv_at hl 0 rfl) ?_
        refine xg_4_0 S hK hW kw_119 dX3_grow_9 ?_
        refine lv_bipush (v := 32) hx hb dX3_grow_12 (by decide) ?_
        refine lv_iload_n hx hb dX3_grow_14 rfl (lv_at hl 2 rfl) ?_
        refine lv_iadd hx hb dX3_grow_15 ?_
        refine lv_topi (fun x30 ex30 => ?_)
        have h := nm_use ex30 h
        refine lv_iload_n hx hb dX3_grow_16 rfl (lv_at hl 2 rfl) ?_
        refine lv_aload_n hx hb dX3_grow_17 rfl (lv_at hl 1 rfl) ?_
        refine lv_iload_n hx hb dX3_grow_18 rfl (lv_at hl 2 rfl) ?_
        obtain ⟨hin, h⟩ := h
        refine xl_12 S hK hW hin dX3_grow_19 (fun x31 ex31 => ?_)
        have h := nm_use ex31 h
        refine g_cali (g_runS S hml hK hW (c_X3_ofLeaf l D cA a u_2 y2_2 x31 _ h _) kw_138 kw_139 kw_23 kw_140 hd_X3_ofLeaf ⟨rfl, rfl, Nat.le_of_ble_eq_true rfl, Nat.le_of_ble_eq_true rfl⟩ (As := [.int y2_2, .int x31]) (rest := [.int x30, .ref (a 19)]) rfl rfl hl.1 (Nat.le_of_ble_eq_true rfl) dX3_grow_20 ⟨Nat.zero_le _, Nat.zero_le _⟩) (Xw_adr cA a) hA hW (fun x33 u32 H locs h hW => ?_)
        obtain ⟨hin, h⟩ := h
        refine xs_14 S hK hW hin dX3_grow_23 (fun u34 H locs eu34 hW => ?_)
        have h := nm_use eu34 h
        obtain ⟨x35, ex35⟩ : ∃ z : Int32, z = y2_2 + 1 := ⟨_, rfl⟩
        have h := nm_use ex35 h
        refine lv_iinc (v := x35) (lv' := [(2, .int x35), (0, .ref (a 4)), (1, .ref (a 17))]) hx hb dX3_grow_24 hl (k := 2) rfl (by rw [ex35]; rfl) (by decide) rfl (fun ls hl => ?_)
        refine lv_goto (tgt := 2) hx hb dX3_grow_27 (by decide) ?_
        exact ih x35 u34 _ _ _ h hW (lv_sub hl [1, 2, 0] rfl)
  obtain ⟨n_2, h⟩ := h
  refine loop_2 _ ?_ n_2 0 u _ _ _ h hW (lv_sub hl [1, 2, 0] rfl)
  intro w2_2 v_2 H locs ls h hW hl
  refine lv_bipush (v := 31) hx hb dX3_grow_30 (by decide) ?_
  refine lv_istore_n (lv' := [(2, .int 31), (0, .ref (a 4)), (1, .ref (a 17))]) hx hb dX3_grow_32 rfl hl (by decide) rfl (fun ls hl => ?_)
  have loop_33 : ∀ (K : Int32 → Mem → Prop), (∀ (w2_33 : Int32) (v_33 : Mem) (H : Heap) (locs : List Loc) (ls : Array Slot), K w2_33 v_33 → g_W D (Xw cA a) A s.heap v_33 H locs → lv_has ls 3 [(0, .ref (a 4)), (1, .ref (a 17)), (2, .int w2_33)] → W p l e rm_X3_grow s m args below meth c H locs 0 0 Q (F0 m 71 ls [])) → ∀ (n : Nat) (y2_33 : Int32) (u_33 : Mem) (H : Heap) (locs : List Loc) (ls : Array Slot), L_X3_grow_33 12 32 post K n y2_33 u_33 → g_W D (Xw cA a) A s.heap u_33 H locs → lv_has ls 3 [(0, .ref (a 4)), (1, .ref (a 17)), (2, .int y2_33)] → W p l e rm_X3_grow s m args below meth c H locs 0 0 Q (F0 m 33 ls []) := by
    intro K hE n
    induction n with
    | zero => intro y2_33 u_33 H locs ls h; exact False.elim h
    | succ n ih =>
      intro y2_33 u_33 H locs ls h hW hl
      refine lv_iload_n hx hb dX3_grow_33 rfl (lv_at hl 2 rfl) ?_
      refine lv_iconst (v := 1) hx hb dX3_grow_34 (by decide) ?_
      refine lv_icmp_lt (tgt := 71) hx hb dX3_grow_35 (by decide) (fun c19 => ?_) (fun c19 => ?_)
      · have h := h.1 c19
        exact hE y2_33 u_33 _ _ _ h hW (lv_sub hl [0, 1, 2] rfl)
      · have h := h.2 c19
        refine lv_aload_n hx hb dX3_grow_38 rfl (lv_at hl 0 rfl) ?_
        refine xg_4_0 S hK hW kw_119 dX3_grow_39 ?_
        refine lv_iload_n hx hb dX3_grow_42 rfl (lv_at hl 2 rfl) ?_
        refine lv_aload_n hx hb dX3_grow_43 rfl (lv_at hl 0 rfl) ?_
        refine xg_4_0 S hK hW kw_119 dX3_grow_44 ?_
        refine lv_iconst (v := 2) hx hb dX3_grow_47 (by decide) ?_
        refine lv_iload_n hx hb dX3_grow_48 rfl (lv_at hl 2 rfl) ?_
        refine lv_imul hx hb dX3_grow_49 ?_
        refine lv_topi (fun x20 ex20 => ?_)
        have h := nm_use ex20 h
        obtain ⟨hin, h⟩ := h
        refine xl_14 S hK hW hin dX3_grow_50 (fun x21 ex21 => ?_)
        have h := nm_use ex21 h
        refine lv_aload_n hx hb dX3_grow_51 rfl (lv_at hl 0 rfl) ?_
        refine xg_4_0 S hK hW kw_119 dX3_grow_52 ?_
        refine lv_iconst (v := 2) hx hb dX3_grow_55 (by decide) ?_
        refine lv_iload_n hx hb dX3_grow_56 rfl (lv_at hl 2 rfl) ?_
        refine lv_imul hx hb dX3_grow_57 ?_
        refine lv_topi (fun x22 ex22 => ?_)
        have h := nm_use ex22 h
        refine lv_iconst (v := 1) hx hb dX3_grow_58 (by decide) ?_
        refine lv_iadd hx hb dX3_grow_59 ?_
        refine lv_topi (fun x23 ex23 => ?_)
        have h := nm_use ex23 h
        obtain ⟨hin, h⟩ := h
        refine xl_14 S hK hW hin dX3_grow_60 (fun x24 ex24 => ?_)
        have h := nm_use ex24 h
        refine g_cali (g_runS S hml hK hW (c_X3_join l D cA a u_33 x21 x24 _ h _) kw_141 kw_142 kw_23 kw_143 hd_X3_join ⟨rfl, rfl, Nat.le_of_ble_eq_true rfl, Nat.le_of_ble_eq_true rfl⟩ (As := [.int x21, .int x24]) (rest := [.int y2_33, .ref (a 19)]) rfl rfl hl.1 (Nat.le_of_ble_eq_true rfl) dX3_grow_61 ⟨Nat.zero_le _, Nat.zero_le _⟩) (Xw_adr cA a) hA hW (fun x26 u25 H locs h hW => ?_)
        obtain ⟨hin, h⟩ := h
        refine xs_14 S hK hW hin dX3_grow_64 (fun u27 H locs eu27 hW => ?_)
        have h := nm_use eu27 h
        obtain ⟨x28, ex28⟩ : ∃ z : Int32, z = y2_33 + (-1) := ⟨_, rfl⟩
        have h := nm_use ex28 h
        refine lv_iinc (v := x28) (lv' := [(2, .int x28), (0, .ref (a 4)), (1, .ref (a 17))]) hx hb dX3_grow_65 hl (k := 2) rfl (by rw [ex28]; rfl) (by decide) rfl (fun ls hl => ?_)
        refine lv_goto (tgt := 33) hx hb dX3_grow_68 (by decide) ?_
        exact ih x28 u27 _ _ _ h hW (lv_sub hl [1, 2, 0] rfl)
  obtain ⟨n_33, h⟩ := h
  refine loop_33 _ ?_ n_33 31 v_2 _ _ _ h hW (lv_sub hl [1, 2, 0] rfl)
  intro w2_33 v_33 H locs ls h hW hl
  refine lv_aload_n hx hb dX3_grow_71 rfl (lv_at hl 0 rfl) ?_
  refine xg_4_0 S hK hW kw_119 dX3_grow_72 ?_
  refine lv_iconst (v := 1) hx hb dX3_grow_75 (by decide) ?_
  obtain ⟨hin, h⟩ := h
  refine xl_14 S hK hW hin dX3_grow_76 (fun x18 ex18 => ?_)
  have h := nm_use ex18 h
  exact hret _ _ _ _ _ _ dX3_grow_77 hW h
def w_X1_rise (xp1 : Int32) (u : Mem) (post : Mem → Prop) : Prop := ((u 18 0) < 200 → (nm ((u 18 0) + (1 : Int32) : Int32) fun x2 => nm (g_ms u 18 0 x2) fun u3 => vp_in (u3 18 0) 201 ∧ nm (g_ms u3 9 ((u3 18 0) : Int32).toNatClampNeg xp1) fun u4 => vp_in (u4 18 0) 201 ∧ nm (g_ms u4 10 ((u4 18 0) : Int32).toNatClampNeg (-1)) fun u5 => post u5)) ∧ (¬ (u 18 0) < 200 → (post u))
abbrev rm_X1_rise : Room := { frames := 0, cells := 0, slots := 0, locals := 0 }
theorem hd_X1_rise : yX1_rise.cls ≠ "java/lang/invoke/MethodHandle" ∧ yX1_rise.cls ≠ "java/lang/invoke/VarHandle" ∧ (parseMethodDescriptor yX1_rise.desc).map (fun d => d.parameters.length) = some 1 := by decide +kernel
set_option maxHeartbeats 4000000 in
set_option maxRecDepth 100000 in
theorem c_X1_rise (l : Launch) (D : va_G) (cA : ClassId) (a : Nat → Nat) (u : Mem) (xp1 : Int32) (post : Mem → Prop) (h : w_X1_rise xp1 u post) : g_Mv l yX1_rise (Cond.code yX1_rise cX1_rise 2 none :: tT) rm_X1_rise D cA (Xw cA a) u [.ref (a 2), .int xp1] post := by
  refine g_enter_v (by decide) (Xw_adr cA a) (Nat.le_of_ble_eq_true rfl) ?_
  intro p e s m args below meth c A Q S hml hK hA hret ls hl hW
  have hx := S.1
  have hb := S.2.1
  have hl : lv_has ls 2 [(0, .ref (a 2)), (1, .int xp1)] := hl
  skip
  refine lv_aload_n hx hb dX1_rise_0 rfl (lv_at hl 0 rfl) ?_
  refine xg_2_2 S hK hW kw_76 dX1_rise_1 ?_
  refine lv_sipush (v := 200) hx hb dX1_rise_4 (by decide) ?_
  refine lv_icmp_lt (tgt := 11) hx hb dX1_rise_7 (by decide) (fun c1 => ?_) (fun c1 => ?_)
  · have h := h.1 c1
    refine lv_aload_n hx hb dX1_rise_11 rfl (lv_at hl 0 rfl) ?_
    refine lv_dup hx hb dX1_rise_12 rfl ?_
    refine xg_2_2 S hK hW kw_76 dX1_rise_13 ?_
    refine lv_iconst (v := 1) hx hb dX1_rise_16 (by decide) ?_
    refine lv_iadd hx hb dX1_rise_17 ?_
    refine lv_topi (fun x2 ex2 => ?_)
    have h := nm_use ex2 h
    refine xp_18 S hK hW kw_76 dX1_rise_18 (fun u3 H locs eu3 hW => ?_)
    have h := nm_use eu3 h
    refine lv_aload_n hx hb dX1_rise_21 rfl (lv_at hl 0 rfl) ?_
    refine xg_2_0 S hK hW kw_73 dX1_rise_22 ?_
    refine lv_aload_n hx hb dX1_rise_25 rfl (lv_at hl 0 rfl) ?_
    refine xg_2_2 S hK hW kw_76 dX1_rise_26 ?_
    refine lv_iload_n hx hb dX1_rise_29 rfl (lv_at hl 1 rfl) ?_
    obtain ⟨hin, h⟩ := h
    refine xs_9 S hK hW hin dX1_rise_30 (fun u4 H locs eu4 hW => ?_)
    have h := nm_use eu4 h
    refine lv_aload_n hx hb dX1_rise_31 rfl (lv_at hl 0 rfl) ?_
    refine xg_2_1 S hK hW kw_75 dX1_rise_32 ?_
    refine lv_aload_n hx hb dX1_rise_35 rfl (lv_at hl 0 rfl) ?_
    refine xg_2_2 S hK hW kw_76 dX1_rise_36 ?_
    refine lv_iconst (v := (-1)) hx hb dX1_rise_39 (by decide) ?_
    obtain ⟨hin, h⟩ := h
    refine xs_10 S hK hW hin dX1_rise_40 (fun u5 H locs eu5 hW => ?_)
    have h := nm_use eu5 h
    exact hret _ _ _ _ _ dX1_rise_41 hW h
  · have h := h.2 c1
    exact hret _ _ _ _ _ dX1_rise_10 hW h
def L_X0_startFrom_2 (j1 n1 : Nat) (post : Mem → Prop) (K : Int32 → Mem → Prop) : Nat → Int32 → Mem → Prop
  | 0, _, _ => False
  | n_2 + 1, y2_2, u_2 => (32 ≤ y2_2 → (K y2_2 u_2)) ∧ (¬ 32 ≤ y2_2 → (vp_in y2_2 n1 ∧ nm (u_2 j1 (y2_2 : Int32).toNatClampNeg) fun x2 => vp_in y2_2 32 ∧ nm (g_ms u_2 11 (y2_2 : Int32).toNatClampNeg x2) fun u3 => vp_in y2_2 n1 ∧ nm (u3 j1 (y2_2 : Int32).toNatClampNeg) fun x4 => vp_in y2_2 32 ∧ nm (g_ms u3 12 (y2_2 : Int32).toNatClampNeg x4) fun u5 => nm (y2_2 + 1) fun x6 => L_X0_startFrom_2 j1 n1 post K n_2 x6 u5))
def w_X0_startFrom (j1 n1 : Nat) (u : Mem) (post : Mem → Prop) : Prop := ∃ n_2, L_X0_startFrom_2 j1 n1 post (fun w2_2 v_2 => nm (g_ms v_2 19 0 0) fun u7 => nm (g_ms u7 20 0 0) fun u8 => post u8) n_2 0 u
abbrev rm_X0_startFrom : Room := { frames := 0, cells := 0, slots := 0, locals := 0 }
theorem hd_X0_startFrom : yX0_startFrom.cls ≠ "java/lang/invoke/MethodHandle" ∧ yX0_startFrom.cls ≠ "java/lang/invoke/VarHandle" ∧ (parseMethodDescriptor yX0_startFrom.desc).map (fun d => d.parameters.length) = some 1 := by decide +kernel
set_option maxHeartbeats 4000000 in
set_option maxRecDepth 100000 in
theorem c_X0_startFrom_12 (l : Launch) (D : va_G) (cA : ClassId) (a : Nat → Nat) (u : Mem) (post : Mem → Prop) (h : w_X0_startFrom 12 32 u post) : g_Mv l yX0_startFrom (Cond.code yX0_startFrom cX0_startFrom 3 none :: tT) rm_X0_startFrom D cA (Xw cA a) u [.ref (a 3), .ref (a 17)] post := by
  refine g_enter_v (by decide) (Xw_adr cA a) (Nat.le_of_ble_eq_true rfl) ?_
  intro p e s m args below meth c A Q S hml hK hA hret ls hl hW
  have hx := S.1
  have hb := S.2.1
  have hl : lv_has ls 3 [(0, .ref (a 3)), (1, .ref (a 17))] := hl
  skip
  refine lv_iconst (v := 0) hx hb dX0_startFrom_0 (by decide) ?_
  refine lv_istore_n (lv' := [(2, .int 0), (0, .ref (a 3)), (1, .ref (a 17))]) hx hb dX0_startFrom_1 rfl hl (by decide) rfl (fun ls hl => ?_)
  have loop_2 : ∀ (K : Int32 → Mem → Prop), (∀ (w2_2 : Int32) (v_2 : Mem) (H : Heap) (locs : List Loc) (ls : Array Slot), K w2_2 v_2 → g_W D (Xw cA a) A s.heap v_2 H locs → lv_has ls 3 [(0, .ref (a 3)), (1, .ref (a 17)), (2, .int w2_2)] → W p l e rm_X0_startFrom s m args below meth c H locs 0 0 Q (F0 m 32 ls [])) → ∀ (n : Nat) (y2_2 : Int32) (u_2 : Mem) (H : Heap) (locs : List Loc) (ls : Array Slot), L_X0_startFrom_2 12 32 post K n y2_2 u_2 → g_W D (Xw cA a) A s.heap u_2 H locs → lv_has ls 3 [(0, .ref (a 3)), (1, .ref (a 17)), (2, .int y2_2)] → W p l e rm_X0_startFrom s m args below meth c H locs 0 0 Q (F0 m 2 ls []) := by
    intro K hE n
    induction n with
    | zero => intro y2_2 u_2 H locs ls h; exact False.elim h
    | succ n ih =>
      intro y2_2 u_2 H locs ls h hW hl
      refine lv_iload_n hx hb dX0_startFrom_2 rfl (lv_at hl 2 rfl) ?_
      refine lv_bipush (v := 32) hx hb dX0_startFrom_3 (by decide) ?_
      refine lv_icmp_ge (tgt := 32) hx hb dX0_startFrom_5 (by decide) (fun c9 => ?_) (fun c9 => ?_)
      · have h := h.1 c9
        exact hE y2_2 u_2 _ _ _ h hW (lv_sub hl [0, 1, 2] rfl)
      · have h := h.2 c9
        refine lv_aload_n hx hb dX0_startFrom_8 rfl (lv_at hl 0 rfl) ?_
        refine xg_3_0 S hK hW kw_92 dX0_startFrom_9 ?_
        refine lv_iload_n hx hb dX0_startFrom_12 rfl (lv_at hl 2 rfl) ?_
        refine lv_aload_n hx hb dX0_startFrom_13 rfl (lv_at hl 1 rfl) ?_
        refine lv_iload_n hx hb dX0_startFrom_14 rfl (lv_at hl 2 rfl) ?_
        obtain ⟨hin, h⟩ := h
        refine xl_12 S hK hW hin dX0_startFrom_15 (fun x10 ex10 => ?_)
        have h := nm_use ex10 h
        obtain ⟨hin, h⟩ := h
        refine xs_11 S hK hW hin dX0_startFrom_16 (fun u11 H locs eu11 hW => ?_)
        have h := nm_use eu11 h
        refine lv_aload_n hx hb dX0_startFrom_17 rfl (lv_at hl 0 rfl) ?_
        refine xg_3_1 S hK hW kw_94 dX0_startFrom_18 ?_
        refine lv_iload_n hx hb dX0_startFrom_21 rfl (lv_at hl 2 rfl) ?_
        refine lv_aload_n hx hb dX0_startFrom_22 rfl (lv_at hl 1 rfl) ?_
        refine lv_iload_n hx hb dX0_startFrom_23 rfl (lv_at hl 2 rfl) ?_
        obtain ⟨hin, h⟩ := h
        refine xl_12 S hK hW hin dX0_startFrom_24 (fun x12 ex12 => ?_)
        have h := nm_use ex12 h
        obtain ⟨hin, h⟩ := h
        refine xs_12 S hK hW hin dX0_startFrom_25 (fun u13 H locs eu13 hW => ?_)
        have h := nm_use eu13 h
        obtain ⟨x14, ex14⟩ : ∃ z : Int32, z = y2_2 + 1 := ⟨_, rfl⟩
        have h := nm_use ex14 h
        refine lv_iinc (v := x14) (lv' := [(2, .int x14), (0, .ref (a 3)), (1, .ref (a 17))]) hx hb dX0_startFrom_26 hl (k := 2) rfl (by rw [ex14]; rfl) (by decide) rfl (fun ls hl => ?_)
        refine lv_goto (tgt := 2) hx hb dX0_startFrom_29 (by decide) ?_
        exact ih x14 u13 _ _ _ h hW (lv_sub hl [1, 2, 0] rfl)
  obtain ⟨n_2, h⟩ := h
  refine loop_2 _ ?_ n_2 0 u _ _ _ h hW (lv_sub hl [1, 2, 0] rfl)
  intro w2_2 v_2 H locs ls h hW hl
  refine lv_aload_n hx hb dX0_startFrom_32 rfl (lv_at hl 0 rfl) ?_
  refine lv_iconst (v := 0) hx hb dX0_startFrom_33 (by decide) ?_
  refine xp_19 S hK hW kw_98 dX0_startFrom_34 (fun u7 H locs eu7 hW => ?_)
  have h := nm_use eu7 h
  refine lv_aload_n hx hb dX0_startFrom_37 rfl (lv_at hl 0 rfl) ?_
  refine lv_iconst (v := 0) hx hb dX0_startFrom_38 (by decide) ?_
  refine xp_20 S hK hW kw_101 dX0_startFrom_39 (fun u8 H locs eu8 hW => ?_)
  have h := nm_use eu8 h
  exact hret _ _ _ _ _ dX0_startFrom_42 hW h
set_option maxHeartbeats 4000000 in
set_option maxRecDepth 100000 in
theorem c_X0_startFrom_11 (l : Launch) (D : va_G) (cA : ClassId) (a : Nat → Nat) (u : Mem) (post : Mem → Prop) (h : w_X0_startFrom 11 32 u post) : g_Mv l yX0_startFrom (Cond.code yX0_startFrom cX0_startFrom 3 none :: tT) rm_X0_startFrom D cA (Xw cA a) u [.ref (a 3), .ref (a 16)] post := by
  refine g_enter_v (by decide) (Xw_adr cA a) (Nat.le_of_ble_eq_true rfl) ?_
  intro p e s m args below meth c A Q S hml hK hA hret ls hl hW
  have hx := S.1
  have hb := S.2.1
  have hl : lv_has ls 3 [(0, .ref (a 3)), (1, .ref (a 16))] := hl
  skip
  refine lv_iconst (v := 0) hx hb dX0_startFrom_0 (by decide) ?_
  refine lv_istore_n (lv' := [(2, .int 0), (0, .ref (a 3)), (1, .ref (a 16))]) hx hb dX0_startFrom_1 rfl hl (by decide) rfl (fun ls hl => ?_)
  have loop_2 : ∀ (K : Int32 → Mem → Prop), (∀ (w2_2 : Int32) (v_2 : Mem) (H : Heap) (locs : List Loc) (ls : Array Slot), K w2_2 v_2 → g_W D (Xw cA a) A s.heap v_2 H locs → lv_has ls 3 [(0, .ref (a 3)), (1, .ref (a 16)), (2, .int w2_2)] → W p l e rm_X0_startFrom s m args below meth c H locs 0 0 Q (F0 m 32 ls [])) → ∀ (n : Nat) (y2_2 : Int32) (u_2 : Mem) (H : Heap) (locs : List Loc) (ls : Array Slot), L_X0_startFrom_2 11 32 post K n y2_2 u_2 → g_W D (Xw cA a) A s.heap u_2 H locs → lv_has ls 3 [(0, .ref (a 3)), (1, .ref (a 16)), (2, .int y2_2)] → W p l e rm_X0_startFrom s m args below meth c H locs 0 0 Q (F0 m 2 ls []) := by
    intro K hE n
    induction n with
    | zero => intro y2_2 u_2 H locs ls h; exact False.elim h
    | succ n ih =>
      intro y2_2 u_2 H locs ls h hW hl
      refine lv_iload_n hx hb dX0_startFrom_2 rfl (lv_at hl 2 rfl) ?_
      refine lv_bipush (v := 32) hx hb dX0_startFrom_3 (by decide) ?_
      refine lv_icmp_ge (tgt := 32) hx hb dX0_startFrom_5 (by decide) (fun c9 => ?_) (fun c9 => ?_)
      · have h := h.1 c9
        exact hE y2_2 u_2 _ _ _ h hW (lv_sub hl [0, 1, 2] rfl)
      · have h := h.2 c9
        refine lv_aload_n hx hb dX0_startFrom_8 rfl (lv_at hl 0 rfl) ?_
        refine xg_3_0 S hK hW kw_92 dX0_startFrom_9 ?_
        refine lv_iload_n hx hb dX0_startFrom_12 rfl (lv_at hl 2 rfl) ?_
        refine lv_aload_n hx hb dX0_startFrom_13 rfl (lv_at hl 1 rfl) ?_
        refine lv_iload_n hx hb dX0_startFrom_14 rfl (lv_at hl 2 rfl) ?_
        obtain ⟨hin, h⟩ := h
        refine xl_11 S hK hW hin dX0_startFrom_15 (fun x10 ex10 => ?_)
        have h := nm_use ex10 h
        obtain ⟨hin, h⟩ := h
        refine xs_11 S hK hW hin dX0_startFrom_16 (fun u11 H locs eu11 hW => ?_)
        have h := nm_use eu11 h
        refine lv_aload_n hx hb dX0_startFrom_17 rfl (lv_at hl 0 rfl) ?_
        refine xg_3_1 S hK hW kw_94 dX0_startFrom_18 ?_
        refine lv_iload_n hx hb dX0_startFrom_21 rfl (lv_at hl 2 rfl) ?_
        refine lv_aload_n hx hb dX0_startFrom_22 rfl (lv_at hl 1 rfl) ?_
        refine lv_iload_n hx hb dX0_startFrom_23 rfl (lv_at hl 2 rfl) ?_
        obtain ⟨hin, h⟩ := h
        refine xl_11 S hK hW hin dX0_startFrom_24 (fun x12 ex12 => ?_)
        have h := nm_use ex12 h
        obtain ⟨hin, h⟩ := h
        refine xs_12 S hK hW hin dX0_startFrom_25 (fun u13 H locs eu13 hW => ?_)
        have h := nm_use eu13 h
        obtain ⟨x14, ex14⟩ : ∃ z : Int32, z = y2_2 + 1 := ⟨_, rfl⟩
        have h := nm_use ex14 h
        refine lv_iinc (v := x14) (lv' := [(2, .int x14), (0, .ref (a 3)), (1, .ref (a 16))]) hx hb dX0_startFrom_26 hl (k := 2) rfl (by rw [ex14]; rfl) (by decide) rfl (fun ls hl => ?_)
        refine lv_goto (tgt := 2) hx hb dX0_startFrom_29 (by decide) ?_
        exact ih x14 u13 _ _ _ h hW (lv_sub hl [1, 2, 0] rfl)
  obtain ⟨n_2, h⟩ := h
  refine loop_2 _ ?_ n_2 0 u _ _ _ h hW (lv_sub hl [1, 2, 0] rfl)
  intro w2_2 v_2 H locs ls h hW hl
  refine lv_aload_n hx hb dX0_startFrom_32 rfl (lv_at hl 0 rfl) ?_
  refine lv_iconst (v := 0) hx hb dX0_startFrom_33 (by decide) ?_
  refine xp_19 S hK hW kw_98 dX0_startFrom_34 (fun u7 H locs eu7 hW => ?_)
  have h := nm_use eu7 h
  refine lv_aload_n hx hb dX0_startFrom_37 rfl (lv_at hl 0 rfl) ?_
  refine lv_iconst (v := 0) hx hb dX0_startFrom_38 (by decide) ?_
  refine xp_20 S hK hW kw_101 dX0_startFrom_39 (fun u8 H locs eu8 hW => ?_)
  have h := nm_use eu8 h
  exact hret _ _ _ _ _ dX0_startFrom_42 hW h
def w_X1_isGone (xp1 : Int32) (u : Mem) (post : Int32 → Mem → Prop) : Prop := vp_in xp1 201 ∧ nm (u 10 (xp1 : Int32).toNatClampNeg) fun x1 => (x1 = (-1) → (post 0 u)) ∧ (¬ x1 = (-1) → (post 1 u))
abbrev rm_X1_isGone : Room := { frames := 0, cells := 0, slots := 0, locals := 0 }
theorem hd_X1_isGone : yX1_isGone.cls ≠ "java/lang/invoke/MethodHandle" ∧ yX1_isGone.cls ≠ "java/lang/invoke/VarHandle" ∧ (parseMethodDescriptor yX1_isGone.desc).map (fun d => d.parameters.length) = some 1 := by decide +kernel
set_option maxHeartbeats 4000000 in
set_option maxRecDepth 100000 in
theorem c_X1_isGone (l : Launch) (D : va_G) (cA : ClassId) (a : Nat → Nat) (u : Mem) (xp1 : Int32) (post : Int32 → Mem → Prop) (h : w_X1_isGone xp1 u post) : g_Mi l yX1_isGone (Cond.code yX1_isGone cX1_isGone 2 (some .boolean) :: tT) rm_X1_isGone D cA (Xw cA a) u [.ref (a 2), .int xp1] post := by
  refine g_enter_z (by decide) (Xw_adr cA a) (Nat.le_of_ble_eq_true rfl) ?_
  intro p e s m args below meth c A Q S hml hK hA hret ls hl hW
  have hx := S.1
  have hb := S.2.1
  have hl : lv_has ls 2 [(0, .ref (a 2)), (1, .int xp1)] := hl
  skip
  refine lv_aload_n hx hb dX1_isGone_0 rfl (lv_at hl 0 rfl) ?_
  refine xg_2_1 S hK hW kw_75 dX1_isGone_1 ?_
  refine lv_iload_n hx hb dX1_isGone_4 rfl (lv_at hl 1 rfl) ?_
  obtain ⟨hin, h⟩ := h
  refine xl_10 S hK hW hin dX1_isGone_5 (fun x1 ex1 => ?_)
  have h := nm_use ex1 h
  refine lv_iconst (v := (-1)) hx hb dX1_isGone_6 (by decide) ?_
  refine lv_icmp_eq (tgt := 14) hx hb dX1_isGone_7 (by decide) (fun c2 => ?_) (fun c2 => ?_)
  · have h := h.1 c2
    refine lv_iconst (v := 0) hx hb dX1_isGone_14 (by decide) ?_
    exact hret _ _ _ _ _ _ dX1_isGone_15 hW (Or.inl rfl) h
  · have h := h.2 c2
    refine lv_iconst (v := 1) hx hb dX1_isGone_10 (by decide) ?_
    refine lv_goto (tgt := 15) hx hb dX1_isGone_11 (by decide) ?_
    exact hret _ _ _ _ _ _ dX1_isGone_15 hW (Or.inr rfl) h
def w_X2_isOf (xp1 : Int32) (xp2 : Int32) (u : Mem) (post : Int32 → Mem → Prop) : Prop := vp_in xp1 400 ∧ nm (u 4 (xp1 : Int32).toNatClampNeg) fun x1 => (x1 = xp2 → (vp_in xp1 400 ∧ nm (u 7 (xp1 : Int32).toNatClampNeg) fun x3 => (x3 = (-1) → (post 1 u)) ∧ (¬ x3 = (-1) → (post 0 u)))) ∧ (¬ x1 = xp2 → (post 0 u))
abbrev rm_X2_isOf : Room := { frames := 0, cells := 0, slots := 0, locals := 0 }
theorem hd_X2_isOf : yX2_isOf.cls ≠ "java/lang/invoke/MethodHandle" ∧ yX2_isOf.cls ≠ "java/lang/invoke/VarHandle" ∧ (parseMethodDescriptor yX2_isOf.desc).map (fun d => d.parameters.length) = some 2 := by decide +kernel
set_option maxHeartbeats 4000000 in
set_option maxRecDepth 100000 in
theorem c_X2_isOf (l : Launch) (D : va_G) (cA : ClassId) (a : Nat → Nat) (u : Mem) (xp1 xp2 : Int32) (post : Int32 → Mem → Prop) (h : w_X2_isOf xp1 xp2 u post) : g_Mi l yX2_isOf (Cond.code yX2_isOf cX2_isOf 3 (some .boolean) :: tT) rm_X2_isOf D cA (Xw cA a) u [.ref (a 1), .int xp1, .int xp2] post := by
  refine g_enter_z (by decide) (Xw_adr cA a) (Nat.le_of_ble_eq_true rfl) ?_
  intro p e s m args below meth c A Q S hml hK hA hret ls hl hW
  have hx := S.1
  have hb := S.2.1
  have hl : lv_has ls 3 [(0, .ref (a 1)), (1, .int xp1), (2, .int xp2)] := hl
  skip
  refine lv_aload_n hx hb dX2_isOf_0 rfl (lv_at hl 0 rfl) ?_
  refine xg_1_1 S hK hW kw_42 dX2_isOf_1 ?_
  refine lv_iload_n hx hb dX2_isOf_4 rfl (lv_at hl 1 rfl) ?_
  obtain ⟨hin, h⟩ := h
  refine xl_4 S hK hW hin dX2_isOf_5 (fun x1 ex1 => ?_)
  have h := nm_use ex1 h
  refine lv_iload_n hx hb dX2_isOf_6 rfl (lv_at hl 2 rfl) ?_
  refine lv_icmp_ne (tgt := 24) hx hb dX2_isOf_7 (by decide) (fun c2 => ?_) (fun c2 => ?_)
  · have h := h.2 c2
    refine lv_iconst (v := 0) hx hb dX2_isOf_24 (by decide) ?_
    exact hret _ _ _ _ _ _ dX2_isOf_25 hW (Or.inl rfl) h
  · have h := h.1 c2
    refine lv_aload_n hx hb dX2_isOf_10 rfl (lv_at hl 0 rfl) ?_
    refine xg_1_4 S hK hW kw_47 dX2_isOf_11 ?_
    refine lv_iload_n hx hb dX2_isOf_14 rfl (lv_at hl 1 rfl) ?_
    obtain ⟨hin, h⟩ := h
    refine xl_7 S hK hW hin dX2_isOf_15 (fun x3 ex3 => ?_)
    have h := nm_use ex3 h
    refine lv_iconst (v := (-1)) hx hb dX2_isOf_16 (by decide) ?_
    refine lv_icmp_ne (tgt := 24) hx hb dX2_isOf_17 (by decide) (fun c4 => ?_) (fun c4 => ?_)
    · have h := h.2 c4
      refine lv_iconst (v := 0) hx hb dX2_isOf_24 (by decide) ?_
      exact hret _ _ _ _ _ _ dX2_isOf_25 hW (Or.inl rfl) h
    · have h := h.1 c4
      refine lv_iconst (v := 1) hx hb dX2_isOf_20 (by decide) ?_
      refine lv_goto (tgt := 25) hx hb dX2_isOf_21 (by decide) ?_
      exact hret _ _ _ _ _ _ dX2_isOf_25 hW (Or.inr rfl) h
def L_X2_lastOf_7 (f1_7 : Int32) (f2_7 : Int32) (post : Int32 → Mem → Prop) (K : Int32 → Mem → Prop) : Nat → Int32 → Mem → Prop
  | 0, _, _ => False
  | n_7 + 1, y3_7, u_7 => (y3_7 < 0 → (K y3_7 u_7)) ∧ (¬ y3_7 < 0 → (vp_in y3_7 400 ∧ nm (u_7 3 (y3_7 : Int32).toNatClampNeg) fun x3 => (f2_7 < x3 → (nm (y3_7 + (-1)) fun x5 => L_X2_lastOf_7 f1_7 f2_7 post K n_7 x5 u_7)) ∧ (¬ f2_7 < x3 → (w_X2_isOf y3_7 f1_7 u_7 (fun x7 u6 => (x7 = 0 → (nm (y3_7 + (-1)) fun x9 => L_X2_lastOf_7 f1_7 f2_7 post K n_7 x9 u6)) ∧ (¬ x7 = 0 → (post y3_7 u6)))))))
def w_X2_lastOf (xp1 : Int32) (xp2 : Int32) (u : Mem) (post : Int32 → Mem → Prop) : Prop := nm ((u 17 0) - (1 : Int32) : Int32) fun x1 => ∃ n_7, L_X2_lastOf_7 xp1 xp2 post (fun w3_7 v_7 => post (-1) v_7) n_7 x1 u
abbrev rm_X2_lastOf : Room := { frames := 1, cells := 0, slots := 0, locals := 22 }
theorem hd_X2_lastOf : yX2_lastOf.cls ≠ "java/lang/invoke/MethodHandle" ∧ yX2_lastOf.cls ≠ "java/lang/invoke/VarHandle" ∧ (parseMethodDescriptor yX2_lastOf.desc).map (fun d => d.parameters.length) = some 2 := by decide +kernel
set_option maxHeartbeats 4000000 in
set_option maxRecDepth 100000 in
theorem c_X2_lastOf (l : Launch) (D : va_G) (cA : ClassId) (a : Nat → Nat) (u : Mem) (xp1 xp2 : Int32) (post : Int32 → Mem → Prop) (h : w_X2_lastOf xp1 xp2 u post) : g_Mi l yX2_lastOf (Cond.code yX2_lastOf cX2_lastOf 4 (some .int) :: tT) rm_X2_lastOf D cA (Xw cA a) u [.ref (a 1), .int xp1, .int xp2] post := by
  refine g_enter_i (by decide) (Xw_adr cA a) (Nat.le_of_ble_eq_true rfl) ?_
  intro p e s m args below meth c A Q S hml hK hA hret ls hl hW
  have hx := S.1
  have hb := S.2.1
  have hl : lv_has ls 4 [(0, .ref (a 1)), (1, .int xp1), (2, .int xp2)] := hl
  skip
  refine lv_aload_n hx hb dX2_lastOf_0 rfl (lv_at hl 0 rfl) ?_
  refine xg_1_6 S hK hW kw_49 dX2_lastOf_1 ?_
  refine lv_iconst (v := 1) hx hb dX2_lastOf_4 (by decide) ?_
  refine lv_isub hx hb dX2_lastOf_5 ?_
  refine lv_topi (fun x1 ex1 => ?_)
  have h := nm_use ex1 h
  refine lv_istore_n (lv' := [(3, .int x1), (0, .ref (a 1)), (1, .int xp1), (2, .int xp2)]) hx hb dX2_lastOf_6 rfl hl (by decide) rfl (fun ls hl => ?_)
  have loop_7 : ∀ (K : Int32 → Mem → Prop), (∀ (w3_7 : Int32) (v_7 : Mem) (H : Heap) (locs : List Loc) (ls : Array Slot), K w3_7 v_7 → g_W D (Xw cA a) A s.heap v_7 H locs → lv_has ls 4 [(0, .ref (a 1)), (1, .int xp1), (2, .int xp2), (3, .int w3_7)] → W p l e rm_X2_lastOf s m args below meth c H locs 0 0 Q (F0 m 38 ls [])) → ∀ (n : Nat) (y3_7 : Int32) (u_7 : Mem) (H : Heap) (locs : List Loc) (ls : Array Slot), L_X2_lastOf_7 xp1 xp2 post K n y3_7 u_7 → g_W D (Xw cA a) A s.heap u_7 H locs → lv_has ls 4 [(0, .ref (a 1)), (1, .int xp1), (2, .int xp2), (3, .int y3_7)] → W p l e rm_X2_lastOf s m args below meth c H locs 0 0 Q (F0 m 7 ls []) := by
    intro K hE n
    induction n with
    | zero => intro y3_7 u_7 H locs ls h; exact False.elim h
    | succ n ih =>
      intro y3_7 u_7 H locs ls h hW hl
      refine lv_iload_n hx hb dX2_lastOf_7 rfl (lv_at hl 3 rfl) ?_
      refine lv_if_lt (tgt := 38) hx hb dX2_lastOf_8 (by decide) (fun c10 => ?_) (fun c10 => ?_)
      · have h := h.1 c10
        exact hE y3_7 u_7 _ _ _ h hW (lv_sub hl [0, 1, 2, 3] rfl)
      · have h := h.2 c10
        refine lv_aload_n hx hb dX2_lastOf_11 rfl (lv_at hl 0 rfl) ?_
        refine xg_1_0 S hK hW kw_40 dX2_lastOf_12 ?_
        refine lv_iload_n hx hb dX2_lastOf_15 rfl (lv_at hl 3 rfl) ?_
        obtain ⟨hin, h⟩ := h
        refine xl_3 S hK hW hin dX2_lastOf_16 (fun x11 ex11 => ?_)
        have h := nm_use ex11 h
        refine lv_iload_n hx hb dX2_lastOf_17 rfl (lv_at hl 2 rfl) ?_
        refine lv_icmp_gt (tgt := 32) hx hb dX2_lastOf_18 (by decide) (fun c12 => ?_) (fun c12 => ?_)
        · have h := h.1 c12
          obtain ⟨x13, ex13⟩ : ∃ z : Int32, z = y3_7 + (-1) := ⟨_, rfl⟩
          have h := nm_use ex13 h
          refine lv_iinc (v := x13) (lv' := [(3, .int x13), (0, .ref (a 1)), (1, .int xp1), (2, .int xp2)]) hx hb dX2_lastOf_32 hl (k := 3) rfl (by rw [ex13]; rfl) (by decide) rfl (fun ls hl => ?_)
          refine lv_goto (tgt := 7) hx hb dX2_lastOf_35 (by decide) ?_
          exact ih x13 u_7 _ _ _ h hW (lv_sub hl [1, 2, 3, 0] rfl)
        · have h := h.2 c12
          refine lv_aload_n hx hb dX2_lastOf_21 rfl (lv_at hl 0 rfl) ?_
          refine lv_iload_n hx hb dX2_lastOf_22 rfl (lv_at hl 3 rfl) ?_
          refine lv_iload_n hx hb dX2_lastOf_23 rfl (lv_at hl 1 rfl) ?_
          refine g_cali (g_runV S hml hK hW (c_X2_isOf l D cA a u_7 y3_7 xp1 _ h _) kw_229 kw_230 kw_231 kw_20 kw_232 hd_X2_isOf ⟨rfl, rfl, Nat.le_of_ble_eq_true rfl, Nat.le_of_ble_eq_true rfl⟩ (q0 := 1) rfl rfl (As := [.int y3_7, .int xp1]) (rest := []) rfl rfl hl.1 (Nat.le_of_ble_eq_true rfl) dX2_lastOf_24 ⟨Nat.zero_le _, Nat.zero_le _⟩) (Xw_adr cA a) hA hW (fun x15 u14 H locs h hW => ?_)
          refine lv_if_eq (tgt := 32) hx hb dX2_lastOf_27 (by decide) (fun c16 => ?_) (fun c16 => ?_)
          · have h := h.1 c16
            obtain ⟨x17, ex17⟩ : ∃ z : Int32, z = y3_7 + (-1) := ⟨_, rfl⟩
            have h := nm_use ex17 h
            refine lv_iinc (v := x17) (lv' := [(3, .int x17), (0, .ref (a 1)), (1, .int xp1), (2, .int xp2)]) hx hb dX2_lastOf_32 hl (k := 3) rfl (by rw [ex17]; rfl) (by decide) rfl (fun ls hl => ?_)
            refine lv_goto (tgt := 7) hx hb dX2_lastOf_35 (by decide) ?_
            exact ih x17 u14 _ _ _ h hW (lv_sub hl [1, 2, 3, 0] rfl)
          · have h := h.2 c16
            refine lv_iload_n hx hb dX2_lastOf_30 rfl (lv_at hl 3 rfl) ?_
            exact hret _ _ _ _ _ _ dX2_lastOf_31 hW h
  obtain ⟨n_7, h⟩ := h
  refine loop_7 _ ?_ n_7 x1 u _ _ _ h hW (lv_sub hl [1, 2, 3, 0] rfl)
  intro w3_7 v_7 H locs ls h hW hl
  refine lv_iconst (v := (-1)) hx hb dX2_lastOf_38 (by decide) ?_
  exact hret _ _ _ _ _ _ dX2_lastOf_39 hW h
def L_J7_fill_53178_5 (j0 n0 : Nat) (f1_5 : Int32) (f3_5 : Int32) (post : Mem → Prop) (K : Int32 → Mem → Prop) : Nat → Int32 → Mem → Prop
  | 0, _, _ => False
  | n_5 + 1, y2_5, u_5 => (f3_5 ≤ y2_5 → (K y2_5 u_5)) ∧ (¬ f3_5 ≤ y2_5 → (vp_in y2_5 n0 ∧ nm (g_ms u_5 j0 (y2_5 : Int32).toNatClampNeg f1_5) fun u3 => nm (y2_5 + 1) fun x4 => L_J7_fill_53178_5 j0 n0 f1_5 f3_5 post K n_5 x4 u3))
def w_J7_fill_53178 (j0 n0 : Nat) (xp1 : Int32) (u : Mem) (post : Mem → Prop) : Prop := nm (nI n0) fun x1 => ∃ n_5, L_J7_fill_53178_5 j0 n0 xp1 x1 post (fun w2_5 v_5 => post v_5) n_5 0 u
abbrev rm_J7_fill_53178 : Room := { frames := 0, cells := 0, slots := 0, locals := 0 }
theorem hd_J7_fill_53178 : yJ7_fill_53178.cls ≠ "java/lang/invoke/MethodHandle" ∧ yJ7_fill_53178.cls ≠ "java/lang/invoke/VarHandle" ∧ (parseMethodDescriptor yJ7_fill_53178.desc).map (fun d => d.parameters.length) = some 2 := by decide +kernel
set_option maxHeartbeats 4000000 in
set_option maxRecDepth 100000 in
theorem c_J7_fill_53178_1 (l : Launch) (D : va_G) (cA : ClassId) (a : Nat → Nat) (u : Mem) (xp1 : Int32) (post : Mem → Prop) (h : w_J7_fill_53178 1 32 xp1 u post) : g_Mv l yJ7_fill_53178 (Cond.code yJ7_fill_53178 cJ7_fill_53178 4 none :: tT) rm_J7_fill_53178 D cA (Xw cA a) u [.ref (a 6), .int xp1] post := by
  refine g_enter_v (by decide) (Xw_adr cA a) (Nat.le_of_ble_eq_true rfl) ?_
  intro p e s m args below meth c A Q S hml hK hA hret ls hl hW
  have hx := S.1
  have hb := S.2.1
  have hl : lv_has ls 4 [(0, .ref (a 6)), (1, .int xp1)] := hl
  skip
  refine lv_iconst (v := 0) hx hb dJ7_fill_53178_0 (by decide) ?_
  refine lv_istore_n (lv' := [(2, .int 0), (0, .ref (a 6)), (1, .int xp1)]) hx hb dJ7_fill_53178_1 rfl hl (by decide) rfl (fun ls hl => ?_)
  refine lv_aload_n hx hb dJ7_fill_53178_2 rfl (lv_at hl 1 rfl) ?_
  refine xn_1 S hK hW dJ7_fill_53178_3 ?_
  refine lv_topi (fun x1 ex1 => ?_)
  have h := nm_use ex1 h
  refine lv_istore_n (lv' := [(3, .int x1), (2, .int 0), (0, .ref (a 6)), (1, .int xp1)]) hx hb dJ7_fill_53178_4 rfl hl (by decide) rfl (fun ls hl => ?_)
  have loop_5 : ∀ (K : Int32 → Mem → Prop), (∀ (w2_5 : Int32) (v_5 : Mem) (H : Heap) (locs : List Loc) (ls : Array Slot), K w2_5 v_5 → g_W D (Xw cA a) A s.heap v_5 H locs → lv_has ls 4 [(0, .ref (a 6)), (1, .int xp1), (2, .int w2_5), (3, .int x1)] → W p l e rm_J7_fill_53178 s m args below meth c H locs 0 0 Q (F0 m 20 ls [])) → ∀ (n : Nat) (y2_5 : Int32) (u_5 : Mem) (H : Heap) (locs : List Loc) (ls : Array Slot), L_J7_fill_53178_5 1 32 xp1 x1 post K n y2_5 u_5 → g_W D (Xw cA a) A s.heap u_5 H locs → lv_has ls 4 [(0, .ref (a 6)), (1, .int xp1), (2, .int y2_5), (3, .int x1)] → W p l e rm_J7_fill_53178 s m args below meth c H locs 0 0 Q (F0 m 5 ls []) := by
    intro K hE n
    induction n with
    | zero => intro y2_5 u_5 H locs ls h; exact False.elim h
    | succ n ih =>
      intro y2_5 u_5 H locs ls h hW hl
      refine lv_iload_n hx hb dJ7_fill_53178_5 rfl (lv_at hl 2 rfl) ?_
      refine lv_iload_n hx hb dJ7_fill_53178_6 rfl (lv_at hl 3 rfl) ?_
      refine lv_icmp_ge (tgt := 20) hx hb dJ7_fill_53178_7 (by decide) (fun c5 => ?_) (fun c5 => ?_)
      · have h := h.1 c5
        exact hE y2_5 u_5 _ _ _ h hW (lv_sub hl [0, 1, 2, 3] rfl)
      · have h := h.2 c5
        refine lv_aload_n hx hb dJ7_fill_53178_10 rfl (lv_at hl 0 rfl) ?_
        refine lv_iload_n hx hb dJ7_fill_53178_11 rfl (lv_at hl 2 rfl) ?_
        refine lv_iload_n hx hb dJ7_fill_53178_12 rfl (lv_at hl 1 rfl) ?_
        obtain ⟨hin, h⟩ := h
        refine xs_1 S hK hW hin dJ7_fill_53178_13 (fun u6 H locs eu6 hW => ?_)
        have h := nm_use eu6 h
        obtain ⟨x7, ex7⟩ : ∃ z : Int32, z = y2_5 + 1 := ⟨_, rfl⟩
        have h := nm_use ex7 h
        refine lv_iinc (v := x7) (lv' := [(2, .int x7), (0, .ref (a 6)), (1, .int xp1), (3, .int x1)]) hx hb dJ7_fill_53178_14 hl (k := 2) rfl (by rw [ex7]; rfl) (by decide) rfl (fun ls hl => ?_)
        refine lv_goto (tgt := 5) hx hb dJ7_fill_53178_17 (by decide) ?_
        exact ih x7 u6 _ _ _ h hW (lv_sub hl [1, 2, 0, 3] rfl)
  obtain ⟨n_5, h⟩ := h
  refine loop_5 _ ?_ n_5 0 u _ _ _ h hW (lv_sub hl [2, 3, 1, 0] rfl)
  intro w2_5 v_5 H locs ls h hW hl
  exact hret _ _ _ _ _ dJ7_fill_53178_20 hW h
def L_X2_redo_6 (f1_6 : Int32) (f2_6 : Int32) (j3 n3 : Nat) (post : Int32 → Mem → Prop) (K : Int32 → Int32 → Mem → Prop) : Nat → Int32 → Int32 → Mem → Prop
  | 0, _, _, _ => False
  | n_6 + 1, y4_6, y5_6, u_6 => ((u_6 17 0) ≤ y5_6 → (K y4_6 y5_6 u_6)) ∧ (¬ (u_6 17 0) ≤ y5_6 → (vp_in y5_6 400 ∧ nm (u_6 3 (y5_6 : Int32).toNatClampNeg) fun x2 => (f2_6 < x2 → (K y4_6 y5_6 u_6)) ∧ (¬ f2_6 < x2 → (vp_in y5_6 400 ∧ nm (u_6 3 (y5_6 : Int32).toNatClampNeg) fun x4 => (x4 ≤ f1_6 → (nm (y5_6 + 1) fun x6 => L_X2_redo_6 f1_6 f2_6 j3 n3 post K n_6 y4_6 x6 u_6)) ∧ (¬ x4 ≤ f1_6 → (vp_in y5_6 400 ∧ nm (u_6 7 (y5_6 : Int32).toNatClampNeg) fun x7 => (x7 = (-1) → (vp_in y5_6 400 ∧ nm (u_6 4 (y5_6 : Int32).toNatClampNeg) fun x9 => vp_in y5_6 400 ∧ nm (u_6 5 (y5_6 : Int32).toNatClampNeg) fun x10 => vp_in x9 n3 ∧ nm (g_ms u_6 j3 (x9 : Int32).toNatClampNeg x10) fun u11 => nm (y4_6 + 1) fun x12 => nm (y5_6 + 1) fun x13 => L_X2_redo_6 f1_6 f2_6 j3 n3 post K n_6 x12 x13 u11)) ∧ (¬ x7 = (-1) → (nm (y5_6 + 1) fun x14 => L_X2_redo_6 f1_6 f2_6 j3 n3 post K n_6 y4_6 x14 u_6))))))))
def w_X2_redo (xp1 : Int32) (xp2 : Int32) (j3 n3 : Nat) (u : Mem) (post : Int32 → Mem → Prop) : Prop := ∃ n_6, L_X2_redo_6 xp1 xp2 j3 n3 post (fun w4_6 w5_6 v_6 => post w4_6 v_6) n_6 0 0 u
abbrev rm_X2_redo : Room := { frames := 0, cells := 0, slots := 0, locals := 0 }
theorem hd_X2_redo : yX2_redo.cls ≠ "java/lang/invoke/MethodHandle" ∧ yX2_redo.cls ≠ "java/lang/invoke/VarHandle" ∧ (parseMethodDescriptor yX2_redo.desc).map (fun d => d.parameters.length) = some 3 := by decide +kernel
set_option maxHeartbeats 4000000 in
set_option maxRecDepth 100000 in
theorem c_X2_redo_1 (l : Launch) (D : va_G) (cA : ClassId) (a : Nat → Nat) (u : Mem) (xp1 xp2 : Int32) (post : Int32 → Mem → Prop) (h : w_X2_redo xp1 xp2 1 32 u post) : g_Mi l yX2_redo (Cond.code yX2_redo cX2_redo 6 (some .int) :: tT) rm_X2_redo D cA (Xw cA a) u [.ref (a 1), .int xp1, .int xp2, .ref (a 6)] post := by
  refine g_enter_i (by decide) (Xw_adr cA a) (Nat.le_of_ble_eq_true rfl) ?_
  intro p e s m args below meth c A Q S hml hK hA hret ls hl hW
  have hx := S.1
  have hb := S.2.1
  have hl : lv_has ls 6 [(0, .ref (a 1)), (1, .int xp1), (2, .int xp2), (3, .ref (a 6))] := hl
  skip
  refine lv_iconst (v := 0) hx hb dX2_redo_0 (by decide) ?_
  refine lv_istore (lv' := [(4, .int 0), (0, .ref (a 1)), (1, .int xp1), (2, .int xp2), (3, .ref (a 6))]) hx hb dX2_redo_1 hl (by decide) rfl (fun ls hl => ?_)
  refine lv_iconst (v := 0) hx hb dX2_redo_3 (by decide) ?_
  refine lv_istore (lv' := [(5, .int 0), (4, .int 0), (0, .ref (a 1)), (1, .int xp1), (2, .int xp2), (3, .ref (a 6))]) hx hb dX2_redo_4 hl (by decide) rfl (fun ls hl => ?_)
  have loop_6 : ∀ (K : Int32 → Int32 → Mem → Prop), (∀ (w4_6 w5_6 : Int32) (v_6 : Mem) (H : Heap) (locs : List Loc) (ls : Array Slot), K w4_6 w5_6 v_6 → g_W D (Xw cA a) A s.heap v_6 H locs → lv_has ls 6 [(0, .ref (a 1)), (1, .int xp1), (2, .int xp2), (3, .ref (a 6)), (4, .int w4_6), (5, .int w5_6)] → W p l e rm_X2_redo s m args below meth c H locs 0 0 Q (F0 m 76 ls [])) → ∀ (n : Nat) (y4_6 y5_6 : Int32) (u_6 : Mem) (H : Heap) (locs : List Loc) (ls : Array Slot), L_X2_redo_6 xp1 xp2 1 32 post K n y4_6 y5_6 u_6 → g_W D (Xw cA a) A s.heap u_6 H locs → lv_has ls 6 [(0, .ref (a 1)), (1, .int xp1), (2, .int xp2), (3, .ref (a 6)), (4, .int y4_6), (5, .int y5_6)] → W p l e rm_X2_redo s m args below meth c H locs 0 0 Q (F0 m 6 ls []) := by
    intro K hE n
    induction n with
    | zero => intro y4_6 y5_6 u_6 H locs ls h; exact False.elim h
    | succ n ih =>
      intro y4_6 y5_6 u_6 H locs ls h hW hl
      refine lv_iload hx hb dX2_redo_6 (lv_at hl 5 rfl) ?_
      refine lv_aload_n hx hb dX2_redo_8 rfl (lv_at hl 0 rfl) ?_
      refine xg_1_6 S hK hW kw_49 dX2_redo_9 ?_
      refine lv_icmp_ge (tgt := 76) hx hb dX2_redo_12 (by decide) (fun c15 => ?_) (fun c15 => ?_)
      · have h := h.1 c15
        exact hE y4_6 y5_6 u_6 _ _ _ h hW (lv_sub hl [0, 1, 2, 3, 4, 5] rfl)
      · have h := h.2 c15
        refine lv_aload_n hx hb dX2_redo_15 rfl (lv_at hl 0 rfl) ?_
        refine xg_1_0 S hK hW kw_40 dX2_redo_16 ?_
        refine lv_iload hx hb dX2_redo_19 (lv_at hl 5 rfl) ?_
        obtain ⟨hin, h⟩ := h
        refine xl_3 S hK hW hin dX2_redo_21 (fun x16 ex16 => ?_)
        have h := nm_use ex16 h
        refine lv_iload_n hx hb dX2_redo_22 rfl (lv_at hl 2 rfl) ?_
        refine lv_icmp_gt (tgt := 76) hx hb dX2_redo_23 (by decide) (fun c17 => ?_) (fun c17 => ?_)
        · have h := h.1 c17
          exact hE y4_6 y5_6 u_6 _ _ _ h hW (lv_sub hl [0, 1, 2, 3, 4, 5] rfl)
        · have h := h.2 c17
          refine lv_aload_n hx hb dX2_redo_26 rfl (lv_at hl 0 rfl) ?_
          refine xg_1_0 S hK hW kw_40 dX2_redo_27 ?_
          refine lv_iload hx hb dX2_redo_30 (lv_at hl 5 rfl) ?_
          obtain ⟨hin, h⟩ := h
          refine xl_3 S hK hW hin dX2_redo_32 (fun x18 ex18 => ?_)
          have h := nm_use ex18 h
          refine lv_iload_n hx hb dX2_redo_33 rfl (lv_at hl 1 rfl) ?_
          refine lv_icmp_le (tgt := 70) hx hb dX2_redo_34 (by decide) (fun c19 => ?_) (fun c19 => ?_)
          · have h := h.1 c19
            obtain ⟨x20, ex20⟩ : ∃ z : Int32, z = y5_6 + 1 := ⟨_, rfl⟩
            have h := nm_use ex20 h
            refine lv_iinc (v := x20) (lv' := [(5, .int x20), (0, .ref (a 1)), (1, .int xp1), (2, .int xp2), (3, .ref (a 6)), (4, .int y4_6)]) hx hb dX2_redo_70 hl (k := 5) rfl (by rw [ex20]; rfl) (by decide) rfl (fun ls hl => ?_)
            refine lv_goto (tgt := 6) hx hb dX2_redo_73 (by decide) ?_
            exact ih y4_6 x20 u_6 _ _ _ h hW (lv_sub hl [1, 2, 3, 4, 5, 0] rfl)
          · have h := h.2 c19
            refine lv_aload_n hx hb dX2_redo_37 rfl (lv_at hl 0 rfl) ?_
            refine xg_1_4 S hK hW kw_47 dX2_redo_38 ?_
            refine lv_iload hx hb dX2_redo_41 (lv_at hl 5 rfl) ?_
            obtain ⟨hin, h⟩ := h
            refine xl_7 S hK hW hin dX2_redo_43 (fun x21 ex21 => ?_)
            have h := nm_use ex21 h
            refine lv_iconst (v := (-1)) hx hb dX2_redo_44 (by decide) ?_
            refine lv_icmp_eq (tgt := 51) hx hb dX2_redo_45 (by decide) (fun c22 => ?_) (fun c22 => ?_)
            · have h := h.1 c22
              refine lv_aload_n hx hb dX2_redo_51 rfl (lv_at hl 3 rfl) ?_
              refine lv_aload_n hx hb dX2_redo_52 rfl (lv_at hl 0 rfl) ?_
              refine xg_1_1 S hK hW kw_42 dX2_redo_53 ?_
              refine lv_iload hx hb dX2_redo_56 (lv_at hl 5 rfl) ?_
              obtain ⟨hin, h⟩ := h
              refine xl_4 S hK hW hin dX2_redo_58 (fun x23 ex23 => ?_)
              have h := nm_use ex23 h
              refine lv_aload_n hx hb dX2_redo_59 rfl (lv_at hl 0 rfl) ?_
              refine xg_1_2 S hK hW kw_43 dX2_redo_60 ?_
              refine lv_iload hx hb dX2_redo_63 (lv_at hl 5 rfl) ?_
              obtain ⟨hin, h⟩ := h
              refine xl_5 S hK hW hin dX2_redo_65 (fun x24 ex24 => ?_)
              have h := nm_use ex24 h
              obtain ⟨hin, h⟩ := h
              refine xs_1 S hK hW hin dX2_redo_66 (fun u25 H locs eu25 hW => ?_)
              have h := nm_use eu25 h
              obtain ⟨x26, ex26⟩ : ∃ z : Int32, z = y4_6 + 1 := ⟨_, rfl⟩
              have h := nm_use ex26 h
              refine lv_iinc (v := x26) (lv' := [(4, .int x26), (0, .ref (a 1)), (1, .int xp1), (2, .int xp2), (3, .ref (a 6)), (5, .int y5_6)]) hx hb dX2_redo_67 hl (k := 4) rfl (by rw [ex26]; rfl) (by decide) rfl (fun ls hl => ?_)
              obtain ⟨x27, ex27⟩ : ∃ z : Int32, z = y5_6 + 1 := ⟨_, rfl⟩
              have h := nm_use ex27 h
              refine lv_iinc (v := x27) (lv' := [(5, .int x27), (4, .int x26), (0, .ref (a 1)), (1, .int xp1), (2, .int xp2), (3, .ref (a 6))]) hx hb dX2_redo_70 hl (k := 5) rfl (by rw [ex27]; rfl) (by decide) rfl (fun ls hl => ?_)
              refine lv_goto (tgt := 6) hx hb dX2_redo_73 (by decide) ?_
              exact ih x26 x27 u25 _ _ _ h hW (lv_sub hl [2, 3, 4, 5, 1, 0] rfl)
            · have h := h.2 c22
              refine lv_goto (tgt := 70) hx hb dX2_redo_48 (by decide) ?_
              obtain ⟨x28, ex28⟩ : ∃ z : Int32, z = y5_6 + 1 := ⟨_, rfl⟩
              have h := nm_use ex28 h
              refine lv_iinc (v := x28) (lv' := [(5, .int x28), (0, .ref (a 1)), (1, .int xp1), (2, .int xp2), (3, .ref (a 6)), (4, .int y4_6)]) hx hb dX2_redo_70 hl (k := 5) rfl (by rw [ex28]; rfl) (by decide) rfl (fun ls hl => ?_)
              refine lv_goto (tgt := 6) hx hb dX2_redo_73 (by decide) ?_
              exact ih y4_6 x28 u_6 _ _ _ h hW (lv_sub hl [1, 2, 3, 4, 5, 0] rfl)
  obtain ⟨n_6, h⟩ := h
  refine loop_6 _ ?_ n_6 0 0 u _ _ _ h hW (lv_sub hl [2, 3, 4, 5, 1, 0] rfl)
  intro w4_6 w5_6 v_6 H locs ls h hW hl
  refine lv_iload hx hb dX2_redo_76 (lv_at hl 4 rfl) ?_
  exact hret _ _ _ _ _ _ dX2_redo_78 hW h
def w_X2_load (xp1 : Int32) (j2 n2 : Nat) (u : Mem) (post : Mem → Prop) : Prop := w_J7_fill_53178 j2 n2 0 u (fun u1 => w_X2_redo 0 xp1 j2 n2 u1 (fun x3 u2 => post u2))
abbrev rm_X2_load : Room := { frames := 1, cells := 0, slots := 0, locals := 25 }
theorem hd_X2_load : yX2_load.cls ≠ "java/lang/invoke/MethodHandle" ∧ yX2_load.cls ≠ "java/lang/invoke/VarHandle" ∧ (parseMethodDescriptor yX2_load.desc).map (fun d => d.parameters.length) = some 2 := by decide +kernel
set_option maxHeartbeats 4000000 in
set_option maxRecDepth 100000 in
theorem c_X2_load_1 (l : Launch) (D : va_G) (cA : ClassId) (a : Nat → Nat) (u : Mem) (xp1 : Int32) (post : Mem → Prop) (h : w_X2_load xp1 1 32 u post) : g_Mv l yX2_load (Cond.code yX2_load cX2_load 3 none :: tT) rm_X2_load D cA (Xw cA a) u [.ref (a 1), .int xp1, .ref (a 6)] post := by
  refine g_enter_v (by decide) (Xw_adr cA a) (Nat.le_of_ble_eq_true rfl) ?_
  intro p e s m args below meth c A Q S hml hK hA hret ls hl hW
  have hx := S.1
  have hb := S.2.1
  have hl : lv_has ls 3 [(0, .ref (a 1)), (1, .int xp1), (2, .ref (a 6))] := hl
  skip
  refine lv_aload_n hx hb dX2_load_0 rfl (lv_at hl 2 rfl) ?_
  refine lv_iconst (v := 0) hx hb dX2_load_1 (by decide) ?_
  refine g_calv (g_runS S hml hK hW (c_J7_fill_53178_1 l D cA a u 0 _ h _) kw_266 kw_128 kw_24 kw_129 hd_J7_fill_53178 ⟨rfl, rfl, Nat.le_of_ble_eq_true rfl, Nat.le_of_ble_eq_true rfl⟩ (As := [.ref (a 6), .int 0]) (rest := []) rfl rfl hl.1 (Nat.le_of_ble_eq_true rfl) dX2_load_2 ⟨Nat.zero_le _, Nat.zero_le _⟩) (Xw_adr cA a) hA hW (fun u1 H locs h hW => ?_)
  refine lv_aload_n hx hb dX2_load_5 rfl (lv_at hl 0 rfl) ?_
  refine lv_iconst (v := 0) hx hb dX2_load_6 (by decide) ?_
  refine lv_iload_n hx hb dX2_load_7 rfl (lv_at hl 1 rfl) ?_
  refine lv_aload_n hx hb dX2_load_8 rfl (lv_at hl 2 rfl) ?_
  refine g_cali (g_runV S hml hK hW (c_X2_redo_1 l D cA a u1 0 xp1 _ h _) kw_267 kw_268 kw_269 kw_20 kw_270 hd_X2_redo ⟨rfl, rfl, Nat.le_of_ble_eq_true rfl, Nat.le_of_ble_eq_true rfl⟩ (q0 := 1) rfl rfl (As := [.int 0, .int xp1, .ref (a 6)]) (rest := []) rfl rfl hl.1 (Nat.le_of_ble_eq_true rfl) dX2_load_9 ⟨Nat.zero_le _, Nat.zero_le _⟩) (Xw_adr cA a) hA hW (fun x3 u2 H locs h hW => ?_)
  refine lv_pop hx hb dX2_load_12 rfl ?_
  exact hret _ _ _ _ _ dX2_load_13 hW h
set_option maxHeartbeats 4000000 in
set_option maxRecDepth 100000 in
theorem c_J7_fill_53178_2 (l : Launch) (D : va_G) (cA : ClassId) (a : Nat → Nat) (u : Mem) (xp1 : Int32) (post : Mem → Prop) (h : w_J7_fill_53178 2 32 xp1 u post) : g_Mv l yJ7_fill_53178 (Cond.code yJ7_fill_53178 cJ7_fill_53178 4 none :: tT) rm_J7_fill_53178 D cA (Xw cA a) u [.ref (a 7), .int xp1] post := by
  refine g_enter_v (by decide) (Xw_adr cA a) (Nat.le_of_ble_eq_true rfl) ?_
  intro p e s m args below meth c A Q S hml hK hA hret ls hl hW
  have hx := S.1
  have hb := S.2.1
  have hl : lv_has ls 4 [(0, .ref (a 7)), (1, .int xp1)] := hl
  skip
  refine lv_iconst (v := 0) hx hb dJ7_fill_53178_0 (by decide) ?_
  refine lv_istore_n (lv' := [(2, .int 0), (0, .ref (a 7)), (1, .int xp1)]) hx hb dJ7_fill_53178_1 rfl hl (by decide) rfl (fun ls hl => ?_)
  refine lv_aload_n hx hb dJ7_fill_53178_2 rfl (lv_at hl 1 rfl) ?_
  refine xn_2 S hK hW dJ7_fill_53178_3 ?_
  refine lv_topi (fun x1 ex1 => ?_)
  have h := nm_use ex1 h
  refine lv_istore_n (lv' := [(3, .int x1), (2, .int 0), (0, .ref (a 7)), (1, .int xp1)]) hx hb dJ7_fill_53178_4 rfl hl (by decide) rfl (fun ls hl => ?_)
  have loop_5 : ∀ (K : Int32 → Mem → Prop), (∀ (w2_5 : Int32) (v_5 : Mem) (H : Heap) (locs : List Loc) (ls : Array Slot), K w2_5 v_5 → g_W D (Xw cA a) A s.heap v_5 H locs → lv_has ls 4 [(0, .ref (a 7)), (1, .int xp1), (2, .int w2_5), (3, .int x1)] → W p l e rm_J7_fill_53178 s m args below meth c H locs 0 0 Q (F0 m 20 ls [])) → ∀ (n : Nat) (y2_5 : Int32) (u_5 : Mem) (H : Heap) (locs : List Loc) (ls : Array Slot), L_J7_fill_53178_5 2 32 xp1 x1 post K n y2_5 u_5 → g_W D (Xw cA a) A s.heap u_5 H locs → lv_has ls 4 [(0, .ref (a 7)), (1, .int xp1), (2, .int y2_5), (3, .int x1)] → W p l e rm_J7_fill_53178 s m args below meth c H locs 0 0 Q (F0 m 5 ls []) := by
    intro K hE n
    induction n with
    | zero => intro y2_5 u_5 H locs ls h; exact False.elim h
    | succ n ih =>
      intro y2_5 u_5 H locs ls h hW hl
      refine lv_iload_n hx hb dJ7_fill_53178_5 rfl (lv_at hl 2 rfl) ?_
      refine lv_iload_n hx hb dJ7_fill_53178_6 rfl (lv_at hl 3 rfl) ?_
      refine lv_icmp_ge (tgt := 20) hx hb dJ7_fill_53178_7 (by decide) (fun c5 => ?_) (fun c5 => ?_)
      · have h := h.1 c5
        exact hE y2_5 u_5 _ _ _ h hW (lv_sub hl [0, 1, 2, 3] rfl)
      · have h := h.2 c5
        refine lv_aload_n hx hb dJ7_fill_53178_10 rfl (lv_at hl 0 rfl) ?_
        refine lv_iload_n hx hb dJ7_fill_53178_11 rfl (lv_at hl 2 rfl) ?_
        refine lv_iload_n hx hb dJ7_fill_53178_12 rfl (lv_at hl 1 rfl) ?_
        obtain ⟨hin, h⟩ := h
        refine xs_2 S hK hW hin dJ7_fill_53178_13 (fun u6 H locs eu6 hW => ?_)
        have h := nm_use eu6 h
        obtain ⟨x7, ex7⟩ : ∃ z : Int32, z = y2_5 + 1 := ⟨_, rfl⟩
        have h := nm_use ex7 h
        refine lv_iinc (v := x7) (lv' := [(2, .int x7), (0, .ref (a 7)), (1, .int xp1), (3, .int x1)]) hx hb dJ7_fill_53178_14 hl (k := 2) rfl (by rw [ex7]; rfl) (by decide) rfl (fun ls hl => ?_)
        refine lv_goto (tgt := 5) hx hb dJ7_fill_53178_17 (by decide) ?_
        exact ih x7 u6 _ _ _ h hW (lv_sub hl [1, 2, 0, 3] rfl)
  obtain ⟨n_5, h⟩ := h
  refine loop_5 _ ?_ n_5 0 u _ _ _ h hW (lv_sub hl [2, 3, 1, 0] rfl)
  intro w2_5 v_5 H locs ls h hW hl
  exact hret _ _ _ _ _ dJ7_fill_53178_20 hW h
set_option maxHeartbeats 4000000 in
set_option maxRecDepth 100000 in
theorem c_X2_redo_2 (l : Launch) (D : va_G) (cA : ClassId) (a : Nat → Nat) (u : Mem) (xp1 xp2 : Int32) (post : Int32 → Mem → Prop) (h : w_X2_redo xp1 xp2 2 32 u post) : g_Mi l yX2_redo (Cond.code yX2_redo cX2_redo 6 (some .int) :: tT) rm_X2_redo D cA (Xw cA a) u [.ref (a 1), .int xp1, .int xp2, .ref (a 7)] post := by
  refine g_enter_i (by decide) (Xw_adr cA a) (Nat.le_of_ble_eq_true rfl) ?_
  intro p e s m args below meth c A Q S hml hK hA hret ls hl hW
  have hx := S.1
  have hb := S.2.1
  have hl : lv_has ls 6 [(0, .ref (a 1)), (1, .int xp1), (2, .int xp2), (3, .ref (a 7))] := hl
  skip
  refine lv_iconst (v := 0) hx hb dX2_redo_0 (by decide) ?_
  refine lv_istore (lv' := [(4, .int 0), (0, .ref (a 1)), (1, .int xp1), (2, .int xp2), (3, .ref (a 7))]) hx hb dX2_redo_1 hl (by decide) rfl (fun ls hl => ?_)
  refine lv_iconst (v := 0) hx hb dX2_redo_3 (by decide) ?_
  refine lv_istore (lv' := [(5, .int 0), (4, .int 0), (0, .ref (a 1)), (1, .int xp1), (2, .int xp2), (3, .ref (a 7))]) hx hb dX2_redo_4 hl (by decide) rfl (fun ls hl => ?_)
  have loop_6 : ∀ (K : Int32 → Int32 → Mem → Prop), (∀ (w4_6 w5_6 : Int32) (v_6 : Mem) (H : Heap) (locs : List Loc) (ls : Array Slot), K w4_6 w5_6 v_6 → g_W D (Xw cA a) A s.heap v_6 H locs → lv_has ls 6 [(0, .ref (a 1)), (1, .int xp1), (2, .int xp2), (3, .ref (a 7)), (4, .int w4_6), (5, .int w5_6)] → W p l e rm_X2_redo s m args below meth c H locs 0 0 Q (F0 m 76 ls [])) → ∀ (n : Nat) (y4_6 y5_6 : Int32) (u_6 : Mem) (H : Heap) (locs : List Loc) (ls : Array Slot), L_X2_redo_6 xp1 xp2 2 32 post K n y4_6 y5_6 u_6 → g_W D (Xw cA a) A s.heap u_6 H locs → lv_has ls 6 [(0, .ref (a 1)), (1, .int xp1), (2, .int xp2), (3, .ref (a 7)), (4, .int y4_6), (5, .int y5_6)] → W p l e rm_X2_redo s m args below meth c H locs 0 0 Q (F0 m 6 ls []) := by
    intro K hE n
    induction n with
    | zero => intro y4_6 y5_6 u_6 H locs ls h; exact False.elim h
    | succ n ih =>
      intro y4_6 y5_6 u_6 H locs ls h hW hl
      refine lv_iload hx hb dX2_redo_6 (lv_at hl 5 rfl) ?_
      refine lv_aload_n hx hb dX2_redo_8 rfl (lv_at hl 0 rfl) ?_
      refine xg_1_6 S hK hW kw_49 dX2_redo_9 ?_
      refine lv_icmp_ge (tgt := 76) hx hb dX2_redo_12 (by decide) (fun c15 => ?_) (fun c15 => ?_)
      · have h := h.1 c15
        exact hE y4_6 y5_6 u_6 _ _ _ h hW (lv_sub hl [0, 1, 2, 3, 4, 5] rfl)
      · have h := h.2 c15
        refine lv_aload_n hx hb dX2_redo_15 rfl (lv_at hl 0 rfl) ?_
        refine xg_1_0 S hK hW kw_40 dX2_redo_16 ?_
        refine lv_iload hx hb dX2_redo_19 (lv_at hl 5 rfl) ?_
        obtain ⟨hin, h⟩ := h
        refine xl_3 S hK hW hin dX2_redo_21 (fun x16 ex16 => ?_)
        have h := nm_use ex16 h
        refine lv_iload_n hx hb dX2_redo_22 rfl (lv_at hl 2 rfl) ?_
        refine lv_icmp_gt (tgt := 76) hx hb dX2_redo_23 (by decide) (fun c17 => ?_) (fun c17 => ?_)
        · have h := h.1 c17
          exact hE y4_6 y5_6 u_6 _ _ _ h hW (lv_sub hl [0, 1, 2, 3, 4, 5] rfl)
        · have h := h.2 c17
          refine lv_aload_n hx hb dX2_redo_26 rfl (lv_at hl 0 rfl) ?_
          refine xg_1_0 S hK hW kw_40 dX2_redo_27 ?_
          refine lv_iload hx hb dX2_redo_30 (lv_at hl 5 rfl) ?_
          obtain ⟨hin, h⟩ := h
          refine xl_3 S hK hW hin dX2_redo_32 (fun x18 ex18 => ?_)
          have h := nm_use ex18 h
          refine lv_iload_n hx hb dX2_redo_33 rfl (lv_at hl 1 rfl) ?_
          refine lv_icmp_le (tgt := 70) hx hb dX2_redo_34 (by decide) (fun c19 => ?_) (fun c19 => ?_)
          · have h := h.1 c19
            obtain ⟨x20, ex20⟩ : ∃ z : Int32, z = y5_6 + 1 := ⟨_, rfl⟩
            have h := nm_use ex20 h
            refine lv_iinc (v := x20) (lv' := [(5, .int x20), (0, .ref (a 1)), (1, .int xp1), (2, .int xp2), (3, .ref (a 7)), (4, .int y4_6)]) hx hb dX2_redo_70 hl (k := 5) rfl (by rw [ex20]; rfl) (by decide) rfl (fun ls hl => ?_)
            refine lv_goto (tgt := 6) hx hb dX2_redo_73 (by decide) ?_
            exact ih y4_6 x20 u_6 _ _ _ h hW (lv_sub hl [1, 2, 3, 4, 5, 0] rfl)
          · have h := h.2 c19
            refine lv_aload_n hx hb dX2_redo_37 rfl (lv_at hl 0 rfl) ?_
            refine xg_1_4 S hK hW kw_47 dX2_redo_38 ?_
            refine lv_iload hx hb dX2_redo_41 (lv_at hl 5 rfl) ?_
            obtain ⟨hin, h⟩ := h
            refine xl_7 S hK hW hin dX2_redo_43 (fun x21 ex21 => ?_)
            have h := nm_use ex21 h
            refine lv_iconst (v := (-1)) hx hb dX2_redo_44 (by decide) ?_
            refine lv_icmp_eq (tgt := 51) hx hb dX2_redo_45 (by decide) (fun c22 => ?_) (fun c22 => ?_)
            · have h := h.1 c22
              refine lv_aload_n hx hb dX2_redo_51 rfl (lv_at hl 3 rfl) ?_
              refine lv_aload_n hx hb dX2_redo_52 rfl (lv_at hl 0 rfl) ?_
              refine xg_1_1 S hK hW kw_42 dX2_redo_53 ?_
              refine lv_iload hx hb dX2_redo_56 (lv_at hl 5 rfl) ?_
              obtain ⟨hin, h⟩ := h
              refine xl_4 S hK hW hin dX2_redo_58 (fun x23 ex23 => ?_)
              have h := nm_use ex23 h
              refine lv_aload_n hx hb dX2_redo_59 rfl (lv_at hl 0 rfl) ?_
              refine xg_1_2 S hK hW kw_43 dX2_redo_60 ?_
              refine lv_iload hx hb dX2_redo_63 (lv_at hl 5 rfl) ?_
              obtain ⟨hin, h⟩ := h
              refine xl_5 S hK hW hin dX2_redo_65 (fun x24 ex24 => ?_)
              have h := nm_use ex24 h
              obtain ⟨hin, h⟩ := h
              refine xs_2 S hK hW hin dX2_redo_66 (fun u25 H locs eu25 hW => ?_)
              have h := nm_use eu25 h
              obtain ⟨x26, ex26⟩ : ∃ z : Int32, z = y4_6 + 1 := ⟨_, rfl⟩
              have h := nm_use ex26 h
              refine lv_iinc (v := x26) (lv' := [(4, .int x26), (0, .ref (a 1)), (1, .int xp1), (2, .int xp2), (3, .ref (a 7)), (5, .int y5_6)]) hx hb dX2_redo_67 hl (k := 4) rfl (by rw [ex26]; rfl) (by decide) rfl (fun ls hl => ?_)
              obtain ⟨x27, ex27⟩ : ∃ z : Int32, z = y5_6 + 1 := ⟨_, rfl⟩
              have h := nm_use ex27 h
              refine lv_iinc (v := x27) (lv' := [(5, .int x27), (4, .int x26), (0, .ref (a 1)), (1, .int xp1), (2, .int xp2), (3, .ref (a 7))]) hx hb dX2_redo_70 hl (k := 5) rfl (by rw [ex27]; rfl) (by decide) rfl (fun ls hl => ?_)
              refine lv_goto (tgt := 6) hx hb dX2_redo_73 (by decide) ?_
              exact ih x26 x27 u25 _ _ _ h hW (lv_sub hl [2, 3, 4, 5, 1, 0] rfl)
            · have h := h.2 c22
              refine lv_goto (tgt := 70) hx hb dX2_redo_48 (by decide) ?_
              obtain ⟨x28, ex28⟩ : ∃ z : Int32, z = y5_6 + 1 := ⟨_, rfl⟩
              have h := nm_use ex28 h
              refine lv_iinc (v := x28) (lv' := [(5, .int x28), (0, .ref (a 1)), (1, .int xp1), (2, .int xp2), (3, .ref (a 7)), (4, .int y4_6)]) hx hb dX2_redo_70 hl (k := 5) rfl (by rw [ex28]; rfl) (by decide) rfl (fun ls hl => ?_)
              refine lv_goto (tgt := 6) hx hb dX2_redo_73 (by decide) ?_
              exact ih y4_6 x28 u_6 _ _ _ h hW (lv_sub hl [1, 2, 3, 4, 5, 0] rfl)
  obtain ⟨n_6, h⟩ := h
  refine loop_6 _ ?_ n_6 0 0 u _ _ _ h hW (lv_sub hl [2, 3, 4, 5, 1, 0] rfl)
  intro w4_6 w5_6 v_6 H locs ls h hW hl
  refine lv_iload hx hb dX2_redo_76 (lv_at hl 4 rfl) ?_
  exact hret _ _ _ _ _ _ dX2_redo_78 hW h
set_option maxHeartbeats 4000000 in
set_option maxRecDepth 100000 in
theorem c_X2_load_2 (l : Launch) (D : va_G) (cA : ClassId) (a : Nat → Nat) (u : Mem) (xp1 : Int32) (post : Mem → Prop) (h : w_X2_load xp1 2 32 u post) : g_Mv l yX2_load (Cond.code yX2_load cX2_load 3 none :: tT) rm_X2_load D cA (Xw cA a) u [.ref (a 1), .int xp1, .ref (a 7)] post := by
  refine g_enter_v (by decide) (Xw_adr cA a) (Nat.le_of_ble_eq_true rfl) ?_
  intro p e s m args below meth c A Q S hml hK hA hret ls hl hW
  have hx := S.1
  have hb := S.2.1
  have hl : lv_has ls 3 [(0, .ref (a 1)), (1, .int xp1), (2, .ref (a 7))] := hl
  skip
  refine lv_aload_n hx hb dX2_load_0 rfl (lv_at hl 2 rfl) ?_
  refine lv_iconst (v := 0) hx hb dX2_load_1 (by decide) ?_
  refine g_calv (g_runS S hml hK hW (c_J7_fill_53178_2 l D cA a u 0 _ h _) kw_266 kw_128 kw_24 kw_129 hd_J7_fill_53178 ⟨rfl, rfl, Nat.le_of_ble_eq_true rfl, Nat.le_of_ble_eq_true rfl⟩ (As := [.ref (a 7), .int 0]) (rest := []) rfl rfl hl.1 (Nat.le_of_ble_eq_true rfl) dX2_load_2 ⟨Nat.zero_le _, Nat.zero_le _⟩) (Xw_adr cA a) hA hW (fun u1 H locs h hW => ?_)
  refine lv_aload_n hx hb dX2_load_5 rfl (lv_at hl 0 rfl) ?_
  refine lv_iconst (v := 0) hx hb dX2_load_6 (by decide) ?_
  refine lv_iload_n hx hb dX2_load_7 rfl (lv_at hl 1 rfl) ?_
  refine lv_aload_n hx hb dX2_load_8 rfl (lv_at hl 2 rfl) ?_
  refine g_cali (g_runV S hml hK hW (c_X2_redo_2 l D cA a u1 0 xp1 _ h _) kw_267 kw_268 kw_269 kw_20 kw_270 hd_X2_redo ⟨rfl, rfl, Nat.le_of_ble_eq_true rfl, Nat.le_of_ble_eq_true rfl⟩ (q0 := 1) rfl rfl (As := [.int 0, .int xp1, .ref (a 7)]) (rest := []) rfl rfl hl.1 (Nat.le_of_ble_eq_true rfl) dX2_load_9 ⟨Nat.zero_le _, Nat.zero_le _⟩) (Xw_adr cA a) hA hW (fun x3 u2 H locs h hW => ?_)
  refine lv_pop hx hb dX2_load_12 rfl ?_
  exact hret _ _ _ _ _ dX2_load_13 hW h
def w_X1_isPrunable (xp1 : Int32) (xp2 : Int32) (u : Mem) (post : Int32 → Mem → Prop) : Prop := (xp2 ≤ 0 → (w_X1_isGone xp1 u (fun x3 u2 => (x3 = 0 → (post 1 u2)) ∧ (¬ x3 = 0 → (post 0 u2))))) ∧ (¬ xp2 ≤ 0 → (¬ xp2 = 0 ∧ nm (xp1 - xp1 / xp2 * xp2) fun x5 => (x5 = 0 → (post 0 u)) ∧ (¬ x5 = 0 → (w_X1_isGone xp1 u (fun x8 u7 => (x8 = 0 → (post 1 u7)) ∧ (¬ x8 = 0 → (post 0 u7)))))))
abbrev rm_X1_isPrunable : Room := { frames := 1, cells := 0, slots := 0, locals := 21 }
theorem hd_X1_isPrunable : yX1_isPrunable.cls ≠ "java/lang/invoke/MethodHandle" ∧ yX1_isPrunable.cls ≠ "java/lang/invoke/VarHandle" ∧ (parseMethodDescriptor yX1_isPrunable.desc).map (fun d => d.parameters.length) = some 2 := by decide +kernel
set_option maxHeartbeats 4000000 in
set_option maxRecDepth 100000 in
theorem c_X1_isPrunable (l : Launch) (D : va_G) (cA : ClassId) (a : Nat → Nat) (u : Mem) (xp1 xp2 : Int32) (post : Int32 → Mem → Prop) (h : w_X1_isPrunable xp1 xp2 u post) : g_Mi l yX1_isPrunable (Cond.code yX1_isPrunable cX1_isPrunable 4 (some .boolean) :: tT) rm_X1_isPrunable D cA (Xw cA a) u [.ref (a 2), .int xp1, .int xp2] post := by
  refine g_enter_z (by decide) (Xw_adr cA a) (Nat.le_of_ble_eq_true rfl) ?_
  intro p e s m args below meth c A Q S hml hK hA hret ls hl hW
  have hx := S.1
  have hb := S.2.1
  have hl : lv_has ls 4 [(0, .ref (a 2)), (1, .int xp1), (2, .int xp2)] := hl
  skip
  refine lv_iload_n hx hb dX1_isPrunable_0 rfl (lv_at hl 2 rfl) ?_
  refine lv_if_le (tgt := 14) hx hb dX1_isPrunable_1 (by decide) (fun c1 => ?_) (fun c1 => ?_)
  · have h := h.1 c1
    refine lv_iconst (v := 0) hx hb dX1_isPrunable_14 (by decide) ?_
    refine lv_istore_n (lv' := [(3, .int 0), (0, .ref (a 2)), (1, .int xp1), (2, .int xp2)]) hx hb dX1_isPrunable_15 rfl hl (by decide) rfl (fun ls hl => ?_)
    refine lv_iload_n hx hb dX1_isPrunable_16 rfl (lv_at hl 0 rfl) ?_
    refine lv_if_ne (tgt := 32) hx hb dX1_isPrunable_17 (by decide) (fun cc_ => absurd cc_ (by decide)) (fun _ => ?_)
    refine lv_aload_n hx hb dX1_isPrunable_20 rfl (lv_at hl 1 rfl) ?_
    refine lv_iload_n hx hb dX1_isPrunable_21 rfl (lv_at hl 2 rfl) ?_
    refine g_cali (g_runV S hml hK hW (c_X1_isGone l D cA a u xp1 _ h _) kw_291 kw_222 kw_223 kw_21 kw_224 hd_X1_isGone ⟨rfl, rfl, Nat.le_of_ble_eq_true rfl, Nat.le_of_ble_eq_true rfl⟩ (q0 := 2) rfl rfl (As := [.int xp1]) (rest := []) rfl rfl hl.1 (Nat.le_of_ble_eq_true rfl) dX1_isPrunable_22 ⟨Nat.zero_le _, Nat.zero_le _⟩) (Xw_adr cA a) hA hW (fun x3 u2 H locs h hW => ?_)
    refine lv_if_ne (tgt := 32) hx hb dX1_isPrunable_25 (by decide) (fun c4 => ?_) (fun c4 => ?_)
    · have h := h.2 c4
      refine lv_iconst (v := 0) hx hb dX1_isPrunable_32 (by decide) ?_
      exact hret _ _ _ _ _ _ dX1_isPrunable_33 hW (Or.inl rfl) h
    · have h := h.1 c4
      refine lv_iconst (v := 1) hx hb dX1_isPrunable_28 (by decide) ?_
      refine lv_goto (tgt := 33) hx hb dX1_isPrunable_29 (by decide) ?_
      exact hret _ _ _ _ _ _ dX1_isPrunable_33 hW (Or.inr rfl) h
  · have h := h.2 c1
    refine lv_iload_n hx hb dX1_isPrunable_4 rfl (lv_at hl 1 rfl) ?_
    refine lv_iload_n hx hb dX1_isPrunable_5 rfl (lv_at hl 2 rfl) ?_
    obtain ⟨hz, h⟩ := h
    refine lv_irem hx hb dX1_isPrunable_6 hz ?_
    refine lv_topi (fun x5 ex5 => ?_)
    have h := nm_use ex5 h
    refine lv_if_ne (tgt := 14) hx hb dX1_isPrunable_7 (by decide) (fun c6 => ?_) (fun c6 => ?_)
    · have h := h.2 c6
      refine lv_iconst (v := 0) hx hb dX1_isPrunable_14 (by decide) ?_
      refine lv_istore_n (lv' := [(3, .int 0), (0, .ref (a 2)), (1, .int xp1), (2, .int xp2)]) hx hb dX1_isPrunable_15 rfl hl (by decide) rfl (fun ls hl => ?_)
      refine lv_iload_n hx hb dX1_isPrunable_16 rfl (lv_at hl 0 rfl) ?_
      refine lv_if_ne (tgt := 32) hx hb dX1_isPrunable_17 (by decide) (fun cc_ => absurd cc_ (by decide)) (fun _ => ?_)
      refine lv_aload_n hx hb dX1_isPrunable_20 rfl (lv_at hl 1 rfl) ?_
      refine lv_iload_n hx hb dX1_isPrunable_21 rfl (lv_at hl 2 rfl) ?_
      refine g_cali (g_runV S hml hK hW (c_X1_isGone l D cA a u xp1 _ h _) kw_291 kw_222 kw_223 kw_21 kw_224 hd_X1_isGone ⟨rfl, rfl, Nat.le_of_ble_eq_true rfl, Nat.le_of_ble_eq_true rfl⟩ (q0 := 2) rfl rfl (As := [.int xp1]) (rest := []) rfl rfl hl.1 (Nat.le_of_ble_eq_true rfl) dX1_isPrunable_22 ⟨Nat.zero_le _, Nat.zero_le _⟩) (Xw_adr cA a) hA hW (fun x8 u7 H locs h hW => ?_)
      refine lv_if_ne (tgt := 32) hx hb dX1_isPrunable_25 (by decide) (fun c9 => ?_) (fun c9 => ?_)
      · have h := h.2 c9
        refine lv_iconst (v := 0) hx hb dX1_isPrunable_32 (by decide) ?_
        exact hret _ _ _ _ _ _ dX1_isPrunable_33 hW (Or.inl rfl) h
      · have h := h.1 c9
        refine lv_iconst (v := 1) hx hb dX1_isPrunable_28 (by decide) ?_
        refine lv_goto (tgt := 33) hx hb dX1_isPrunable_29 (by decide) ?_
        exact hret _ _ _ _ _ _ dX1_isPrunable_33 hW (Or.inr rfl) h
    · have h := h.1 c6
      refine lv_iconst (v := 1) hx hb dX1_isPrunable_10 (by decide) ?_
      refine lv_goto (tgt := 15) hx hb dX1_isPrunable_11 (by decide) ?_
      refine lv_istore_n (lv' := [(3, .int 1), (0, .ref (a 2)), (1, .int xp1), (2, .int xp2)]) hx hb dX1_isPrunable_15 rfl hl (by decide) rfl (fun ls hl => ?_)
      refine lv_iload_n hx hb dX1_isPrunable_16 rfl (lv_at hl 0 rfl) ?_
      refine lv_if_ne (tgt := 32) hx hb dX1_isPrunable_17 (by decide) (fun _ => ?_) (fun cc_ => absurd cc_ (by decide))
      refine lv_iconst (v := 0) hx hb dX1_isPrunable_32 (by decide) ?_
      exact hret _ _ _ _ _ _ dX1_isPrunable_33 hW (Or.inl rfl) h
def L_X1_countPrunable_5 (f1_5 : Int32) (f2_5 : Int32) (post : Int32 → Mem → Prop) (K : Int32 → Int32 → Mem → Prop) : Nat → Int32 → Int32 → Mem → Prop
  | 0, _, _, _ => False
  | n_5 + 1, y3_5, y4_5, u_5 => (f1_5 ≤ y4_5 → (K y3_5 y4_5 u_5)) ∧ (¬ f1_5 ≤ y4_5 → (w_X1_isPrunable y4_5 f2_5 u_5 (fun x3 u2 => (x3 = 0 → (nm (y4_5 + 1) fun x5 => L_X1_countPrunable_5 f1_5 f2_5 post K n_5 y3_5 x5 u2)) ∧ (¬ x3 = 0 → (nm (y3_5 + 1) fun x6 => nm (y4_5 + 1) fun x7 => L_X1_countPrunable_5 f1_5 f2_5 post K n_5 x6 x7 u2)))))
def w_X1_countPrunable (xp1 : Int32) (xp2 : Int32) (u : Mem) (post : Int32 → Mem → Prop) : Prop := ∃ n_5, L_X1_countPrunable_5 xp1 xp2 post (fun w3_5 w4_5 v_5 => post w3_5 v_5) n_5 0 0 u
abbrev rm_X1_countPrunable : Room := { frames := 2, cells := 0, slots := 0, locals := 44 }
theorem hd_X1_countPrunable : yX1_countPrunable.cls ≠ "java/lang/invoke/MethodHandle" ∧ yX1_countPrunable.cls ≠ "java/lang/invoke/VarHandle" ∧ (parseMethodDescriptor yX1_countPrunable.desc).map (fun d => d.parameters.length) = some 2 := by decide +kernel
set_option maxHeartbeats 4000000 in
set_option maxRecDepth 100000 in
theorem c_X1_countPrunable (l : Launch) (D : va_G) (cA : ClassId) (a : Nat → Nat) (u : Mem) (xp1 xp2 : Int32) (post : Int32 → Mem → Prop) (h : w_X1_countPrunable xp1 xp2 u post) : g_Mi l yX1_countPrunable (Cond.code yX1_countPrunable cX1_countPrunable 5 (some .int) :: tT) rm_X1_countPrunable D cA (Xw cA a) u [.ref (a 2), .int xp1, .int xp2] post := by
  refine g_enter_i (by decide) (Xw_adr cA a) (Nat.le_of_ble_eq_true rfl) ?_
  intro p e s m args below meth c A Q S hml hK hA hret ls hl hW
  have hx := S.1
  have hb := S.2.1
  have hl : lv_has ls 5 [(0, .ref (a 2)), (1, .int xp1), (2, .int xp2)] := hl
  skip
  refine lv_iconst (v := 0) hx hb dX1_countPrunable_0 (by decide) ?_
  refine lv_istore_n (lv' := [(3, .int 0), (0, .ref (a 2)), (1, .int xp1), (2, .int xp2)]) hx hb dX1_countPrunable_1 rfl hl (by decide) rfl (fun ls hl => ?_)
  refine lv_iconst (v := 0) hx hb dX1_countPrunable_2 (by decide) ?_
  refine lv_istore (lv' := [(4, .int 0), (3, .int 0), (0, .ref (a 2)), (1, .int xp1), (2, .int xp2)]) hx hb dX1_countPrunable_3 hl (by decide) rfl (fun ls hl => ?_)
  have loop_5 : ∀ (K : Int32 → Int32 → Mem → Prop), (∀ (w3_5 w4_5 : Int32) (v_5 : Mem) (H : Heap) (locs : List Loc) (ls : Array Slot), K w3_5 w4_5 v_5 → g_W D (Xw cA a) A s.heap v_5 H locs → lv_has ls 5 [(0, .ref (a 2)), (1, .int xp1), (2, .int xp2), (3, .int w3_5), (4, .int w4_5)] → W p l e rm_X1_countPrunable s m args below meth c H locs 0 0 Q (F0 m 30 ls [])) → ∀ (n : Nat) (y3_5 y4_5 : Int32) (u_5 : Mem) (H : Heap) (locs : List Loc) (ls : Array Slot), L_X1_countPrunable_5 xp1 xp2 post K n y3_5 y4_5 u_5 → g_W D (Xw cA a) A s.heap u_5 H locs → lv_has ls 5 [(0, .ref (a 2)), (1, .int xp1), (2, .int xp2), (3, .int y3_5), (4, .int y4_5)] → W p l e rm_X1_countPrunable s m args below meth c H locs 0 0 Q (F0 m 5 ls []) := by
    intro K hE n
    induction n with
    | zero => intro y3_5 y4_5 u_5 H locs ls h; exact False.elim h
    | succ n ih =>
      intro y3_5 y4_5 u_5 H locs ls h hW hl
      refine lv_iload hx hb dX1_countPrunable_5 (lv_at hl 4 rfl) ?_
      refine lv_iload_n hx hb dX1_countPrunable_7 rfl (lv_at hl 1 rfl) ?_
      refine lv_icmp_ge (tgt := 30) hx hb dX1_countPrunable_8 (by decide) (fun c8 => ?_) (fun c8 => ?_)
      · have h := h.1 c8
        exact hE y3_5 y4_5 u_5 _ _ _ h hW (lv_sub hl [0, 1, 2, 3, 4] rfl)
      · have h := h.2 c8
        refine lv_aload_n hx hb dX1_countPrunable_11 rfl (lv_at hl 0 rfl) ?_
        refine lv_iload hx hb dX1_countPrunable_12 (lv_at hl 4 rfl) ?_
        refine lv_iload_n hx hb dX1_countPrunable_14 rfl (lv_at hl 2 rfl) ?_
        refine g_cali (g_runV S hml hK hW (c_X1_isPrunable l D cA a u_5 y4_5 xp2 _ h _) kw_287 kw_288 kw_289 kw_21 kw_290 hd_X1_isPrunable ⟨rfl, rfl, Nat.le_of_ble_eq_true rfl, Nat.le_of_ble_eq_true rfl⟩ (q0 := 2) rfl rfl (As := [.int y4_5, .int xp2]) (rest := []) rfl rfl hl.1 (Nat.le_of_ble_eq_true rfl) dX1_countPrunable_15 ⟨Nat.zero_le _, Nat.zero_le _⟩) (Xw_adr cA a) hA hW (fun x10 u9 H locs h hW => ?_)
        refine lv_if_eq (tgt := 24) hx hb dX1_countPrunable_18 (by decide) (fun c11 => ?_) (fun c11 => ?_)
        · have h := h.1 c11
          obtain ⟨x12, ex12⟩ : ∃ z : Int32, z = y4_5 + 1 := ⟨_, rfl⟩
          have h := nm_use ex12 h
          refine lv_iinc (v := x12) (lv' := [(4, .int x12), (0, .ref (a 2)), (1, .int xp1), (2, .int xp2), (3, .int y3_5)]) hx hb dX1_countPrunable_24 hl (k := 4) rfl (by rw [ex12]; rfl) (by decide) rfl (fun ls hl => ?_)
          refine lv_goto (tgt := 5) hx hb dX1_countPrunable_27 (by decide) ?_
          exact ih y3_5 x12 u9 _ _ _ h hW (lv_sub hl [1, 2, 3, 4, 0] rfl)
        · have h := h.2 c11
          obtain ⟨x13, ex13⟩ : ∃ z : Int32, z = y3_5 + 1 := ⟨_, rfl⟩
          have h := nm_use ex13 h
          refine lv_iinc (v := x13) (lv' := [(3, .int x13), (0, .ref (a 2)), (1, .int xp1), (2, .int xp2), (4, .int y4_5)]) hx hb dX1_countPrunable_21 hl (k := 3) rfl (by rw [ex13]; rfl) (by decide) rfl (fun ls hl => ?_)
          obtain ⟨x14, ex14⟩ : ∃ z : Int32, z = y4_5 + 1 := ⟨_, rfl⟩
          have h := nm_use ex14 h
          refine lv_iinc (v := x14) (lv' := [(4, .int x14), (3, .int x13), (0, .ref (a 2)), (1, .int xp1), (2, .int xp2)]) hx hb dX1_countPrunable_24 hl (k := 4) rfl (by rw [ex14]; rfl) (by decide) rfl (fun ls hl => ?_)
          refine lv_goto (tgt := 5) hx hb dX1_countPrunable_27 (by decide) ?_
          exact ih x13 x14 u9 _ _ _ h hW (lv_sub hl [2, 3, 4, 1, 0] rfl)
  obtain ⟨n_5, h⟩ := h
  refine loop_5 _ ?_ n_5 0 0 u _ _ _ h hW (lv_sub hl [2, 3, 4, 1, 0] rfl)
  intro w3_5 w4_5 v_5 H locs ls h hW hl
  refine lv_iload_n hx hb dX1_countPrunable_30 rfl (lv_at hl 3 rfl) ?_
  exact hret _ _ _ _ _ _ dX1_countPrunable_31 hW h
def L_X1_moveTo_3 (f1_3 : Int32) (f2_3 : Int32) (f3_3 : Int32) (post : Mem → Prop) (K : Int32 → Mem → Prop) : Nat → Int32 → Mem → Prop
  | 0, _, _ => False
  | n_3 + 1, y4_3, u_3 => (f2_3 ≤ y4_3 → (K y4_3 u_3)) ∧ (¬ f2_3 ≤ y4_3 → (w_X1_isPrunable y4_3 f3_3 u_3 (fun x3 u2 => (x3 = 0 → (nm (y4_3 + 1) fun x5 => L_X1_moveTo_3 f1_3 f2_3 f3_3 post K n_3 x5 u2)) ∧ (¬ x3 = 0 → (vp_in y4_3 201 ∧ nm (g_ms u2 10 (y4_3 : Int32).toNatClampNeg f1_3) fun u6 => nm (y4_3 + 1) fun x7 => L_X1_moveTo_3 f1_3 f2_3 f3_3 post K n_3 x7 u6)))))
def w_X1_moveTo (xp1 : Int32) (xp2 : Int32) (xp3 : Int32) (u : Mem) (post : Mem → Prop) : Prop := ∃ n_3, L_X1_moveTo_3 xp1 xp2 xp3 post (fun w4_3 v_3 => post v_3) n_3 0 u
abbrev rm_X1_moveTo : Room := { frames := 2, cells := 0, slots := 0, locals := 44 }
theorem hd_X1_moveTo : yX1_moveTo.cls ≠ "java/lang/invoke/MethodHandle" ∧ yX1_moveTo.cls ≠ "java/lang/invoke/VarHandle" ∧ (parseMethodDescriptor yX1_moveTo.desc).map (fun d => d.parameters.length) = some 3 := by decide +kernel
set_option maxHeartbeats 4000000 in
set_option maxRecDepth 100000 in
theorem c_X1_moveTo (l : Launch) (D : va_G) (cA : ClassId) (a : Nat → Nat) (u : Mem) (xp1 xp2 xp3 : Int32) (post : Mem → Prop) (h : w_X1_moveTo xp1 xp2 xp3 u post) : g_Mv l yX1_moveTo (Cond.code yX1_moveTo cX1_moveTo 5 none :: tT) rm_X1_moveTo D cA (Xw cA a) u [.ref (a 2), .int xp1, .int xp2, .int xp3] post := by
  refine g_enter_v (by decide) (Xw_adr cA a) (Nat.le_of_ble_eq_true rfl) ?_
  intro p e s m args below meth c A Q S hml hK hA hret ls hl hW
  have hx := S.1
  have hb := S.2.1
  have hl : lv_has ls 5 [(0, .ref (a 2)), (1, .int xp1), (2, .int xp2), (3, .int xp3)] := hl
  skip
  refine lv_iconst (v := 0) hx hb dX1_moveTo_0 (by decide) ?_
  refine lv_istore (lv' := [(4, .int 0), (0, .ref (a 2)), (1, .int xp1), (2, .int xp2), (3, .int xp3)]) hx hb dX1_moveTo_1 hl (by decide) rfl (fun ls hl => ?_)
  have loop_3 : ∀ (K : Int32 → Mem → Prop), (∀ (w4_3 : Int32) (v_3 : Mem) (H : Heap) (locs : List Loc) (ls : Array Slot), K w4_3 v_3 → g_W D (Xw cA a) A s.heap v_3 H locs → lv_has ls 5 [(0, .ref (a 2)), (1, .int xp1), (2, .int xp2), (3, .int xp3), (4, .int w4_3)] → W p l e rm_X1_moveTo s m args below meth c H locs 0 0 Q (F0 m 33 ls [])) → ∀ (n : Nat) (y4_3 : Int32) (u_3 : Mem) (H : Heap) (locs : List Loc) (ls : Array Slot), L_X1_moveTo_3 xp1 xp2 xp3 post K n y4_3 u_3 → g_W D (Xw cA a) A s.heap u_3 H locs → lv_has ls 5 [(0, .ref (a 2)), (1, .int xp1), (2, .int xp2), (3, .int xp3), (4, .int y4_3)] → W p l e rm_X1_moveTo s m args below meth c H locs 0 0 Q (F0 m 3 ls []) := by
    intro K hE n
    induction n with
    | zero => intro y4_3 u_3 H locs ls h; exact False.elim h
    | succ n ih =>
      intro y4_3 u_3 H locs ls h hW hl
      refine lv_iload hx hb dX1_moveTo_3 (lv_at hl 4 rfl) ?_
      refine lv_iload_n hx hb dX1_moveTo_5 rfl (lv_at hl 2 rfl) ?_
      refine lv_icmp_ge (tgt := 33) hx hb dX1_moveTo_6 (by decide) (fun c8 => ?_) (fun c8 => ?_)
      · have h := h.1 c8
        exact hE y4_3 u_3 _ _ _ h hW (lv_sub hl [0, 1, 2, 3, 4] rfl)
      · have h := h.2 c8
        refine lv_aload_n hx hb dX1_moveTo_9 rfl (lv_at hl 0 rfl) ?_
        refine lv_iload hx hb dX1_moveTo_10 (lv_at hl 4 rfl) ?_
        refine lv_iload_n hx hb dX1_moveTo_12 rfl (lv_at hl 3 rfl) ?_
        refine g_cali (g_runV S hml hK hW (c_X1_isPrunable l D cA a u_3 y4_3 xp3 _ h _) kw_287 kw_288 kw_289 kw_21 kw_290 hd_X1_isPrunable ⟨rfl, rfl, Nat.le_of_ble_eq_true rfl, Nat.le_of_ble_eq_true rfl⟩ (q0 := 2) rfl rfl (As := [.int y4_3, .int xp3]) (rest := []) rfl rfl hl.1 (Nat.le_of_ble_eq_true rfl) dX1_moveTo_13 ⟨Nat.zero_le _, Nat.zero_le _⟩) (Xw_adr cA a) hA hW (fun x10 u9 H locs h hW => ?_)
        refine lv_if_eq (tgt := 27) hx hb dX1_moveTo_16 (by decide) (fun c11 => ?_) (fun c11 => ?_)
        · have h := h.1 c11
          obtain ⟨x12, ex12⟩ : ∃ z : Int32, z = y4_3 + 1 := ⟨_, rfl⟩
          have h := nm_use ex12 h
          refine lv_iinc (v := x12) (lv' := [(4, .int x12), (0, .ref (a 2)), (1, .int xp1), (2, .int xp2), (3, .int xp3)]) hx hb dX1_moveTo_27 hl (k := 4) rfl (by rw [ex12]; rfl) (by decide) rfl (fun ls hl => ?_)
          refine lv_goto (tgt := 3) hx hb dX1_moveTo_30 (by decide) ?_
          exact ih x12 u9 _ _ _ h hW (lv_sub hl [1, 2, 3, 4, 0] rfl)
        · have h := h.2 c11
          refine lv_aload_n hx hb dX1_moveTo_19 rfl (lv_at hl 0 rfl) ?_
          refine xg_2_1 S hK hW kw_75 dX1_moveTo_20 ?_
          refine lv_iload hx hb dX1_moveTo_23 (lv_at hl 4 rfl) ?_
          refine lv_iload_n hx hb dX1_moveTo_25 rfl (lv_at hl 1 rfl) ?_
          obtain ⟨hin, h⟩ := h
          refine xs_10 S hK hW hin dX1_moveTo_26 (fun u13 H locs eu13 hW => ?_)
          have h := nm_use eu13 h
          obtain ⟨x14, ex14⟩ : ∃ z : Int32, z = y4_3 + 1 := ⟨_, rfl⟩
          have h := nm_use ex14 h
          refine lv_iinc (v := x14) (lv' := [(4, .int x14), (0, .ref (a 2)), (1, .int xp1), (2, .int xp2), (3, .int xp3)]) hx hb dX1_moveTo_27 hl (k := 4) rfl (by rw [ex14]; rfl) (by decide) rfl (fun ls hl => ?_)
          refine lv_goto (tgt := 3) hx hb dX1_moveTo_30 (by decide) ?_
          exact ih x14 u13 _ _ _ h hW (lv_sub hl [1, 2, 3, 4, 0] rfl)
  obtain ⟨n_3, h⟩ := h
  refine loop_3 _ ?_ n_3 0 u _ _ _ h hW (lv_sub hl [1, 2, 3, 4, 0] rfl)
  intro w4_3 v_3 H locs ls h hW hl
  exact hret _ _ _ _ _ dX1_moveTo_33 hW h
set_option maxHeartbeats 4000000 in
set_option maxRecDepth 100000 in
theorem c_J7_fill_53178_8 (l : Launch) (D : va_G) (cA : ClassId) (a : Nat → Nat) (u : Mem) (xp1 : Int32) (post : Mem → Prop) (h : w_J7_fill_53178 8 32 xp1 u post) : g_Mv l yJ7_fill_53178 (Cond.code yJ7_fill_53178 cJ7_fill_53178 4 none :: tT) rm_J7_fill_53178 D cA (Xw cA a) u [.ref (a 13), .int xp1] post := by
  refine g_enter_v (by decide) (Xw_adr cA a) (Nat.le_of_ble_eq_true rfl) ?_
  intro p e s m args below meth c A Q S hml hK hA hret ls hl hW
  have hx := S.1
  have hb := S.2.1
  have hl : lv_has ls 4 [(0, .ref (a 13)), (1, .int xp1)] := hl
  skip
  refine lv_iconst (v := 0) hx hb dJ7_fill_53178_0 (by decide) ?_
  refine lv_istore_n (lv' := [(2, .int 0), (0, .ref (a 13)), (1, .int xp1)]) hx hb dJ7_fill_53178_1 rfl hl (by decide) rfl (fun ls hl => ?_)
  refine lv_aload_n hx hb dJ7_fill_53178_2 rfl (lv_at hl 1 rfl) ?_
  refine xn_8 S hK hW dJ7_fill_53178_3 ?_
  refine lv_topi (fun x1 ex1 => ?_)
  have h := nm_use ex1 h
  refine lv_istore_n (lv' := [(3, .int x1), (2, .int 0), (0, .ref (a 13)), (1, .int xp1)]) hx hb dJ7_fill_53178_4 rfl hl (by decide) rfl (fun ls hl => ?_)
  have loop_5 : ∀ (K : Int32 → Mem → Prop), (∀ (w2_5 : Int32) (v_5 : Mem) (H : Heap) (locs : List Loc) (ls : Array Slot), K w2_5 v_5 → g_W D (Xw cA a) A s.heap v_5 H locs → lv_has ls 4 [(0, .ref (a 13)), (1, .int xp1), (2, .int w2_5), (3, .int x1)] → W p l e rm_J7_fill_53178 s m args below meth c H locs 0 0 Q (F0 m 20 ls [])) → ∀ (n : Nat) (y2_5 : Int32) (u_5 : Mem) (H : Heap) (locs : List Loc) (ls : Array Slot), L_J7_fill_53178_5 8 32 xp1 x1 post K n y2_5 u_5 → g_W D (Xw cA a) A s.heap u_5 H locs → lv_has ls 4 [(0, .ref (a 13)), (1, .int xp1), (2, .int y2_5), (3, .int x1)] → W p l e rm_J7_fill_53178 s m args below meth c H locs 0 0 Q (F0 m 5 ls []) := by
    intro K hE n
    induction n with
    | zero => intro y2_5 u_5 H locs ls h; exact False.elim h
    | succ n ih =>
      intro y2_5 u_5 H locs ls h hW hl
      refine lv_iload_n hx hb dJ7_fill_53178_5 rfl (lv_at hl 2 rfl) ?_
      refine lv_iload_n hx hb dJ7_fill_53178_6 rfl (lv_at hl 3 rfl) ?_
      refine lv_icmp_ge (tgt := 20) hx hb dJ7_fill_53178_7 (by decide) (fun c5 => ?_) (fun c5 => ?_)
      · have h := h.1 c5
        exact hE y2_5 u_5 _ _ _ h hW (lv_sub hl [0, 1, 2, 3] rfl)
      · have h := h.2 c5
        refine lv_aload_n hx hb dJ7_fill_53178_10 rfl (lv_at hl 0 rfl) ?_
        refine lv_iload_n hx hb dJ7_fill_53178_11 rfl (lv_at hl 2 rfl) ?_
        refine lv_iload_n hx hb dJ7_fill_53178_12 rfl (lv_at hl 1 rfl) ?_
        obtain ⟨hin, h⟩ := h
        refine xs_8 S hK hW hin dJ7_fill_53178_13 (fun u6 H locs eu6 hW => ?_)
        have h := nm_use eu6 h
        obtain ⟨x7, ex7⟩ : ∃ z : Int32, z = y2_5 + 1 := ⟨_, rfl⟩
        have h := nm_use ex7 h
        refine lv_iinc (v := x7) (lv' := [(2, .int x7), (0, .ref (a 13)), (1, .int xp1), (3, .int x1)]) hx hb dJ7_fill_53178_14 hl (k := 2) rfl (by rw [ex7]; rfl) (by decide) rfl (fun ls hl => ?_)
        refine lv_goto (tgt := 5) hx hb dJ7_fill_53178_17 (by decide) ?_
        exact ih x7 u6 _ _ _ h hW (lv_sub hl [1, 2, 0, 3] rfl)
  obtain ⟨n_5, h⟩ := h
  refine loop_5 _ ?_ n_5 0 u _ _ _ h hW (lv_sub hl [2, 3, 1, 0] rfl)
  intro w2_5 v_5 H locs ls h hW hl
  exact hret _ _ _ _ _ dJ7_fill_53178_20 hW h
def L_X1_keepsAny_2 (f1_2 : Int32) (f2_2 : Int32) (post : Int32 → Mem → Prop) (K : Int32 → Mem → Prop) : Nat → Int32 → Mem → Prop
  | 0, _, _ => False
  | n_2 + 1, y3_2, u_2 => (f2_2 ≤ y3_2 → (K y3_2 u_2)) ∧ (¬ f2_2 ≤ y3_2 → (w_X1_isGone y3_2 u_2 (fun x3 u2 => (x3 = 0 → (post 1 u2)) ∧ (¬ x3 = 0 → (nm (y3_2 + 1) fun x5 => L_X1_keepsAny_2 f1_2 f2_2 post K n_2 x5 u2)))))
def w_X1_keepsAny (xp1 : Int32) (xp2 : Int32) (u : Mem) (post : Int32 → Mem → Prop) : Prop := ∃ n_2, L_X1_keepsAny_2 xp1 xp2 post (fun w3_2 v_2 => post 0 v_2) n_2 xp1 u
abbrev rm_X1_keepsAny : Room := { frames := 1, cells := 0, slots := 0, locals := 21 }
theorem hd_X1_keepsAny : yX1_keepsAny.cls ≠ "java/lang/invoke/MethodHandle" ∧ yX1_keepsAny.cls ≠ "java/lang/invoke/VarHandle" ∧ (parseMethodDescriptor yX1_keepsAny.desc).map (fun d => d.parameters.length) = some 2 := by decide +kernel
set_option maxHeartbeats 4000000 in
set_option maxRecDepth 100000 in
theorem c_X1_keepsAny (l : Launch) (D : va_G) (cA : ClassId) (a : Nat → Nat) (u : Mem) (xp1 xp2 : Int32) (post : Int32 → Mem → Prop) (h : w_X1_keepsAny xp1 xp2 u post) : g_Mi l yX1_keepsAny (Cond.code yX1_keepsAny cX1_keepsAny 4 (some .boolean) :: tT) rm_X1_keepsAny D cA (Xw cA a) u [.ref (a 2), .int xp1, .int xp2] post := by
  refine g_enter_z (by decide) (Xw_adr cA a) (Nat.le_of_ble_eq_true rfl) ?_
  intro p e s m args below meth c A Q S hml hK hA hret ls hl hW
  have hx := S.1
  have hb := S.2.1
  have hl : lv_has ls 4 [(0, .ref (a 2)), (1, .int xp1), (2, .int xp2)] := hl
  skip
  refine lv_iload_n hx hb dX1_keepsAny_0 rfl (lv_at hl 1 rfl) ?_
  refine lv_istore_n (lv' := [(3, .int xp1), (0, .ref (a 2)), (1, .int xp1), (2, .int xp2)]) hx hb dX1_keepsAny_1 rfl hl (by decide) rfl (fun ls hl => ?_)
  have loop_2 : ∀ (K : Int32 → Mem → Prop), (∀ (w3_2 : Int32) (v_2 : Mem) (H : Heap) (locs : List Loc) (ls : Array Slot), K w3_2 v_2 → g_W D (Xw cA a) A s.heap v_2 H locs → lv_has ls 4 [(0, .ref (a 2)), (1, .int xp1), (2, .int xp2), (3, .int w3_2)] → W p l e rm_X1_keepsAny s m args below meth c H locs 0 0 Q (F0 m 23 ls [])) → ∀ (n : Nat) (y3_2 : Int32) (u_2 : Mem) (H : Heap) (locs : List Loc) (ls : Array Slot), L_X1_keepsAny_2 xp1 xp2 post K n y3_2 u_2 → g_W D (Xw cA a) A s.heap u_2 H locs → lv_has ls 4 [(0, .ref (a 2)), (1, .int xp1), (2, .int xp2), (3, .int y3_2)] → W p l e rm_X1_keepsAny s m args below meth c H locs 0 0 Q (F0 m 2 ls []) := by
    intro K hE n
    induction n with
    | zero => intro y3_2 u_2 H locs ls h; exact False.elim h
    | succ n ih =>
      intro y3_2 u_2 H locs ls h hW hl
      refine lv_iload_n hx hb dX1_keepsAny_2 rfl (lv_at hl 3 rfl) ?_
      refine lv_iload_n hx hb dX1_keepsAny_3 rfl (lv_at hl 2 rfl) ?_
      refine lv_icmp_ge (tgt := 23) hx hb dX1_keepsAny_4 (by decide) (fun c6 => ?_) (fun c6 => ?_)
      · have h := h.1 c6
        exact hE y3_2 u_2 _ _ _ h hW (lv_sub hl [0, 1, 2, 3] rfl)
      · have h := h.2 c6
        refine lv_aload_n hx hb dX1_keepsAny_7 rfl (lv_at hl 0 rfl) ?_
        refine lv_iload_n hx hb dX1_keepsAny_8 rfl (lv_at hl 3 rfl) ?_
        refine g_cali (g_runV S hml hK hW (c_X1_isGone l D cA a u_2 y3_2 _ h _) kw_291 kw_222 kw_223 kw_21 kw_224 hd_X1_isGone ⟨rfl, rfl, Nat.le_of_ble_eq_true rfl, Nat.le_of_ble_eq_true rfl⟩ (q0 := 2) rfl rfl (As := [.int y3_2]) (rest := []) rfl rfl hl.1 (Nat.le_of_ble_eq_true rfl) dX1_keepsAny_9 ⟨Nat.zero_le _, Nat.zero_le _⟩) (Xw_adr cA a) hA hW (fun x8 u7 H locs h hW => ?_)
        refine lv_if_ne (tgt := 17) hx hb dX1_keepsAny_12 (by decide) (fun c9 => ?_) (fun c9 => ?_)
        · have h := h.2 c9
          obtain ⟨x10, ex10⟩ : ∃ z : Int32, z = y3_2 + 1 := ⟨_, rfl⟩
          have h := nm_use ex10 h
          refine lv_iinc (v := x10) (lv' := [(3, .int x10), (0, .ref (a 2)), (1, .int xp1), (2, .int xp2)]) hx hb dX1_keepsAny_17 hl (k := 3) rfl (by rw [ex10]; rfl) (by decide) rfl (fun ls hl => ?_)
          refine lv_goto (tgt := 2) hx hb dX1_keepsAny_20 (by decide) ?_
          exact ih x10 u7 _ _ _ h hW (lv_sub hl [1, 2, 3, 0] rfl)
        · have h := h.1 c9
          refine lv_iconst (v := 1) hx hb dX1_keepsAny_15 (by decide) ?_
          exact hret _ _ _ _ _ _ dX1_keepsAny_16 hW (Or.inr rfl) h
  obtain ⟨n_2, h⟩ := h
  refine loop_2 _ ?_ n_2 xp1 u _ _ _ h hW (lv_sub hl [1, 2, 3, 0] rfl)
  intro w3_2 v_2 H locs ls h hW hl
  refine lv_iconst (v := 0) hx hb dX1_keepsAny_23 (by decide) ?_
  exact hret _ _ _ _ _ _ dX1_keepsAny_24 hW (Or.inl rfl) h
def L_X2_moveUnneededTo_20 (f1_20 : Int32) (post : Mem → Prop) (K : Int32 → Mem → Prop) : Nat → Int32 → Mem → Prop
  | 0, _, _ => False
  | n_20 + 1, y3_20, u_20 => (y3_20 < 0 → (K y3_20 u_20)) ∧ (¬ y3_20 < 0 → (vp_in y3_20 400 ∧ nm (u_20 7 (y3_20 : Int32).toNatClampNeg) fun x5 => (x5 = (-1) → (vp_in y3_20 400 ∧ nm (u_20 4 (y3_20 : Int32).toNatClampNeg) fun x7 => vp_in y3_20 400 ∧ nm (u_20 3 (y3_20 : Int32).toNatClampNeg) fun x8 => vp_in x7 32 ∧ nm (u_20 8 (x7 : Int32).toNatClampNeg) fun x9 => w_X1_keepsAny x8 x9 u_20 (fun x11 u10 => (x11 = 0 → (vp_in y3_20 400 ∧ nm (g_ms u10 7 (y3_20 : Int32).toNatClampNeg f1_20) fun u16 => vp_in y3_20 400 ∧ nm (u16 3 (y3_20 : Int32).toNatClampNeg) fun x17 => vp_in x7 32 ∧ nm (g_ms u16 8 (x7 : Int32).toNatClampNeg x17) fun u18 => nm (y3_20 + (-1)) fun x19 => L_X2_moveUnneededTo_20 f1_20 post K n_20 x19 u18)) ∧ (¬ x11 = 0 → (vp_in y3_20 400 ∧ nm (u10 3 (y3_20 : Int32).toNatClampNeg) fun x13 => vp_in x7 32 ∧ nm (g_ms u10 8 (x7 : Int32).toNatClampNeg x13) fun u14 => nm (y3_20 + (-1)) fun x15 => L_X2_moveUnneededTo_20 f1_20 post K n_20 x15 u14))))) ∧ (¬ x5 = (-1) → (nm (y3_20 + (-1)) fun x20 => L_X2_moveUnneededTo_20 f1_20 post K n_20 x20 u_20))))
def w_X2_moveUnneededTo (xp1 : Int32) (u : Mem) (post : Mem → Prop) : Prop := nm ((u 18 0) + (1 : Int32) : Int32) fun x1 => w_J7_fill_53178 8 32 x1 u (fun u2 => nm ((u2 17 0) - (1 : Int32) : Int32) fun x3 => ∃ n_20, L_X2_moveUnneededTo_20 xp1 post (fun w3_20 v_20 => post v_20) n_20 x3 u2)
abbrev rm_X2_moveUnneededTo : Room := { frames := 2, cells := 0, slots := 0, locals := 44 }
theorem hd_X2_moveUnneededTo : yX2_moveUnneededTo.cls ≠ "java/lang/invoke/MethodHandle" ∧ yX2_moveUnneededTo.cls ≠ "java/lang/invoke/VarHandle" ∧ (parseMethodDescriptor yX2_moveUnneededTo.desc).map (fun d => d.parameters.length) = some 2 := by decide +kernel
set_option maxHeartbeats 4000000 in
set_option maxRecDepth 100000 in
theorem c_X2_moveUnneededTo (l : Launch) (D : va_G) (cA : ClassId) (a : Nat → Nat) (u : Mem) (xp1 : Int32) (post : Mem → Prop) (h : w_X2_moveUnneededTo xp1 u post) : g_Mv l yX2_moveUnneededTo (Cond.code yX2_moveUnneededTo cX2_moveUnneededTo 5 none :: tT) rm_X2_moveUnneededTo D cA (Xw cA a) u [.ref (a 1), .int xp1, .ref (a 2)] post := by
  refine g_enter_v (by decide) (Xw_adr cA a) (Nat.le_of_ble_eq_true rfl) ?_
  intro p e s m args below meth c A Q S hml hK hA hret ls hl hW
  have hx := S.1
  have hb := S.2.1
  have hl : lv_has ls 5 [(0, .ref (a 1)), (1, .int xp1), (2, .ref (a 2))] := hl
  skip
  refine lv_aload_n hx hb dX2_moveUnneededTo_0 rfl (lv_at hl 0 rfl) ?_
  refine xg_1_5 S hK hW kw_48 dX2_moveUnneededTo_1 ?_
  refine lv_aload_n hx hb dX2_moveUnneededTo_4 rfl (lv_at hl 2 rfl) ?_
  refine xg_2_2 S hK hW kw_78 dX2_moveUnneededTo_5 ?_
  refine lv_iconst (v := 1) hx hb dX2_moveUnneededTo_8 (by decide) ?_
  refine lv_iadd hx hb dX2_moveUnneededTo_9 ?_
  refine lv_topi (fun x1 ex1 => ?_)
  have h := nm_use ex1 h
  refine g_calv (g_runS S hml hK hW (c_J7_fill_53178_8 l D cA a u x1 _ h _) kw_266 kw_128 kw_24 kw_129 hd_J7_fill_53178 ⟨rfl, rfl, Nat.le_of_ble_eq_true rfl, Nat.le_of_ble_eq_true rfl⟩ (As := [.ref (a 13), .int x1]) (rest := []) rfl rfl hl.1 (Nat.le_of_ble_eq_true rfl) dX2_moveUnneededTo_10 ⟨Nat.zero_le _, Nat.zero_le _⟩) (Xw_adr cA a) hA hW (fun u2 H locs h hW => ?_)
  refine lv_aload_n hx hb dX2_moveUnneededTo_13 rfl (lv_at hl 0 rfl) ?_
  refine xg_1_6 S hK hW kw_49 dX2_moveUnneededTo_14 ?_
  refine lv_iconst (v := 1) hx hb dX2_moveUnneededTo_17 (by decide) ?_
  refine lv_isub hx hb dX2_moveUnneededTo_18 ?_
  refine lv_topi (fun x3 ex3 => ?_)
  have h := nm_use ex3 h
  refine lv_istore_n (lv' := [(3, .int x3), (0, .ref (a 1)), (1, .int xp1), (2, .ref (a 2))]) hx hb dX2_moveUnneededTo_19 rfl hl (by decide) rfl (fun ls hl => ?_)
  have loop_20 : ∀ (K : Int32 → Mem → Prop), (∀ (w3_20 : Int32) (v_20 : Mem) (H : Heap) (locs : List Loc) (ls : Array Slot), K w3_20 v_20 → g_W D (Xw cA a) A s.heap v_20 H locs → lv_has ls 5 [(0, .ref (a 1)), (1, .int xp1), (2, .ref (a 2)), (3, .int w3_20)] → W p l e rm_X2_moveUnneededTo s m args below meth c H locs 0 0 Q (F0 m 91 ls [])) → ∀ (n : Nat) (y3_20 : Int32) (u_20 : Mem) (H : Heap) (locs : List Loc) (ls : Array Slot), L_X2_moveUnneededTo_20 xp1 post K n y3_20 u_20 → g_W D (Xw cA a) A s.heap u_20 H locs → lv_has ls 5 [(0, .ref (a 1)), (1, .int xp1), (2, .ref (a 2)), (3, .int y3_20)] → W p l e rm_X2_moveUnneededTo s m args below meth c H locs 0 0 Q (F0 m 20 ls []) := by
    intro K hE n
    induction n with
    | zero => intro y3_20 u_20 H locs ls h; exact False.elim h
    | succ n ih =>
      intro y3_20 u_20 H locs ls h hW hl
      refine lv_iload_n hx hb dX2_moveUnneededTo_20 rfl (lv_at hl 3 rfl) ?_
      refine lv_if_lt (tgt := 91) hx hb dX2_moveUnneededTo_21 (by decide) (fun c21 => ?_) (fun c21 => ?_)
      · have h := h.1 c21
        exact hE y3_20 u_20 _ _ _ h hW (lv_sub hl [0, 1, 2, 3] rfl)
      · have h := h.2 c21
        refine lv_aload_n hx hb dX2_moveUnneededTo_24 rfl (lv_at hl 0 rfl) ?_
        refine xg_1_4 S hK hW kw_47 dX2_moveUnneededTo_25 ?_
        refine lv_iload_n hx hb dX2_moveUnneededTo_28 rfl (lv_at hl 3 rfl) ?_
        obtain ⟨hin, h⟩ := h
        refine xl_7 S hK hW hin dX2_moveUnneededTo_29 (fun x22 ex22 => ?_)
        have h := nm_use ex22 h
        refine lv_iconst (v := (-1)) hx hb dX2_moveUnneededTo_30 (by decide) ?_
        refine lv_icmp_eq (tgt := 37) hx hb dX2_moveUnneededTo_31 (by decide) (fun c23 => ?_) (fun c23 => ?_)
        · have h := h.1 c23
          refine lv_aload_n hx hb dX2_moveUnneededTo_37 rfl (lv_at hl 0 rfl) ?_
          refine xg_1_1 S hK hW kw_42 dX2_moveUnneededTo_38 ?_
          refine lv_iload_n hx hb dX2_moveUnneededTo_41 rfl (lv_at hl 3 rfl) ?_
          obtain ⟨hin, h⟩ := h
          refine xl_4 S hK hW hin dX2_moveUnneededTo_42 (fun x24 ex24 => ?_)
          have h := nm_use ex24 h
          refine lv_istore (lv' := [(4, .int x24), (0, .ref (a 1)), (1, .int xp1), (2, .ref (a 2)), (3, .int y3_20)]) hx hb dX2_moveUnneededTo_43 hl (by decide) rfl (fun ls hl => ?_)
          refine lv_aload_n hx hb dX2_moveUnneededTo_45 rfl (lv_at hl 3 rfl) ?_
          refine lv_aload_n hx hb dX2_moveUnneededTo_46 rfl (lv_at hl 1 rfl) ?_
          refine xg_1_0 S hK hW kw_40 dX2_moveUnneededTo_47 ?_
          refine lv_iload_n hx hb dX2_moveUnneededTo_50 rfl (lv_at hl 4 rfl) ?_
          obtain ⟨hin, h⟩ := h
          refine xl_3 S hK hW hin dX2_moveUnneededTo_51 (fun x25 ex25 => ?_)
          have h := nm_use ex25 h
          refine lv_aload_n hx hb dX2_moveUnneededTo_52 rfl (lv_at hl 1 rfl) ?_
          refine xg_1_5 S hK hW kw_48 dX2_moveUnneededTo_53 ?_
          refine lv_iload hx hb dX2_moveUnneededTo_56 (lv_at hl 0 rfl) ?_
          obtain ⟨hin, h⟩ := h
          refine xl_8 S hK hW hin dX2_moveUnneededTo_58 (fun x26 ex26 => ?_)
          have h := nm_use ex26 h
          refine g_cali (g_runV S hml hK hW (c_X1_keepsAny l D cA a u_20 x25 x26 _ h _) kw_300 kw_301 kw_302 kw_21 kw_303 hd_X1_keepsAny ⟨rfl, rfl, Nat.le_of_ble_eq_true rfl, Nat.le_of_ble_eq_true rfl⟩ (q0 := 2) rfl rfl (As := [.int x25, .int x26]) (rest := []) rfl rfl hl.1 (Nat.le_of_ble_eq_true rfl) dX2_moveUnneededTo_59 ⟨Nat.zero_le _, Nat.zero_le _⟩) (Xw_adr cA a) hA hW (fun x28 u27 H locs h hW => ?_)
          refine lv_if_ne (tgt := 72) hx hb dX2_moveUnneededTo_62 (by decide) (fun c29 => ?_) (fun c29 => ?_)
          · have h := h.2 c29
            refine lv_aload_n hx hb dX2_moveUnneededTo_72 rfl (lv_at hl 1 rfl) ?_
            refine xg_1_5 S hK hW kw_48 dX2_moveUnneededTo_73 ?_
            refine lv_iload hx hb dX2_moveUnneededTo_76 (lv_at hl 0 rfl) ?_
            refine lv_aload_n hx hb dX2_moveUnneededTo_78 rfl (lv_at hl 1 rfl) ?_
            refine xg_1_0 S hK hW kw_40 dX2_moveUnneededTo_79 ?_
            refine lv_iload_n hx hb dX2_moveUnneededTo_82 rfl (lv_at hl 4 rfl) ?_
            obtain ⟨hin, h⟩ := h
            refine xl_3 S hK hW hin dX2_moveUnneededTo_83 (fun x30 ex30 => ?_)
            have h := nm_use ex30 h
            obtain ⟨hin, h⟩ := h
            refine xs_8 S hK hW hin dX2_moveUnneededTo_84 (fun u31 H locs eu31 hW => ?_)
            have h := nm_use eu31 h
            obtain ⟨x32, ex32⟩ : ∃ z : Int32, z = y3_20 + (-1) := ⟨_, rfl⟩
            have h := nm_use ex32 h
            refine lv_iinc (v := x32) (lv' := [(3, .int x32), (4, .int x24), (0, .ref (a 1)), (1, .int xp1), (2, .ref (a 2))]) hx hb dX2_moveUnneededTo_85 hl (k := 4) rfl (by rw [ex32]; rfl) (by decide) rfl (fun ls hl => ?_)
            refine lv_goto (tgt := 20) hx hb dX2_moveUnneededTo_88 (by decide) ?_
            exact ih x32 u31 _ _ _ h hW (lv_sub hl [2, 3, 4, 0] rfl)
          · have h := h.1 c29
            refine lv_aload_n hx hb dX2_moveUnneededTo_65 rfl (lv_at hl 1 rfl) ?_
            refine xg_1_4 S hK hW kw_47 dX2_moveUnneededTo_66 ?_
            refine lv_iload_n hx hb dX2_moveUnneededTo_69 rfl (lv_at hl 4 rfl) ?_
            refine lv_iload_n hx hb dX2_moveUnneededTo_70 rfl (lv_at hl 2 rfl) ?_
            obtain ⟨hin, h⟩ := h
            refine xs_7 S hK hW hin dX2_moveUnneededTo_71 (fun u33 H locs eu33 hW => ?_)
            have h := nm_use eu33 h
            refine lv_aload_n hx hb dX2_moveUnneededTo_72 rfl (lv_at hl 1 rfl) ?_
            refine xg_1_5 S hK hW kw_48 dX2_moveUnneededTo_73 ?_
            refine lv_iload hx hb dX2_moveUnneededTo_76 (lv_at hl 0 rfl) ?_
            refine lv_aload_n hx hb dX2_moveUnneededTo_78 rfl (lv_at hl 1 rfl) ?_
            refine xg_1_0 S hK hW kw_40 dX2_moveUnneededTo_79 ?_
            refine lv_iload_n hx hb dX2_moveUnneededTo_82 rfl (lv_at hl 4 rfl) ?_
            obtain ⟨hin, h⟩ := h
            refine xl_3 S hK hW hin dX2_moveUnneededTo_83 (fun x34 ex34 => ?_)
            have h := nm_use ex34 h
            obtain ⟨hin, h⟩ := h
            refine xs_8 S hK hW hin dX2_moveUnneededTo_84 (fun u35 H locs eu35 hW => ?_)
            have h := nm_use eu35 h
            obtain ⟨x36, ex36⟩ : ∃ z : Int32, z = y3_20 + (-1) := ⟨_, rfl⟩
            have h := nm_use ex36 h
            refine lv_iinc (v := x36) (lv' := [(3, .int x36), (4, .int x24), (0, .ref (a 1)), (1, .int xp1), (2, .ref (a 2))]) hx hb dX2_moveUnneededTo_85 hl (k := 4) rfl (by rw [ex36]; rfl) (by decide) rfl (fun ls hl => ?_)
            refine lv_goto (tgt := 20) hx hb dX2_moveUnneededTo_88 (by decide) ?_
            exact ih x36 u35 _ _ _ h hW (lv_sub hl [2, 3, 4, 0] rfl)
        · have h := h.2 c23
          refine lv_goto (tgt := 85) hx hb dX2_moveUnneededTo_34 (by decide) ?_
          obtain ⟨x37, ex37⟩ : ∃ z : Int32, z = y3_20 + (-1) := ⟨_, rfl⟩
          have h := nm_use ex37 h
          refine lv_iinc (v := x37) (lv' := [(3, .int x37), (0, .ref (a 1)), (1, .int xp1), (2, .ref (a 2))]) hx hb dX2_moveUnneededTo_85 hl (k := 3) rfl (by rw [ex37]; rfl) (by decide) rfl (fun ls hl => ?_)
          refine lv_goto (tgt := 20) hx hb dX2_moveUnneededTo_88 (by decide) ?_
          exact ih x37 u_20 _ _ _ h hW (lv_sub hl [1, 2, 3, 0] rfl)
  obtain ⟨n_20, h⟩ := h
  refine loop_20 _ ?_ n_20 x3 u2 _ _ _ h hW (lv_sub hl [1, 2, 3, 0] rfl)
  intro w3_20 v_20 H locs ls h hW hl
  exact hret _ _ _ _ _ dX2_moveUnneededTo_91 hW h
def L_X1_relabel_2 (f1_2 : Int32) (f2_2 : Int32) (post : Mem → Prop) (K : Int32 → Mem → Prop) : Nat → Int32 → Mem → Prop
  | 0, _, _ => False
  | n_2 + 1, y3_2, u_2 => ((u_2 18 0) < y3_2 → (K y3_2 u_2)) ∧ (¬ (u_2 18 0) < y3_2 → (vp_in y3_2 201 ∧ nm (u_2 10 (y3_2 : Int32).toNatClampNeg) fun x2 => (x2 = f1_2 → (vp_in y3_2 201 ∧ nm (g_ms u_2 10 (y3_2 : Int32).toNatClampNeg f2_2) fun u5 => nm (y3_2 + 1) fun x6 => L_X1_relabel_2 f1_2 f2_2 post K n_2 x6 u5)) ∧ (¬ x2 = f1_2 → (nm (y3_2 + 1) fun x4 => L_X1_relabel_2 f1_2 f2_2 post K n_2 x4 u_2))))
def w_X1_relabel (xp1 : Int32) (xp2 : Int32) (u : Mem) (post : Mem → Prop) : Prop := ∃ n_2, L_X1_relabel_2 xp1 xp2 post (fun w3_2 v_2 => post v_2) n_2 0 u
abbrev rm_X1_relabel : Room := { frames := 0, cells := 0, slots := 0, locals := 0 }
theorem hd_X1_relabel : yX1_relabel.cls ≠ "java/lang/invoke/MethodHandle" ∧ yX1_relabel.cls ≠ "java/lang/invoke/VarHandle" ∧ (parseMethodDescriptor yX1_relabel.desc).map (fun d => d.parameters.length) = some 2 := by decide +kernel
set_option maxHeartbeats 4000000 in
set_option maxRecDepth 100000 in
theorem c_X1_relabel (l : Launch) (D : va_G) (cA : ClassId) (a : Nat → Nat) (u : Mem) (xp1 xp2 : Int32) (post : Mem → Prop) (h : w_X1_relabel xp1 xp2 u post) : g_Mv l yX1_relabel (Cond.code yX1_relabel cX1_relabel 4 none :: tT) rm_X1_relabel D cA (Xw cA a) u [.ref (a 2), .int xp1, .int xp2] post := by
  refine g_enter_v (by decide) (Xw_adr cA a) (Nat.le_of_ble_eq_true rfl) ?_
  intro p e s m args below meth c A Q S hml hK hA hret ls hl hW
  have hx := S.1
  have hb := S.2.1
  have hl : lv_has ls 4 [(0, .ref (a 2)), (1, .int xp1), (2, .int xp2)] := hl
  skip
  refine lv_iconst (v := 0) hx hb dX1_relabel_0 (by decide) ?_
  refine lv_istore_n (lv' := [(3, .int 0), (0, .ref (a 2)), (1, .int xp1), (2, .int xp2)]) hx hb dX1_relabel_1 rfl hl (by decide) rfl (fun ls hl => ?_)
  have loop_2 : ∀ (K : Int32 → Mem → Prop), (∀ (w3_2 : Int32) (v_2 : Mem) (H : Heap) (locs : List Loc) (ls : Array Slot), K w3_2 v_2 → g_W D (Xw cA a) A s.heap v_2 H locs → lv_has ls 4 [(0, .ref (a 2)), (1, .int xp1), (2, .int xp2), (3, .int w3_2)] → W p l e rm_X1_relabel s m args below meth c H locs 0 0 Q (F0 m 33 ls [])) → ∀ (n : Nat) (y3_2 : Int32) (u_2 : Mem) (H : Heap) (locs : List Loc) (ls : Array Slot), L_X1_relabel_2 xp1 xp2 post K n y3_2 u_2 → g_W D (Xw cA a) A s.heap u_2 H locs → lv_has ls 4 [(0, .ref (a 2)), (1, .int xp1), (2, .int xp2), (3, .int y3_2)] → W p l e rm_X1_relabel s m args below meth c H locs 0 0 Q (F0 m 2 ls []) := by
    intro K hE n
    induction n with
    | zero => intro y3_2 u_2 H locs ls h; exact False.elim h
    | succ n ih =>
      intro y3_2 u_2 H locs ls h hW hl
      refine lv_iload_n hx hb dX1_relabel_2 rfl (lv_at hl 3 rfl) ?_
      refine lv_aload_n hx hb dX1_relabel_3 rfl (lv_at hl 0 rfl) ?_
      refine xg_2_2 S hK hW kw_76 dX1_relabel_4 ?_
      refine lv_icmp_gt (tgt := 33) hx hb dX1_relabel_7 (by decide) (fun c7 => ?_) (fun c7 => ?_)
      · have h := h.1 c7
        exact hE y3_2 u_2 _ _ _ h hW (lv_sub hl [0, 1, 2, 3] rfl)
      · have h := h.2 c7
        refine lv_aload_n hx hb dX1_relabel_10 rfl (lv_at hl 0 rfl) ?_
        refine xg_2_1 S hK hW kw_75 dX1_relabel_11 ?_
        refine lv_iload_n hx hb dX1_relabel_14 rfl (lv_at hl 3 rfl) ?_
        obtain ⟨hin, h⟩ := h
        refine xl_10 S hK hW hin dX1_relabel_15 (fun x8 ex8 => ?_)
        have h := nm_use ex8 h
        refine lv_iload_n hx hb dX1_relabel_16 rfl (lv_at hl 1 rfl) ?_
        refine lv_icmp_ne (tgt := 27) hx hb dX1_relabel_17 (by decide) (fun c9 => ?_) (fun c9 => ?_)
        · have h := h.2 c9
          obtain ⟨x10, ex10⟩ : ∃ z : Int32, z = y3_2 + 1 := ⟨_, rfl⟩
          have h := nm_use ex10 h
          refine lv_iinc (v := x10) (lv' := [(3, .int x10), (0, .ref (a 2)), (1, .int xp1), (2, .int xp2)]) hx hb dX1_relabel_27 hl (k := 3) rfl (by rw [ex10]; rfl) (by decide) rfl (fun ls hl => ?_)
          refine lv_goto (tgt := 2) hx hb dX1_relabel_30 (by decide) ?_
          exact ih x10 u_2 _ _ _ h hW (lv_sub hl [1, 2, 3, 0] rfl)
        · have h := h.1 c9
          refine lv_aload_n hx hb dX1_relabel_20 rfl (lv_at hl 0 rfl) ?_
          refine xg_2_1 S hK hW kw_75 dX1_relabel_21 ?_
          refine lv_iload_n hx hb dX1_relabel_24 rfl (lv_at hl 3 rfl) ?_
          refine lv_iload_n hx hb dX1_relabel_25 rfl (lv_at hl 2 rfl) ?_
          obtain ⟨hin, h⟩ := h
          refine xs_10 S hK hW hin dX1_relabel_26 (fun u11 H locs eu11 hW => ?_)
          have h := nm_use eu11 h
          obtain ⟨x12, ex12⟩ : ∃ z : Int32, z = y3_2 + 1 := ⟨_, rfl⟩
          have h := nm_use ex12 h
          refine lv_iinc (v := x12) (lv' := [(3, .int x12), (0, .ref (a 2)), (1, .int xp1), (2, .int xp2)]) hx hb dX1_relabel_27 hl (k := 3) rfl (by rw [ex12]; rfl) (by decide) rfl (fun ls hl => ?_)
          refine lv_goto (tgt := 2) hx hb dX1_relabel_30 (by decide) ?_
          exact ih x12 u11 _ _ _ h hW (lv_sub hl [1, 2, 3, 0] rfl)
  obtain ⟨n_2, h⟩ := h
  refine loop_2 _ ?_ n_2 0 u _ _ _ h hW (lv_sub hl [1, 2, 3, 0] rfl)
  intro w3_2 v_2 H locs ls h hW hl
  exact hret _ _ _ _ _ dX1_relabel_33 hW h
def L_X2_takeFrom_4 (f1_4 : Int32) (post : Int32 → Mem → Prop) (K : Int32 → Int32 → Mem → Prop) : Nat → Int32 → Int32 → Mem → Prop
  | 0, _, _, _ => False
  | n_4 + 1, y2_4, y3_4, u_4 => ((u_4 17 0) ≤ y3_4 → (K y2_4 y3_4 u_4)) ∧ (¬ (u_4 17 0) ≤ y3_4 → (vp_in y3_4 400 ∧ nm (u_4 7 (y3_4 : Int32).toNatClampNeg) fun x2 => (x2 = f1_4 → (vp_in y3_4 400 ∧ nm (g_ms u_4 7 (y3_4 : Int32).toNatClampNeg (-1)) fun u4 => nm (y2_4 + 1) fun x5 => nm (y3_4 + 1) fun x6 => L_X2_takeFrom_4 f1_4 post K n_4 x5 x6 u4)) ∧ (¬ x2 = f1_4 → (nm (y3_4 + 1) fun x7 => L_X2_takeFrom_4 f1_4 post K n_4 y2_4 x7 u_4))))
def w_X2_takeFrom (xp1 : Int32) (u : Mem) (post : Int32 → Mem → Prop) : Prop := ∃ n_4, L_X2_takeFrom_4 xp1 post (fun w2_4 w3_4 v_4 => post w2_4 v_4) n_4 0 0 u
abbrev rm_X2_takeFrom : Room := { frames := 0, cells := 0, slots := 0, locals := 0 }
theorem hd_X2_takeFrom : yX2_takeFrom.cls ≠ "java/lang/invoke/MethodHandle" ∧ yX2_takeFrom.cls ≠ "java/lang/invoke/VarHandle" ∧ (parseMethodDescriptor yX2_takeFrom.desc).map (fun d => d.parameters.length) = some 1 := by decide +kernel
set_option maxHeartbeats 4000000 in
set_option maxRecDepth 100000 in
theorem c_X2_takeFrom (l : Launch) (D : va_G) (cA : ClassId) (a : Nat → Nat) (u : Mem) (xp1 : Int32) (post : Int32 → Mem → Prop) (h : w_X2_takeFrom xp1 u post) : g_Mi l yX2_takeFrom (Cond.code yX2_takeFrom cX2_takeFrom 4 (some .int) :: tT) rm_X2_takeFrom D cA (Xw cA a) u [.ref (a 1), .int xp1] post := by
  refine g_enter_i (by decide) (Xw_adr cA a) (Nat.le_of_ble_eq_true rfl) ?_
  intro p e s m args below meth c A Q S hml hK hA hret ls hl hW
  have hx := S.1
  have hb := S.2.1
  have hl : lv_has ls 4 [(0, .ref (a 1)), (1, .int xp1)] := hl
  skip
  refine lv_iconst (v := 0) hx hb dX2_takeFrom_0 (by decide) ?_
  refine lv_istore_n (lv' := [(2, .int 0), (0, .ref (a 1)), (1, .int xp1)]) hx hb dX2_takeFrom_1 rfl hl (by decide) rfl (fun ls hl => ?_)
  refine lv_iconst (v := 0) hx hb dX2_takeFrom_2 (by decide) ?_
  refine lv_istore_n (lv' := [(3, .int 0), (2, .int 0), (0, .ref (a 1)), (1, .int xp1)]) hx hb dX2_takeFrom_3 rfl hl (by decide) rfl (fun ls hl => ?_)
  have loop_4 : ∀ (K : Int32 → Int32 → Mem → Prop), (∀ (w2_4 w3_4 : Int32) (v_4 : Mem) (H : Heap) (locs : List Loc) (ls : Array Slot), K w2_4 w3_4 v_4 → g_W D (Xw cA a) A s.heap v_4 H locs → lv_has ls 4 [(0, .ref (a 1)), (1, .int xp1), (2, .int w2_4), (3, .int w3_4)] → W p l e rm_X2_takeFrom s m args below meth c H locs 0 0 Q (F0 m 41 ls [])) → ∀ (n : Nat) (y2_4 y3_4 : Int32) (u_4 : Mem) (H : Heap) (locs : List Loc) (ls : Array Slot), L_X2_takeFrom_4 xp1 post K n y2_4 y3_4 u_4 → g_W D (Xw cA a) A s.heap u_4 H locs → lv_has ls 4 [(0, .ref (a 1)), (1, .int xp1), (2, .int y2_4), (3, .int y3_4)] → W p l e rm_X2_takeFrom s m args below meth c H locs 0 0 Q (F0 m 4 ls []) := by
    intro K hE n
    induction n with
    | zero => intro y2_4 y3_4 u_4 H locs ls h; exact False.elim h
    | succ n ih =>
      intro y2_4 y3_4 u_4 H locs ls h hW hl
      refine lv_iload_n hx hb dX2_takeFrom_4 rfl (lv_at hl 3 rfl) ?_
      refine lv_aload_n hx hb dX2_takeFrom_5 rfl (lv_at hl 0 rfl) ?_
      refine xg_1_6 S hK hW kw_49 dX2_takeFrom_6 ?_
      refine lv_icmp_ge (tgt := 41) hx hb dX2_takeFrom_9 (by decide) (fun c8 => ?_) (fun c8 => ?_)
      · have h := h.1 c8
        exact hE y2_4 y3_4 u_4 _ _ _ h hW (lv_sub hl [0, 1, 2, 3] rfl)
      · have h := h.2 c8
        refine lv_aload_n hx hb dX2_takeFrom_12 rfl (lv_at hl 0 rfl) ?_
        refine xg_1_4 S hK hW kw_47 dX2_takeFrom_13 ?_
        refine lv_iload_n hx hb dX2_takeFrom_16 rfl (lv_at hl 3 rfl) ?_
        obtain ⟨hin, h⟩ := h
        refine xl_7 S hK hW hin dX2_takeFrom_17 (fun x9 ex9 => ?_)
        have h := nm_use ex9 h
        refine lv_iload_n hx hb dX2_takeFrom_18 rfl (lv_at hl 1 rfl) ?_
        refine lv_icmp_eq (tgt := 25) hx hb dX2_takeFrom_19 (by decide) (fun c10 => ?_) (fun c10 => ?_)
        · have h := h.1 c10
          refine lv_aload_n hx hb dX2_takeFrom_25 rfl (lv_at hl 0 rfl) ?_
          refine xg_1_4 S hK hW kw_47 dX2_takeFrom_26 ?_
          refine lv_iload_n hx hb dX2_takeFrom_29 rfl (lv_at hl 3 rfl) ?_
          refine lv_iconst (v := (-1)) hx hb dX2_takeFrom_30 (by decide) ?_
          obtain ⟨hin, h⟩ := h
          refine xs_7 S hK hW hin dX2_takeFrom_31 (fun u11 H locs eu11 hW => ?_)
          have h := nm_use eu11 h
          obtain ⟨x12, ex12⟩ : ∃ z : Int32, z = y2_4 + 1 := ⟨_, rfl⟩
          have h := nm_use ex12 h
          refine lv_iinc (v := x12) (lv' := [(2, .int x12), (0, .ref (a 1)), (1, .int xp1), (3, .int y3_4)]) hx hb dX2_takeFrom_32 hl (k := 2) rfl (by rw [ex12]; rfl) (by decide) rfl (fun ls hl => ?_)
          obtain ⟨x13, ex13⟩ : ∃ z : Int32, z = y3_4 + 1 := ⟨_, rfl⟩
          have h := nm_use ex13 h
          refine lv_iinc (v := x13) (lv' := [(3, .int x13), (2, .int x12), (0, .ref (a 1)), (1, .int xp1)]) hx hb dX2_takeFrom_35 hl (k := 3) rfl (by rw [ex13]; rfl) (by decide) rfl (fun ls hl => ?_)
          refine lv_goto (tgt := 4) hx hb dX2_takeFrom_38 (by decide) ?_
          exact ih x12 x13 u11 _ _ _ h hW (lv_sub hl [2, 3, 1, 0] rfl)
        · have h := h.2 c10
          refine lv_goto (tgt := 35) hx hb dX2_takeFrom_22 (by decide) ?_
          obtain ⟨x14, ex14⟩ : ∃ z : Int32, z = y3_4 + 1 := ⟨_, rfl⟩
          have h := nm_use ex14 h
          refine lv_iinc (v := x14) (lv' := [(3, .int x14), (0, .ref (a 1)), (1, .int xp1), (2, .int y2_4)]) hx hb dX2_takeFrom_35 hl (k := 3) rfl (by rw [ex14]; rfl) (by decide) rfl (fun ls hl => ?_)
          refine lv_goto (tgt := 4) hx hb dX2_takeFrom_38 (by decide) ?_
          exact ih y2_4 x14 u_4 _ _ _ h hW (lv_sub hl [1, 2, 3, 0] rfl)
  obtain ⟨n_4, h⟩ := h
  refine loop_4 _ ?_ n_4 0 0 u _ _ _ h hW (lv_sub hl [2, 3, 1, 0] rfl)
  intro w2_4 w3_4 v_4 H locs ls h hW hl
  refine lv_iload_n hx hb dX2_takeFrom_41 rfl (lv_at hl 2 rfl) ?_
  exact hret _ _ _ _ _ _ dX2_takeFrom_42 hW h
def w_X2_copyRow (xp1 : Int32) (xp2 : Int32) (u : Mem) (post : Mem → Prop) : Prop := vp_in xp1 400 ∧ nm (u 3 (xp1 : Int32).toNatClampNeg) fun x1 => vp_in xp2 400 ∧ nm (g_ms u 3 (xp2 : Int32).toNatClampNeg x1) fun u2 => vp_in xp1 400 ∧ nm (u2 4 (xp1 : Int32).toNatClampNeg) fun x3 => vp_in xp2 400 ∧ nm (g_ms u2 4 (xp2 : Int32).toNatClampNeg x3) fun u4 => vp_in xp1 400 ∧ nm (u4 5 (xp1 : Int32).toNatClampNeg) fun x5 => vp_in xp2 400 ∧ nm (g_ms u4 5 (xp2 : Int32).toNatClampNeg x5) fun u6 => vp_in xp1 400 ∧ nm (u6 6 (xp1 : Int32).toNatClampNeg) fun x7 => vp_in xp2 400 ∧ nm (g_ms u6 6 (xp2 : Int32).toNatClampNeg x7) fun u8 => vp_in xp1 400 ∧ nm (u8 7 (xp1 : Int32).toNatClampNeg) fun x9 => vp_in xp2 400 ∧ nm (g_ms u8 7 (xp2 : Int32).toNatClampNeg x9) fun u10 => post u10
abbrev rm_X2_copyRow : Room := { frames := 0, cells := 0, slots := 0, locals := 0 }
theorem hd_X2_copyRow : yX2_copyRow.cls ≠ "java/lang/invoke/MethodHandle" ∧ yX2_copyRow.cls ≠ "java/lang/invoke/VarHandle" ∧ (parseMethodDescriptor yX2_copyRow.desc).map (fun d => d.parameters.length) = some 2 := by decide +kernel
set_option maxHeartbeats 4000000 in
set_option maxRecDepth 100000 in
theorem c_X2_copyRow (l : Launch) (D : va_G) (cA : ClassId) (a : Nat → Nat) (u : Mem) (xp1 xp2 : Int32) (post : Mem → Prop) (h : w_X2_copyRow xp1 xp2 u post) : g_Mv l yX2_copyRow (Cond.code yX2_copyRow cX2_copyRow 3 none :: tT) rm_X2_copyRow D cA (Xw cA a) u [.ref (a 1), .int xp1, .int xp2] post := by
  refine g_enter_v (by decide) (Xw_adr cA a) (Nat.le_of_ble_eq_true rfl) ?_
  intro p e s m args below meth c A Q S hml hK hA hret ls hl hW
  have hx := S.1
  have hb := S.2.1
  have hl : lv_has ls 3 [(0, .ref (a 1)), (1, .int xp1), (2, .int xp2)] := hl
  skip
  refine lv_aload_n hx hb dX2_copyRow_0 rfl (lv_at hl 0 rfl) ?_
  refine xg_1_0 S hK hW kw_40 dX2_copyRow_1 ?_
  refine lv_iload_n hx hb dX2_copyRow_4 rfl (lv_at hl 2 rfl) ?_
  refine lv_aload_n hx hb dX2_copyRow_5 rfl (lv_at hl 0 rfl) ?_
  refine xg_1_0 S hK hW kw_40 dX2_copyRow_6 ?_
  refine lv_iload_n hx hb dX2_copyRow_9 rfl (lv_at hl 1 rfl) ?_
  obtain ⟨hin, h⟩ := h
  refine xl_3 S hK hW hin dX2_copyRow_10 (fun x1 ex1 => ?_)
  have h := nm_use ex1 h
  obtain ⟨hin, h⟩ := h
  refine xs_3 S hK hW hin dX2_copyRow_11 (fun u2 H locs eu2 hW => ?_)
  have h := nm_use eu2 h
  refine lv_aload_n hx hb dX2_copyRow_12 rfl (lv_at hl 0 rfl) ?_
  refine xg_1_1 S hK hW kw_42 dX2_copyRow_13 ?_
  refine lv_iload_n hx hb dX2_copyRow_16 rfl (lv_at hl 2 rfl) ?_
  refine lv_aload_n hx hb dX2_copyRow_17 rfl (lv_at hl 0 rfl) ?_
  refine xg_1_1 S hK hW kw_42 dX2_copyRow_18 ?_
  refine lv_iload_n hx hb dX2_copyRow_21 rfl (lv_at hl 1 rfl) ?_
  obtain ⟨hin, h⟩ := h
  refine xl_4 S hK hW hin dX2_copyRow_22 (fun x3 ex3 => ?_)
  have h := nm_use ex3 h
  obtain ⟨hin, h⟩ := h
  refine xs_4 S hK hW hin dX2_copyRow_23 (fun u4 H locs eu4 hW => ?_)
  have h := nm_use eu4 h
  refine lv_aload_n hx hb dX2_copyRow_24 rfl (lv_at hl 0 rfl) ?_
  refine xg_1_2 S hK hW kw_43 dX2_copyRow_25 ?_
  refine lv_iload_n hx hb dX2_copyRow_28 rfl (lv_at hl 2 rfl) ?_
  refine lv_aload_n hx hb dX2_copyRow_29 rfl (lv_at hl 0 rfl) ?_
  refine xg_1_2 S hK hW kw_43 dX2_copyRow_30 ?_
  refine lv_iload_n hx hb dX2_copyRow_33 rfl (lv_at hl 1 rfl) ?_
  obtain ⟨hin, h⟩ := h
  refine xl_5 S hK hW hin dX2_copyRow_34 (fun x5 ex5 => ?_)
  have h := nm_use ex5 h
  obtain ⟨hin, h⟩ := h
  refine xs_5 S hK hW hin dX2_copyRow_35 (fun u6 H locs eu6 hW => ?_)
  have h := nm_use eu6 h
  refine lv_aload_n hx hb dX2_copyRow_36 rfl (lv_at hl 0 rfl) ?_
  refine xg_1_3 S hK hW kw_45 dX2_copyRow_37 ?_
  refine lv_iload_n hx hb dX2_copyRow_40 rfl (lv_at hl 2 rfl) ?_
  refine lv_aload_n hx hb dX2_copyRow_41 rfl (lv_at hl 0 rfl) ?_
  refine xg_1_3 S hK hW kw_45 dX2_copyRow_42 ?_
  refine lv_iload_n hx hb dX2_copyRow_45 rfl (lv_at hl 1 rfl) ?_
  obtain ⟨hin, h⟩ := h
  refine xl_6 S hK hW hin dX2_copyRow_46 (fun x7 ex7 => ?_)
  have h := nm_use ex7 h
  obtain ⟨hin, h⟩ := h
  refine xs_6 S hK hW hin dX2_copyRow_47 (fun u8 H locs eu8 hW => ?_)
  have h := nm_use eu8 h
  refine lv_aload_n hx hb dX2_copyRow_48 rfl (lv_at hl 0 rfl) ?_
  refine xg_1_4 S hK hW kw_47 dX2_copyRow_49 ?_
  refine lv_iload_n hx hb dX2_copyRow_52 rfl (lv_at hl 2 rfl) ?_
  refine lv_aload_n hx hb dX2_copyRow_53 rfl (lv_at hl 0 rfl) ?_
  refine xg_1_4 S hK hW kw_47 dX2_copyRow_54 ?_
  refine lv_iload_n hx hb dX2_copyRow_57 rfl (lv_at hl 1 rfl) ?_
  obtain ⟨hin, h⟩ := h
  refine xl_7 S hK hW hin dX2_copyRow_58 (fun x9 ex9 => ?_)
  have h := nm_use ex9 h
  obtain ⟨hin, h⟩ := h
  refine xs_7 S hK hW hin dX2_copyRow_59 (fun u10 H locs eu10 hW => ?_)
  have h := nm_use eu10 h
  exact hret _ _ _ _ _ dX2_copyRow_60 hW h
def L_X2_removeArchived_4  (post : Int32 → Mem → Prop) (K : Int32 → Int32 → Mem → Prop) : Nat → Int32 → Int32 → Mem → Prop
  | 0, _, _, _ => False
  | n_4 + 1, y1_4, y2_4, u_4 => ((u_4 17 0) ≤ y2_4 → (K y1_4 y2_4 u_4)) ∧ (¬ (u_4 17 0) ≤ y2_4 → (vp_in y2_4 400 ∧ nm (u_4 7 (y2_4 : Int32).toNatClampNeg) fun x2 => (x2 = (-1) → (w_X2_copyRow y2_4 y1_4 u_4 (fun u4 => nm (y1_4 + 1) fun x5 => nm (y2_4 + 1) fun x6 => L_X2_removeArchived_4  post K n_4 x5 x6 u4))) ∧ (¬ x2 = (-1) → (nm (y2_4 + 1) fun x7 => L_X2_removeArchived_4  post K n_4 y1_4 x7 u_4))))
def w_X2_removeArchived  (u : Mem) (post : Int32 → Mem → Prop) : Prop := ∃ n_4, L_X2_removeArchived_4  post (fun w1_4 w2_4 v_4 => nm ((v_4 17 0) - w1_4 : Int32) fun x8 => nm (g_ms v_4 17 0 w1_4) fun u9 => post x8 u9) n_4 0 0 u
abbrev rm_X2_removeArchived : Room := { frames := 1, cells := 0, slots := 0, locals := 22 }
theorem hd_X2_removeArchived : yX2_removeArchived.cls ≠ "java/lang/invoke/MethodHandle" ∧ yX2_removeArchived.cls ≠ "java/lang/invoke/VarHandle" ∧ (parseMethodDescriptor yX2_removeArchived.desc).map (fun d => d.parameters.length) = some 0 := by decide +kernel
set_option maxHeartbeats 4000000 in
set_option maxRecDepth 100000 in
theorem c_X2_removeArchived (l : Launch) (D : va_G) (cA : ClassId) (a : Nat → Nat) (u : Mem) (post : Int32 → Mem → Prop) (h : w_X2_removeArchived  u post) : g_Mi l yX2_removeArchived (Cond.code yX2_removeArchived cX2_removeArchived 3 (some .int) :: tT) rm_X2_removeArchived D cA (Xw cA a) u [.ref (a 1)] post := by
  refine g_enter_i (by decide) (Xw_adr cA a) (Nat.le_of_ble_eq_true rfl) ?_
  intro p e s m args below meth c A Q S hml hK hA hret ls hl hW
  have hx := S.1
  have hb := S.2.1
  have hl : lv_has ls 3 [(0, .ref (a 1))] := hl
  skip
  refine lv_iconst (v := 0) hx hb dX2_removeArchived_0 (by decide) ?_
  refine lv_istore_n (lv' := [(1, .int 0), (0, .ref (a 1))]) hx hb dX2_removeArchived_1 rfl hl (by decide) rfl (fun ls hl => ?_)
  refine lv_iconst (v := 0) hx hb dX2_removeArchived_2 (by decide) ?_
  refine lv_istore_n (lv' := [(2, .int 0), (1, .int 0), (0, .ref (a 1))]) hx hb dX2_removeArchived_3 rfl hl (by decide) rfl (fun ls hl => ?_)
  have loop_4 : ∀ (K : Int32 → Int32 → Mem → Prop), (∀ (w1_4 w2_4 : Int32) (v_4 : Mem) (H : Heap) (locs : List Loc) (ls : Array Slot), K w1_4 w2_4 v_4 → g_W D (Xw cA a) A s.heap v_4 H locs → lv_has ls 3 [(0, .ref (a 1)), (1, .int w1_4), (2, .int w2_4)] → W p l e rm_X2_removeArchived s m args below meth c H locs 0 0 Q (F0 m 40 ls [])) → ∀ (n : Nat) (y1_4 y2_4 : Int32) (u_4 : Mem) (H : Heap) (locs : List Loc) (ls : Array Slot), L_X2_removeArchived_4  post K n y1_4 y2_4 u_4 → g_W D (Xw cA a) A s.heap u_4 H locs → lv_has ls 3 [(0, .ref (a 1)), (1, .int y1_4), (2, .int y2_4)] → W p l e rm_X2_removeArchived s m args below meth c H locs 0 0 Q (F0 m 4 ls []) := by
    intro K hE n
    induction n with
    | zero => intro y1_4 y2_4 u_4 H locs ls h; exact False.elim h
    | succ n ih =>
      intro y1_4 y2_4 u_4 H locs ls h hW hl
      refine lv_iload_n hx hb dX2_removeArchived_4 rfl (lv_at hl 2 rfl) ?_
      refine lv_aload_n hx hb dX2_removeArchived_5 rfl (lv_at hl 0 rfl) ?_
      refine xg_1_6 S hK hW kw_49 dX2_removeArchived_6 ?_
      refine lv_icmp_ge (tgt := 40) hx hb dX2_removeArchived_9 (by decide) (fun c10 => ?_) (fun c10 => ?_)
      · have h := h.1 c10
        exact hE y1_4 y2_4 u_4 _ _ _ h hW (lv_sub hl [0, 1, 2] rfl)
      · have h := h.2 c10
        refine lv_aload_n hx hb dX2_removeArchived_12 rfl (lv_at hl 0 rfl) ?_
        refine xg_1_4 S hK hW kw_47 dX2_removeArchived_13 ?_
        refine lv_iload_n hx hb dX2_removeArchived_16 rfl (lv_at hl 2 rfl) ?_
        obtain ⟨hin, h⟩ := h
        refine xl_7 S hK hW hin dX2_removeArchived_17 (fun x11 ex11 => ?_)
        have h := nm_use ex11 h
        refine lv_iconst (v := (-1)) hx hb dX2_removeArchived_18 (by decide) ?_
        refine lv_icmp_eq (tgt := 25) hx hb dX2_removeArchived_19 (by decide) (fun c12 => ?_) (fun c12 => ?_)
        · have h := h.1 c12
          refine lv_aload_n hx hb dX2_removeArchived_25 rfl (lv_at hl 0 rfl) ?_
          refine lv_iload_n hx hb dX2_removeArchived_26 rfl (lv_at hl 2 rfl) ?_
          refine lv_iload_n hx hb dX2_removeArchived_27 rfl (lv_at hl 1 rfl) ?_
          refine g_calv (g_runV S hml hK hW (c_X2_copyRow l D cA a u_4 y2_4 y1_4 _ h _) kw_328 kw_330 kw_4 kw_20 kw_331 hd_X2_copyRow ⟨rfl, rfl, Nat.le_of_ble_eq_true rfl, Nat.le_of_ble_eq_true rfl⟩ (q0 := 1) rfl rfl (As := [.int y2_4, .int y1_4]) (rest := []) rfl rfl hl.1 (Nat.le_of_ble_eq_true rfl) dX2_removeArchived_28 ⟨Nat.zero_le _, Nat.zero_le _⟩) (Xw_adr cA a) hA hW (fun u13 H locs h hW => ?_)
          obtain ⟨x14, ex14⟩ : ∃ z : Int32, z = y1_4 + 1 := ⟨_, rfl⟩
          have h := nm_use ex14 h
          refine lv_iinc (v := x14) (lv' := [(1, .int x14), (0, .ref (a 1)), (2, .int y2_4)]) hx hb dX2_removeArchived_31 hl (k := 1) rfl (by rw [ex14]; rfl) (by decide) rfl (fun ls hl => ?_)
          obtain ⟨x15, ex15⟩ : ∃ z : Int32, z = y2_4 + 1 := ⟨_, rfl⟩
          have h := nm_use ex15 h
          refine lv_iinc (v := x15) (lv' := [(2, .int x15), (1, .int x14), (0, .ref (a 1))]) hx hb dX2_removeArchived_34 hl (k := 2) rfl (by rw [ex15]; rfl) (by decide) rfl (fun ls hl => ?_)
          refine lv_goto (tgt := 4) hx hb dX2_removeArchived_37 (by decide) ?_
          exact ih x14 x15 u13 _ _ _ h hW (lv_sub hl [2, 1, 0] rfl)
        · have h := h.2 c12
          refine lv_goto (tgt := 34) hx hb dX2_removeArchived_22 (by decide) ?_
          obtain ⟨x16, ex16⟩ : ∃ z : Int32, z = y2_4 + 1 := ⟨_, rfl⟩
          have h := nm_use ex16 h
          refine lv_iinc (v := x16) (lv' := [(2, .int x16), (0, .ref (a 1)), (1, .int y1_4)]) hx hb dX2_removeArchived_34 hl (k := 2) rfl (by rw [ex16]; rfl) (by decide) rfl (fun ls hl => ?_)
          refine lv_goto (tgt := 4) hx hb dX2_removeArchived_37 (by decide) ?_
          exact ih y1_4 x16 u_4 _ _ _ h hW (lv_sub hl [1, 2, 0] rfl)
  obtain ⟨n_4, h⟩ := h
  refine loop_4 _ ?_ n_4 0 0 u _ _ _ h hW (lv_sub hl [2, 1, 0] rfl)
  intro w1_4 w2_4 v_4 H locs ls h hW hl
  refine lv_aload_n hx hb dX2_removeArchived_40 rfl (lv_at hl 0 rfl) ?_
  refine xg_1_6 S hK hW kw_49 dX2_removeArchived_41 ?_
  refine lv_iload_n hx hb dX2_removeArchived_44 rfl (lv_at hl 1 rfl) ?_
  refine lv_isub hx hb dX2_removeArchived_45 ?_
  refine lv_topi (fun x8 ex8 => ?_)
  have h := nm_use ex8 h
  refine lv_istore_n (lv' := [(2, .int x8), (0, .ref (a 1)), (1, .int w1_4)]) hx hb dX2_removeArchived_46 rfl hl (by decide) rfl (fun ls hl => ?_)
  refine lv_aload_n hx hb dX2_removeArchived_47 rfl (lv_at hl 1 rfl) ?_
  refine lv_iload_n hx hb dX2_removeArchived_48 rfl (lv_at hl 2 rfl) ?_
  refine xp_17 S hK hW kw_49 dX2_removeArchived_49 (fun u9 H locs eu9 hW => ?_)
  have h := nm_use eu9 h
  refine lv_iload_n hx hb dX2_removeArchived_52 rfl (lv_at hl 0 rfl) ?_
  exact hret _ _ _ _ _ _ dX2_removeArchived_53 hW h
def L_X1_countIn_4 (f1_4 : Int32) (post : Int32 → Mem → Prop) (K : Int32 → Int32 → Mem → Prop) : Nat → Int32 → Int32 → Mem → Prop
  | 0, _, _, _ => False
  | n_4 + 1, y2_4, y3_4, u_4 => ((u_4 18 0) < y3_4 → (K y2_4 y3_4 u_4)) ∧ (¬ (u_4 18 0) < y3_4 → (vp_in y3_4 201 ∧ nm (u_4 10 (y3_4 : Int32).toNatClampNeg) fun x2 => (x2 = f1_4 → (nm (y2_4 + 1) fun x5 => nm (y3_4 + 1) fun x6 => L_X1_countIn_4 f1_4 post K n_4 x5 x6 u_4)) ∧ (¬ x2 = f1_4 → (nm (y3_4 + 1) fun x4 => L_X1_countIn_4 f1_4 post K n_4 y2_4 x4 u_4))))
def w_X1_countIn (xp1 : Int32) (u : Mem) (post : Int32 → Mem → Prop) : Prop := ∃ n_4, L_X1_countIn_4 xp1 post (fun w2_4 w3_4 v_4 => post w2_4 v_4) n_4 0 0 u
abbrev rm_X1_countIn : Room := { frames := 0, cells := 0, slots := 0, locals := 0 }
theorem hd_X1_countIn : yX1_countIn.cls ≠ "java/lang/invoke/MethodHandle" ∧ yX1_countIn.cls ≠ "java/lang/invoke/VarHandle" ∧ (parseMethodDescriptor yX1_countIn.desc).map (fun d => d.parameters.length) = some 1 := by decide +kernel
set_option maxHeartbeats 4000000 in
set_option maxRecDepth 100000 in
theorem c_X1_countIn (l : Launch) (D : va_G) (cA : ClassId) (a : Nat → Nat) (u : Mem) (xp1 : Int32) (post : Int32 → Mem → Prop) (h : w_X1_countIn xp1 u post) : g_Mi l yX1_countIn (Cond.code yX1_countIn cX1_countIn 4 (some .int) :: tT) rm_X1_countIn D cA (Xw cA a) u [.ref (a 2), .int xp1] post := by
  refine g_enter_i (by decide) (Xw_adr cA a) (Nat.le_of_ble_eq_true rfl) ?_
  intro p e s m args below meth c A Q S hml hK hA hret ls hl hW
  have hx := S.1
  have hb := S.2.1
  have hl : lv_has ls 4 [(0, .ref (a 2)), (1, .int xp1)] := hl
  skip
  refine lv_iconst (v := 0) hx hb dX1_countIn_0 (by decide) ?_
  refine lv_istore_n (lv' := [(2, .int 0), (0, .ref (a 2)), (1, .int xp1)]) hx hb dX1_countIn_1 rfl hl (by decide) rfl (fun ls hl => ?_)
  refine lv_iconst (v := 0) hx hb dX1_countIn_2 (by decide) ?_
  refine lv_istore_n (lv' := [(3, .int 0), (2, .int 0), (0, .ref (a 2)), (1, .int xp1)]) hx hb dX1_countIn_3 rfl hl (by decide) rfl (fun ls hl => ?_)
  have loop_4 : ∀ (K : Int32 → Int32 → Mem → Prop), (∀ (w2_4 w3_4 : Int32) (v_4 : Mem) (H : Heap) (locs : List Loc) (ls : Array Slot), K w2_4 w3_4 v_4 → g_W D (Xw cA a) A s.heap v_4 H locs → lv_has ls 4 [(0, .ref (a 2)), (1, .int xp1), (2, .int w2_4), (3, .int w3_4)] → W p l e rm_X1_countIn s m args below meth c H locs 0 0 Q (F0 m 31 ls [])) → ∀ (n : Nat) (y2_4 y3_4 : Int32) (u_4 : Mem) (H : Heap) (locs : List Loc) (ls : Array Slot), L_X1_countIn_4 xp1 post K n y2_4 y3_4 u_4 → g_W D (Xw cA a) A s.heap u_4 H locs → lv_has ls 4 [(0, .ref (a 2)), (1, .int xp1), (2, .int y2_4), (3, .int y3_4)] → W p l e rm_X1_countIn s m args below meth c H locs 0 0 Q (F0 m 4 ls []) := by
    intro K hE n
    induction n with
    | zero => intro y2_4 y3_4 u_4 H locs ls h; exact False.elim h
    | succ n ih =>
      intro y2_4 y3_4 u_4 H locs ls h hW hl
      refine lv_iload_n hx hb dX1_countIn_4 rfl (lv_at hl 3 rfl) ?_
      refine lv_aload_n hx hb dX1_countIn_5 rfl (lv_at hl 0 rfl) ?_
      refine xg_2_2 S hK hW kw_76 dX1_countIn_6 ?_
      refine lv_icmp_gt (tgt := 31) hx hb dX1_countIn_9 (by decide) (fun c7 => ?_) (fun c7 => ?_)
      · have h := h.1 c7
        exact hE y2_4 y3_4 u_4 _ _ _ h hW (lv_sub hl [0, 1, 2, 3] rfl)
      · have h := h.2 c7
        refine lv_aload_n hx hb dX1_countIn_12 rfl (lv_at hl 0 rfl) ?_
        refine xg_2_1 S hK hW kw_75 dX1_countIn_13 ?_
        refine lv_iload_n hx hb dX1_countIn_16 rfl (lv_at hl 3 rfl) ?_
        obtain ⟨hin, h⟩ := h
        refine xl_10 S hK hW hin dX1_countIn_17 (fun x8 ex8 => ?_)
        have h := nm_use ex8 h
        refine lv_iload_n hx hb dX1_countIn_18 rfl (lv_at hl 1 rfl) ?_
        refine lv_icmp_ne (tgt := 25) hx hb dX1_countIn_19 (by decide) (fun c9 => ?_) (fun c9 => ?_)
        · have h := h.2 c9
          obtain ⟨x10, ex10⟩ : ∃ z : Int32, z = y3_4 + 1 := ⟨_, rfl⟩
          have h := nm_use ex10 h
          refine lv_iinc (v := x10) (lv' := [(3, .int x10), (0, .ref (a 2)), (1, .int xp1), (2, .int y2_4)]) hx hb dX1_countIn_25 hl (k := 3) rfl (by rw [ex10]; rfl) (by decide) rfl (fun ls hl => ?_)
          refine lv_goto (tgt := 4) hx hb dX1_countIn_28 (by decide) ?_
          exact ih y2_4 x10 u_4 _ _ _ h hW (lv_sub hl [1, 2, 3, 0] rfl)
        · have h := h.1 c9
          obtain ⟨x11, ex11⟩ : ∃ z : Int32, z = y2_4 + 1 := ⟨_, rfl⟩
          have h := nm_use ex11 h
          refine lv_iinc (v := x11) (lv' := [(2, .int x11), (0, .ref (a 2)), (1, .int xp1), (3, .int y3_4)]) hx hb dX1_countIn_22 hl (k := 2) rfl (by rw [ex11]; rfl) (by decide) rfl (fun ls hl => ?_)
          obtain ⟨x12, ex12⟩ : ∃ z : Int32, z = y3_4 + 1 := ⟨_, rfl⟩
          have h := nm_use ex12 h
          refine lv_iinc (v := x12) (lv' := [(3, .int x12), (2, .int x11), (0, .ref (a 2)), (1, .int xp1)]) hx hb dX1_countIn_25 hl (k := 3) rfl (by rw [ex12]; rfl) (by decide) rfl (fun ls hl => ?_)
          refine lv_goto (tgt := 4) hx hb dX1_countIn_28 (by decide) ?_
          exact ih x11 x12 u_4 _ _ _ h hW (lv_sub hl [2, 3, 1, 0] rfl)
  obtain ⟨n_4, h⟩ := h
  refine loop_4 _ ?_ n_4 0 0 u _ _ _ h hW (lv_sub hl [2, 3, 1, 0] rfl)
  intro w2_4 w3_4 v_4 H locs ls h hW hl
  refine lv_iload_n hx hb dX1_countIn_31 rfl (lv_at hl 2 rfl) ?_
  exact hret _ _ _ _ _ _ dX1_countIn_32 hW h
def L_X2_countIn_4 (f1_4 : Int32) (post : Int32 → Mem → Prop) (K : Int32 → Int32 → Mem → Prop) : Nat → Int32 → Int32 → Mem → Prop
  | 0, _, _, _ => False
  | n_4 + 1, y2_4, y3_4, u_4 => ((u_4 17 0) ≤ y3_4 → (K y2_4 y3_4 u_4)) ∧ (¬ (u_4 17 0) ≤ y3_4 → (vp_in y3_4 400 ∧ nm (u_4 7 (y3_4 : Int32).toNatClampNeg) fun x2 => (x2 = f1_4 → (nm (y2_4 + 1) fun x5 => nm (y3_4 + 1) fun x6 => L_X2_countIn_4 f1_4 post K n_4 x5 x6 u_4)) ∧ (¬ x2 = f1_4 → (nm (y3_4 + 1) fun x4 => L_X2_countIn_4 f1_4 post K n_4 y2_4 x4 u_4))))
def w_X2_countIn (xp1 : Int32) (u : Mem) (post : Int32 → Mem → Prop) : Prop := ∃ n_4, L_X2_countIn_4 xp1 post (fun w2_4 w3_4 v_4 => post w2_4 v_4) n_4 0 0 u
abbrev rm_X2_countIn : Room := { frames := 0, cells := 0, slots := 0, locals := 0 }
theorem hd_X2_countIn : yX2_countIn.cls ≠ "java/lang/invoke/MethodHandle" ∧ yX2_countIn.cls ≠ "java/lang/invoke/VarHandle" ∧ (parseMethodDescriptor yX2_countIn.desc).map (fun d => d.parameters.length) = some 1 := by decide +kernel
set_option maxHeartbeats 4000000 in
set_option maxRecDepth 100000 in
theorem c_X2_countIn (l : Launch) (D : va_G) (cA : ClassId) (a : Nat → Nat) (u : Mem) (xp1 : Int32) (post : Int32 → Mem → Prop) (h : w_X2_countIn xp1 u post) : g_Mi l yX2_countIn (Cond.code yX2_countIn cX2_countIn 4 (some .int) :: tT) rm_X2_countIn D cA (Xw cA a) u [.ref (a 1), .int xp1] post := by
  refine g_enter_i (by decide) (Xw_adr cA a) (Nat.le_of_ble_eq_true rfl) ?_
  intro p e s m args below meth c A Q S hml hK hA hret ls hl hW
  have hx := S.1
  have hb := S.2.1
  have hl : lv_has ls 4 [(0, .ref (a 1)), (1, .int xp1)] := hl
  skip
  refine lv_iconst (v := 0) hx hb dX2_countIn_0 (by decide) ?_
  refine lv_istore_n (lv' := [(2, .int 0), (0, .ref (a 1)), (1, .int xp1)]) hx hb dX2_countIn_1 rfl hl (by decide) rfl (fun ls hl => ?_)
  refine lv_iconst (v := 0) hx hb dX2_countIn_2 (by decide) ?_
  refine lv_istore_n (lv' := [(3, .int 0), (2, .int 0), (0, .ref (a 1)), (1, .int xp1)]) hx hb dX2_countIn_3 rfl hl (by decide) rfl (fun ls hl => ?_)
  have loop_4 : ∀ (K : Int32 → Int32 → Mem → Prop), (∀ (w2_4 w3_4 : Int32) (v_4 : Mem) (H : Heap) (locs : List Loc) (ls : Array Slot), K w2_4 w3_4 v_4 → g_W D (Xw cA a) A s.heap v_4 H locs → lv_has ls 4 [(0, .ref (a 1)), (1, .int xp1), (2, .int w2_4), (3, .int w3_4)] → W p l e rm_X2_countIn s m args below meth c H locs 0 0 Q (F0 m 31 ls [])) → ∀ (n : Nat) (y2_4 y3_4 : Int32) (u_4 : Mem) (H : Heap) (locs : List Loc) (ls : Array Slot), L_X2_countIn_4 xp1 post K n y2_4 y3_4 u_4 → g_W D (Xw cA a) A s.heap u_4 H locs → lv_has ls 4 [(0, .ref (a 1)), (1, .int xp1), (2, .int y2_4), (3, .int y3_4)] → W p l e rm_X2_countIn s m args below meth c H locs 0 0 Q (F0 m 4 ls []) := by
    intro K hE n
    induction n with
    | zero => intro y2_4 y3_4 u_4 H locs ls h; exact False.elim h
    | succ n ih =>
      intro y2_4 y3_4 u_4 H locs ls h hW hl
      refine lv_iload_n hx hb dX2_countIn_4 rfl (lv_at hl 3 rfl) ?_
      refine lv_aload_n hx hb dX2_countIn_5 rfl (lv_at hl 0 rfl) ?_
      refine xg_1_6 S hK hW kw_49 dX2_countIn_6 ?_
      refine lv_icmp_ge (tgt := 31) hx hb dX2_countIn_9 (by decide) (fun c7 => ?_) (fun c7 => ?_)
      · have h := h.1 c7
        exact hE y2_4 y3_4 u_4 _ _ _ h hW (lv_sub hl [0, 1, 2, 3] rfl)
      · have h := h.2 c7
        refine lv_aload_n hx hb dX2_countIn_12 rfl (lv_at hl 0 rfl) ?_
        refine xg_1_4 S hK hW kw_47 dX2_countIn_13 ?_
        refine lv_iload_n hx hb dX2_countIn_16 rfl (lv_at hl 3 rfl) ?_
        obtain ⟨hin, h⟩ := h
        refine xl_7 S hK hW hin dX2_countIn_17 (fun x8 ex8 => ?_)
        have h := nm_use ex8 h
        refine lv_iload_n hx hb dX2_countIn_18 rfl (lv_at hl 1 rfl) ?_
        refine lv_icmp_ne (tgt := 25) hx hb dX2_countIn_19 (by decide) (fun c9 => ?_) (fun c9 => ?_)
        · have h := h.2 c9
          obtain ⟨x10, ex10⟩ : ∃ z : Int32, z = y3_4 + 1 := ⟨_, rfl⟩
          have h := nm_use ex10 h
          refine lv_iinc (v := x10) (lv' := [(3, .int x10), (0, .ref (a 1)), (1, .int xp1), (2, .int y2_4)]) hx hb dX2_countIn_25 hl (k := 3) rfl (by rw [ex10]; rfl) (by decide) rfl (fun ls hl => ?_)
          refine lv_goto (tgt := 4) hx hb dX2_countIn_28 (by decide) ?_
          exact ih y2_4 x10 u_4 _ _ _ h hW (lv_sub hl [1, 2, 3, 0] rfl)
        · have h := h.1 c9
          obtain ⟨x11, ex11⟩ : ∃ z : Int32, z = y2_4 + 1 := ⟨_, rfl⟩
          have h := nm_use ex11 h
          refine lv_iinc (v := x11) (lv' := [(2, .int x11), (0, .ref (a 1)), (1, .int xp1), (3, .int y3_4)]) hx hb dX2_countIn_22 hl (k := 2) rfl (by rw [ex11]; rfl) (by decide) rfl (fun ls hl => ?_)
          obtain ⟨x12, ex12⟩ : ∃ z : Int32, z = y3_4 + 1 := ⟨_, rfl⟩
          have h := nm_use ex12 h
          refine lv_iinc (v := x12) (lv' := [(3, .int x12), (2, .int x11), (0, .ref (a 1)), (1, .int xp1)]) hx hb dX2_countIn_25 hl (k := 3) rfl (by rw [ex12]; rfl) (by decide) rfl (fun ls hl => ?_)
          refine lv_goto (tgt := 4) hx hb dX2_countIn_28 (by decide) ?_
          exact ih x11 x12 u_4 _ _ _ h hW (lv_sub hl [2, 3, 1, 0] rfl)
  obtain ⟨n_4, h⟩ := h
  refine loop_4 _ ?_ n_4 0 0 u _ _ _ h hW (lv_sub hl [2, 3, 1, 0] rfl)
  intro w2_4 w3_4 v_4 H locs ls h hW hl
  refine lv_iload_n hx hb dX2_countIn_31 rfl (lv_at hl 2 rfl) ?_
  exact hret _ _ _ _ _ _ dX2_countIn_32 hW h
set_option maxHeartbeats 4000000 in
set_option maxRecDepth 100000 in
theorem c_X3_grow_1 (l : Launch) (D : va_G) (cA : ClassId) (a : Nat → Nat) (u : Mem) (post : Int32 → Mem → Prop) (h : w_X3_grow 1 32 u post) : g_Mi l yX3_grow (Cond.code yX3_grow cX3_grow 3 (some .int) :: tT) rm_X3_grow D cA (Xw cA a) u [.ref (a 4), .ref (a 6)] post := by
  refine g_enter_i (by decide) (Xw_adr cA a) (Nat.le_of_ble_eq_true rfl) ?_
  intro p e s m args below meth c A Q S hml hK hA hret ls hl hW
  have hx := S.1
  have hb := S.2.1
  have hl : lv_has ls 3 [(0, .ref (a 4)), (1, .ref (a 6))] := hl
  skip
  refine lv_iconst (v := 0) hx hb dX3_grow_0 (by decide) ?_
  refine lv_istore_n (lv' := [(2, .int 0), (0, .ref (a 4)), (1, .ref (a 6))]) hx hb dX3_grow_1 rfl hl (by decide) rfl (fun ls hl => ?_)
  have loop_2 : ∀ (K : Int32 → Mem → Prop), (∀ (w2_2 : Int32) (v_2 : Mem) (H : Heap) (locs : List Loc) (ls : Array Slot), K w2_2 v_2 → g_W D (Xw cA a) A s.heap v_2 H locs → lv_has ls 3 [(0, .ref (a 4)), (1, .ref (a 6)), (2, .int w2_2)] → W p l e rm_X3_grow s m args below meth c H locs 0 0 Q (F0 m 30 ls [])) → ∀ (n : Nat) (y2_2 : Int32) (u_2 : Mem) (H : Heap) (locs : List Loc) (ls : Array Slot), L_X3_grow_2 1 32 post K n y2_2 u_2 → g_W D (Xw cA a) A s.heap u_2 H locs → lv_has ls 3 [(0, .ref (a 4)), (1, .ref (a 6)), (2, .int y2_2)] → W p l e rm_X3_grow s m args below meth c H locs 0 0 Q (F0 m 2 ls []) := by
    intro K hE n
    induction n with
    | zero => intro y2_2 u_2 H locs ls h; exact False.elim h
    | succ n ih =>
      intro y2_2 u_2 H locs ls h hW hl
      refine lv_iload_n hx hb dX3_grow_2 rfl (lv_at hl 2 rfl) ?_
      refine lv_bipush (v := 32) hx hb dX3_grow_3 (by decide) ?_
      refine lv_icmp_ge (tgt := 30) hx hb dX3_grow_5 (by decide) (fun c29 => ?_) (fun c29 => ?_)
      · have h := h.1 c29
        exact hE y2_2 u_2 _ _ _ h hW (lv_sub hl [0, 1, 2] rfl)
      · have h := h.2 c29
        refine lv_aload_n hx hb dX3_grow_8 rfl (lv_at hl 0 rfl) ?_
        refine xg_4_0 S hK hW kw_119 dX3_grow_9 ?_
        refine lv_bipush (v := 32) hx hb dX3_grow_12 (by decide) ?_
        refine lv_iload_n hx hb dX3_grow_14 rfl (lv_at hl 2 rfl) ?_
        refine lv_iadd hx hb dX3_grow_15 ?_
        refine lv_topi (fun x30 ex30 => ?_)
        have h := nm_use ex30 h
        refine lv_iload_n hx hb dX3_grow_16 rfl (lv_at hl 2 rfl) ?_
        refine lv_aload_n hx hb dX3_grow_17 rfl (lv_at hl 1 rfl) ?_
        refine lv_iload_n hx hb dX3_grow_18 rfl (lv_at hl 2 rfl) ?_
        obtain ⟨hin, h⟩ := h
        refine xl_1 S hK hW hin dX3_grow_19 (fun x31 ex31 => ?_)
        have h := nm_use ex31 h
        refine g_cali (g_runS S hml hK hW (c_X3_ofLeaf l D cA a u_2 y2_2 x31 _ h _) kw_138 kw_139 kw_23 kw_140 hd_X3_ofLeaf ⟨rfl, rfl, Nat.le_of_ble_eq_true rfl, Nat.le_of_ble_eq_true rfl⟩ (As := [.int y2_2, .int x31]) (rest := [.int x30, .ref (a 19)]) rfl rfl hl.1 (Nat.le_of_ble_eq_true rfl) dX3_grow_20 ⟨Nat.zero_le _, Nat.zero_le _⟩) (Xw_adr cA a) hA hW (fun x33 u32 H locs h hW => ?_)
        obtain ⟨hin, h⟩ := h
        refine xs_14 S hK hW hin dX3_grow_23 (fun u34 H locs eu34 hW => ?_)
        have h := nm_use eu34 h
        obtain ⟨x35, ex35⟩ : ∃ z : Int32, z = y2_2 + 1 := ⟨_, rfl⟩
        have h := nm_use ex35 h
        refine lv_iinc (v := x35) (lv' := [(2, .int x35), (0, .ref (a 4)), (1, .ref (a 6))]) hx hb dX3_grow_24 hl (k := 2) rfl (by rw [ex35]; rfl) (by decide) rfl (fun ls hl => ?_)
        refine lv_goto (tgt := 2) hx hb dX3_grow_27 (by decide) ?_
        exact ih x35 u34 _ _ _ h hW (lv_sub hl [1, 2, 0] rfl)
  obtain ⟨n_2, h⟩ := h
  refine loop_2 _ ?_ n_2 0 u _ _ _ h hW (lv_sub hl [1, 2, 0] rfl)
  intro w2_2 v_2 H locs ls h hW hl
  refine lv_bipush (v := 31) hx hb dX3_grow_30 (by decide) ?_
  refine lv_istore_n (lv' := [(2, .int 31), (0, .ref (a 4)), (1, .ref (a 6))]) hx hb dX3_grow_32 rfl hl (by decide) rfl (fun ls hl => ?_)
  have loop_33 : ∀ (K : Int32 → Mem → Prop), (∀ (w2_33 : Int32) (v_33 : Mem) (H : Heap) (locs : List Loc) (ls : Array Slot), K w2_33 v_33 → g_W D (Xw cA a) A s.heap v_33 H locs → lv_has ls 3 [(0, .ref (a 4)), (1, .ref (a 6)), (2, .int w2_33)] → W p l e rm_X3_grow s m args below meth c H locs 0 0 Q (F0 m 71 ls [])) → ∀ (n : Nat) (y2_33 : Int32) (u_33 : Mem) (H : Heap) (locs : List Loc) (ls : Array Slot), L_X3_grow_33 1 32 post K n y2_33 u_33 → g_W D (Xw cA a) A s.heap u_33 H locs → lv_has ls 3 [(0, .ref (a 4)), (1, .ref (a 6)), (2, .int y2_33)] → W p l e rm_X3_grow s m args below meth c H locs 0 0 Q (F0 m 33 ls []) := by
    intro K hE n
    induction n with
    | zero => intro y2_33 u_33 H locs ls h; exact False.elim h
    | succ n ih =>
      intro y2_33 u_33 H locs ls h hW hl
      refine lv_iload_n hx hb dX3_grow_33 rfl (lv_at hl 2 rfl) ?_
      refine lv_iconst (v := 1) hx hb dX3_grow_34 (by decide) ?_
      refine lv_icmp_lt (tgt := 71) hx hb dX3_grow_35 (by decide) (fun c19 => ?_) (fun c19 => ?_)
      · have h := h.1 c19
        exact hE y2_33 u_33 _ _ _ h hW (lv_sub hl [0, 1, 2] rfl)
      · have h := h.2 c19
        refine lv_aload_n hx hb dX3_grow_38 rfl (lv_at hl 0 rfl) ?_
        refine xg_4_0 S hK hW kw_119 dX3_grow_39 ?_
        refine lv_iload_n hx hb dX3_grow_42 rfl (lv_at hl 2 rfl) ?_
        refine lv_aload_n hx hb dX3_grow_43 rfl (lv_at hl 0 rfl) ?_
        refine xg_4_0 S hK hW kw_119 dX3_grow_44 ?_
        refine lv_iconst (v := 2) hx hb dX3_grow_47 (by decide) ?_
        refine lv_iload_n hx hb dX3_grow_48 rfl (lv_at hl 2 rfl) ?_
        refine lv_imul hx hb dX3_grow_49 ?_
        refine lv_topi (fun x20 ex20 => ?_)
        have h := nm_use ex20 h
        obtain ⟨hin, h⟩ := h
        refine xl_14 S hK hW hin dX3_grow_50 (fun x21 ex21 => ?_)
        have h := nm_use ex21 h
        refine lv_aload_n hx hb dX3_grow_51 rfl (lv_at hl 0 rfl) ?_
        refine xg_4_0 S hK hW kw_119 dX3_grow_52 ?_
        refine lv_iconst (v := 2) hx hb dX3_grow_55 (by decide) ?_
        refine lv_iload_n hx hb dX3_grow_56 rfl (lv_at hl 2 rfl) ?_
        refine lv_imul hx hb dX3_grow_57 ?_
        refine lv_topi (fun x22 ex22 => ?_)
        have h := nm_use ex22 h
        refine lv_iconst (v := 1) hx hb dX3_grow_58 (by decide) ?_
        refine lv_iadd hx hb dX3_grow_59 ?_
        refine lv_topi (fun x23 ex23 => ?_)
        have h := nm_use ex23 h
        obtain ⟨hin, h⟩ := h
        refine xl_14 S hK hW hin dX3_grow_60 (fun x24 ex24 => ?_)
        have h := nm_use ex24 h
        refine g_cali (g_runS S hml hK hW (c_X3_join l D cA a u_33 x21 x24 _ h _) kw_141 kw_142 kw_23 kw_143 hd_X3_join ⟨rfl, rfl, Nat.le_of_ble_eq_true rfl, Nat.le_of_ble_eq_true rfl⟩ (As := [.int x21, .int x24]) (rest := [.int y2_33, .ref (a 19)]) rfl rfl hl.1 (Nat.le_of_ble_eq_true rfl) dX3_grow_61 ⟨Nat.zero_le _, Nat.zero_le _⟩) (Xw_adr cA a) hA hW (fun x26 u25 H locs h hW => ?_)
        obtain ⟨hin, h⟩ := h
        refine xs_14 S hK hW hin dX3_grow_64 (fun u27 H locs eu27 hW => ?_)
        have h := nm_use eu27 h
        obtain ⟨x28, ex28⟩ : ∃ z : Int32, z = y2_33 + (-1) := ⟨_, rfl⟩
        have h := nm_use ex28 h
        refine lv_iinc (v := x28) (lv' := [(2, .int x28), (0, .ref (a 4)), (1, .ref (a 6))]) hx hb dX3_grow_65 hl (k := 2) rfl (by rw [ex28]; rfl) (by decide) rfl (fun ls hl => ?_)
        refine lv_goto (tgt := 33) hx hb dX3_grow_68 (by decide) ?_
        exact ih x28 u27 _ _ _ h hW (lv_sub hl [1, 2, 0] rfl)
  obtain ⟨n_33, h⟩ := h
  refine loop_33 _ ?_ n_33 31 v_2 _ _ _ h hW (lv_sub hl [1, 2, 0] rfl)
  intro w2_33 v_33 H locs ls h hW hl
  refine lv_aload_n hx hb dX3_grow_71 rfl (lv_at hl 0 rfl) ?_
  refine xg_4_0 S hK hW kw_119 dX3_grow_72 ?_
  refine lv_iconst (v := 1) hx hb dX3_grow_75 (by decide) ?_
  obtain ⟨hin, h⟩ := h
  refine xl_14 S hK hW hin dX3_grow_76 (fun x18 ex18 => ?_)
  have h := nm_use ex18 h
  exact hret _ _ _ _ _ _ dX3_grow_77 hW h
def w_X3_beside (xp1 : Int32) (xp2 : Int32) (u : Mem) (post : Int32 → Mem → Prop) : Prop := nm ((32 : Int32) + xp1 : Int32) fun x1 => nm (x1 >>> (xp2 &&& 31) : Int32) fun x2 => nm (x2 ^^^ (1 : Int32) : Int32) fun x3 => vp_in x3 64 ∧ nm (u 14 (x3 : Int32).toNatClampNeg) fun x4 => post x4 u
abbrev rm_X3_beside : Room := { frames := 0, cells := 0, slots := 0, locals := 0 }
theorem hd_X3_beside : yX3_beside.cls ≠ "java/lang/invoke/MethodHandle" ∧ yX3_beside.cls ≠ "java/lang/invoke/VarHandle" ∧ (parseMethodDescriptor yX3_beside.desc).map (fun d => d.parameters.length) = some 2 := by decide +kernel
set_option maxHeartbeats 4000000 in
set_option maxRecDepth 100000 in
theorem c_X3_beside (l : Launch) (D : va_G) (cA : ClassId) (a : Nat → Nat) (u : Mem) (xp1 xp2 : Int32) (post : Int32 → Mem → Prop) (h : w_X3_beside xp1 xp2 u post) : g_Mi l yX3_beside (Cond.code yX3_beside cX3_beside 3 (some .int) :: tT) rm_X3_beside D cA (Xw cA a) u [.ref (a 4), .int xp1, .int xp2] post := by
  refine g_enter_i (by decide) (Xw_adr cA a) (Nat.le_of_ble_eq_true rfl) ?_
  intro p e s m args below meth c A Q S hml hK hA hret ls hl hW
  have hx := S.1
  have hb := S.2.1
  have hl : lv_has ls 3 [(0, .ref (a 4)), (1, .int xp1), (2, .int xp2)] := hl
  skip
  refine lv_aload_n hx hb dX3_beside_0 rfl (lv_at hl 0 rfl) ?_
  refine xg_4_0 S hK hW kw_119 dX3_beside_1 ?_
  refine lv_bipush (v := 32) hx hb dX3_beside_4 (by decide) ?_
  refine lv_iload_n hx hb dX3_beside_6 rfl (lv_at hl 1 rfl) ?_
  refine lv_iadd hx hb dX3_beside_7 ?_
  refine lv_topi (fun x1 ex1 => ?_)
  have h := nm_use ex1 h
  refine lv_iload_n hx hb dX3_beside_8 rfl (lv_at hl 2 rfl) ?_
  refine lv_ishr hx hb dX3_beside_9 ?_
  refine lv_topi (fun x2 ex2 => ?_)
  have h := nm_use ex2 h
  refine lv_iconst (v := 1) hx hb dX3_beside_10 (by decide) ?_
  refine lv_ixor hx hb dX3_beside_11 ?_
  refine lv_topi (fun x3 ex3 => ?_)
  have h := nm_use ex3 h
  obtain ⟨hin, h⟩ := h
  refine xl_14 S hK hW hin dX3_beside_12 (fun x4 ex4 => ?_)
  have h := nm_use ex4 h
  exact hret _ _ _ _ _ _ dX3_beside_13 hW h
def L_X3_climb_9 (f0_9 : Int32) (f1_9 : Int32) (j2 n2 : Nat) (post : Int32 → Mem → Prop) (K : Int32 → Int32 → Mem → Prop) : Nat → Int32 → Int32 → Mem → Prop
  | 0, _, _, _ => False
  | n_9 + 1, y3_9, y4_9, u_9 => (5 ≤ y4_9 → (K y3_9 y4_9 u_9)) ∧ (¬ 5 ≤ y4_9 → (nm (f0_9 >>> (y4_9 &&& 31) : Int32) fun x4 => nm (x4 &&& (1 : Int32) : Int32) fun x5 => (x5 = 0 → (vp_in y4_9 n2 ∧ nm (u_9 j2 (y4_9 : Int32).toNatClampNeg) fun x11 => w_X3_join y3_9 x11 u_9 (fun x13 u12 => nm (y4_9 + 1) fun x14 => L_X3_climb_9 f0_9 f1_9 j2 n2 post K n_9 x13 x14 u12))) ∧ (¬ x5 = 0 → (vp_in y4_9 n2 ∧ nm (u_9 j2 (y4_9 : Int32).toNatClampNeg) fun x7 => w_X3_join x7 y3_9 u_9 (fun x9 u8 => nm (y4_9 + 1) fun x10 => L_X3_climb_9 f0_9 f1_9 j2 n2 post K n_9 x9 x10 u8)))))
def w_X3_climb (xp0 : Int32) (xp1 : Int32) (j2 n2 : Nat) (u : Mem) (post : Int32 → Mem → Prop) : Prop := w_X3_ofLeaf xp0 xp1 u (fun x2 u1 => ∃ n_9, L_X3_climb_9 xp0 xp1 j2 n2 post (fun w3_9 w4_9 v_9 => post w3_9 v_9) n_9 x2 0 u1)
abbrev rm_X3_climb : Room := { frames := 1, cells := 0, slots := 0, locals := 22 }
theorem hd_X3_climb : yX3_climb.cls ≠ "java/lang/invoke/MethodHandle" ∧ yX3_climb.cls ≠ "java/lang/invoke/VarHandle" ∧ (parseMethodDescriptor yX3_climb.desc).map (fun d => d.parameters.length) = some 3 := by decide +kernel
set_option maxHeartbeats 4000000 in
set_option maxRecDepth 100000 in
theorem c_X3_climb_0 (l : Launch) (D : va_G) (cA : ClassId) (a : Nat → Nat) (u : Mem) (xp0 xp1 : Int32) (post : Int32 → Mem → Prop) (h : w_X3_climb xp0 xp1 0 5 u post) : g_Mi l yX3_climb (Cond.code yX3_climb cX3_climb 6 (some .int) :: tT) rm_X3_climb D cA (Xw cA a) u [.int xp0, .int xp1, .ref (a 5)] post := by
  refine g_enter_i (by decide) (Xw_adr cA a) (Nat.le_of_ble_eq_true rfl) ?_
  intro p e s m args below meth c A Q S hml hK hA hret ls hl hW
  have hx := S.1
  have hb := S.2.1
  have hl : lv_has ls 6 [(0, .int xp0), (1, .int xp1), (2, .ref (a 5))] := hl
  skip
  refine lv_iload_n hx hb dX3_climb_0 rfl (lv_at hl 0 rfl) ?_
  refine lv_iload_n hx hb dX3_climb_1 rfl (lv_at hl 1 rfl) ?_
  refine g_cali (g_runS S hml hK hW (c_X3_ofLeaf l D cA a u xp0 xp1 _ h _) kw_138 kw_139 kw_23 kw_140 hd_X3_ofLeaf ⟨rfl, rfl, Nat.le_of_ble_eq_true rfl, Nat.le_of_ble_eq_true rfl⟩ (As := [.int xp0, .int xp1]) (rest := []) rfl rfl hl.1 (Nat.le_of_ble_eq_true rfl) dX3_climb_2 ⟨Nat.zero_le _, Nat.zero_le _⟩) (Xw_adr cA a) hA hW (fun x2 u1 H locs h hW => ?_)
  refine lv_istore_n (lv' := [(3, .int x2), (0, .int xp0), (1, .int xp1), (2, .ref (a 5))]) hx hb dX3_climb_5 rfl hl (by decide) rfl (fun ls hl => ?_)
  refine lv_iconst (v := 0) hx hb dX3_climb_6 (by decide) ?_
  refine lv_istore (lv' := [(4, .int 0), (3, .int x2), (0, .int xp0), (1, .int xp1), (2, .ref (a 5))]) hx hb dX3_climb_7 hl (by decide) rfl (fun ls hl => ?_)
  have loop_9 : ∀ (K : Int32 → Int32 → Mem → Prop), (∀ (w3_9 w4_9 : Int32) (v_9 : Mem) (H : Heap) (locs : List Loc) (ls : Array Slot), K w3_9 w4_9 v_9 → g_W D (Xw cA a) A s.heap v_9 H locs → lv_has ls 6 [(0, .int xp0), (1, .int xp1), (2, .ref (a 5)), (3, .int w3_9), (4, .int w4_9)] → W p l e rm_X3_climb s m args below meth c H locs 0 0 Q (F0 m 62 ls [])) → ∀ (n : Nat) (y3_9 y4_9 : Int32) (u_9 : Mem) (H : Heap) (locs : List Loc) (ls : Array Slot), L_X3_climb_9 xp0 xp1 0 5 post K n y3_9 y4_9 u_9 → g_W D (Xw cA a) A s.heap u_9 H locs → lv_has ls 6 [(0, .int xp0), (1, .int xp1), (2, .ref (a 5)), (3, .int y3_9), (4, .int y4_9)] → W p l e rm_X3_climb s m args below meth c H locs 0 0 Q (F0 m 9 ls []) := by
    intro K hE n
    induction n with
    | zero => intro y3_9 y4_9 u_9 H locs ls h; exact False.elim h
    | succ n ih =>
      intro y3_9 y4_9 u_9 H locs ls h hW hl
      refine lv_iload hx hb dX3_climb_9 (lv_at hl 4 rfl) ?_
      refine lv_iconst (v := 5) hx hb dX3_climb_11 (by decide) ?_
      refine lv_icmp_ge (tgt := 62) hx hb dX3_climb_12 (by decide) (fun c15 => ?_) (fun c15 => ?_)
      · have h := h.1 c15
        exact hE y3_9 y4_9 u_9 _ _ _ h hW (lv_sub hl [0, 1, 2, 3, 4] rfl)
      · have h := h.2 c15
        refine lv_iload_n hx hb dX3_climb_15 rfl (lv_at hl 0 rfl) ?_
        refine lv_iload hx hb dX3_climb_16 (lv_at hl 4 rfl) ?_
        refine lv_ishr hx hb dX3_climb_18 ?_
        refine lv_topi (fun x16 ex16 => ?_)
        have h := nm_use ex16 h
        refine lv_iconst (v := 1) hx hb dX3_climb_19 (by decide) ?_
        refine lv_iand hx hb dX3_climb_20 ?_
        refine lv_topi (fun x17 ex17 => ?_)
        have h := nm_use ex17 h
        refine lv_if_ne (tgt := 28) hx hb dX3_climb_21 (by decide) (fun c18 => ?_) (fun c18 => ?_)
        · have h := h.2 c18
          refine lv_iconst (v := 0) hx hb dX3_climb_28 (by decide) ?_
          refine lv_istore (lv' := [(5, .int 0), (0, .int xp0), (1, .int xp1), (2, .ref (a 5)), (3, .int y3_9), (4, .int y4_9)]) hx hb dX3_climb_29 hl (by decide) rfl (fun ls hl => ?_)
          refine lv_iload hx hb dX3_climb_31 (lv_at hl 0 rfl) ?_
          refine lv_if_eq (tgt := 47) hx hb dX3_climb_33 (by decide) (fun _ => ?_) (fun cc_ => absurd cc_ (by decide))
          refine lv_aload_n hx hb dX3_climb_47 rfl (lv_at hl 3 rfl) ?_
          refine lv_iload hx hb dX3_climb_48 (lv_at hl 5 rfl) ?_
          obtain ⟨hin, h⟩ := h
          refine xl_0 S hK hW hin dX3_climb_50 (fun x19 ex19 => ?_)
          have h := nm_use ex19 h
          refine lv_iload_n hx hb dX3_climb_51 rfl (lv_at hl 4 rfl) ?_
          refine g_cali (g_runS S hml hK hW (c_X3_join l D cA a u_9 x19 y3_9 _ h _) kw_141 kw_142 kw_23 kw_143 hd_X3_join ⟨rfl, rfl, Nat.le_of_ble_eq_true rfl, Nat.le_of_ble_eq_true rfl⟩ (As := [.int x19, .int y3_9]) (rest := []) rfl rfl hl.1 (Nat.le_of_ble_eq_true rfl) dX3_climb_52 ⟨Nat.zero_le _, Nat.zero_le _⟩) (Xw_adr cA a) hA hW (fun x21 u20 H locs h hW => ?_)
          refine lv_istore_n (lv' := [(3, .int x21), (5, .int 0), (0, .int xp0), (1, .int xp1), (2, .ref (a 5)), (4, .int y4_9)]) hx hb dX3_climb_55 rfl hl (by decide) rfl (fun ls hl => ?_)
          obtain ⟨x22, ex22⟩ : ∃ z : Int32, z = y4_9 + 1 := ⟨_, rfl⟩
          have h := nm_use ex22 h
          refine lv_iinc (v := x22) (lv' := [(4, .int x22), (3, .int x21), (5, .int 0), (0, .int xp0), (1, .int xp1), (2, .ref (a 5))]) hx hb dX3_climb_56 hl (k := 5) rfl (by rw [ex22]; rfl) (by decide) rfl (fun ls hl => ?_)
          refine lv_goto (tgt := 9) hx hb dX3_climb_59 (by decide) ?_
          exact ih x21 x22 u20 _ _ _ h hW (lv_sub hl [3, 4, 5, 1, 0] rfl)
        · have h := h.1 c18
          refine lv_iconst (v := 1) hx hb dX3_climb_24 (by decide) ?_
          refine lv_goto (tgt := 29) hx hb dX3_climb_25 (by decide) ?_
          refine lv_istore (lv' := [(5, .int 1), (0, .int xp0), (1, .int xp1), (2, .ref (a 5)), (3, .int y3_9), (4, .int y4_9)]) hx hb dX3_climb_29 hl (by decide) rfl (fun ls hl => ?_)
          refine lv_iload hx hb dX3_climb_31 (lv_at hl 0 rfl) ?_
          refine lv_if_eq (tgt := 47) hx hb dX3_climb_33 (by decide) (fun cc_ => absurd cc_ (by decide)) (fun _ => ?_)
          refine lv_iload_n hx hb dX3_climb_36 rfl (lv_at hl 4 rfl) ?_
          refine lv_aload_n hx hb dX3_climb_37 rfl (lv_at hl 3 rfl) ?_
          refine lv_iload hx hb dX3_climb_38 (lv_at hl 5 rfl) ?_
          obtain ⟨hin, h⟩ := h
          refine xl_0 S hK hW hin dX3_climb_40 (fun x23 ex23 => ?_)
          have h := nm_use ex23 h
          refine g_cali (g_runS S hml hK hW (c_X3_join l D cA a u_9 y3_9 x23 _ h _) kw_141 kw_142 kw_23 kw_143 hd_X3_join ⟨rfl, rfl, Nat.le_of_ble_eq_true rfl, Nat.le_of_ble_eq_true rfl⟩ (As := [.int y3_9, .int x23]) (rest := []) rfl rfl hl.1 (Nat.le_of_ble_eq_true rfl) dX3_climb_41 ⟨Nat.zero_le _, Nat.zero_le _⟩) (Xw_adr cA a) hA hW (fun x25 u24 H locs h hW => ?_)
          refine lv_goto (tgt := 55) hx hb dX3_climb_44 (by decide) ?_
          refine lv_istore_n (lv' := [(3, .int x25), (5, .int 1), (0, .int xp0), (1, .int xp1), (2, .ref (a 5)), (4, .int y4_9)]) hx hb dX3_climb_55 rfl hl (by decide) rfl (fun ls hl => ?_)
          obtain ⟨x26, ex26⟩ : ∃ z : Int32, z = y4_9 + 1 := ⟨_, rfl⟩
          have h := nm_use ex26 h
          refine lv_iinc (v := x26) (lv' := [(4, .int x26), (3, .int x25), (5, .int 1), (0, .int xp0), (1, .int xp1), (2, .ref (a 5))]) hx hb dX3_climb_56 hl (k := 5) rfl (by rw [ex26]; rfl) (by decide) rfl (fun ls hl => ?_)
          refine lv_goto (tgt := 9) hx hb dX3_climb_59 (by decide) ?_
          exact ih x25 x26 u24 _ _ _ h hW (lv_sub hl [3, 4, 5, 1, 0] rfl)
  obtain ⟨n_9, h⟩ := h
  refine loop_9 _ ?_ n_9 x2 0 u1 _ _ _ h hW (lv_sub hl [2, 3, 4, 1, 0] rfl)
  intro w3_9 w4_9 v_9 H locs ls h hW hl
  refine lv_iload_n hx hb dX3_climb_62 rfl (lv_at hl 3 rfl) ?_
  exact hret _ _ _ _ _ _ dX3_climb_63 hW h
def L_X2_removeAbove_2 (f1_2 : Int32) (post : Int32 → Mem → Prop) (K : Int32 → Mem → Prop) : Nat → Int32 → Mem → Prop
  | 0, _, _ => False
  | n_2 + 1, y2_2, u_2 => ((u_2 17 0) ≤ y2_2 → (K y2_2 u_2)) ∧ (¬ (u_2 17 0) ≤ y2_2 → (vp_in y2_2 400 ∧ nm (u_2 3 (y2_2 : Int32).toNatClampNeg) fun x2 => (f1_2 < x2 → (K y2_2 u_2)) ∧ (¬ f1_2 < x2 → (nm (y2_2 + 1) fun x4 => L_X2_removeAbove_2 f1_2 post K n_2 x4 u_2))))
def w_X2_removeAbove (xp1 : Int32) (u : Mem) (post : Int32 → Mem → Prop) : Prop := ∃ n_2, L_X2_removeAbove_2 xp1 post (fun w2_2 v_2 => nm ((v_2 17 0) - w2_2 : Int32) fun x5 => nm (g_ms v_2 17 0 w2_2) fun u6 => post x5 u6) n_2 0 u
abbrev rm_X2_removeAbove : Room := { frames := 0, cells := 0, slots := 0, locals := 0 }
theorem hd_X2_removeAbove : yX2_removeAbove.cls ≠ "java/lang/invoke/MethodHandle" ∧ yX2_removeAbove.cls ≠ "java/lang/invoke/VarHandle" ∧ (parseMethodDescriptor yX2_removeAbove.desc).map (fun d => d.parameters.length) = some 1 := by decide +kernel
set_option maxHeartbeats 4000000 in
set_option maxRecDepth 100000 in
theorem c_X2_removeAbove (l : Launch) (D : va_G) (cA : ClassId) (a : Nat → Nat) (u : Mem) (xp1 : Int32) (post : Int32 → Mem → Prop) (h : w_X2_removeAbove xp1 u post) : g_Mi l yX2_removeAbove (Cond.code yX2_removeAbove cX2_removeAbove 4 (some .int) :: tT) rm_X2_removeAbove D cA (Xw cA a) u [.ref (a 1), .int xp1] post := by
  refine g_enter_i (by decide) (Xw_adr cA a) (Nat.le_of_ble_eq_true rfl) ?_
  intro p e s m args below meth c A Q S hml hK hA hret ls hl hW
  have hx := S.1
  have hb := S.2.1
  have hl : lv_has ls 4 [(0, .ref (a 1)), (1, .int xp1)] := hl
  skip
  refine lv_iconst (v := 0) hx hb dX2_removeAbove_0 (by decide) ?_
  refine lv_istore_n (lv' := [(2, .int 0), (0, .ref (a 1)), (1, .int xp1)]) hx hb dX2_removeAbove_1 rfl hl (by decide) rfl (fun ls hl => ?_)
  have loop_2 : ∀ (K : Int32 → Mem → Prop), (∀ (w2_2 : Int32) (v_2 : Mem) (H : Heap) (locs : List Loc) (ls : Array Slot), K w2_2 v_2 → g_W D (Xw cA a) A s.heap v_2 H locs → lv_has ls 4 [(0, .ref (a 1)), (1, .int xp1), (2, .int w2_2)] → W p l e rm_X2_removeAbove s m args below meth c H locs 0 0 Q (F0 m 26 ls [])) → ∀ (n : Nat) (y2_2 : Int32) (u_2 : Mem) (H : Heap) (locs : List Loc) (ls : Array Slot), L_X2_removeAbove_2 xp1 post K n y2_2 u_2 → g_W D (Xw cA a) A s.heap u_2 H locs → lv_has ls 4 [(0, .ref (a 1)), (1, .int xp1), (2, .int y2_2)] → W p l e rm_X2_removeAbove s m args below meth c H locs 0 0 Q (F0 m 2 ls []) := by
    intro K hE n
    induction n with
    | zero => intro y2_2 u_2 H locs ls h; exact False.elim h
    | succ n ih =>
      intro y2_2 u_2 H locs ls h hW hl
      refine lv_iload_n hx hb dX2_removeAbove_2 rfl (lv_at hl 2 rfl) ?_
      refine lv_aload_n hx hb dX2_removeAbove_3 rfl (lv_at hl 0 rfl) ?_
      refine xg_1_6 S hK hW kw_49 dX2_removeAbove_4 ?_
      refine lv_icmp_ge (tgt := 26) hx hb dX2_removeAbove_7 (by decide) (fun c7 => ?_) (fun c7 => ?_)
      · have h := h.1 c7
        exact hE y2_2 u_2 _ _ _ h hW (lv_sub hl [0, 1, 2] rfl)
      · have h := h.2 c7
        refine lv_aload_n hx hb dX2_removeAbove_10 rfl (lv_at hl 0 rfl) ?_
        refine xg_1_0 S hK hW kw_40 dX2_removeAbove_11 ?_
        refine lv_iload_n hx hb dX2_removeAbove_14 rfl (lv_at hl 2 rfl) ?_
        obtain ⟨hin, h⟩ := h
        refine xl_3 S hK hW hin dX2_removeAbove_15 (fun x8 ex8 => ?_)
        have h := nm_use ex8 h
        refine lv_iload_n hx hb dX2_removeAbove_16 rfl (lv_at hl 1 rfl) ?_
        refine lv_icmp_gt (tgt := 26) hx hb dX2_removeAbove_17 (by decide) (fun c9 => ?_) (fun c9 => ?_)
        · have h := h.1 c9
          exact hE y2_2 u_2 _ _ _ h hW (lv_sub hl [0, 1, 2] rfl)
        · have h := h.2 c9
          obtain ⟨x10, ex10⟩ : ∃ z : Int32, z = y2_2 + 1 := ⟨_, rfl⟩
          have h := nm_use ex10 h
          refine lv_iinc (v := x10) (lv' := [(2, .int x10), (0, .ref (a 1)), (1, .int xp1)]) hx hb dX2_removeAbove_20 hl (k := 2) rfl (by rw [ex10]; rfl) (by decide) rfl (fun ls hl => ?_)
          refine lv_goto (tgt := 2) hx hb dX2_removeAbove_23 (by decide) ?_
          exact ih x10 u_2 _ _ _ h hW (lv_sub hl [1, 2, 0] rfl)
  obtain ⟨n_2, h⟩ := h
  refine loop_2 _ ?_ n_2 0 u _ _ _ h hW (lv_sub hl [1, 2, 0] rfl)
  intro w2_2 v_2 H locs ls h hW hl
  refine lv_aload_n hx hb dX2_removeAbove_26 rfl (lv_at hl 0 rfl) ?_
  refine xg_1_6 S hK hW kw_49 dX2_removeAbove_27 ?_
  refine lv_iload_n hx hb dX2_removeAbove_30 rfl (lv_at hl 2 rfl) ?_
  refine lv_isub hx hb dX2_removeAbove_31 ?_
  refine lv_topi (fun x5 ex5 => ?_)
  have h := nm_use ex5 h
  refine lv_istore_n (lv' := [(3, .int x5), (0, .ref (a 1)), (1, .int xp1), (2, .int w2_2)]) hx hb dX2_removeAbove_32 rfl hl (by decide) rfl (fun ls hl => ?_)
  refine lv_aload_n hx hb dX2_removeAbove_33 rfl (lv_at hl 1 rfl) ?_
  refine lv_iload_n hx hb dX2_removeAbove_34 rfl (lv_at hl 3 rfl) ?_
  refine xp_17 S hK hW kw_49 dX2_removeAbove_35 (fun u6 H locs eu6 hW => ?_)
  have h := nm_use eu6 h
  refine lv_iload_n hx hb dX2_removeAbove_38 rfl (lv_at hl 0 rfl) ?_
  exact hret _ _ _ _ _ _ dX2_removeAbove_39 hW h
def w_X1_fallTo (xp1 : Int32) (u : Mem) (post : Mem → Prop) : Prop := nm (g_ms u 18 0 xp1) fun u1 => post u1
abbrev rm_X1_fallTo : Room := { frames := 0, cells := 0, slots := 0, locals := 0 }
theorem hd_X1_fallTo : yX1_fallTo.cls ≠ "java/lang/invoke/MethodHandle" ∧ yX1_fallTo.cls ≠ "java/lang/invoke/VarHandle" ∧ (parseMethodDescriptor yX1_fallTo.desc).map (fun d => d.parameters.length) = some 1 := by decide +kernel
set_option maxHeartbeats 4000000 in
set_option maxRecDepth 100000 in
theorem c_X1_fallTo (l : Launch) (D : va_G) (cA : ClassId) (a : Nat → Nat) (u : Mem) (xp1 : Int32) (post : Mem → Prop) (h : w_X1_fallTo xp1 u post) : g_Mv l yX1_fallTo (Cond.code yX1_fallTo cX1_fallTo 2 none :: tT) rm_X1_fallTo D cA (Xw cA a) u [.ref (a 2), .int xp1] post := by
  refine g_enter_v (by decide) (Xw_adr cA a) (Nat.le_of_ble_eq_true rfl) ?_
  intro p e s m args below meth c A Q S hml hK hA hret ls hl hW
  have hx := S.1
  have hb := S.2.1
  have hl : lv_has ls 2 [(0, .ref (a 2)), (1, .int xp1)] := hl
  skip
  refine lv_aload_n hx hb dX1_fallTo_0 rfl (lv_at hl 0 rfl) ?_
  refine lv_iload_n hx hb dX1_fallTo_1 rfl (lv_at hl 1 rfl) ?_
  refine xp_18 S hK hW kw_76 dX1_fallTo_2 (fun u1 H locs eu1 hW => ?_)
  have h := nm_use eu1 h
  exact hret _ _ _ _ _ dX1_fallTo_5 hW h
set_option maxHeartbeats 4000000 in
set_option maxRecDepth 100000 in
theorem c_X0_startFrom_1 (l : Launch) (D : va_G) (cA : ClassId) (a : Nat → Nat) (u : Mem) (post : Mem → Prop) (h : w_X0_startFrom 1 32 u post) : g_Mv l yX0_startFrom (Cond.code yX0_startFrom cX0_startFrom 3 none :: tT) rm_X0_startFrom D cA (Xw cA a) u [.ref (a 3), .ref (a 6)] post := by
  refine g_enter_v (by decide) (Xw_adr cA a) (Nat.le_of_ble_eq_true rfl) ?_
  intro p e s m args below meth c A Q S hml hK hA hret ls hl hW
  have hx := S.1
  have hb := S.2.1
  have hl : lv_has ls 3 [(0, .ref (a 3)), (1, .ref (a 6))] := hl
  skip
  refine lv_iconst (v := 0) hx hb dX0_startFrom_0 (by decide) ?_
  refine lv_istore_n (lv' := [(2, .int 0), (0, .ref (a 3)), (1, .ref (a 6))]) hx hb dX0_startFrom_1 rfl hl (by decide) rfl (fun ls hl => ?_)
  have loop_2 : ∀ (K : Int32 → Mem → Prop), (∀ (w2_2 : Int32) (v_2 : Mem) (H : Heap) (locs : List Loc) (ls : Array Slot), K w2_2 v_2 → g_W D (Xw cA a) A s.heap v_2 H locs → lv_has ls 3 [(0, .ref (a 3)), (1, .ref (a 6)), (2, .int w2_2)] → W p l e rm_X0_startFrom s m args below meth c H locs 0 0 Q (F0 m 32 ls [])) → ∀ (n : Nat) (y2_2 : Int32) (u_2 : Mem) (H : Heap) (locs : List Loc) (ls : Array Slot), L_X0_startFrom_2 1 32 post K n y2_2 u_2 → g_W D (Xw cA a) A s.heap u_2 H locs → lv_has ls 3 [(0, .ref (a 3)), (1, .ref (a 6)), (2, .int y2_2)] → W p l e rm_X0_startFrom s m args below meth c H locs 0 0 Q (F0 m 2 ls []) := by
    intro K hE n
    induction n with
    | zero => intro y2_2 u_2 H locs ls h; exact False.elim h
    | succ n ih =>
      intro y2_2 u_2 H locs ls h hW hl
      refine lv_iload_n hx hb dX0_startFrom_2 rfl (lv_at hl 2 rfl) ?_
      refine lv_bipush (v := 32) hx hb dX0_startFrom_3 (by decide) ?_
      refine lv_icmp_ge (tgt := 32) hx hb dX0_startFrom_5 (by decide) (fun c9 => ?_) (fun c9 => ?_)
      · have h := h.1 c9
        exact hE y2_2 u_2 _ _ _ h hW (lv_sub hl [0, 1, 2] rfl)
      · have h := h.2 c9
        refine lv_aload_n hx hb dX0_startFrom_8 rfl (lv_at hl 0 rfl) ?_
        refine xg_3_0 S hK hW kw_92 dX0_startFrom_9 ?_
        refine lv_iload_n hx hb dX0_startFrom_12 rfl (lv_at hl 2 rfl) ?_
        refine lv_aload_n hx hb dX0_startFrom_13 rfl (lv_at hl 1 rfl) ?_
        refine lv_iload_n hx hb dX0_startFrom_14 rfl (lv_at hl 2 rfl) ?_
        obtain ⟨hin, h⟩ := h
        refine xl_1 S hK hW hin dX0_startFrom_15 (fun x10 ex10 => ?_)
        have h := nm_use ex10 h
        obtain ⟨hin, h⟩ := h
        refine xs_11 S hK hW hin dX0_startFrom_16 (fun u11 H locs eu11 hW => ?_)
        have h := nm_use eu11 h
        refine lv_aload_n hx hb dX0_startFrom_17 rfl (lv_at hl 0 rfl) ?_
        refine xg_3_1 S hK hW kw_94 dX0_startFrom_18 ?_
        refine lv_iload_n hx hb dX0_startFrom_21 rfl (lv_at hl 2 rfl) ?_
        refine lv_aload_n hx hb dX0_startFrom_22 rfl (lv_at hl 1 rfl) ?_
        refine lv_iload_n hx hb dX0_startFrom_23 rfl (lv_at hl 2 rfl) ?_
        obtain ⟨hin, h⟩ := h
        refine xl_1 S hK hW hin dX0_startFrom_24 (fun x12 ex12 => ?_)
        have h := nm_use ex12 h
        obtain ⟨hin, h⟩ := h
        refine xs_12 S hK hW hin dX0_startFrom_25 (fun u13 H locs eu13 hW => ?_)
        have h := nm_use eu13 h
        obtain ⟨x14, ex14⟩ : ∃ z : Int32, z = y2_2 + 1 := ⟨_, rfl⟩
        have h := nm_use ex14 h
        refine lv_iinc (v := x14) (lv' := [(2, .int x14), (0, .ref (a 3)), (1, .ref (a 6))]) hx hb dX0_startFrom_26 hl (k := 2) rfl (by rw [ex14]; rfl) (by decide) rfl (fun ls hl => ?_)
        refine lv_goto (tgt := 2) hx hb dX0_startFrom_29 (by decide) ?_
        exact ih x14 u13 _ _ _ h hW (lv_sub hl [1, 2, 0] rfl)
  obtain ⟨n_2, h⟩ := h
  refine loop_2 _ ?_ n_2 0 u _ _ _ h hW (lv_sub hl [1, 2, 0] rfl)
  intro w2_2 v_2 H locs ls h hW hl
  refine lv_aload_n hx hb dX0_startFrom_32 rfl (lv_at hl 0 rfl) ?_
  refine lv_iconst (v := 0) hx hb dX0_startFrom_33 (by decide) ?_
  refine xp_19 S hK hW kw_98 dX0_startFrom_34 (fun u7 H locs eu7 hW => ?_)
  have h := nm_use eu7 h
  refine lv_aload_n hx hb dX0_startFrom_37 rfl (lv_at hl 0 rfl) ?_
  refine lv_iconst (v := 0) hx hb dX0_startFrom_38 (by decide) ?_
  refine xp_20 S hK hW kw_101 dX0_startFrom_39 (fun u8 H locs eu8 hW => ?_)
  have h := nm_use eu8 h
  exact hret _ _ _ _ _ dX0_startFrom_42 hW h
def L_X2_find_5 (f1_5 : Int32) (f2_5 : Int32) (post : Int32 → Mem → Prop) (K : Int32 → Int32 → Mem → Prop) : Nat → Int32 → Int32 → Mem → Prop
  | 0, _, _, _ => False
  | n_5 + 1, y3_5, y4_5, u_5 => ((u_5 17 0) ≤ y4_5 → (K y3_5 y4_5 u_5)) ∧ (¬ (u_5 17 0) ≤ y4_5 → (w_X2_isOf y4_5 f1_5 u_5 (fun x3 u2 => (x3 = 0 → (nm (y4_5 + 1) fun x8 => L_X2_find_5 f1_5 f2_5 post K n_5 y3_5 x8 u2)) ∧ (¬ x3 = 0 → ((y3_5 = f2_5 → (post y4_5 u2)) ∧ (¬ y3_5 = f2_5 → (nm (y3_5 + 1) fun x6 => nm (y4_5 + 1) fun x7 => L_X2_find_5 f1_5 f2_5 post K n_5 x6 x7 u2)))))))
def w_X2_find (xp1 : Int32) (xp2 : Int32) (u : Mem) (post : Int32 → Mem → Prop) : Prop := ∃ n_5, L_X2_find_5 xp1 xp2 post (fun w3_5 w4_5 v_5 => post (-1) v_5) n_5 0 0 u
abbrev rm_X2_find : Room := { frames := 1, cells := 0, slots := 0, locals := 22 }
theorem hd_X2_find : yX2_find.cls ≠ "java/lang/invoke/MethodHandle" ∧ yX2_find.cls ≠ "java/lang/invoke/VarHandle" ∧ (parseMethodDescriptor yX2_find.desc).map (fun d => d.parameters.length) = some 2 := by decide +kernel
set_option maxHeartbeats 4000000 in
set_option maxRecDepth 100000 in
theorem c_X2_find (l : Launch) (D : va_G) (cA : ClassId) (a : Nat → Nat) (u : Mem) (xp1 xp2 : Int32) (post : Int32 → Mem → Prop) (h : w_X2_find xp1 xp2 u post) : g_Mi l yX2_find (Cond.code yX2_find cX2_find 5 (some .int) :: tT) rm_X2_find D cA (Xw cA a) u [.ref (a 1), .int xp1, .int xp2] post := by
  refine g_enter_i (by decide) (Xw_adr cA a) (Nat.le_of_ble_eq_true rfl) ?_
  intro p e s m args below meth c A Q S hml hK hA hret ls hl hW
  have hx := S.1
  have hb := S.2.1
  have hl : lv_has ls 5 [(0, .ref (a 1)), (1, .int xp1), (2, .int xp2)] := hl
  skip
  refine lv_iconst (v := 0) hx hb dX2_find_0 (by decide) ?_
  refine lv_istore_n (lv' := [(3, .int 0), (0, .ref (a 1)), (1, .int xp1), (2, .int xp2)]) hx hb dX2_find_1 rfl hl (by decide) rfl (fun ls hl => ?_)
  refine lv_iconst (v := 0) hx hb dX2_find_2 (by decide) ?_
  refine lv_istore (lv' := [(4, .int 0), (3, .int 0), (0, .ref (a 1)), (1, .int xp1), (2, .int xp2)]) hx hb dX2_find_3 hl (by decide) rfl (fun ls hl => ?_)
  have loop_5 : ∀ (K : Int32 → Int32 → Mem → Prop), (∀ (w3_5 w4_5 : Int32) (v_5 : Mem) (H : Heap) (locs : List Loc) (ls : Array Slot), K w3_5 w4_5 v_5 → g_W D (Xw cA a) A s.heap v_5 H locs → lv_has ls 5 [(0, .ref (a 1)), (1, .int xp1), (2, .int xp2), (3, .int w3_5), (4, .int w4_5)] → W p l e rm_X2_find s m args below meth c H locs 0 0 Q (F0 m 44 ls [])) → ∀ (n : Nat) (y3_5 y4_5 : Int32) (u_5 : Mem) (H : Heap) (locs : List Loc) (ls : Array Slot), L_X2_find_5 xp1 xp2 post K n y3_5 y4_5 u_5 → g_W D (Xw cA a) A s.heap u_5 H locs → lv_has ls 5 [(0, .ref (a 1)), (1, .int xp1), (2, .int xp2), (3, .int y3_5), (4, .int y4_5)] → W p l e rm_X2_find s m args below meth c H locs 0 0 Q (F0 m 5 ls []) := by
    intro K hE n
    induction n with
    | zero => intro y3_5 y4_5 u_5 H locs ls h; exact False.elim h
    | succ n ih =>
      intro y3_5 y4_5 u_5 H locs ls h hW hl
      refine lv_iload hx hb dX2_find_5 (lv_at hl 4 rfl) ?_
      refine lv_aload_n hx hb dX2_find_7 rfl (lv_at hl 0 rfl) ?_
      refine xg_1_6 S hK hW kw_49 dX2_find_8 ?_
      refine lv_icmp_ge (tgt := 44) hx hb dX2_find_11 (by decide) (fun c9 => ?_) (fun c9 => ?_)
      · have h := h.1 c9
        exact hE y3_5 y4_5 u_5 _ _ _ h hW (lv_sub hl [0, 1, 2, 3, 4] rfl)
      · have h := h.2 c9
        refine lv_aload_n hx hb dX2_find_14 rfl (lv_at hl 0 rfl) ?_
        refine lv_iload hx hb dX2_find_15 (lv_at hl 4 rfl) ?_
        refine lv_iload_n hx hb dX2_find_17 rfl (lv_at hl 1 rfl) ?_
        refine g_cali (g_runV S hml hK hW (c_X2_isOf l D cA a u_5 y4_5 xp1 _ h _) kw_229 kw_230 kw_231 kw_20 kw_232 hd_X2_isOf ⟨rfl, rfl, Nat.le_of_ble_eq_true rfl, Nat.le_of_ble_eq_true rfl⟩ (q0 := 1) rfl rfl (As := [.int y4_5, .int xp1]) (rest := []) rfl rfl hl.1 (Nat.le_of_ble_eq_true rfl) dX2_find_18 ⟨Nat.zero_le _, Nat.zero_le _⟩) (Xw_adr cA a) hA hW (fun x11 u10 H locs h hW => ?_)
        refine lv_if_ne (tgt := 27) hx hb dX2_find_21 (by decide) (fun c12 => ?_) (fun c12 => ?_)
        · have h := h.2 c12
          refine lv_iload_n hx hb dX2_find_27 rfl (lv_at hl 3 rfl) ?_
          refine lv_iload_n hx hb dX2_find_28 rfl (lv_at hl 2 rfl) ?_
          refine lv_icmp_ne (tgt := 35) hx hb dX2_find_29 (by decide) (fun c13 => ?_) (fun c13 => ?_)
          · have h := h.2 c13
            obtain ⟨x14, ex14⟩ : ∃ z : Int32, z = y3_5 + 1 := ⟨_, rfl⟩
            have h := nm_use ex14 h
            refine lv_iinc (v := x14) (lv' := [(3, .int x14), (0, .ref (a 1)), (1, .int xp1), (2, .int xp2), (4, .int y4_5)]) hx hb dX2_find_35 hl (k := 3) rfl (by rw [ex14]; rfl) (by decide) rfl (fun ls hl => ?_)
            obtain ⟨x15, ex15⟩ : ∃ z : Int32, z = y4_5 + 1 := ⟨_, rfl⟩
            have h := nm_use ex15 h
            refine lv_iinc (v := x15) (lv' := [(4, .int x15), (3, .int x14), (0, .ref (a 1)), (1, .int xp1), (2, .int xp2)]) hx hb dX2_find_38 hl (k := 4) rfl (by rw [ex15]; rfl) (by decide) rfl (fun ls hl => ?_)
            refine lv_goto (tgt := 5) hx hb dX2_find_41 (by decide) ?_
            exact ih x14 x15 u10 _ _ _ h hW (lv_sub hl [2, 3, 4, 1, 0] rfl)
          · have h := h.1 c13
            refine lv_iload hx hb dX2_find_32 (lv_at hl 4 rfl) ?_
            exact hret _ _ _ _ _ _ dX2_find_34 hW h
        · have h := h.1 c12
          refine lv_goto (tgt := 38) hx hb dX2_find_24 (by decide) ?_
          obtain ⟨x16, ex16⟩ : ∃ z : Int32, z = y4_5 + 1 := ⟨_, rfl⟩
          have h := nm_use ex16 h
          refine lv_iinc (v := x16) (lv' := [(4, .int x16), (0, .ref (a 1)), (1, .int xp1), (2, .int xp2), (3, .int y3_5)]) hx hb dX2_find_38 hl (k := 4) rfl (by rw [ex16]; rfl) (by decide) rfl (fun ls hl => ?_)
          refine lv_goto (tgt := 5) hx hb dX2_find_41 (by decide) ?_
          exact ih y3_5 x16 u10 _ _ _ h hW (lv_sub hl [1, 2, 3, 4, 0] rfl)
  obtain ⟨n_5, h⟩ := h
  refine loop_5 _ ?_ n_5 0 0 u _ _ _ h hW (lv_sub hl [2, 3, 4, 1, 0] rfl)
  intro w3_5 w4_5 v_5 H locs ls h hW hl
  refine lv_iconst (v := (-1)) hx hb dX2_find_44 (by decide) ?_
  exact hret _ _ _ _ _ _ dX2_find_45 hW h
set_option maxHeartbeats 4000000 in
set_option maxRecDepth 100000 in
theorem c_J7_fill_53178_0 (l : Launch) (D : va_G) (cA : ClassId) (a : Nat → Nat) (u : Mem) (xp1 : Int32) (post : Mem → Prop) (h : w_J7_fill_53178 0 5 xp1 u post) : g_Mv l yJ7_fill_53178 (Cond.code yJ7_fill_53178 cJ7_fill_53178 4 none :: tT) rm_J7_fill_53178 D cA (Xw cA a) u [.ref (a 5), .int xp1] post := by
  refine g_enter_v (by decide) (Xw_adr cA a) (Nat.le_of_ble_eq_true rfl) ?_
  intro p e s m args below meth c A Q S hml hK hA hret ls hl hW
  have hx := S.1
  have hb := S.2.1
  have hl : lv_has ls 4 [(0, .ref (a 5)), (1, .int xp1)] := hl
  skip
  refine lv_iconst (v := 0) hx hb dJ7_fill_53178_0 (by decide) ?_
  refine lv_istore_n (lv' := [(2, .int 0), (0, .ref (a 5)), (1, .int xp1)]) hx hb dJ7_fill_53178_1 rfl hl (by decide) rfl (fun ls hl => ?_)
  refine lv_aload_n hx hb dJ7_fill_53178_2 rfl (lv_at hl 1 rfl) ?_
  refine xn_0 S hK hW dJ7_fill_53178_3 ?_
  refine lv_topi (fun x1 ex1 => ?_)
  have h := nm_use ex1 h
  refine lv_istore_n (lv' := [(3, .int x1), (2, .int 0), (0, .ref (a 5)), (1, .int xp1)]) hx hb dJ7_fill_53178_4 rfl hl (by decide) rfl (fun ls hl => ?_)
  have loop_5 : ∀ (K : Int32 → Mem → Prop), (∀ (w2_5 : Int32) (v_5 : Mem) (H : Heap) (locs : List Loc) (ls : Array Slot), K w2_5 v_5 → g_W D (Xw cA a) A s.heap v_5 H locs → lv_has ls 4 [(0, .ref (a 5)), (1, .int xp1), (2, .int w2_5), (3, .int x1)] → W p l e rm_J7_fill_53178 s m args below meth c H locs 0 0 Q (F0 m 20 ls [])) → ∀ (n : Nat) (y2_5 : Int32) (u_5 : Mem) (H : Heap) (locs : List Loc) (ls : Array Slot), L_J7_fill_53178_5 0 5 xp1 x1 post K n y2_5 u_5 → g_W D (Xw cA a) A s.heap u_5 H locs → lv_has ls 4 [(0, .ref (a 5)), (1, .int xp1), (2, .int y2_5), (3, .int x1)] → W p l e rm_J7_fill_53178 s m args below meth c H locs 0 0 Q (F0 m 5 ls []) := by
    intro K hE n
    induction n with
    | zero => intro y2_5 u_5 H locs ls h; exact False.elim h
    | succ n ih =>
      intro y2_5 u_5 H locs ls h hW hl
      refine lv_iload_n hx hb dJ7_fill_53178_5 rfl (lv_at hl 2 rfl) ?_
      refine lv_iload_n hx hb dJ7_fill_53178_6 rfl (lv_at hl 3 rfl) ?_
      refine lv_icmp_ge (tgt := 20) hx hb dJ7_fill_53178_7 (by decide) (fun c5 => ?_) (fun c5 => ?_)
      · have h := h.1 c5
        exact hE y2_5 u_5 _ _ _ h hW (lv_sub hl [0, 1, 2, 3] rfl)
      · have h := h.2 c5
        refine lv_aload_n hx hb dJ7_fill_53178_10 rfl (lv_at hl 0 rfl) ?_
        refine lv_iload_n hx hb dJ7_fill_53178_11 rfl (lv_at hl 2 rfl) ?_
        refine lv_iload_n hx hb dJ7_fill_53178_12 rfl (lv_at hl 1 rfl) ?_
        obtain ⟨hin, h⟩ := h
        refine xs_0 S hK hW hin dJ7_fill_53178_13 (fun u6 H locs eu6 hW => ?_)
        have h := nm_use eu6 h
        obtain ⟨x7, ex7⟩ : ∃ z : Int32, z = y2_5 + 1 := ⟨_, rfl⟩
        have h := nm_use ex7 h
        refine lv_iinc (v := x7) (lv' := [(2, .int x7), (0, .ref (a 5)), (1, .int xp1), (3, .int x1)]) hx hb dJ7_fill_53178_14 hl (k := 2) rfl (by rw [ex7]; rfl) (by decide) rfl (fun ls hl => ?_)
        refine lv_goto (tgt := 5) hx hb dJ7_fill_53178_17 (by decide) ?_
        exact ih x7 u6 _ _ _ h hW (lv_sub hl [1, 2, 0, 3] rfl)
  obtain ⟨n_5, h⟩ := h
  refine loop_5 _ ?_ n_5 0 u _ _ _ h hW (lv_sub hl [2, 3, 1, 0] rfl)
  intro w2_5 v_5 H locs ls h hW hl
  exact hret _ _ _ _ _ dJ7_fill_53178_20 hW h
