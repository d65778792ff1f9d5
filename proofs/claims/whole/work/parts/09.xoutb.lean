def w_X4_prune (xp1 : Int32) (u : Mem) (post : Int32 → Mem → Prop) : Prop := w_X4_isHeight xp1 u (fun x2 u1 => (x2 = 0 → (post (-101) u1)) ∧ (¬ x2 = 0 → (w_X1_countPrunable xp1 (u1 15 0) u1 (fun x5 u4 => (x5 = 0 → (post 0 u4)) ∧ (¬ x5 = 0 → (((u4 16 0) < 8 → (w_X1_moveTo (u4 16 0) xp1 (u4 15 0) u4 (fun u8 => w_X2_moveUnneededTo (u8 16 0) u8 (fun u9 => nm ((u9 16 0) + (1 : Int32) : Int32) fun x10 => nm (g_ms u9 16 0 x10) fun u11 => post x5 u11)))) ∧ (¬ (u4 16 0) < 8 → (post (-105) u4))))))))
abbrev rm_X4_prune : Room := { frames := 3, cells := 0, slots := 0, locals := 68 }
theorem hd_X4_prune : yX4_prune.cls ≠ "java/lang/invoke/MethodHandle" ∧ yX4_prune.cls ≠ "java/lang/invoke/VarHandle" ∧ (parseMethodDescriptor yX4_prune.desc).map (fun d => d.parameters.length) = some 1 := by decide +kernel
set_option maxHeartbeats 4000000 in
set_option maxRecDepth 100000 in
theorem c_X4_prune (l : Launch) (D : va_G) (cA : ClassId) (a : Nat → Nat) (u : Mem) (xp1 : Int32) (post : Int32 → Mem → Prop) (h : w_X4_prune xp1 u post) : g_Mi l yX4_prune (Cond.code yX4_prune cX4_prune 3 (some .int) :: tT) rm_X4_prune D cA (Xw cA a) u [.ref (a 0), .int xp1] post := by
  refine g_enter_i (by decide) (Xw_adr cA a) (Nat.le_of_ble_eq_true rfl) ?_
  intro p e s m args below meth c A Q S hml hK hA hret ls hl hW
  have hx := S.1
  have hb := S.2.1
  have hl : lv_has ls 3 [(0, .ref (a 0)), (1, .int xp1)] := hl
  skip
  refine lv_aload_n hx hb dX4_prune_0 rfl (lv_at hl 0 rfl) ?_
  refine lv_iload_n hx hb dX4_prune_1 rfl (lv_at hl 1 rfl) ?_
  refine g_cali (g_runV S hml hK hW (c_X4_isHeight l D cA a u xp1 _ h _) kw_213 kw_215 kw_1 kw_19 kw_216 hd_X4_isHeight ⟨rfl, rfl, Nat.le_of_ble_eq_true rfl, Nat.le_of_ble_eq_true rfl⟩ (q0 := 0) rfl rfl (As := [.int xp1]) (rest := []) rfl rfl hl.1 (Nat.le_of_ble_eq_true rfl) dX4_prune_2 ⟨Nat.zero_le _, Nat.zero_le _⟩) (Xw_adr cA a) hA hW (fun x2 u1 H locs h hW => ?_)
  refine lv_if_ne (tgt := 11) hx hb dX4_prune_5 (by decide) (fun c3 => ?_) (fun c3 => ?_)
  · have h := h.2 c3
    refine lv_aload_n hx hb dX4_prune_11 rfl (lv_at hl 0 rfl) ?_
    refine xg_0_1 S hK hW kw_150 dX4_prune_12 ?_
    refine lv_iload_n hx hb dX4_prune_15 rfl (lv_at hl 1 rfl) ?_
    refine lv_aload_n hx hb dX4_prune_16 rfl (lv_at hl 0 rfl) ?_
    refine xg_0_7 S hK hW kw_156 dX4_prune_17 ?_
    refine g_cali (g_runV S hml hK hW (c_X1_countPrunable l D cA a u1 xp1 (u1 15 0) _ h _) kw_283 kw_284 kw_285 kw_21 kw_286 hd_X1_countPrunable ⟨rfl, rfl, Nat.le_of_ble_eq_true rfl, Nat.le_of_ble_eq_true rfl⟩ (q0 := 2) rfl rfl (As := [.int xp1, .int (u1 15 0)]) (rest := []) rfl rfl hl.1 (Nat.le_of_ble_eq_true rfl) dX4_prune_20 ⟨Nat.zero_le _, Nat.zero_le _⟩) (Xw_adr cA a) hA hW (fun x5 u4 H locs h hW => ?_)
    refine lv_istore_n (lv' := [(2, .int x5), (0, .ref (a 0)), (1, .int xp1)]) hx hb dX4_prune_23 rfl hl (by decide) rfl (fun ls hl => ?_)
    refine lv_iload_n hx hb dX4_prune_24 rfl (lv_at hl 0 rfl) ?_
    refine lv_if_ne (tgt := 30) hx hb dX4_prune_25 (by decide) (fun c6 => ?_) (fun c6 => ?_)
    · have h := h.2 c6
      refine lv_aload_n hx hb dX4_prune_30 rfl (lv_at hl 1 rfl) ?_
      refine xg_0_8 S hK hW kw_157 dX4_prune_31 ?_
      refine lv_bipush (v := 8) hx hb dX4_prune_34 (by decide) ?_
      refine lv_icmp_lt (tgt := 42) hx hb dX4_prune_36 (by decide) (fun c7 => ?_) (fun c7 => ?_)
      · have h := h.1 c7
        refine lv_aload_n hx hb dX4_prune_42 rfl (lv_at hl 1 rfl) ?_
        refine xg_0_1 S hK hW kw_150 dX4_prune_43 ?_
        refine lv_aload_n hx hb dX4_prune_46 rfl (lv_at hl 1 rfl) ?_
        refine xg_0_8 S hK hW kw_157 dX4_prune_47 ?_
        refine lv_iload_n hx hb dX4_prune_50 rfl (lv_at hl 2 rfl) ?_
        refine lv_aload_n hx hb dX4_prune_51 rfl (lv_at hl 1 rfl) ?_
        refine xg_0_7 S hK hW kw_156 dX4_prune_52 ?_
        refine g_calv (g_runV S hml hK hW (c_X1_moveTo l D cA a u4 (u4 16 0) xp1 (u4 15 0) _ h _) kw_292 kw_293 kw_294 kw_21 kw_295 hd_X1_moveTo ⟨rfl, rfl, Nat.le_of_ble_eq_true rfl, Nat.le_of_ble_eq_true rfl⟩ (q0 := 2) rfl rfl (As := [.int (u4 16 0), .int xp1, .int (u4 15 0)]) (rest := []) rfl rfl hl.1 (Nat.le_of_ble_eq_true rfl) dX4_prune_55 ⟨Nat.zero_le _, Nat.zero_le _⟩) (Xw_adr cA a) hA hW (fun u8 H locs h hW => ?_)
        refine lv_aload_n hx hb dX4_prune_58 rfl (lv_at hl 1 rfl) ?_
        refine xg_0_0 S hK hW kw_149 dX4_prune_59 ?_
        refine lv_aload_n hx hb dX4_prune_62 rfl (lv_at hl 1 rfl) ?_
        refine xg_0_8 S hK hW kw_157 dX4_prune_63 ?_
        refine lv_aload_n hx hb dX4_prune_66 rfl (lv_at hl 1 rfl) ?_
        refine xg_0_1 S hK hW kw_150 dX4_prune_67 ?_
        refine g_calv (g_runV S hml hK hW (c_X2_moveUnneededTo l D cA a u8 (u8 16 0) _ h _) kw_296 kw_297 kw_298 kw_20 kw_299 hd_X2_moveUnneededTo ⟨rfl, rfl, Nat.le_of_ble_eq_true rfl, Nat.le_of_ble_eq_true rfl⟩ (q0 := 1) rfl rfl (As := [.int (u8 16 0), .ref (a 2)]) (rest := []) rfl rfl hl.1 (Nat.le_of_ble_eq_true rfl) dX4_prune_70 ⟨Nat.zero_le _, Nat.zero_le _⟩) (Xw_adr cA a) hA hW (fun u9 H locs h hW => ?_)
        refine lv_aload_n hx hb dX4_prune_73 rfl (lv_at hl 1 rfl) ?_
        refine lv_dup hx hb dX4_prune_74 rfl ?_
        refine xg_0_8 S hK hW kw_157 dX4_prune_75 ?_
        refine lv_iconst (v := 1) hx hb dX4_prune_78 (by decide) ?_
        refine lv_iadd hx hb dX4_prune_79 ?_
        refine lv_topi (fun x10 ex10 => ?_)
        have h := nm_use ex10 h
        refine xp_16 S hK hW kw_157 dX4_prune_80 (fun u11 H locs eu11 hW => ?_)
        have h := nm_use eu11 h
        refine lv_iload_n hx hb dX4_prune_83 rfl (lv_at hl 0 rfl) ?_
        exact hret _ _ _ _ _ _ dX4_prune_84 hW h
      · have h := h.2 c7
        refine lv_bipush (v := (-105)) hx hb dX4_prune_39 (by decide) ?_
        exact hret _ _ _ _ _ _ dX4_prune_41 hW h
    · have h := h.1 c6
      refine lv_iconst (v := 0) hx hb dX4_prune_28 (by decide) ?_
      exact hret _ _ _ _ _ _ dX4_prune_29 hW h
  · have h := h.1 c3
    refine lv_bipush (v := (-101)) hx hb dX4_prune_8 (by decide) ?_
    exact hret _ _ _ _ _ _ dX4_prune_10 hW h
def w_X4_pruned (xp1 : Int32) (u : Mem) (post : Int32 → Mem → Prop) : Prop := w_X4_isHeight xp1 u (fun x2 u1 => (x2 = 0 → (post (-101) u1)) ∧ (¬ x2 = 0 → (w_X1_isGone xp1 u1 (fun x5 u4 => (x5 = 0 → (post 0 u4)) ∧ (¬ x5 = 0 → (post 1 u4))))))
abbrev rm_X4_pruned : Room := { frames := 1, cells := 0, slots := 0, locals := 21 }
theorem hd_X4_pruned : yX4_pruned.cls ≠ "java/lang/invoke/MethodHandle" ∧ yX4_pruned.cls ≠ "java/lang/invoke/VarHandle" ∧ (parseMethodDescriptor yX4_pruned.desc).map (fun d => d.parameters.length) = some 1 := by decide +kernel
set_option maxHeartbeats 4000000 in
set_option maxRecDepth 100000 in
theorem c_X4_pruned (l : Launch) (D : va_G) (cA : ClassId) (a : Nat → Nat) (u : Mem) (xp1 : Int32) (post : Int32 → Mem → Prop) (h : w_X4_pruned xp1 u post) : g_Mi l yX4_pruned (Cond.code yX4_pruned cX4_pruned 2 (some .int) :: tT) rm_X4_pruned D cA (Xw cA a) u [.ref (a 0), .int xp1] post := by
  refine g_enter_i (by decide) (Xw_adr cA a) (Nat.le_of_ble_eq_true rfl) ?_
  intro p e s m args below meth c A Q S hml hK hA hret ls hl hW
  have hx := S.1
  have hb := S.2.1
  have hl : lv_has ls 2 [(0, .ref (a 0)), (1, .int xp1)] := hl
  skip
  refine lv_aload_n hx hb dX4_pruned_0 rfl (lv_at hl 0 rfl) ?_
  refine lv_iload_n hx hb dX4_pruned_1 rfl (lv_at hl 1 rfl) ?_
  refine g_cali (g_runV S hml hK hW (c_X4_isHeight l D cA a u xp1 _ h _) kw_213 kw_215 kw_1 kw_19 kw_216 hd_X4_isHeight ⟨rfl, rfl, Nat.le_of_ble_eq_true rfl, Nat.le_of_ble_eq_true rfl⟩ (q0 := 0) rfl rfl (As := [.int xp1]) (rest := []) rfl rfl hl.1 (Nat.le_of_ble_eq_true rfl) dX4_pruned_2 ⟨Nat.zero_le _, Nat.zero_le _⟩) (Xw_adr cA a) hA hW (fun x2 u1 H locs h hW => ?_)
  refine lv_if_ne (tgt := 11) hx hb dX4_pruned_5 (by decide) (fun c3 => ?_) (fun c3 => ?_)
  · have h := h.2 c3
    refine lv_aload_n hx hb dX4_pruned_11 rfl (lv_at hl 0 rfl) ?_
    refine xg_0_1 S hK hW kw_150 dX4_pruned_12 ?_
    refine lv_iload_n hx hb dX4_pruned_15 rfl (lv_at hl 1 rfl) ?_
    refine g_cali (g_runV S hml hK hW (c_X1_isGone l D cA a u1 xp1 _ h _) kw_221 kw_222 kw_223 kw_21 kw_224 hd_X1_isGone ⟨rfl, rfl, Nat.le_of_ble_eq_true rfl, Nat.le_of_ble_eq_true rfl⟩ (q0 := 2) rfl rfl (As := [.int xp1]) (rest := []) rfl rfl hl.1 (Nat.le_of_ble_eq_true rfl) dX4_pruned_16 ⟨Nat.zero_le _, Nat.zero_le _⟩) (Xw_adr cA a) hA hW (fun x5 u4 H locs h hW => ?_)
    refine lv_if_eq (tgt := 26) hx hb dX4_pruned_19 (by decide) (fun c6 => ?_) (fun c6 => ?_)
    · have h := h.1 c6
      refine lv_iconst (v := 0) hx hb dX4_pruned_26 (by decide) ?_
      exact hret _ _ _ _ _ _ dX4_pruned_27 hW h
    · have h := h.2 c6
      refine lv_iconst (v := 1) hx hb dX4_pruned_22 (by decide) ?_
      refine lv_goto (tgt := 27) hx hb dX4_pruned_23 (by decide) ?_
      exact hret _ _ _ _ _ _ dX4_pruned_27 hW h
  · have h := h.1 c3
    refine lv_bipush (v := (-101)) hx hb dX4_pruned_8 (by decide) ?_
    exact hret _ _ _ _ _ _ dX4_pruned_10 hW h
def w_X4_bring  (u : Mem) (post : Int32 → Mem → Prop) : Prop := ((u 16 0) = 0 → (post (-103) u)) ∧ (¬ (u 16 0) = 0 → (nm ((u 16 0) - (1 : Int32) : Int32) fun x2 => nm (g_ms u 16 0 x2) fun u3 => w_X1_relabel (u3 16 0) (-1) u3 (fun u4 => w_X2_takeFrom (u4 16 0) u4 (fun x6 u5 => post x6 u5))))
abbrev rm_X4_bring : Room := { frames := 1, cells := 0, slots := 0, locals := 23 }
theorem hd_X4_bring : yX4_bring.cls ≠ "java/lang/invoke/MethodHandle" ∧ yX4_bring.cls ≠ "java/lang/invoke/VarHandle" ∧ (parseMethodDescriptor yX4_bring.desc).map (fun d => d.parameters.length) = some 0 := by decide +kernel
set_option maxHeartbeats 4000000 in
set_option maxRecDepth 100000 in
theorem c_X4_bring (l : Launch) (D : va_G) (cA : ClassId) (a : Nat → Nat) (u : Mem) (post : Int32 → Mem → Prop) (h : w_X4_bring  u post) : g_Mi l yX4_bring (Cond.code yX4_bring cX4_bring 1 (some .int) :: tT) rm_X4_bring D cA (Xw cA a) u [.ref (a 0)] post := by
  refine g_enter_i (by decide) (Xw_adr cA a) (Nat.le_of_ble_eq_true rfl) ?_
  intro p e s m args below meth c A Q S hml hK hA hret ls hl hW
  have hx := S.1
  have hb := S.2.1
  have hl : lv_has ls 1 [(0, .ref (a 0))] := hl
  skip
  refine lv_aload_n hx hb dX4_bring_0 rfl (lv_at hl 0 rfl) ?_
  refine xg_0_8 S hK hW kw_157 dX4_bring_1 ?_
  refine lv_if_ne (tgt := 10) hx hb dX4_bring_4 (by decide) (fun c1 => ?_) (fun c1 => ?_)
  · have h := h.2 c1
    refine lv_aload_n hx hb dX4_bring_10 rfl (lv_at hl 0 rfl) ?_
    refine lv_dup hx hb dX4_bring_11 rfl ?_
    refine xg_0_8 S hK hW kw_157 dX4_bring_12 ?_
    refine lv_iconst (v := 1) hx hb dX4_bring_15 (by decide) ?_
    refine lv_isub hx hb dX4_bring_16 ?_
    refine lv_topi (fun x2 ex2 => ?_)
    have h := nm_use ex2 h
    refine xp_16 S hK hW kw_157 dX4_bring_17 (fun u3 H locs eu3 hW => ?_)
    have h := nm_use eu3 h
    refine lv_aload_n hx hb dX4_bring_20 rfl (lv_at hl 0 rfl) ?_
    refine xg_0_1 S hK hW kw_150 dX4_bring_21 ?_
    refine lv_aload_n hx hb dX4_bring_24 rfl (lv_at hl 0 rfl) ?_
    refine xg_0_8 S hK hW kw_157 dX4_bring_25 ?_
    refine lv_iconst (v := (-1)) hx hb dX4_bring_28 (by decide) ?_
    refine g_calv (g_runV S hml hK hW (c_X1_relabel l D cA a u3 (u3 16 0) (-1) _ h _) kw_312 kw_313 kw_314 kw_21 kw_315 hd_X1_relabel ⟨rfl, rfl, Nat.le_of_ble_eq_true rfl, Nat.le_of_ble_eq_true rfl⟩ (q0 := 2) rfl rfl (As := [.int (u3 16 0), .int (-1)]) (rest := []) rfl rfl hl.1 (Nat.le_of_ble_eq_true rfl) dX4_bring_29 ⟨Nat.zero_le _, Nat.zero_le _⟩) (Xw_adr cA a) hA hW (fun u4 H locs h hW => ?_)
    refine lv_aload_n hx hb dX4_bring_32 rfl (lv_at hl 0 rfl) ?_
    refine xg_0_0 S hK hW kw_149 dX4_bring_33 ?_
    refine lv_aload_n hx hb dX4_bring_36 rfl (lv_at hl 0 rfl) ?_
    refine xg_0_8 S hK hW kw_157 dX4_bring_37 ?_
    refine g_cali (g_runV S hml hK hW (c_X2_takeFrom l D cA a u4 (u4 16 0) _ h _) kw_316 kw_317 kw_318 kw_20 kw_319 hd_X2_takeFrom ⟨rfl, rfl, Nat.le_of_ble_eq_true rfl, Nat.le_of_ble_eq_true rfl⟩ (q0 := 1) rfl rfl (As := [.int (u4 16 0)]) (rest := []) rfl rfl hl.1 (Nat.le_of_ble_eq_true rfl) dX4_bring_40 ⟨Nat.zero_le _, Nat.zero_le _⟩) (Xw_adr cA a) hA hW (fun x6 u5 H locs h hW => ?_)
    exact hret _ _ _ _ _ _ dX4_bring_43 hW h
  · have h := h.1 c1
    refine lv_bipush (v := (-103)) hx hb dX4_bring_7 (by decide) ?_
    exact hret _ _ _ _ _ _ dX4_bring_9 hW h
def L_X4_forget_2  (post : Int32 → Mem → Prop) (K : Int32 → Mem → Prop) : Nat → Int32 → Mem → Prop
  | 0, _, _ => False
  | n_2 + 1, y1_2, u_2 => ((u_2 16 0) ≤ y1_2 → (K y1_2 u_2)) ∧ (¬ (u_2 16 0) ≤ y1_2 → (w_X1_relabel y1_2 8 u_2 (fun u2 => nm (y1_2 + 1) fun x3 => L_X4_forget_2  post K n_2 x3 u2)))
def w_X4_forget  (u : Mem) (post : Int32 → Mem → Prop) : Prop := ∃ n_2, L_X4_forget_2  post (fun w1_2 v_2 => nm (g_ms v_2 16 0 0) fun u4 => w_X2_removeArchived  u4 (fun x6 u5 => post x6 u5)) n_2 0 u
abbrev rm_X4_forget : Room := { frames := 2, cells := 0, slots := 0, locals := 44 }
theorem hd_X4_forget : yX4_forget.cls ≠ "java/lang/invoke/MethodHandle" ∧ yX4_forget.cls ≠ "java/lang/invoke/VarHandle" ∧ (parseMethodDescriptor yX4_forget.desc).map (fun d => d.parameters.length) = some 0 := by decide +kernel
set_option maxHeartbeats 4000000 in
set_option maxRecDepth 100000 in
theorem c_X4_forget (l : Launch) (D : va_G) (cA : ClassId) (a : Nat → Nat) (u : Mem) (post : Int32 → Mem → Prop) (h : w_X4_forget  u post) : g_Mi l yX4_forget (Cond.code yX4_forget cX4_forget 2 (some .int) :: tT) rm_X4_forget D cA (Xw cA a) u [.ref (a 0)] post := by
  refine g_enter_i (by decide) (Xw_adr cA a) (Nat.le_of_ble_eq_true rfl) ?_
  intro p e s m args below meth c A Q S hml hK hA hret ls hl hW
  have hx := S.1
  have hb := S.2.1
  have hl : lv_has ls 2 [(0, .ref (a 0))] := hl
  skip
  refine lv_iconst (v := 0) hx hb dX4_forget_0 (by decide) ?_
  refine lv_istore_n (lv' := [(1, .int 0), (0, .ref (a 0))]) hx hb dX4_forget_1 rfl hl (by decide) rfl (fun ls hl => ?_)
  have loop_2 : ∀ (K : Int32 → Mem → Prop), (∀ (w1_2 : Int32) (v_2 : Mem) (H : Heap) (locs : List Loc) (ls : Array Slot), K w1_2 v_2 → g_W D (Xw cA a) A s.heap v_2 H locs → lv_has ls 2 [(0, .ref (a 0)), (1, .int w1_2)] → W p l e rm_X4_forget s m args below meth c H locs 0 0 Q (F0 m 26 ls [])) → ∀ (n : Nat) (y1_2 : Int32) (u_2 : Mem) (H : Heap) (locs : List Loc) (ls : Array Slot), L_X4_forget_2  post K n y1_2 u_2 → g_W D (Xw cA a) A s.heap u_2 H locs → lv_has ls 2 [(0, .ref (a 0)), (1, .int y1_2)] → W p l e rm_X4_forget s m args below meth c H locs 0 0 Q (F0 m 2 ls []) := by
    intro K hE n
    induction n with
    | zero => intro y1_2 u_2 H locs ls h; exact False.elim h
    | succ n ih =>
      intro y1_2 u_2 H locs ls h hW hl
      refine lv_iload_n hx hb dX4_forget_2 rfl (lv_at hl 1 rfl) ?_
      refine lv_aload_n hx hb dX4_forget_3 rfl (lv_at hl 0 rfl) ?_
      refine xg_0_8 S hK hW kw_157 dX4_forget_4 ?_
      refine lv_icmp_ge (tgt := 26) hx hb dX4_forget_7 (by decide) (fun c7 => ?_) (fun c7 => ?_)
      · have h := h.1 c7
        exact hE y1_2 u_2 _ _ _ h hW (lv_sub hl [0, 1] rfl)
      · have h := h.2 c7
        refine lv_aload_n hx hb dX4_forget_10 rfl (lv_at hl 0 rfl) ?_
        refine xg_0_1 S hK hW kw_150 dX4_forget_11 ?_
        refine lv_iload_n hx hb dX4_forget_14 rfl (lv_at hl 1 rfl) ?_
        refine lv_bipush (v := 8) hx hb dX4_forget_15 (by decide) ?_
        refine g_calv (g_runV S hml hK hW (c_X1_relabel l D cA a u_2 y1_2 8 _ h _) kw_312 kw_313 kw_314 kw_21 kw_315 hd_X1_relabel ⟨rfl, rfl, Nat.le_of_ble_eq_true rfl, Nat.le_of_ble_eq_true rfl⟩ (q0 := 2) rfl rfl (As := [.int y1_2, .int 8]) (rest := []) rfl rfl hl.1 (Nat.le_of_ble_eq_true rfl) dX4_forget_17 ⟨Nat.zero_le _, Nat.zero_le _⟩) (Xw_adr cA a) hA hW (fun u8 H locs h hW => ?_)
        obtain ⟨x9, ex9⟩ : ∃ z : Int32, z = y1_2 + 1 := ⟨_, rfl⟩
        have h := nm_use ex9 h
        refine lv_iinc (v := x9) (lv' := [(1, .int x9), (0, .ref (a 0))]) hx hb dX4_forget_20 hl (k := 1) rfl (by rw [ex9]; rfl) (by decide) rfl (fun ls hl => ?_)
        refine lv_goto (tgt := 2) hx hb dX4_forget_23 (by decide) ?_
        exact ih x9 u8 _ _ _ h hW (lv_sub hl [1, 0] rfl)
  obtain ⟨n_2, h⟩ := h
  refine loop_2 _ ?_ n_2 0 u _ _ _ h hW (lv_sub hl [1, 0] rfl)
  intro w1_2 v_2 H locs ls h hW hl
  refine lv_aload_n hx hb dX4_forget_26 rfl (lv_at hl 0 rfl) ?_
  refine lv_iconst (v := 0) hx hb dX4_forget_27 (by decide) ?_
  refine xp_16 S hK hW kw_157 dX4_forget_28 (fun u4 H locs eu4 hW => ?_)
  have h := nm_use eu4 h
  refine lv_aload_n hx hb dX4_forget_31 rfl (lv_at hl 0 rfl) ?_
  refine xg_0_0 S hK hW kw_149 dX4_forget_32 ?_
  refine g_cali (g_runV S hml hK hW (c_X2_removeArchived l D cA a u4  _ h _) kw_324 kw_325 kw_326 kw_20 kw_327 hd_X2_removeArchived ⟨rfl, rfl, Nat.le_of_ble_eq_true rfl, Nat.le_of_ble_eq_true rfl⟩ (q0 := 1) rfl rfl (As := []) (rest := []) rfl rfl hl.1 (Nat.le_of_ble_eq_true rfl) dX4_forget_35 ⟨Nat.zero_le _, Nat.zero_le _⟩) (Xw_adr cA a) hA hW (fun x6 u5 H locs h hW => ?_)
  exact hret _ _ _ _ _ _ dX4_forget_38 hW h
def w_X4_archive (xp1 : Int32) (xp2 : Int32) (u : Mem) (post : Int32 → Mem → Prop) : Prop := (xp1 < 0 → (post (-101) u)) ∧ (¬ xp1 < 0 → ((xp1 < (u 16 0) → ((xp2 < 0 → (post (-102) u)) ∧ (¬ xp2 < 0 → ((xp2 ≤ 1 → ((xp2 = 0 → (w_X2_countIn xp1 u (fun x9 u8 => post x9 u8))) ∧ (¬ xp2 = 0 → (w_X1_countIn xp1 u (fun x7 u6 => post x7 u6))))) ∧ (¬ xp2 ≤ 1 → (post (-102) u)))))) ∧ (¬ xp1 < (u 16 0) → (post (-101) u))))
abbrev rm_X4_archive : Room := { frames := 1, cells := 0, slots := 0, locals := 23 }
theorem hd_X4_archive : yX4_archive.cls ≠ "java/lang/invoke/MethodHandle" ∧ yX4_archive.cls ≠ "java/lang/invoke/VarHandle" ∧ (parseMethodDescriptor yX4_archive.desc).map (fun d => d.parameters.length) = some 2 := by decide +kernel
set_option maxHeartbeats 4000000 in
set_option maxRecDepth 100000 in
theorem c_X4_archive (l : Launch) (D : va_G) (cA : ClassId) (a : Nat → Nat) (u : Mem) (xp1 xp2 : Int32) (post : Int32 → Mem → Prop) (h : w_X4_archive xp1 xp2 u post) : g_Mi l yX4_archive (Cond.code yX4_archive cX4_archive 3 (some .int) :: tT) rm_X4_archive D cA (Xw cA a) u [.ref (a 0), .int xp1, .int xp2] post := by
  refine g_enter_i (by decide) (Xw_adr cA a) (Nat.le_of_ble_eq_true rfl) ?_
  intro p e s m args below meth c A Q S hml hK hA hret ls hl hW
  have hx := S.1
  have hb := S.2.1
  have hl : lv_has ls 3 [(0, .ref (a 0)), (1, .int xp1), (2, .int xp2)] := hl
  skip
  refine lv_iload_n hx hb dX4_archive_0 rfl (lv_at hl 1 rfl) ?_
  refine lv_if_lt (tgt := 12) hx hb dX4_archive_1 (by decide) (fun c1 => ?_) (fun c1 => ?_)
  · have h := h.1 c1
    refine lv_bipush (v := (-101)) hx hb dX4_archive_12 (by decide) ?_
    exact hret _ _ _ _ _ _ dX4_archive_14 hW h
  · have h := h.2 c1
    refine lv_iload_n hx hb dX4_archive_4 rfl (lv_at hl 1 rfl) ?_
    refine lv_aload_n hx hb dX4_archive_5 rfl (lv_at hl 0 rfl) ?_
    refine xg_0_8 S hK hW kw_157 dX4_archive_6 ?_
    refine lv_icmp_lt (tgt := 15) hx hb dX4_archive_9 (by decide) (fun c2 => ?_) (fun c2 => ?_)
    · have h := h.1 c2
      refine lv_iload_n hx hb dX4_archive_15 rfl (lv_at hl 2 rfl) ?_
      refine lv_if_lt (tgt := 24) hx hb dX4_archive_16 (by decide) (fun c3 => ?_) (fun c3 => ?_)
      · have h := h.1 c3
        refine lv_bipush (v := (-102)) hx hb dX4_archive_24 (by decide) ?_
        exact hret _ _ _ _ _ _ dX4_archive_26 hW h
      · have h := h.2 c3
        refine lv_iload_n hx hb dX4_archive_19 rfl (lv_at hl 2 rfl) ?_
        refine lv_iconst (v := 1) hx hb dX4_archive_20 (by decide) ?_
        refine lv_icmp_le (tgt := 27) hx hb dX4_archive_21 (by decide) (fun c4 => ?_) (fun c4 => ?_)
        · have h := h.1 c4
          refine lv_iload_n hx hb dX4_archive_27 rfl (lv_at hl 2 rfl) ?_
          refine lv_if_ne (tgt := 42) hx hb dX4_archive_28 (by decide) (fun c5 => ?_) (fun c5 => ?_)
          · have h := h.2 c5
            refine lv_aload_n hx hb dX4_archive_42 rfl (lv_at hl 0 rfl) ?_
            refine xg_0_1 S hK hW kw_150 dX4_archive_43 ?_
            refine lv_iload_n hx hb dX4_archive_46 rfl (lv_at hl 1 rfl) ?_
            refine g_cali (g_runV S hml hK hW (c_X1_countIn l D cA a u xp1 _ h _) kw_340 kw_341 kw_342 kw_21 kw_343 hd_X1_countIn ⟨rfl, rfl, Nat.le_of_ble_eq_true rfl, Nat.le_of_ble_eq_true rfl⟩ (q0 := 2) rfl rfl (As := [.int xp1]) (rest := []) rfl rfl hl.1 (Nat.le_of_ble_eq_true rfl) dX4_archive_47 ⟨Nat.zero_le _, Nat.zero_le _⟩) (Xw_adr cA a) hA hW (fun x7 u6 H locs h hW => ?_)
            exact hret _ _ _ _ _ _ dX4_archive_50 hW h
          · have h := h.1 c5
            refine lv_aload_n hx hb dX4_archive_31 rfl (lv_at hl 0 rfl) ?_
            refine xg_0_0 S hK hW kw_149 dX4_archive_32 ?_
            refine lv_iload_n hx hb dX4_archive_35 rfl (lv_at hl 1 rfl) ?_
            refine g_cali (g_runV S hml hK hW (c_X2_countIn l D cA a u xp1 _ h _) kw_336 kw_337 kw_338 kw_20 kw_339 hd_X2_countIn ⟨rfl, rfl, Nat.le_of_ble_eq_true rfl, Nat.le_of_ble_eq_true rfl⟩ (q0 := 1) rfl rfl (As := [.int xp1]) (rest := []) rfl rfl hl.1 (Nat.le_of_ble_eq_true rfl) dX4_archive_36 ⟨Nat.zero_le _, Nat.zero_le _⟩) (Xw_adr cA a) hA hW (fun x9 u8 H locs h hW => ?_)
            refine lv_goto (tgt := 50) hx hb dX4_archive_39 (by decide) ?_
            exact hret _ _ _ _ _ _ dX4_archive_50 hW h
        · have h := h.2 c4
          refine lv_bipush (v := (-102)) hx hb dX4_archive_24 (by decide) ?_
          exact hret _ _ _ _ _ _ dX4_archive_26 hW h
    · have h := h.2 c2
      refine lv_bipush (v := (-101)) hx hb dX4_archive_12 (by decide) ?_
      exact hret _ _ _ _ _ _ dX4_archive_14 hW h
def w_X4_refusalOfReplay (xp1 : Int32) (xp2 : Int32) (u : Mem) (post : Int32 → Mem → Prop) : Prop := w_X4_isHeight xp1 u (fun x2 u1 => (x2 = 0 → (w_X4_refusalOfTwo xp1 xp2 u1 (fun x5 u4 => post x5 u4))) ∧ (¬ x2 = 0 → (w_X4_isHeight xp2 u1 (fun x7 u6 => (x7 = 0 → (w_X4_refusalOfTwo xp1 xp2 u6 (fun x10 u9 => post x10 u9))) ∧ (¬ x7 = 0 → ((xp1 ≤ xp2 → (w_X4_refusalOfTwo xp1 xp2 u6 (fun x13 u12 => post x13 u12))) ∧ (¬ xp1 ≤ xp2 → (post (-102) u6))))))))
abbrev rm_X4_refusalOfReplay : Room := { frames := 2, cells := 0, slots := 0, locals := 43 }
theorem hd_X4_refusalOfReplay : yX4_refusalOfReplay.cls ≠ "java/lang/invoke/MethodHandle" ∧ yX4_refusalOfReplay.cls ≠ "java/lang/invoke/VarHandle" ∧ (parseMethodDescriptor yX4_refusalOfReplay.desc).map (fun d => d.parameters.length) = some 2 := by decide +kernel
set_option maxHeartbeats 4000000 in
set_option maxRecDepth 100000 in
theorem c_X4_refusalOfReplay (l : Launch) (D : va_G) (cA : ClassId) (a : Nat → Nat) (u : Mem) (xp1 xp2 : Int32) (post : Int32 → Mem → Prop) (h : w_X4_refusalOfReplay xp1 xp2 u post) : g_Mi l yX4_refusalOfReplay (Cond.code yX4_refusalOfReplay cX4_refusalOfReplay 3 (some .int) :: tT) rm_X4_refusalOfReplay D cA (Xw cA a) u [.ref (a 0), .int xp1, .int xp2] post := by
  refine g_enter_i (by decide) (Xw_adr cA a) (Nat.le_of_ble_eq_true rfl) ?_
  intro p e s m args below meth c A Q S hml hK hA hret ls hl hW
  have hx := S.1
  have hb := S.2.1
  have hl : lv_has ls 3 [(0, .ref (a 0)), (1, .int xp1), (2, .int xp2)] := hl
  skip
  refine lv_aload_n hx hb dX4_refusalOfReplay_0 rfl (lv_at hl 0 rfl) ?_
  refine lv_iload_n hx hb dX4_refusalOfReplay_1 rfl (lv_at hl 1 rfl) ?_
  refine g_cali (g_runV S hml hK hW (c_X4_isHeight l D cA a u xp1 _ h _) kw_213 kw_215 kw_1 kw_19 kw_216 hd_X4_isHeight ⟨rfl, rfl, Nat.le_of_ble_eq_true rfl, Nat.le_of_ble_eq_true rfl⟩ (q0 := 0) rfl rfl (As := [.int xp1]) (rest := []) rfl rfl hl.1 (Nat.le_of_ble_eq_true rfl) dX4_refusalOfReplay_2 ⟨Nat.zero_le _, Nat.zero_le _⟩) (Xw_adr cA a) hA hW (fun x2 u1 H locs h hW => ?_)
  refine lv_if_eq (tgt := 24) hx hb dX4_refusalOfReplay_5 (by decide) (fun c3 => ?_) (fun c3 => ?_)
  · have h := h.1 c3
    refine lv_aload_n hx hb dX4_refusalOfReplay_24 rfl (lv_at hl 0 rfl) ?_
    refine lv_iload_n hx hb dX4_refusalOfReplay_25 rfl (lv_at hl 1 rfl) ?_
    refine lv_iload_n hx hb dX4_refusalOfReplay_26 rfl (lv_at hl 2 rfl) ?_
    refine g_cali (g_runV S hml hK hW (c_X4_refusalOfTwo l D cA a u1 xp1 xp2 _ h _) kw_254 kw_256 kw_2 kw_19 kw_257 hd_X4_refusalOfTwo ⟨rfl, rfl, Nat.le_of_ble_eq_true rfl, Nat.le_of_ble_eq_true rfl⟩ (q0 := 0) rfl rfl (As := [.int xp1, .int xp2]) (rest := []) rfl rfl hl.1 (Nat.le_of_ble_eq_true rfl) dX4_refusalOfReplay_27 ⟨Nat.zero_le _, Nat.zero_le _⟩) (Xw_adr cA a) hA hW (fun x5 u4 H locs h hW => ?_)
    exact hret _ _ _ _ _ _ dX4_refusalOfReplay_30 hW h
  · have h := h.2 c3
    refine lv_aload_n hx hb dX4_refusalOfReplay_8 rfl (lv_at hl 0 rfl) ?_
    refine lv_iload_n hx hb dX4_refusalOfReplay_9 rfl (lv_at hl 2 rfl) ?_
    refine g_cali (g_runV S hml hK hW (c_X4_isHeight l D cA a u1 xp2 _ h _) kw_213 kw_215 kw_1 kw_19 kw_216 hd_X4_isHeight ⟨rfl, rfl, Nat.le_of_ble_eq_true rfl, Nat.le_of_ble_eq_true rfl⟩ (q0 := 0) rfl rfl (As := [.int xp2]) (rest := []) rfl rfl hl.1 (Nat.le_of_ble_eq_true rfl) dX4_refusalOfReplay_10 ⟨Nat.zero_le _, Nat.zero_le _⟩) (Xw_adr cA a) hA hW (fun x7 u6 H locs h hW => ?_)
    refine lv_if_eq (tgt := 24) hx hb dX4_refusalOfReplay_13 (by decide) (fun c8 => ?_) (fun c8 => ?_)
    · have h := h.1 c8
      refine lv_aload_n hx hb dX4_refusalOfReplay_24 rfl (lv_at hl 0 rfl) ?_
      refine lv_iload_n hx hb dX4_refusalOfReplay_25 rfl (lv_at hl 1 rfl) ?_
      refine lv_iload_n hx hb dX4_refusalOfReplay_26 rfl (lv_at hl 2 rfl) ?_
      refine g_cali (g_runV S hml hK hW (c_X4_refusalOfTwo l D cA a u6 xp1 xp2 _ h _) kw_254 kw_256 kw_2 kw_19 kw_257 hd_X4_refusalOfTwo ⟨rfl, rfl, Nat.le_of_ble_eq_true rfl, Nat.le_of_ble_eq_true rfl⟩ (q0 := 0) rfl rfl (As := [.int xp1, .int xp2]) (rest := []) rfl rfl hl.1 (Nat.le_of_ble_eq_true rfl) dX4_refusalOfReplay_27 ⟨Nat.zero_le _, Nat.zero_le _⟩) (Xw_adr cA a) hA hW (fun x10 u9 H locs h hW => ?_)
      exact hret _ _ _ _ _ _ dX4_refusalOfReplay_30 hW h
    · have h := h.2 c8
      refine lv_iload_n hx hb dX4_refusalOfReplay_16 rfl (lv_at hl 2 rfl) ?_
      refine lv_iload_n hx hb dX4_refusalOfReplay_17 rfl (lv_at hl 1 rfl) ?_
      refine lv_icmp_ge (tgt := 24) hx hb dX4_refusalOfReplay_18 (by decide) (fun c11 => ?_) (fun c11 => ?_)
      · have h := h.1 c11
        refine lv_aload_n hx hb dX4_refusalOfReplay_24 rfl (lv_at hl 0 rfl) ?_
        refine lv_iload_n hx hb dX4_refusalOfReplay_25 rfl (lv_at hl 1 rfl) ?_
        refine lv_iload_n hx hb dX4_refusalOfReplay_26 rfl (lv_at hl 2 rfl) ?_
        refine g_cali (g_runV S hml hK hW (c_X4_refusalOfTwo l D cA a u6 xp1 xp2 _ h _) kw_254 kw_256 kw_2 kw_19 kw_257 hd_X4_refusalOfTwo ⟨rfl, rfl, Nat.le_of_ble_eq_true rfl, Nat.le_of_ble_eq_true rfl⟩ (q0 := 0) rfl rfl (As := [.int xp1, .int xp2]) (rest := []) rfl rfl hl.1 (Nat.le_of_ble_eq_true rfl) dX4_refusalOfReplay_27 ⟨Nat.zero_le _, Nat.zero_le _⟩) (Xw_adr cA a) hA hW (fun x13 u12 H locs h hW => ?_)
        exact hret _ _ _ _ _ _ dX4_refusalOfReplay_30 hW h
      · have h := h.2 c11
        refine lv_bipush (v := (-102)) hx hb dX4_refusalOfReplay_21 (by decide) ?_
        exact hret _ _ _ _ _ _ dX4_refusalOfReplay_23 hW h
def w_X4_replay (xp1 : Int32) (xp2 : Int32) (u : Mem) (post : Int64 → Mem → Prop) : Prop := w_X4_refusalOfReplay xp1 xp2 u (fun x2 u1 => (x2 = 0 → (w_X2_load xp1 1 32 u1 (fun u4 => w_X2_redo xp1 xp2 1 32 u4 (fun x6 u5 => w_X3_grow 1 32 u5 (fun x8 u7 => nm ((x8 : Int32).toInt64) fun z9 => post z9 u7))))) ∧ (¬ x2 = 0 → (w_X4_wide x2 u1 (fun z11 u10 => post z11 u10))))
abbrev rm_X4_replay : Room := { frames := 3, cells := 0, slots := 0, locals := 65 }
theorem hd_X4_replay : yX4_replay.cls ≠ "java/lang/invoke/MethodHandle" ∧ yX4_replay.cls ≠ "java/lang/invoke/VarHandle" ∧ (parseMethodDescriptor yX4_replay.desc).map (fun d => d.parameters.length) = some 2 := by decide +kernel
set_option maxHeartbeats 4000000 in
set_option maxRecDepth 100000 in
theorem c_X4_replay (l : Launch) (D : va_G) (cA : ClassId) (a : Nat → Nat) (u : Mem) (xp1 xp2 : Int32) (post : Int64 → Mem → Prop) (h : w_X4_replay xp1 xp2 u post) : g_Ml l yX4_replay (Cond.code yX4_replay cX4_replay 4 (some .long) :: tT) rm_X4_replay D cA (Xw cA a) u [.ref (a 0), .int xp1, .int xp2] post := by
  refine g_enter_l (by decide) (Xw_adr cA a) (Nat.le_of_ble_eq_true rfl) ?_
  intro p e s m args below meth c A Q S hml hK hA hret ls hl hW
  have hx := S.1
  have hb := S.2.1
  have hl : lv_has ls 4 [(0, .ref (a 0)), (1, .int xp1), (2, .int xp2)] := hl
  skip
  refine lv_aload_n hx hb dX4_replay_0 rfl (lv_at hl 0 rfl) ?_
  refine lv_iload_n hx hb dX4_replay_1 rfl (lv_at hl 1 rfl) ?_
  refine lv_iload_n hx hb dX4_replay_2 rfl (lv_at hl 2 rfl) ?_
  refine g_cali (g_runV S hml hK hW (c_X4_refusalOfReplay l D cA a u xp1 xp2 _ h _) kw_348 kw_350 kw_5 kw_19 kw_351 hd_X4_refusalOfReplay ⟨rfl, rfl, Nat.le_of_ble_eq_true rfl, Nat.le_of_ble_eq_true rfl⟩ (q0 := 0) rfl rfl (As := [.int xp1, .int xp2]) (rest := []) rfl rfl hl.1 (Nat.le_of_ble_eq_true rfl) dX4_replay_3 ⟨Nat.zero_le _, Nat.zero_le _⟩) (Xw_adr cA a) hA hW (fun x2 u1 H locs h hW => ?_)
  refine lv_istore_n (lv' := [(3, .int x2), (0, .ref (a 0)), (1, .int xp1), (2, .int xp2)]) hx hb dX4_replay_6 rfl hl (by decide) rfl (fun ls hl => ?_)
  refine lv_iload_n hx hb dX4_replay_7 rfl (lv_at hl 0 rfl) ?_
  refine lv_if_eq (tgt := 16) hx hb dX4_replay_8 (by decide) (fun c3 => ?_) (fun c3 => ?_)
  · have h := h.1 c3
    refine lv_aload_n hx hb dX4_replay_16 rfl (lv_at hl 1 rfl) ?_
    refine xg_0_0 S hK hW kw_149 dX4_replay_17 ?_
    refine lv_iload_n hx hb dX4_replay_20 rfl (lv_at hl 2 rfl) ?_
    refine lv_aload_n hx hb dX4_replay_21 rfl (lv_at hl 1 rfl) ?_
    refine xg_0_5 S hK hW kw_154 dX4_replay_22 ?_
    refine g_calv (g_runV S hml hK hW (c_X2_load_1 l D cA a u1 xp1 _ h _) kw_262 kw_263 kw_264 kw_20 kw_265 hd_X2_load ⟨rfl, rfl, Nat.le_of_ble_eq_true rfl, Nat.le_of_ble_eq_true rfl⟩ (q0 := 1) rfl rfl (As := [.int xp1, .ref (a 6)]) (rest := []) rfl rfl hl.1 (Nat.le_of_ble_eq_true rfl) dX4_replay_25 ⟨Nat.zero_le _, Nat.zero_le _⟩) (Xw_adr cA a) hA hW (fun u4 H locs h hW => ?_)
    refine lv_aload_n hx hb dX4_replay_28 rfl (lv_at hl 1 rfl) ?_
    refine xg_0_0 S hK hW kw_149 dX4_replay_29 ?_
    refine lv_iload_n hx hb dX4_replay_32 rfl (lv_at hl 2 rfl) ?_
    refine lv_iload_n hx hb dX4_replay_33 rfl (lv_at hl 3 rfl) ?_
    refine lv_aload_n hx hb dX4_replay_34 rfl (lv_at hl 1 rfl) ?_
    refine xg_0_5 S hK hW kw_154 dX4_replay_35 ?_
    refine g_cali (g_runV S hml hK hW (c_X2_redo_1 l D cA a u4 xp1 xp2 _ h _) kw_352 kw_268 kw_269 kw_20 kw_270 hd_X2_redo ⟨rfl, rfl, Nat.le_of_ble_eq_true rfl, Nat.le_of_ble_eq_true rfl⟩ (q0 := 1) rfl rfl (As := [.int xp1, .int xp2, .ref (a 6)]) (rest := []) rfl rfl hl.1 (Nat.le_of_ble_eq_true rfl) dX4_replay_38 ⟨Nat.zero_le _, Nat.zero_le _⟩) (Xw_adr cA a) hA hW (fun x6 u5 H locs h hW => ?_)
    refine lv_pop hx hb dX4_replay_41 rfl ?_
    refine lv_aload_n hx hb dX4_replay_42 rfl (lv_at hl 1 rfl) ?_
    refine xg_0_3 S hK hW kw_152 dX4_replay_43 ?_
    refine lv_aload_n hx hb dX4_replay_46 rfl (lv_at hl 1 rfl) ?_
    refine xg_0_5 S hK hW kw_154 dX4_replay_47 ?_
    refine g_cali (g_runV S hml hK hW (c_X3_grow_1 l D cA a u5  _ h _) kw_134 kw_135 kw_136 kw_23 kw_137 hd_X3_grow ⟨rfl, rfl, Nat.le_of_ble_eq_true rfl, Nat.le_of_ble_eq_true rfl⟩ (q0 := 4) rfl rfl (As := [.ref (a 6)]) (rest := []) rfl rfl hl.1 (Nat.le_of_ble_eq_true rfl) dX4_replay_50 ⟨Nat.zero_le _, Nat.zero_le _⟩) (Xw_adr cA a) hA hW (fun x8 u7 H locs h hW => ?_)
    refine lv_i2l hx hb dX4_replay_53 rfl ?_
    refine lv_topl (fun z9 ez9 => ?_)
    have h := nm_use ez9 h
    exact hret _ _ _ _ _ _ dX4_replay_54 hW h
  · have h := h.2 c3
    refine lv_iload_n hx hb dX4_replay_11 rfl (lv_at hl 0 rfl) ?_
    refine g_call (g_runS S hml hK hW (c_X4_wide l D cA a u1 x2 _ h _) kw_217 kw_218 kw_19 kw_219 hd_X4_wide ⟨rfl, rfl, Nat.le_of_ble_eq_true rfl, Nat.le_of_ble_eq_true rfl⟩ (As := [.int x2]) (rest := []) rfl rfl hl.1 (Nat.le_of_ble_eq_true rfl) dX4_replay_12 ⟨Nat.zero_le _, Nat.zero_le _⟩) (Xw_adr cA a) hA hW (fun z11 u10 H locs h hW => ?_)
    exact hret _ _ _ _ _ _ dX4_replay_15 hW h
def w_X4_replayed (xp1 : Int32) (xp2 : Int32) (u : Mem) (post : Int32 → Mem → Prop) : Prop := w_X4_refusalOfReplay xp1 xp2 u (fun x2 u1 => (x2 = 0 → (w_X2_redo xp1 xp2 1 32 u1 (fun x5 u4 => post x5 u4))) ∧ (¬ x2 = 0 → (post x2 u1)))
abbrev rm_X4_replayed : Room := { frames := 3, cells := 0, slots := 0, locals := 65 }
theorem hd_X4_replayed : yX4_replayed.cls ≠ "java/lang/invoke/MethodHandle" ∧ yX4_replayed.cls ≠ "java/lang/invoke/VarHandle" ∧ (parseMethodDescriptor yX4_replayed.desc).map (fun d => d.parameters.length) = some 2 := by decide +kernel
set_option maxHeartbeats 4000000 in
set_option maxRecDepth 100000 in
theorem c_X4_replayed (l : Launch) (D : va_G) (cA : ClassId) (a : Nat → Nat) (u : Mem) (xp1 xp2 : Int32) (post : Int32 → Mem → Prop) (h : w_X4_replayed xp1 xp2 u post) : g_Mi l yX4_replayed (Cond.code yX4_replayed cX4_replayed 4 (some .int) :: tT) rm_X4_replayed D cA (Xw cA a) u [.ref (a 0), .int xp1, .int xp2] post := by
  refine g_enter_i (by decide) (Xw_adr cA a) (Nat.le_of_ble_eq_true rfl) ?_
  intro p e s m args below meth c A Q S hml hK hA hret ls hl hW
  have hx := S.1
  have hb := S.2.1
  have hl : lv_has ls 4 [(0, .ref (a 0)), (1, .int xp1), (2, .int xp2)] := hl
  skip
  refine lv_aload_n hx hb dX4_replayed_0 rfl (lv_at hl 0 rfl) ?_
  refine lv_iload_n hx hb dX4_replayed_1 rfl (lv_at hl 1 rfl) ?_
  refine lv_iload_n hx hb dX4_replayed_2 rfl (lv_at hl 2 rfl) ?_
  refine g_cali (g_runV S hml hK hW (c_X4_refusalOfReplay l D cA a u xp1 xp2 _ h _) kw_348 kw_350 kw_5 kw_19 kw_351 hd_X4_refusalOfReplay ⟨rfl, rfl, Nat.le_of_ble_eq_true rfl, Nat.le_of_ble_eq_true rfl⟩ (q0 := 0) rfl rfl (As := [.int xp1, .int xp2]) (rest := []) rfl rfl hl.1 (Nat.le_of_ble_eq_true rfl) dX4_replayed_3 ⟨Nat.zero_le _, Nat.zero_le _⟩) (Xw_adr cA a) hA hW (fun x2 u1 H locs h hW => ?_)
  refine lv_istore_n (lv' := [(3, .int x2), (0, .ref (a 0)), (1, .int xp1), (2, .int xp2)]) hx hb dX4_replayed_6 rfl hl (by decide) rfl (fun ls hl => ?_)
  refine lv_iload_n hx hb dX4_replayed_7 rfl (lv_at hl 0 rfl) ?_
  refine lv_if_eq (tgt := 13) hx hb dX4_replayed_8 (by decide) (fun c3 => ?_) (fun c3 => ?_)
  · have h := h.1 c3
    refine lv_aload_n hx hb dX4_replayed_13 rfl (lv_at hl 1 rfl) ?_
    refine xg_0_0 S hK hW kw_149 dX4_replayed_14 ?_
    refine lv_iload_n hx hb dX4_replayed_17 rfl (lv_at hl 2 rfl) ?_
    refine lv_iload_n hx hb dX4_replayed_18 rfl (lv_at hl 3 rfl) ?_
    refine lv_aload_n hx hb dX4_replayed_19 rfl (lv_at hl 1 rfl) ?_
    refine xg_0_5 S hK hW kw_154 dX4_replayed_20 ?_
    refine g_cali (g_runV S hml hK hW (c_X2_redo_1 l D cA a u1 xp1 xp2 _ h _) kw_352 kw_268 kw_269 kw_20 kw_270 hd_X2_redo ⟨rfl, rfl, Nat.le_of_ble_eq_true rfl, Nat.le_of_ble_eq_true rfl⟩ (q0 := 1) rfl rfl (As := [.int xp1, .int xp2, .ref (a 6)]) (rest := []) rfl rfl hl.1 (Nat.le_of_ble_eq_true rfl) dX4_replayed_23 ⟨Nat.zero_le _, Nat.zero_le _⟩) (Xw_adr cA a) hA hW (fun x5 u4 H locs h hW => ?_)
    exact hret _ _ _ _ _ _ dX4_replayed_26 hW h
  · have h := h.2 c3
    refine lv_iload_n hx hb dX4_replayed_11 rfl (lv_at hl 0 rfl) ?_
    exact hret _ _ _ _ _ _ dX4_replayed_12 hW h
def w_X4_proof (xp1 : Int32) (xp2 : Int32) (xp3 : Int32) (u : Mem) (post : Int64 → Mem → Prop) : Prop := w_X4_isLeaf xp1 u (fun x2 u1 => (x2 = 0 → (w_X4_wide (-101) u1 (fun z5 u4 => post z5 u4))) ∧ (¬ x2 = 0 → (w_X4_isHeight xp2 u1 (fun x7 u6 => (x7 = 0 → (w_X4_wide (-101) u6 (fun z27 u26 => post z27 u26))) ∧ (¬ x7 = 0 → ((xp3 < 0 → (w_X4_wide (-102) u6 (fun z11 u10 => post z11 u10))) ∧ (¬ xp3 < 0 → ((xp3 < 5 → (w_X1_isGone xp2 u6 (fun x14 u13 => (x14 = 0 → (w_X2_load xp2 1 32 u13 (fun u16 => w_X3_grow 1 32 u16 (fun x18 u17 => w_X3_beside xp1 xp3 u17 (fun x20 u19 => nm ((x20 : Int32).toInt64) fun z21 => post z21 u19))))) ∧ (¬ x14 = 0 → (w_X4_wide (-104) u13 (fun z23 u22 => post z23 u22)))))) ∧ (¬ xp3 < 5 → (w_X4_wide (-102) u6 (fun z25 u24 => post z25 u24)))))))))))
abbrev rm_X4_proof : Room := { frames := 2, cells := 0, slots := 0, locals := 47 }
theorem hd_X4_proof : yX4_proof.cls ≠ "java/lang/invoke/MethodHandle" ∧ yX4_proof.cls ≠ "java/lang/invoke/VarHandle" ∧ (parseMethodDescriptor yX4_proof.desc).map (fun d => d.parameters.length) = some 3 := by decide +kernel
set_option maxHeartbeats 4000000 in
set_option maxRecDepth 100000 in
theorem c_X4_proof (l : Launch) (D : va_G) (cA : ClassId) (a : Nat → Nat) (u : Mem) (xp1 xp2 xp3 : Int32) (post : Int64 → Mem → Prop) (h : w_X4_proof xp1 xp2 xp3 u post) : g_Ml l yX4_proof (Cond.code yX4_proof cX4_proof 4 (some .long) :: tT) rm_X4_proof D cA (Xw cA a) u [.ref (a 0), .int xp1, .int xp2, .int xp3] post := by
  refine g_enter_l (by decide) (Xw_adr cA a) (Nat.le_of_ble_eq_true rfl) ?_
  intro p e s m args below meth c A Q S hml hK hA hret ls hl hW
  have hx := S.1
  have hb := S.2.1
  have hl : lv_has ls 4 [(0, .ref (a 0)), (1, .int xp1), (2, .int xp2), (3, .int xp3)] := hl
  skip
  refine lv_iload_n hx hb dX4_proof_0 rfl (lv_at hl 1 rfl) ?_
  refine g_cali (g_runS S hml hK hW (c_X4_isLeaf l D cA a u xp1 _ h _) kw_181 kw_182 kw_19 kw_183 hd_X4_isLeaf ⟨rfl, rfl, Nat.le_of_ble_eq_true rfl, Nat.le_of_ble_eq_true rfl⟩ (As := [.int xp1]) (rest := []) rfl rfl hl.1 (Nat.le_of_ble_eq_true rfl) dX4_proof_1 ⟨Nat.zero_le _, Nat.zero_le _⟩) (Xw_adr cA a) hA hW (fun x2 u1 H locs h hW => ?_)
  refine lv_if_eq (tgt := 15) hx hb dX4_proof_4 (by decide) (fun c3 => ?_) (fun c3 => ?_)
  · have h := h.1 c3
    refine lv_bipush (v := (-101)) hx hb dX4_proof_15 (by decide) ?_
    refine g_call (g_runS S hml hK hW (c_X4_wide l D cA a u1 (-101) _ h _) kw_217 kw_218 kw_19 kw_219 hd_X4_wide ⟨rfl, rfl, Nat.le_of_ble_eq_true rfl, Nat.le_of_ble_eq_true rfl⟩ (As := [.int (-101)]) (rest := []) rfl rfl hl.1 (Nat.le_of_ble_eq_true rfl) dX4_proof_17 ⟨Nat.zero_le _, Nat.zero_le _⟩) (Xw_adr cA a) hA hW (fun z5 u4 H locs h hW => ?_)
    exact hret _ _ _ _ _ _ dX4_proof_20 hW h
  · have h := h.2 c3
    refine lv_aload_n hx hb dX4_proof_7 rfl (lv_at hl 0 rfl) ?_
    refine lv_iload_n hx hb dX4_proof_8 rfl (lv_at hl 2 rfl) ?_
    refine g_cali (g_runV S hml hK hW (c_X4_isHeight l D cA a u1 xp2 _ h _) kw_213 kw_215 kw_1 kw_19 kw_216 hd_X4_isHeight ⟨rfl, rfl, Nat.le_of_ble_eq_true rfl, Nat.le_of_ble_eq_true rfl⟩ (q0 := 0) rfl rfl (As := [.int xp2]) (rest := []) rfl rfl hl.1 (Nat.le_of_ble_eq_true rfl) dX4_proof_9 ⟨Nat.zero_le _, Nat.zero_le _⟩) (Xw_adr cA a) hA hW (fun x7 u6 H locs h hW => ?_)
    refine lv_if_ne (tgt := 21) hx hb dX4_proof_12 (by decide) (fun c8 => ?_) (fun c8 => ?_)
    · have h := h.2 c8
      refine lv_iload_n hx hb dX4_proof_21 rfl (lv_at hl 3 rfl) ?_
      refine lv_if_lt (tgt := 30) hx hb dX4_proof_22 (by decide) (fun c9 => ?_) (fun c9 => ?_)
      · have h := h.1 c9
        refine lv_bipush (v := (-102)) hx hb dX4_proof_30 (by decide) ?_
        refine g_call (g_runS S hml hK hW (c_X4_wide l D cA a u6 (-102) _ h _) kw_217 kw_218 kw_19 kw_219 hd_X4_wide ⟨rfl, rfl, Nat.le_of_ble_eq_true rfl, Nat.le_of_ble_eq_true rfl⟩ (As := [.int (-102)]) (rest := []) rfl rfl hl.1 (Nat.le_of_ble_eq_true rfl) dX4_proof_32 ⟨Nat.zero_le _, Nat.zero_le _⟩) (Xw_adr cA a) hA hW (fun z11 u10 H locs h hW => ?_)
        exact hret _ _ _ _ _ _ dX4_proof_35 hW h
      · have h := h.2 c9
        refine lv_iload_n hx hb dX4_proof_25 rfl (lv_at hl 3 rfl) ?_
        refine lv_iconst (v := 5) hx hb dX4_proof_26 (by decide) ?_
        refine lv_icmp_lt (tgt := 36) hx hb dX4_proof_27 (by decide) (fun c12 => ?_) (fun c12 => ?_)
        · have h := h.1 c12
          refine lv_aload_n hx hb dX4_proof_36 rfl (lv_at hl 0 rfl) ?_
          refine xg_0_1 S hK hW kw_150 dX4_proof_37 ?_
          refine lv_iload_n hx hb dX4_proof_40 rfl (lv_at hl 2 rfl) ?_
          refine g_cali (g_runV S hml hK hW (c_X1_isGone l D cA a u6 xp2 _ h _) kw_221 kw_222 kw_223 kw_21 kw_224 hd_X1_isGone ⟨rfl, rfl, Nat.le_of_ble_eq_true rfl, Nat.le_of_ble_eq_true rfl⟩ (q0 := 2) rfl rfl (As := [.int xp2]) (rest := []) rfl rfl hl.1 (Nat.le_of_ble_eq_true rfl) dX4_proof_41 ⟨Nat.zero_le _, Nat.zero_le _⟩) (Xw_adr cA a) hA hW (fun x14 u13 H locs h hW => ?_)
          refine lv_if_eq (tgt := 53) hx hb dX4_proof_44 (by decide) (fun c15 => ?_) (fun c15 => ?_)
          · have h := h.1 c15
            refine lv_aload_n hx hb dX4_proof_53 rfl (lv_at hl 0 rfl) ?_
            refine xg_0_0 S hK hW kw_149 dX4_proof_54 ?_
            refine lv_iload_n hx hb dX4_proof_57 rfl (lv_at hl 2 rfl) ?_
            refine lv_aload_n hx hb dX4_proof_58 rfl (lv_at hl 0 rfl) ?_
            refine xg_0_5 S hK hW kw_154 dX4_proof_59 ?_
            refine g_calv (g_runV S hml hK hW (c_X2_load_1 l D cA a u13 xp2 _ h _) kw_262 kw_263 kw_264 kw_20 kw_265 hd_X2_load ⟨rfl, rfl, Nat.le_of_ble_eq_true rfl, Nat.le_of_ble_eq_true rfl⟩ (q0 := 1) rfl rfl (As := [.int xp2, .ref (a 6)]) (rest := []) rfl rfl hl.1 (Nat.le_of_ble_eq_true rfl) dX4_proof_62 ⟨Nat.zero_le _, Nat.zero_le _⟩) (Xw_adr cA a) hA hW (fun u16 H locs h hW => ?_)
            refine lv_aload_n hx hb dX4_proof_65 rfl (lv_at hl 0 rfl) ?_
            refine xg_0_3 S hK hW kw_152 dX4_proof_66 ?_
            refine lv_aload_n hx hb dX4_proof_69 rfl (lv_at hl 0 rfl) ?_
            refine xg_0_5 S hK hW kw_154 dX4_proof_70 ?_
            refine g_cali (g_runV S hml hK hW (c_X3_grow_1 l D cA a u16  _ h _) kw_134 kw_135 kw_136 kw_23 kw_137 hd_X3_grow ⟨rfl, rfl, Nat.le_of_ble_eq_true rfl, Nat.le_of_ble_eq_true rfl⟩ (q0 := 4) rfl rfl (As := [.ref (a 6)]) (rest := []) rfl rfl hl.1 (Nat.le_of_ble_eq_true rfl) dX4_proof_73 ⟨Nat.zero_le _, Nat.zero_le _⟩) (Xw_adr cA a) hA hW (fun x18 u17 H locs h hW => ?_)
            refine lv_pop hx hb dX4_proof_76 rfl ?_
            refine lv_aload_n hx hb dX4_proof_77 rfl (lv_at hl 0 rfl) ?_
            refine xg_0_3 S hK hW kw_152 dX4_proof_78 ?_
            refine lv_iload_n hx hb dX4_proof_81 rfl (lv_at hl 1 rfl) ?_
            refine lv_iload_n hx hb dX4_proof_82 rfl (lv_at hl 3 rfl) ?_
            refine g_cali (g_runV S hml hK hW (c_X3_beside l D cA a u17 xp1 xp3 _ h _) kw_361 kw_362 kw_363 kw_23 kw_364 hd_X3_beside ⟨rfl, rfl, Nat.le_of_ble_eq_true rfl, Nat.le_of_ble_eq_true rfl⟩ (q0 := 4) rfl rfl (As := [.int xp1, .int xp3]) (rest := []) rfl rfl hl.1 (Nat.le_of_ble_eq_true rfl) dX4_proof_83 ⟨Nat.zero_le _, Nat.zero_le _⟩) (Xw_adr cA a) hA hW (fun x20 u19 H locs h hW => ?_)
            refine lv_i2l hx hb dX4_proof_86 rfl ?_
            refine lv_topl (fun z21 ez21 => ?_)
            have h := nm_use ez21 h
            exact hret _ _ _ _ _ _ dX4_proof_87 hW h
          · have h := h.2 c15
            refine lv_bipush (v := (-104)) hx hb dX4_proof_47 (by decide) ?_
            refine g_call (g_runS S hml hK hW (c_X4_wide l D cA a u13 (-104) _ h _) kw_217 kw_218 kw_19 kw_219 hd_X4_wide ⟨rfl, rfl, Nat.le_of_ble_eq_true rfl, Nat.le_of_ble_eq_true rfl⟩ (As := [.int (-104)]) (rest := []) rfl rfl hl.1 (Nat.le_of_ble_eq_true rfl) dX4_proof_49 ⟨Nat.zero_le _, Nat.zero_le _⟩) (Xw_adr cA a) hA hW (fun z23 u22 H locs h hW => ?_)
            exact hret _ _ _ _ _ _ dX4_proof_52 hW h
        · have h := h.2 c12
          refine lv_bipush (v := (-102)) hx hb dX4_proof_30 (by decide) ?_
          refine g_call (g_runS S hml hK hW (c_X4_wide l D cA a u6 (-102) _ h _) kw_217 kw_218 kw_19 kw_219 hd_X4_wide ⟨rfl, rfl, Nat.le_of_ble_eq_true rfl, Nat.le_of_ble_eq_true rfl⟩ (As := [.int (-102)]) (rest := []) rfl rfl hl.1 (Nat.le_of_ble_eq_true rfl) dX4_proof_32 ⟨Nat.zero_le _, Nat.zero_le _⟩) (Xw_adr cA a) hA hW (fun z25 u24 H locs h hW => ?_)
          exact hret _ _ _ _ _ _ dX4_proof_35 hW h
    · have h := h.1 c8
      refine lv_bipush (v := (-101)) hx hb dX4_proof_15 (by decide) ?_
      refine g_call (g_runS S hml hK hW (c_X4_wide l D cA a u6 (-101) _ h _) kw_217 kw_218 kw_19 kw_219 hd_X4_wide ⟨rfl, rfl, Nat.le_of_ble_eq_true rfl, Nat.le_of_ble_eq_true rfl⟩ (As := [.int (-101)]) (rest := []) rfl rfl hl.1 (Nat.le_of_ble_eq_true rfl) dX4_proof_17 ⟨Nat.zero_le _, Nat.zero_le _⟩) (Xw_adr cA a) hA hW (fun z27 u26 H locs h hW => ?_)
      exact hret _ _ _ _ _ _ dX4_proof_20 hW h
def w_X4_lay (xp1 : Int32) (xp2 : Int32) (u : Mem) (post : Int32 → Mem → Prop) : Prop := (xp1 < 0 → (post (-102) u)) ∧ (¬ xp1 < 0 → ((xp1 < 5 → (vp_in xp1 5 ∧ nm (u 0 (xp1 : Int32).toNatClampNeg) fun x3 => vp_in xp1 5 ∧ nm (g_ms u 0 (xp1 : Int32).toNatClampNeg xp2) fun u4 => post x3 u4)) ∧ (¬ xp1 < 5 → (post (-102) u))))
abbrev rm_X4_lay : Room := { frames := 0, cells := 0, slots := 0, locals := 0 }
theorem hd_X4_lay : yX4_lay.cls ≠ "java/lang/invoke/MethodHandle" ∧ yX4_lay.cls ≠ "java/lang/invoke/VarHandle" ∧ (parseMethodDescriptor yX4_lay.desc).map (fun d => d.parameters.length) = some 2 := by decide +kernel
set_option maxHeartbeats 4000000 in
set_option maxRecDepth 100000 in
theorem c_X4_lay (l : Launch) (D : va_G) (cA : ClassId) (a : Nat → Nat) (u : Mem) (xp1 xp2 : Int32) (post : Int32 → Mem → Prop) (h : w_X4_lay xp1 xp2 u post) : g_Mi l yX4_lay (Cond.code yX4_lay cX4_lay 4 (some .int) :: tT) rm_X4_lay D cA (Xw cA a) u [.ref (a 0), .int xp1, .int xp2] post := by
  refine g_enter_i (by decide) (Xw_adr cA a) (Nat.le_of_ble_eq_true rfl) ?_
  intro p e s m args below meth c A Q S hml hK hA hret ls hl hW
  have hx := S.1
  have hb := S.2.1
  have hl : lv_has ls 4 [(0, .ref (a 0)), (1, .int xp1), (2, .int xp2)] := hl
  skip
  refine lv_iload_n hx hb dX4_lay_0 rfl (lv_at hl 1 rfl) ?_
  refine lv_if_lt (tgt := 9) hx hb dX4_lay_1 (by decide) (fun c1 => ?_) (fun c1 => ?_)
  · have h := h.1 c1
    refine lv_bipush (v := (-102)) hx hb dX4_lay_9 (by decide) ?_
    exact hret _ _ _ _ _ _ dX4_lay_11 hW h
  · have h := h.2 c1
    refine lv_iload_n hx hb dX4_lay_4 rfl (lv_at hl 1 rfl) ?_
    refine lv_iconst (v := 5) hx hb dX4_lay_5 (by decide) ?_
    refine lv_icmp_lt (tgt := 12) hx hb dX4_lay_6 (by decide) (fun c2 => ?_) (fun c2 => ?_)
    · have h := h.1 c2
      refine lv_aload_n hx hb dX4_lay_12 rfl (lv_at hl 0 rfl) ?_
      refine xg_0_4 S hK hW kw_153 dX4_lay_13 ?_
      refine lv_iload_n hx hb dX4_lay_16 rfl (lv_at hl 1 rfl) ?_
      obtain ⟨hin, h⟩ := h
      refine xl_0 S hK hW hin dX4_lay_17 (fun x3 ex3 => ?_)
      have h := nm_use ex3 h
      refine lv_istore_n (lv' := [(3, .int x3), (0, .ref (a 0)), (1, .int xp1), (2, .int xp2)]) hx hb dX4_lay_18 rfl hl (by decide) rfl (fun ls hl => ?_)
      refine lv_aload_n hx hb dX4_lay_19 rfl (lv_at hl 1 rfl) ?_
      refine xg_0_4 S hK hW kw_153 dX4_lay_20 ?_
      refine lv_iload_n hx hb dX4_lay_23 rfl (lv_at hl 2 rfl) ?_
      refine lv_iload_n hx hb dX4_lay_24 rfl (lv_at hl 3 rfl) ?_
      obtain ⟨hin, h⟩ := h
      refine xs_0 S hK hW hin dX4_lay_25 (fun u4 H locs eu4 hW => ?_)
      have h := nm_use eu4 h
      refine lv_iload_n hx hb dX4_lay_26 rfl (lv_at hl 0 rfl) ?_
      exact hret _ _ _ _ _ _ dX4_lay_27 hW h
    · have h := h.2 c2
      refine lv_bipush (v := (-102)) hx hb dX4_lay_9 (by decide) ?_
      exact hret _ _ _ _ _ _ dX4_lay_11 hW h
def w_X4_proves (xp1 : Int32) (xp2 : Int32) (xp3 : Int32) (u : Mem) (post : Int32 → Mem → Prop) : Prop := w_X4_isLeaf xp1 u (fun x2 u1 => (x2 = 0 → (post (-101) u1)) ∧ (¬ x2 = 0 → (w_X4_isHeight xp3 u1 (fun x5 u4 => (x5 = 0 → (post (-101) u4)) ∧ (¬ x5 = 0 → (w_X3_climb xp1 xp2 0 5 u4 (fun x8 u7 => vp_in xp3 201 ∧ nm (u7 9 (xp3 : Int32).toNatClampNeg) fun x9 => (x8 = x9 → (post 1 u7)) ∧ (¬ x8 = x9 → (post 0 u7)))))))))
abbrev rm_X4_proves : Room := { frames := 2, cells := 0, slots := 0, locals := 47 }
theorem hd_X4_proves : yX4_proves.cls ≠ "java/lang/invoke/MethodHandle" ∧ yX4_proves.cls ≠ "java/lang/invoke/VarHandle" ∧ (parseMethodDescriptor yX4_proves.desc).map (fun d => d.parameters.length) = some 3 := by decide +kernel
set_option maxHeartbeats 4000000 in
set_option maxRecDepth 100000 in
theorem c_X4_proves (l : Launch) (D : va_G) (cA : ClassId) (a : Nat → Nat) (u : Mem) (xp1 xp2 xp3 : Int32) (post : Int32 → Mem → Prop) (h : w_X4_proves xp1 xp2 xp3 u post) : g_Mi l yX4_proves (Cond.code yX4_proves cX4_proves 4 (some .int) :: tT) rm_X4_proves D cA (Xw cA a) u [.ref (a 0), .int xp1, .int xp2, .int xp3] post := by
  refine g_enter_i (by decide) (Xw_adr cA a) (Nat.le_of_ble_eq_true rfl) ?_
  intro p e s m args below meth c A Q S hml hK hA hret ls hl hW
  have hx := S.1
  have hb := S.2.1
  have hl : lv_has ls 4 [(0, .ref (a 0)), (1, .int xp1), (2, .int xp2), (3, .int xp3)] := hl
  skip
  refine lv_iload_n hx hb dX4_proves_0 rfl (lv_at hl 1 rfl) ?_
  refine g_cali (g_runS S hml hK hW (c_X4_isLeaf l D cA a u xp1 _ h _) kw_181 kw_182 kw_19 kw_183 hd_X4_isLeaf ⟨rfl, rfl, Nat.le_of_ble_eq_true rfl, Nat.le_of_ble_eq_true rfl⟩ (As := [.int xp1]) (rest := []) rfl rfl hl.1 (Nat.le_of_ble_eq_true rfl) dX4_proves_1 ⟨Nat.zero_le _, Nat.zero_le _⟩) (Xw_adr cA a) hA hW (fun x2 u1 H locs h hW => ?_)
  refine lv_if_eq (tgt := 15) hx hb dX4_proves_4 (by decide) (fun c3 => ?_) (fun c3 => ?_)
  · have h := h.1 c3
    refine lv_bipush (v := (-101)) hx hb dX4_proves_15 (by decide) ?_
    exact hret _ _ _ _ _ _ dX4_proves_17 hW h
  · have h := h.2 c3
    refine lv_aload_n hx hb dX4_proves_7 rfl (lv_at hl 0 rfl) ?_
    refine lv_iload_n hx hb dX4_proves_8 rfl (lv_at hl 3 rfl) ?_
    refine g_cali (g_runV S hml hK hW (c_X4_isHeight l D cA a u1 xp3 _ h _) kw_213 kw_215 kw_1 kw_19 kw_216 hd_X4_isHeight ⟨rfl, rfl, Nat.le_of_ble_eq_true rfl, Nat.le_of_ble_eq_true rfl⟩ (q0 := 0) rfl rfl (As := [.int xp3]) (rest := []) rfl rfl hl.1 (Nat.le_of_ble_eq_true rfl) dX4_proves_9 ⟨Nat.zero_le _, Nat.zero_le _⟩) (Xw_adr cA a) hA hW (fun x5 u4 H locs h hW => ?_)
    refine lv_if_ne (tgt := 18) hx hb dX4_proves_12 (by decide) (fun c6 => ?_) (fun c6 => ?_)
    · have h := h.2 c6
      refine lv_iload_n hx hb dX4_proves_18 rfl (lv_at hl 1 rfl) ?_
      refine lv_iload_n hx hb dX4_proves_19 rfl (lv_at hl 2 rfl) ?_
      refine lv_aload_n hx hb dX4_proves_20 rfl (lv_at hl 0 rfl) ?_
      refine xg_0_4 S hK hW kw_153 dX4_proves_21 ?_
      refine g_cali (g_runS S hml hK hW (c_X3_climb_0 l D cA a u4 xp1 xp2 _ h _) kw_373 kw_374 kw_23 kw_375 hd_X3_climb ⟨rfl, rfl, Nat.le_of_ble_eq_true rfl, Nat.le_of_ble_eq_true rfl⟩ (As := [.int xp1, .int xp2, .ref (a 5)]) (rest := []) rfl rfl hl.1 (Nat.le_of_ble_eq_true rfl) dX4_proves_24 ⟨Nat.zero_le _, Nat.zero_le _⟩) (Xw_adr cA a) hA hW (fun x8 u7 H locs h hW => ?_)
      refine lv_aload_n hx hb dX4_proves_27 rfl (lv_at hl 0 rfl) ?_
      refine xg_0_1 S hK hW kw_150 dX4_proves_28 ?_
      refine xg_2_0 S hK hW kw_74 dX4_proves_31 ?_
      refine lv_iload_n hx hb dX4_proves_34 rfl (lv_at hl 3 rfl) ?_
      obtain ⟨hin, h⟩ := h
      refine xl_9 S hK hW hin dX4_proves_35 (fun x9 ex9 => ?_)
      have h := nm_use ex9 h
      refine lv_icmp_ne (tgt := 43) hx hb dX4_proves_36 (by decide) (fun c10 => ?_) (fun c10 => ?_)
      · have h := h.2 c10
        refine lv_iconst (v := 0) hx hb dX4_proves_43 (by decide) ?_
        exact hret _ _ _ _ _ _ dX4_proves_44 hW h
      · have h := h.1 c10
        refine lv_iconst (v := 1) hx hb dX4_proves_39 (by decide) ?_
        refine lv_goto (tgt := 44) hx hb dX4_proves_40 (by decide) ?_
        exact hret _ _ _ _ _ _ dX4_proves_44 hW h
    · have h := h.1 c6
      refine lv_bipush (v := (-101)) hx hb dX4_proves_15 (by decide) ?_
      exact hret _ _ _ _ _ _ dX4_proves_17 hW h
def w_X4_back (xp1 : Int32) (u : Mem) (post : Int32 → Mem → Prop) : Prop := w_X4_isHeight xp1 u (fun x2 u1 => (x2 = 0 → (post (-101) u1)) ∧ (¬ x2 = 0 → (((u1 16 0) ≤ 0 → (w_X1_isGone xp1 u1 (fun x6 u5 => (x6 = 0 → (w_X2_removeAbove xp1 u5 (fun x9 u8 => w_X1_fallTo xp1 u8 (fun u10 => w_X2_load xp1 1 32 u10 (fun u11 => w_X0_startFrom 1 32 u11 (fun u12 => post x9 u12)))))) ∧ (¬ x6 = 0 → (post (-104) u5))))) ∧ (¬ (u1 16 0) ≤ 0 → (post (-103) u1)))))
abbrev rm_X4_back : Room := { frames := 2, cells := 0, slots := 0, locals := 47 }
theorem hd_X4_back : yX4_back.cls ≠ "java/lang/invoke/MethodHandle" ∧ yX4_back.cls ≠ "java/lang/invoke/VarHandle" ∧ (parseMethodDescriptor yX4_back.desc).map (fun d => d.parameters.length) = some 1 := by decide +kernel
set_option maxHeartbeats 4000000 in
set_option maxRecDepth 100000 in
theorem c_X4_back (l : Launch) (D : va_G) (cA : ClassId) (a : Nat → Nat) (u : Mem) (xp1 : Int32) (post : Int32 → Mem → Prop) (h : w_X4_back xp1 u post) : g_Mi l yX4_back (Cond.code yX4_back cX4_back 3 (some .int) :: tT) rm_X4_back D cA (Xw cA a) u [.ref (a 0), .int xp1] post := by
  refine g_enter_i (by decide) (Xw_adr cA a) (Nat.le_of_ble_eq_true rfl) ?_
  intro p e s m args below meth c A Q S hml hK hA hret ls hl hW
  have hx := S.1
  have hb := S.2.1
  have hl : lv_has ls 3 [(0, .ref (a 0)), (1, .int xp1)] := hl
  skip
  refine lv_aload_n hx hb dX4_back_0 rfl (lv_at hl 0 rfl) ?_
  refine lv_iload_n hx hb dX4_back_1 rfl (lv_at hl 1 rfl) ?_
  refine g_cali (g_runV S hml hK hW (c_X4_isHeight l D cA a u xp1 _ h _) kw_213 kw_215 kw_1 kw_19 kw_216 hd_X4_isHeight ⟨rfl, rfl, Nat.le_of_ble_eq_true rfl, Nat.le_of_ble_eq_true rfl⟩ (q0 := 0) rfl rfl (As := [.int xp1]) (rest := []) rfl rfl hl.1 (Nat.le_of_ble_eq_true rfl) dX4_back_2 ⟨Nat.zero_le _, Nat.zero_le _⟩) (Xw_adr cA a) hA hW (fun x2 u1 H locs h hW => ?_)
  refine lv_if_ne (tgt := 11) hx hb dX4_back_5 (by decide) (fun c3 => ?_) (fun c3 => ?_)
  · have h := h.2 c3
    refine lv_aload_n hx hb dX4_back_11 rfl (lv_at hl 0 rfl) ?_
    refine xg_0_8 S hK hW kw_157 dX4_back_12 ?_
    refine lv_if_le (tgt := 21) hx hb dX4_back_15 (by decide) (fun c4 => ?_) (fun c4 => ?_)
    · have h := h.1 c4
      refine lv_aload_n hx hb dX4_back_21 rfl (lv_at hl 0 rfl) ?_
      refine xg_0_1 S hK hW kw_150 dX4_back_22 ?_
      refine lv_iload_n hx hb dX4_back_25 rfl (lv_at hl 1 rfl) ?_
      refine g_cali (g_runV S hml hK hW (c_X1_isGone l D cA a u1 xp1 _ h _) kw_221 kw_222 kw_223 kw_21 kw_224 hd_X1_isGone ⟨rfl, rfl, Nat.le_of_ble_eq_true rfl, Nat.le_of_ble_eq_true rfl⟩ (q0 := 2) rfl rfl (As := [.int xp1]) (rest := []) rfl rfl hl.1 (Nat.le_of_ble_eq_true rfl) dX4_back_26 ⟨Nat.zero_le _, Nat.zero_le _⟩) (Xw_adr cA a) hA hW (fun x6 u5 H locs h hW => ?_)
      refine lv_if_eq (tgt := 35) hx hb dX4_back_29 (by decide) (fun c7 => ?_) (fun c7 => ?_)
      · have h := h.1 c7
        refine lv_aload_n hx hb dX4_back_35 rfl (lv_at hl 0 rfl) ?_
        refine xg_0_0 S hK hW kw_149 dX4_back_36 ?_
        refine lv_iload_n hx hb dX4_back_39 rfl (lv_at hl 1 rfl) ?_
        refine g_cali (g_runV S hml hK hW (c_X2_removeAbove l D cA a u5 xp1 _ h _) kw_380 kw_381 kw_382 kw_20 kw_383 hd_X2_removeAbove ⟨rfl, rfl, Nat.le_of_ble_eq_true rfl, Nat.le_of_ble_eq_true rfl⟩ (q0 := 1) rfl rfl (As := [.int xp1]) (rest := []) rfl rfl hl.1 (Nat.le_of_ble_eq_true rfl) dX4_back_40 ⟨Nat.zero_le _, Nat.zero_le _⟩) (Xw_adr cA a) hA hW (fun x9 u8 H locs h hW => ?_)
        refine lv_istore_n (lv' := [(2, .int x9), (0, .ref (a 0)), (1, .int xp1)]) hx hb dX4_back_43 rfl hl (by decide) rfl (fun ls hl => ?_)
        refine lv_aload_n hx hb dX4_back_44 rfl (lv_at hl 1 rfl) ?_
        refine xg_0_1 S hK hW kw_150 dX4_back_45 ?_
        refine lv_iload_n hx hb dX4_back_48 rfl (lv_at hl 2 rfl) ?_
        refine g_calv (g_runV S hml hK hW (c_X1_fallTo l D cA a u8 xp1 _ h _) kw_384 kw_385 kw_386 kw_21 kw_387 hd_X1_fallTo ⟨rfl, rfl, Nat.le_of_ble_eq_true rfl, Nat.le_of_ble_eq_true rfl⟩ (q0 := 2) rfl rfl (As := [.int xp1]) (rest := []) rfl rfl hl.1 (Nat.le_of_ble_eq_true rfl) dX4_back_49 ⟨Nat.zero_le _, Nat.zero_le _⟩) (Xw_adr cA a) hA hW (fun u10 H locs h hW => ?_)
        refine lv_aload_n hx hb dX4_back_52 rfl (lv_at hl 1 rfl) ?_
        refine xg_0_0 S hK hW kw_149 dX4_back_53 ?_
        refine lv_iload_n hx hb dX4_back_56 rfl (lv_at hl 2 rfl) ?_
        refine lv_aload_n hx hb dX4_back_57 rfl (lv_at hl 1 rfl) ?_
        refine xg_0_5 S hK hW kw_154 dX4_back_58 ?_
        refine g_calv (g_runV S hml hK hW (c_X2_load_1 l D cA a u10 xp1 _ h _) kw_262 kw_263 kw_264 kw_20 kw_265 hd_X2_load ⟨rfl, rfl, Nat.le_of_ble_eq_true rfl, Nat.le_of_ble_eq_true rfl⟩ (q0 := 1) rfl rfl (As := [.int xp1, .ref (a 6)]) (rest := []) rfl rfl hl.1 (Nat.le_of_ble_eq_true rfl) dX4_back_61 ⟨Nat.zero_le _, Nat.zero_le _⟩) (Xw_adr cA a) hA hW (fun u11 H locs h hW => ?_)
        refine lv_aload_n hx hb dX4_back_64 rfl (lv_at hl 1 rfl) ?_
        refine xg_0_2 S hK hW kw_151 dX4_back_65 ?_
        refine lv_aload_n hx hb dX4_back_68 rfl (lv_at hl 1 rfl) ?_
        refine xg_0_5 S hK hW kw_154 dX4_back_69 ?_
        refine g_calv (g_runV S hml hK hW (c_X0_startFrom_1 l D cA a u11  _ h _) kw_130 kw_131 kw_132 kw_22 kw_133 hd_X0_startFrom ⟨rfl, rfl, Nat.le_of_ble_eq_true rfl, Nat.le_of_ble_eq_true rfl⟩ (q0 := 3) rfl rfl (As := [.ref (a 6)]) (rest := []) rfl rfl hl.1 (Nat.le_of_ble_eq_true rfl) dX4_back_72 ⟨Nat.zero_le _, Nat.zero_le _⟩) (Xw_adr cA a) hA hW (fun u12 H locs h hW => ?_)
        refine lv_iload_n hx hb dX4_back_75 rfl (lv_at hl 0 rfl) ?_
        exact hret _ _ _ _ _ _ dX4_back_76 hW h
      · have h := h.2 c7
        refine lv_bipush (v := (-104)) hx hb dX4_back_32 (by decide) ?_
        exact hret _ _ _ _ _ _ dX4_back_34 hW h
    · have h := h.2 c4
      refine lv_bipush (v := (-103)) hx hb dX4_back_18 (by decide) ?_
      exact hret _ _ _ _ _ _ dX4_back_20 hW h
  · have h := h.1 c3
    refine lv_bipush (v := (-101)) hx hb dX4_back_8 (by decide) ?_
    exact hret _ _ _ _ _ _ dX4_back_10 hW h
def w_X4_row (xp1 : Int32) (xp2 : Int32) (xp3 : Int32) (u : Mem) (post : Int32 → Mem → Prop) : Prop := w_X4_isLeaf xp1 u (fun x2 u1 => (x2 = 0 → (post (-101) u1)) ∧ (¬ x2 = 0 → ((xp3 < 0 → (post (-102) u1)) ∧ (¬ xp3 < 0 → ((xp3 ≤ 1 → (w_X2_find xp1 xp2 u1 (fun x7 u6 => (x7 = (-1) → (post (-1) u6)) ∧ (¬ x7 = (-1) → ((xp3 = 0 → (vp_in x7 400 ∧ nm (u6 3 (x7 : Int32).toNatClampNeg) fun x11 => post x11 u6)) ∧ (¬ xp3 = 0 → (vp_in x7 400 ∧ nm (u6 6 (x7 : Int32).toNatClampNeg) fun x10 => post x10 u6))))))) ∧ (¬ xp3 ≤ 1 → (post (-102) u1)))))))
abbrev rm_X4_row : Room := { frames := 2, cells := 0, slots := 0, locals := 46 }
theorem hd_X4_row : yX4_row.cls ≠ "java/lang/invoke/MethodHandle" ∧ yX4_row.cls ≠ "java/lang/invoke/VarHandle" ∧ (parseMethodDescriptor yX4_row.desc).map (fun d => d.parameters.length) = some 3 := by decide +kernel
set_option maxHeartbeats 4000000 in
set_option maxRecDepth 100000 in
theorem c_X4_row (l : Launch) (D : va_G) (cA : ClassId) (a : Nat → Nat) (u : Mem) (xp1 xp2 xp3 : Int32) (post : Int32 → Mem → Prop) (h : w_X4_row xp1 xp2 xp3 u post) : g_Mi l yX4_row (Cond.code yX4_row cX4_row 5 (some .int) :: tT) rm_X4_row D cA (Xw cA a) u [.ref (a 0), .int xp1, .int xp2, .int xp3] post := by
  refine g_enter_i (by decide) (Xw_adr cA a) (Nat.le_of_ble_eq_true rfl) ?_
  intro p e s m args below meth c A Q S hml hK hA hret ls hl hW
  have hx := S.1
  have hb := S.2.1
  have hl : lv_has ls 5 [(0, .ref (a 0)), (1, .int xp1), (2, .int xp2), (3, .int xp3)] := hl
  skip
  refine lv_iload_n hx hb dX4_row_0 rfl (lv_at hl 1 rfl) ?_
  refine g_cali (g_runS S hml hK hW (c_X4_isLeaf l D cA a u xp1 _ h _) kw_181 kw_182 kw_19 kw_183 hd_X4_isLeaf ⟨rfl, rfl, Nat.le_of_ble_eq_true rfl, Nat.le_of_ble_eq_true rfl⟩ (As := [.int xp1]) (rest := []) rfl rfl hl.1 (Nat.le_of_ble_eq_true rfl) dX4_row_1 ⟨Nat.zero_le _, Nat.zero_le _⟩) (Xw_adr cA a) hA hW (fun x2 u1 H locs h hW => ?_)
  refine lv_if_ne (tgt := 10) hx hb dX4_row_4 (by decide) (fun c3 => ?_) (fun c3 => ?_)
  · have h := h.2 c3
    refine lv_iload_n hx hb dX4_row_10 rfl (lv_at hl 3 rfl) ?_
    refine lv_if_lt (tgt := 19) hx hb dX4_row_11 (by decide) (fun c4 => ?_) (fun c4 => ?_)
    · have h := h.1 c4
      refine lv_bipush (v := (-102)) hx hb dX4_row_19 (by decide) ?_
      exact hret _ _ _ _ _ _ dX4_row_21 hW h
    · have h := h.2 c4
      refine lv_iload_n hx hb dX4_row_14 rfl (lv_at hl 3 rfl) ?_
      refine lv_iconst (v := 1) hx hb dX4_row_15 (by decide) ?_
      refine lv_icmp_le (tgt := 22) hx hb dX4_row_16 (by decide) (fun c5 => ?_) (fun c5 => ?_)
      · have h := h.1 c5
        refine lv_aload_n hx hb dX4_row_22 rfl (lv_at hl 0 rfl) ?_
        refine xg_0_0 S hK hW kw_149 dX4_row_23 ?_
        refine lv_iload_n hx hb dX4_row_26 rfl (lv_at hl 1 rfl) ?_
        refine lv_iload_n hx hb dX4_row_27 rfl (lv_at hl 2 rfl) ?_
        refine g_cali (g_runV S hml hK hW (c_X2_find l D cA a u1 xp1 xp2 _ h _) kw_392 kw_393 kw_394 kw_20 kw_395 hd_X2_find ⟨rfl, rfl, Nat.le_of_ble_eq_true rfl, Nat.le_of_ble_eq_true rfl⟩ (q0 := 1) rfl rfl (As := [.int xp1, .int xp2]) (rest := []) rfl rfl hl.1 (Nat.le_of_ble_eq_true rfl) dX4_row_28 ⟨Nat.zero_le _, Nat.zero_le _⟩) (Xw_adr cA a) hA hW (fun x7 u6 H locs h hW => ?_)
        refine lv_istore (lv' := [(4, .int x7), (0, .ref (a 0)), (1, .int xp1), (2, .int xp2), (3, .int xp3)]) hx hb dX4_row_31 hl (by decide) rfl (fun ls hl => ?_)
        refine lv_iload hx hb dX4_row_33 (lv_at hl 0 rfl) ?_
        refine lv_iconst (v := (-1)) hx hb dX4_row_35 (by decide) ?_
        refine lv_icmp_ne (tgt := 41) hx hb dX4_row_36 (by decide) (fun c8 => ?_) (fun c8 => ?_)
        · have h := h.2 c8
          refine lv_iload_n hx hb dX4_row_41 rfl (lv_at hl 4 rfl) ?_
          refine lv_if_ne (tgt := 58) hx hb dX4_row_42 (by decide) (fun c9 => ?_) (fun c9 => ?_)
          · have h := h.2 c9
            refine lv_aload_n hx hb dX4_row_58 rfl (lv_at hl 1 rfl) ?_
            refine xg_0_0 S hK hW kw_149 dX4_row_59 ?_
            refine xg_1_3 S hK hW kw_46 dX4_row_62 ?_
            refine lv_iload hx hb dX4_row_65 (lv_at hl 0 rfl) ?_
            obtain ⟨hin, h⟩ := h
            refine xl_6 S hK hW hin dX4_row_67 (fun x10 ex10 => ?_)
            have h := nm_use ex10 h
            exact hret _ _ _ _ _ _ dX4_row_68 hW h
          · have h := h.1 c9
            refine lv_aload_n hx hb dX4_row_45 rfl (lv_at hl 1 rfl) ?_
            refine xg_0_0 S hK hW kw_149 dX4_row_46 ?_
            refine xg_1_0 S hK hW kw_41 dX4_row_49 ?_
            refine lv_iload hx hb dX4_row_52 (lv_at hl 0 rfl) ?_
            obtain ⟨hin, h⟩ := h
            refine xl_3 S hK hW hin dX4_row_54 (fun x11 ex11 => ?_)
            have h := nm_use ex11 h
            refine lv_goto (tgt := 68) hx hb dX4_row_55 (by decide) ?_
            exact hret _ _ _ _ _ _ dX4_row_68 hW h
        · have h := h.1 c8
          refine lv_iconst (v := (-1)) hx hb dX4_row_39 (by decide) ?_
          exact hret _ _ _ _ _ _ dX4_row_40 hW h
      · have h := h.2 c5
        refine lv_bipush (v := (-102)) hx hb dX4_row_19 (by decide) ?_
        exact hret _ _ _ _ _ _ dX4_row_21 hW h
  · have h := h.1 c3
    refine lv_bipush (v := (-101)) hx hb dX4_row_7 (by decide) ?_
    exact hret _ _ _ _ _ _ dX4_row_9 hW h
def w_X4_count (xp1 : Int32) (u : Mem) (post : Int32 → Mem → Prop) : Prop := (xp1 = 0 → (post (u 18 0) u)) ∧ (xp1 = 1 → (post (u 19 0) u)) ∧ (xp1 = 2 → (w_X2_countIn (-1) u (fun x2 u1 => post x2 u1))) ∧ (xp1 = 3 → (w_X2_countIn (-1) u (fun x4 u3 => nm ((u 17 0) - x4 : Int32) fun x5 => post x5 u3))) ∧ (xp1 = 4 → (post (u 16 0) u)) ∧ (xp1 = 5 → (nm ((u 18 0) + (1 : Int32) : Int32) fun x6 => w_X1_countIn (-1) u (fun x8 u7 => nm (x6 - x8 : Int32) fun x9 => post x9 u7))) ∧ ((xp1.toInt < 0 ∨ 5 < xp1.toInt) → (post (-102) u))
abbrev rm_X4_count : Room := { frames := 1, cells := 0, slots := 0, locals := 23 }
theorem hd_X4_count : yX4_count.cls ≠ "java/lang/invoke/MethodHandle" ∧ yX4_count.cls ≠ "java/lang/invoke/VarHandle" ∧ (parseMethodDescriptor yX4_count.desc).map (fun d => d.parameters.length) = some 1 := by decide +kernel
set_option maxHeartbeats 4000000 in
set_option maxRecDepth 100000 in
theorem c_X4_count (l : Launch) (D : va_G) (cA : ClassId) (a : Nat → Nat) (u : Mem) (xp1 : Int32) (post : Int32 → Mem → Prop) (h : w_X4_count xp1 u post) : g_Mi l yX4_count (Cond.code yX4_count cX4_count 2 (some .int) :: tT) rm_X4_count D cA (Xw cA a) u [.ref (a 0), .int xp1] post := by
  refine g_enter_i (by decide) (Xw_adr cA a) (Nat.le_of_ble_eq_true rfl) ?_
  intro p e s m args below meth c A Q S hml hK hA hret ls hl hW
  have hx := S.1
  have hb := S.2.1
  have hl : lv_has ls 2 [(0, .ref (a 0)), (1, .int xp1)] := hl
  skip
  refine lv_iload_n hx hb dX4_count_0 rfl (lv_at hl 1 rfl) ?_
  rcases g_sw6 xp1 with hs | hs | hs | hs | hs | hs | hs
  · have h := h.1 hs
    refine lv_tableIn (tgt := 40) hx hb dX4_count_1 (by rw [hs]; decide) (by rw [hs]; decide) (by rw [hs]; rfl) (by decide) ?_
    refine lv_aload_n hx hb dX4_count_40 rfl (lv_at hl 0 rfl) ?_
    refine xg_0_1 S hK hW kw_150 dX4_count_41 ?_
    refine xg_2_2 S hK hW kw_77 dX4_count_44 ?_
    exact hret _ _ _ _ _ _ dX4_count_47 hW h
  · have h := h.2.1 hs
    refine lv_tableIn (tgt := 48) hx hb dX4_count_1 (by rw [hs]; decide) (by rw [hs]; decide) (by rw [hs]; rfl) (by decide) ?_
    refine lv_aload_n hx hb dX4_count_48 rfl (lv_at hl 0 rfl) ?_
    refine xg_0_2 S hK hW kw_151 dX4_count_49 ?_
    refine xg_3_3 S hK hW kw_99 dX4_count_52 ?_
    exact hret _ _ _ _ _ _ dX4_count_55 hW h
  · have h := h.2.2.1 hs
    refine lv_tableIn (tgt := 56) hx hb dX4_count_1 (by rw [hs]; decide) (by rw [hs]; decide) (by rw [hs]; rfl) (by decide) ?_
    refine lv_aload_n hx hb dX4_count_56 rfl (lv_at hl 0 rfl) ?_
    refine xg_0_0 S hK hW kw_149 dX4_count_57 ?_
    refine lv_iconst (v := (-1)) hx hb dX4_count_60 (by decide) ?_
    refine g_cali (g_runV S hml hK hW (c_X2_countIn l D cA a u (-1) _ h _) kw_336 kw_337 kw_338 kw_20 kw_339 hd_X2_countIn ⟨rfl, rfl, Nat.le_of_ble_eq_true rfl, Nat.le_of_ble_eq_true rfl⟩ (q0 := 1) rfl rfl (As := [.int (-1)]) (rest := []) rfl rfl hl.1 (Nat.le_of_ble_eq_true rfl) dX4_count_61 ⟨Nat.zero_le _, Nat.zero_le _⟩) (Xw_adr cA a) hA hW (fun x2 u1 H locs h hW => ?_)
    exact hret _ _ _ _ _ _ dX4_count_64 hW h
  · have h := h.2.2.2.1 hs
    refine lv_tableIn (tgt := 65) hx hb dX4_count_1 (by rw [hs]; decide) (by rw [hs]; decide) (by rw [hs]; rfl) (by decide) ?_
    refine lv_aload_n hx hb dX4_count_65 rfl (lv_at hl 0 rfl) ?_
    refine xg_0_0 S hK hW kw_149 dX4_count_66 ?_
    refine xg_1_6 S hK hW kw_50 dX4_count_69 ?_
    refine lv_aload_n hx hb dX4_count_72 rfl (lv_at hl 0 rfl) ?_
    refine xg_0_0 S hK hW kw_149 dX4_count_73 ?_
    refine lv_iconst (v := (-1)) hx hb dX4_count_76 (by decide) ?_
    refine g_cali (g_runV S hml hK hW (c_X2_countIn l D cA a u (-1) _ h _) kw_336 kw_337 kw_338 kw_20 kw_339 hd_X2_countIn ⟨rfl, rfl, Nat.le_of_ble_eq_true rfl, Nat.le_of_ble_eq_true rfl⟩ (q0 := 1) rfl rfl (As := [.int (-1)]) (rest := [.int (u 17 0)]) rfl rfl hl.1 (Nat.le_of_ble_eq_true rfl) dX4_count_77 ⟨Nat.zero_le _, Nat.zero_le _⟩) (Xw_adr cA a) hA hW (fun x4 u3 H locs h hW => ?_)
    refine lv_isub hx hb dX4_count_80 ?_
    refine lv_topi (fun x5 ex5 => ?_)
    have h := nm_use ex5 h
    exact hret _ _ _ _ _ _ dX4_count_81 hW h
  · have h := h.2.2.2.2.1 hs
    refine lv_tableIn (tgt := 82) hx hb dX4_count_1 (by rw [hs]; decide) (by rw [hs]; decide) (by rw [hs]; rfl) (by decide) ?_
    refine lv_aload_n hx hb dX4_count_82 rfl (lv_at hl 0 rfl) ?_
    refine xg_0_8 S hK hW kw_157 dX4_count_83 ?_
    exact hret _ _ _ _ _ _ dX4_count_86 hW h
  · have h := h.2.2.2.2.2.1 hs
    refine lv_tableIn (tgt := 87) hx hb dX4_count_1 (by rw [hs]; decide) (by rw [hs]; decide) (by rw [hs]; rfl) (by decide) ?_
    refine lv_aload_n hx hb dX4_count_87 rfl (lv_at hl 0 rfl) ?_
    refine xg_0_1 S hK hW kw_150 dX4_count_88 ?_
    refine xg_2_2 S hK hW kw_77 dX4_count_91 ?_
    refine lv_iconst (v := 1) hx hb dX4_count_94 (by decide) ?_
    refine lv_iadd hx hb dX4_count_95 ?_
    refine lv_topi (fun x6 ex6 => ?_)
    have h := nm_use ex6 h
    refine lv_aload_n hx hb dX4_count_96 rfl (lv_at hl 0 rfl) ?_
    refine xg_0_1 S hK hW kw_150 dX4_count_97 ?_
    refine lv_iconst (v := (-1)) hx hb dX4_count_100 (by decide) ?_
    refine g_cali (g_runV S hml hK hW (c_X1_countIn l D cA a u (-1) _ h _) kw_340 kw_341 kw_342 kw_21 kw_343 hd_X1_countIn ⟨rfl, rfl, Nat.le_of_ble_eq_true rfl, Nat.le_of_ble_eq_true rfl⟩ (q0 := 2) rfl rfl (As := [.int (-1)]) (rest := [.int x6]) rfl rfl hl.1 (Nat.le_of_ble_eq_true rfl) dX4_count_101 ⟨Nat.zero_le _, Nat.zero_le _⟩) (Xw_adr cA a) hA hW (fun x8 u7 H locs h hW => ?_)
    refine lv_isub hx hb dX4_count_104 ?_
    refine lv_topi (fun x9 ex9 => ?_)
    have h := nm_use ex9 h
    exact hret _ _ _ _ _ _ dX4_count_105 hW h
  · have h := h.2.2.2.2.2.2 hs
    refine lv_tableOut (tgt := 106) hx hb dX4_count_1 hs (by decide) ?_
    refine lv_bipush (v := (-102)) hx hb dX4_count_106 (by decide) ?_
    exact hret _ _ _ _ _ _ dX4_count_108 hW h
def w_X4_begin  (u : Mem) (post : Mem → Prop) : Prop := nm (g_ms u 15 0 0) fun u1 => nm (g_ms u1 16 0 0) fun u2 => nm (g_ms u2 17 0 0) fun u3 => w_J7_fill_53178 0 5 0 u3 (fun u4 => w_J7_fill_53178 1 32 0 u4 (fun u5 => w_X0_startFrom 1 32 u5 (fun u6 => nm (g_ms u6 18 0 (-1)) fun u7 => w_X3_grow 1 32 u7 (fun x9 u8 => w_X1_rise x9 u8 (fun u10 => post u10)))))
abbrev rm_X4_begin : Room := { frames := 2, cells := 0, slots := 0, locals := 44 }
theorem hd_X4_begin : yX4_begin.cls ≠ "java/lang/invoke/MethodHandle" ∧ yX4_begin.cls ≠ "java/lang/invoke/VarHandle" ∧ (parseMethodDescriptor yX4_begin.desc).map (fun d => d.parameters.length) = some 0 := by decide +kernel
set_option maxHeartbeats 4000000 in
set_option maxRecDepth 100000 in
theorem c_X4_begin (l : Launch) (D : va_G) (cA : ClassId) (a : Nat → Nat) (u : Mem) (post : Mem → Prop) (h : w_X4_begin  u post) : g_Mv l yX4_begin (Cond.code yX4_begin cX4_begin 1 none :: tT) rm_X4_begin D cA (Xw cA a) u [.ref (a 0)] post := by
  refine g_enter_v (by decide) (Xw_adr cA a) (Nat.le_of_ble_eq_true rfl) ?_
  intro p e s m args below meth c A Q S hml hK hA hret ls hl hW
  have hx := S.1
  have hb := S.2.1
  have hl : lv_has ls 1 [(0, .ref (a 0))] := hl
  skip
  refine lv_aload_n hx hb dX4_begin_0 rfl (lv_at hl 0 rfl) ?_
  refine lv_iconst (v := 0) hx hb dX4_begin_1 (by decide) ?_
  refine xp_15 S hK hW kw_156 dX4_begin_2 (fun u1 H locs eu1 hW => ?_)
  have h := nm_use eu1 h
  refine lv_aload_n hx hb dX4_begin_5 rfl (lv_at hl 0 rfl) ?_
  refine lv_iconst (v := 0) hx hb dX4_begin_6 (by decide) ?_
  refine xp_16 S hK hW kw_157 dX4_begin_7 (fun u2 H locs eu2 hW => ?_)
  have h := nm_use eu2 h
  refine lv_aload_n hx hb dX4_begin_10 rfl (lv_at hl 0 rfl) ?_
  refine xg_0_0 S hK hW kw_149 dX4_begin_11 ?_
  refine lv_iconst (v := 0) hx hb dX4_begin_14 (by decide) ?_
  refine xp_17 S hK hW kw_50 dX4_begin_15 (fun u3 H locs eu3 hW => ?_)
  have h := nm_use eu3 h
  refine lv_aload_n hx hb dX4_begin_18 rfl (lv_at hl 0 rfl) ?_
  refine xg_0_4 S hK hW kw_153 dX4_begin_19 ?_
  refine lv_iconst (v := 0) hx hb dX4_begin_22 (by decide) ?_
  refine g_calv (g_runS S hml hK hW (c_J7_fill_53178_0 l D cA a u3 0 _ h _) kw_127 kw_128 kw_24 kw_129 hd_J7_fill_53178 ⟨rfl, rfl, Nat.le_of_ble_eq_true rfl, Nat.le_of_ble_eq_true rfl⟩ (As := [.ref (a 5), .int 0]) (rest := []) rfl rfl hl.1 (Nat.le_of_ble_eq_true rfl) dX4_begin_23 ⟨Nat.zero_le _, Nat.zero_le _⟩) (Xw_adr cA a) hA hW (fun u4 H locs h hW => ?_)
  refine lv_aload_n hx hb dX4_begin_26 rfl (lv_at hl 0 rfl) ?_
  refine xg_0_5 S hK hW kw_154 dX4_begin_27 ?_
  refine lv_iconst (v := 0) hx hb dX4_begin_30 (by decide) ?_
  refine g_calv (g_runS S hml hK hW (c_J7_fill_53178_1 l D cA a u4 0 _ h _) kw_127 kw_128 kw_24 kw_129 hd_J7_fill_53178 ⟨rfl, rfl, Nat.le_of_ble_eq_true rfl, Nat.le_of_ble_eq_true rfl⟩ (As := [.ref (a 6), .int 0]) (rest := []) rfl rfl hl.1 (Nat.le_of_ble_eq_true rfl) dX4_begin_31 ⟨Nat.zero_le _, Nat.zero_le _⟩) (Xw_adr cA a) hA hW (fun u5 H locs h hW => ?_)
  refine lv_aload_n hx hb dX4_begin_34 rfl (lv_at hl 0 rfl) ?_
  refine xg_0_2 S hK hW kw_151 dX4_begin_35 ?_
  refine lv_aload_n hx hb dX4_begin_38 rfl (lv_at hl 0 rfl) ?_
  refine xg_0_5 S hK hW kw_154 dX4_begin_39 ?_
  refine g_calv (g_runV S hml hK hW (c_X0_startFrom_1 l D cA a u5  _ h _) kw_130 kw_131 kw_132 kw_22 kw_133 hd_X0_startFrom ⟨rfl, rfl, Nat.le_of_ble_eq_true rfl, Nat.le_of_ble_eq_true rfl⟩ (q0 := 3) rfl rfl (As := [.ref (a 6)]) (rest := []) rfl rfl hl.1 (Nat.le_of_ble_eq_true rfl) dX4_begin_42 ⟨Nat.zero_le _, Nat.zero_le _⟩) (Xw_adr cA a) hA hW (fun u6 H locs h hW => ?_)
  refine lv_aload_n hx hb dX4_begin_45 rfl (lv_at hl 0 rfl) ?_
  refine xg_0_1 S hK hW kw_150 dX4_begin_46 ?_
  refine lv_iconst (v := (-1)) hx hb dX4_begin_49 (by decide) ?_
  refine xp_18 S hK hW kw_77 dX4_begin_50 (fun u7 H locs eu7 hW => ?_)
  have h := nm_use eu7 h
  refine lv_aload_n hx hb dX4_begin_53 rfl (lv_at hl 0 rfl) ?_
  refine xg_0_1 S hK hW kw_150 dX4_begin_54 ?_
  refine lv_aload_n hx hb dX4_begin_57 rfl (lv_at hl 0 rfl) ?_
  refine xg_0_3 S hK hW kw_152 dX4_begin_58 ?_
  refine lv_aload_n hx hb dX4_begin_61 rfl (lv_at hl 0 rfl) ?_
  refine xg_0_5 S hK hW kw_154 dX4_begin_62 ?_
  refine g_cali (g_runV S hml hK hW (c_X3_grow_1 l D cA a u7  _ h _) kw_134 kw_135 kw_136 kw_23 kw_137 hd_X3_grow ⟨rfl, rfl, Nat.le_of_ble_eq_true rfl, Nat.le_of_ble_eq_true rfl⟩ (q0 := 4) rfl rfl (As := [.ref (a 6)]) (rest := [.ref (a 2)]) rfl rfl hl.1 (Nat.le_of_ble_eq_true rfl) dX4_begin_65 ⟨Nat.zero_le _, Nat.zero_le _⟩) (Xw_adr cA a) hA hW (fun x9 u8 H locs h hW => ?_)
  refine g_calv (g_runV S hml hK hW (c_X1_rise l D cA a u8 x9 _ h _) kw_145 kw_146 kw_147 kw_21 kw_148 hd_X1_rise ⟨rfl, rfl, Nat.le_of_ble_eq_true rfl, Nat.le_of_ble_eq_true rfl⟩ (q0 := 2) rfl rfl (As := [.int x9]) (rest := []) rfl rfl hl.1 (Nat.le_of_ble_eq_true rfl) dX4_begin_68 ⟨Nat.zero_le _, Nat.zero_le _⟩) (Xw_adr cA a) hA hW (fun u10 H locs h hW => ?_)
  exact hret _ _ _ _ _ dX4_begin_71 hW h
def w_X4_clear  (u : Mem) (post : Int32 → Mem → Prop) : Prop := w_X4_begin  u (fun u1 => post (u 18 0) u1)
abbrev rm_X4_clear : Room := { frames := 3, cells := 0, slots := 0, locals := 64 }
theorem hd_X4_clear : yX4_clear.cls ≠ "java/lang/invoke/MethodHandle" ∧ yX4_clear.cls ≠ "java/lang/invoke/VarHandle" ∧ (parseMethodDescriptor yX4_clear.desc).map (fun d => d.parameters.length) = some 0 := by decide +kernel
set_option maxHeartbeats 4000000 in
set_option maxRecDepth 100000 in
theorem c_X4_clear (l : Launch) (D : va_G) (cA : ClassId) (a : Nat → Nat) (u : Mem) (post : Int32 → Mem → Prop) (h : w_X4_clear  u post) : g_Mi l yX4_clear (Cond.code yX4_clear cX4_clear 2 (some .int) :: tT) rm_X4_clear D cA (Xw cA a) u [.ref (a 0)] post := by
  refine g_enter_i (by decide) (Xw_adr cA a) (Nat.le_of_ble_eq_true rfl) ?_
  intro p e s m args below meth c A Q S hml hK hA hret ls hl hW
  have hx := S.1
  have hb := S.2.1
  have hl : lv_has ls 2 [(0, .ref (a 0))] := hl
  skip
  refine lv_aload_n hx hb dX4_clear_0 rfl (lv_at hl 0 rfl) ?_
  refine xg_0_1 S hK hW kw_150 dX4_clear_1 ?_
  refine xg_2_2 S hK hW kw_77 dX4_clear_4 ?_
  refine lv_istore_n (lv' := [(1, .int (u 18 0)), (0, .ref (a 0))]) hx hb dX4_clear_7 rfl hl (by decide) rfl (fun ls hl => ?_)
  refine lv_aload_n hx hb dX4_clear_8 rfl (lv_at hl 1 rfl) ?_
  refine g_calv (g_runV S hml hK hW (c_X4_begin l D cA a u  _ h _) kw_123 kw_125 kw_0 kw_19 kw_126 hd_X4_begin ⟨rfl, rfl, Nat.le_of_ble_eq_true rfl, Nat.le_of_ble_eq_true rfl⟩ (q0 := 0) rfl rfl (As := []) (rest := []) rfl rfl hl.1 (Nat.le_of_ble_eq_true rfl) dX4_clear_9 ⟨Nat.zero_le _, Nat.zero_le _⟩) (Xw_adr cA a) hA hW (fun u1 H locs h hW => ?_)
  refine lv_iload_n hx hb dX4_clear_12 rfl (lv_at hl 0 rfl) ?_
  exact hret _ _ _ _ _ _ dX4_clear_13 hW h
