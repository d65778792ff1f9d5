def w_X4_isLeaf (xp0 : Int32) (u : Mem) (post : Int32 → Mem → Prop) : Prop := (xp0 < 0 → (post 0 u)) ∧ (¬ xp0 < 0 → ((32 ≤ xp0 → (post 0 u)) ∧ (¬ 32 ≤ xp0 → (post 1 u))))
abbrev rm_X4_isLeaf : Room := { frames := 0, cells := 0, slots := 0, locals := 0 }
theorem hd_X4_isLeaf : yX4_isLeaf.cls ≠ "java/lang/invoke/MethodHandle" ∧ yX4_isLeaf.cls ≠ "java/lang/invoke/VarHandle" ∧ (parseMethodDescriptor yX4_isLeaf.desc).map (fun d => d.parameters.length) = some 1 := by decide +kernel
set_option maxHeartbeats 4000000 in
set_option maxRecDepth 100000 in
theorem c_X4_isLeaf (l : Launch) (D : va_G) (cA : ClassId) (a : Nat → Nat) (u : Mem) (xp0 : Int32) (post : Int32 → Mem → Prop) (h : w_X4_isLeaf xp0 u post) : g_Mi l yX4_isLeaf (Cond.code yX4_isLeaf cX4_isLeaf 1 (some .boolean) :: tT) rm_X4_isLeaf D cA (Xw cA a) u [.int xp0] post := by
  refine g_enter_z (by decide) (Xw_adr cA a) (Nat.le_of_ble_eq_true rfl) ?_
  intro p e s m args below meth c A Q S hml hK hA hret ls hl hW
  have hx := S.1
  have hb := S.2.1
  have hl : lv_has ls 1 [(0, .int xp0)] := hl
  skip
  refine lv_iload_n hx hb dX4_isLeaf_0 rfl (lv_at hl 0 rfl) ?_
  refine lv_if_lt (tgt := 14) hx hb dX4_isLeaf_1 (by decide) (fun c1 => ?_) (fun c1 => ?_)
  · have h := h.1 c1
    refine lv_iconst (v := 0) hx hb dX4_isLeaf_14 (by decide) ?_
    exact hret _ _ _ _ _ _ dX4_isLeaf_15 hW (Or.inl rfl) h
  · have h := h.2 c1
    refine lv_iload_n hx hb dX4_isLeaf_4 rfl (lv_at hl 0 rfl) ?_
    refine lv_bipush (v := 32) hx hb dX4_isLeaf_5 (by decide) ?_
    refine lv_icmp_ge (tgt := 14) hx hb dX4_isLeaf_7 (by decide) (fun c2 => ?_) (fun c2 => ?_)
    · have h := h.1 c2
      refine lv_iconst (v := 0) hx hb dX4_isLeaf_14 (by decide) ?_
      exact hret _ _ _ _ _ _ dX4_isLeaf_15 hW (Or.inl rfl) h
    · have h := h.2 c2
      refine lv_iconst (v := 1) hx hb dX4_isLeaf_10 (by decide) ?_
      refine lv_goto (tgt := 15) hx hb dX4_isLeaf_11 (by decide) ?_
      exact hret _ _ _ _ _ _ dX4_isLeaf_15 hW (Or.inr rfl) h
def w_X4_write (xp1 : Int32) (xp2 : Int32) (xp3 : Int32) (u : Mem) (post : Int32 → Mem → Prop) : Prop := w_X4_isLeaf xp2 u (fun x2 u1 => (x2 = 0 → (post (-101) u1)) ∧ (¬ x2 = 0 → ((xp1 < 0 → (post (-102) u1)) ∧ (¬ xp1 < 0 → ((xp1 ≤ 999 → (((u1 20 0) ≤ xp1 → (((u1 19 0) < 60 → (w_X0_put xp1 xp2 xp3 u1 (fun u8 => post (u8 19 0) u8))) ∧ (¬ (u1 19 0) < 60 → (post (-105) u1)))) ∧ (¬ (u1 20 0) ≤ xp1 → (post (-103) u1)))) ∧ (¬ xp1 ≤ 999 → (post (-102) u1)))))))
abbrev rm_X4_write : Room := { frames := 1, cells := 0, slots := 0, locals := 23 }
theorem hd_X4_write : yX4_write.cls ≠ "java/lang/invoke/MethodHandle" ∧ yX4_write.cls ≠ "java/lang/invoke/VarHandle" ∧ (parseMethodDescriptor yX4_write.desc).map (fun d => d.parameters.length) = some 3 := by decide +kernel
set_option maxHeartbeats 4000000 in
set_option maxRecDepth 100000 in
theorem c_X4_write (l : Launch) (D : va_G) (cA : ClassId) (a : Nat → Nat) (u : Mem) (xp1 xp2 xp3 : Int32) (post : Int32 → Mem → Prop) (h : w_X4_write xp1 xp2 xp3 u post) : g_Mi l yX4_write (Cond.code yX4_write cX4_write 4 (some .int) :: tT) rm_X4_write D cA (Xw cA a) u [.ref (a 0), .int xp1, .int xp2, .int xp3] post := by
  refine g_enter_i (by decide) (Xw_adr cA a) (Nat.le_of_ble_eq_true rfl) ?_
  intro p e s m args below meth c A Q S hml hK hA hret ls hl hW
  have hx := S.1
  have hb := S.2.1
  have hl : lv_has ls 4 [(0, .ref (a 0)), (1, .int xp1), (2, .int xp2), (3, .int xp3)] := hl
  skip
  refine lv_iload_n hx hb dX4_write_0 rfl (lv_at hl 2 rfl) ?_
  refine g_cali (g_runS S hml hK hW (c_X4_isLeaf l D cA a u xp2 _ h _) kw_181 kw_182 kw_19 kw_183 hd_X4_isLeaf ⟨rfl, rfl, Nat.le_of_ble_eq_true rfl, Nat.le_of_ble_eq_true rfl⟩ (As := [.int xp2]) (rest := []) rfl rfl hl.1 (Nat.le_of_ble_eq_true rfl) dX4_write_1 ⟨Nat.zero_le _, Nat.zero_le _⟩) (Xw_adr cA a) hA hW (fun x2 u1 H locs h hW => ?_)
  refine lv_if_ne (tgt := 10) hx hb dX4_write_4 (by decide) (fun c3 => ?_) (fun c3 => ?_)
  · have h := h.2 c3
    refine lv_iload_n hx hb dX4_write_10 rfl (lv_at hl 1 rfl) ?_
    refine lv_if_lt (tgt := 21) hx hb dX4_write_11 (by decide) (fun c4 => ?_) (fun c4 => ?_)
    · have h := h.1 c4
      refine lv_bipush (v := (-102)) hx hb dX4_write_21 (by decide) ?_
      exact hret _ _ _ _ _ _ dX4_write_23 hW h
    · have h := h.2 c4
      refine lv_iload_n hx hb dX4_write_14 rfl (lv_at hl 1 rfl) ?_
      refine lv_sipush (v := 999) hx hb dX4_write_15 (by decide) ?_
      refine lv_icmp_le (tgt := 24) hx hb dX4_write_18 (by decide) (fun c5 => ?_) (fun c5 => ?_)
      · have h := h.1 c5
        refine lv_iload_n hx hb dX4_write_24 rfl (lv_at hl 1 rfl) ?_
        refine lv_aload_n hx hb dX4_write_25 rfl (lv_at hl 0 rfl) ?_
        refine xg_0_2 S hK hW kw_151 dX4_write_26 ?_
        refine xg_3_4 S hK hW kw_100 dX4_write_29 ?_
        refine lv_icmp_ge (tgt := 38) hx hb dX4_write_32 (by decide) (fun c6 => ?_) (fun c6 => ?_)
        · have h := h.1 c6
          refine lv_aload_n hx hb dX4_write_38 rfl (lv_at hl 0 rfl) ?_
          refine xg_0_2 S hK hW kw_151 dX4_write_39 ?_
          refine xg_3_3 S hK hW kw_99 dX4_write_42 ?_
          refine lv_bipush (v := 60) hx hb dX4_write_45 (by decide) ?_
          refine lv_icmp_lt (tgt := 53) hx hb dX4_write_47 (by decide) (fun c7 => ?_) (fun c7 => ?_)
          · have h := h.1 c7
            refine lv_aload_n hx hb dX4_write_53 rfl (lv_at hl 0 rfl) ?_
            refine xg_0_2 S hK hW kw_151 dX4_write_54 ?_
            refine lv_iload_n hx hb dX4_write_57 rfl (lv_at hl 1 rfl) ?_
            refine lv_iload_n hx hb dX4_write_58 rfl (lv_at hl 2 rfl) ?_
            refine lv_iload_n hx hb dX4_write_59 rfl (lv_at hl 3 rfl) ?_
            refine g_calv (g_runV S hml hK hW (c_X0_put l D cA a u1 xp1 xp2 xp3 _ h _) kw_184 kw_185 kw_186 kw_22 kw_187 hd_X0_put ⟨rfl, rfl, Nat.le_of_ble_eq_true rfl, Nat.le_of_ble_eq_true rfl⟩ (q0 := 3) rfl rfl (As := [.int xp1, .int xp2, .int xp3]) (rest := []) rfl rfl hl.1 (Nat.le_of_ble_eq_true rfl) dX4_write_60 ⟨Nat.zero_le _, Nat.zero_le _⟩) (Xw_adr cA a) hA hW (fun u8 H locs h hW => ?_)
            refine lv_aload_n hx hb dX4_write_63 rfl (lv_at hl 0 rfl) ?_
            refine xg_0_2 S hK hW kw_151 dX4_write_64 ?_
            refine xg_3_3 S hK hW kw_99 dX4_write_67 ?_
            exact hret _ _ _ _ _ _ dX4_write_70 hW h
          · have h := h.2 c7
            refine lv_bipush (v := (-105)) hx hb dX4_write_50 (by decide) ?_
            exact hret _ _ _ _ _ _ dX4_write_52 hW h
        · have h := h.2 c6
          refine lv_bipush (v := (-103)) hx hb dX4_write_35 (by decide) ?_
          exact hret _ _ _ _ _ _ dX4_write_37 hW h
      · have h := h.2 c5
        refine lv_bipush (v := (-102)) hx hb dX4_write_21 (by decide) ?_
        exact hret _ _ _ _ _ _ dX4_write_23 hW h
  · have h := h.1 c3
    refine lv_bipush (v := (-101)) hx hb dX4_write_7 (by decide) ?_
    exact hret _ _ _ _ _ _ dX4_write_9 hW h
def L_X4_seal_42  (post : Int32 → Mem → Prop) (K : Int32 → Mem → Prop) : Nat → Int32 → Mem → Prop
  | 0, _, _ => False
  | n_42 + 1, y1_42, u_42 => (32 ≤ y1_42 → (K y1_42 u_42)) ∧ (¬ 32 ≤ y1_42 → (w_X0_changesLeaf y1_42 u_42 (fun x8 u7 => (x8 = 0 → (nm (y1_42 + 1) fun x10 => L_X4_seal_42  post K n_42 x10 u7)) ∧ (¬ x8 = 0 → (nm ((u7 18 0) + (1 : Int32) : Int32) fun x11 => vp_in y1_42 32 ∧ nm (u7 12 (y1_42 : Int32).toNatClampNeg) fun x12 => vp_in y1_42 32 ∧ nm (u7 13 (y1_42 : Int32).toNatClampNeg) fun x13 => w_X2_add x11 y1_42 x12 x13 u7 (fun u14 => nm (y1_42 + 1) fun x15 => L_X4_seal_42  post K n_42 x15 u14))))))
def w_X4_seal  (u : Mem) (post : Int32 → Mem → Prop) : Prop := ((u 18 0) < 200 → (w_X0_changes  u (fun x3 u2 => nm ((u 17 0) + x3 : Int32) fun x4 => (x4 ≤ 400 → (∃ n_42, L_X4_seal_42  post (fun w1_42 v_42 => w_X3_grow 12 32 v_42 (fun x17 u16 => w_X1_rise x17 u16 (fun u18 => w_X0_startFrom 12 32 u18 (fun u19 => post (u19 18 0) u19)))) n_42 0 u2)) ∧ (¬ x4 ≤ 400 → (post (-105) u2))))) ∧ (¬ (u 18 0) < 200 → (post (-105) u))
abbrev rm_X4_seal : Room := { frames := 2, cells := 0, slots := 0, locals := 44 }
theorem hd_X4_seal : yX4_seal.cls ≠ "java/lang/invoke/MethodHandle" ∧ yX4_seal.cls ≠ "java/lang/invoke/VarHandle" ∧ (parseMethodDescriptor yX4_seal.desc).map (fun d => d.parameters.length) = some 0 := by decide +kernel
set_option maxHeartbeats 4000000 in
set_option maxRecDepth 100000 in
theorem c_X4_seal (l : Launch) (D : va_G) (cA : ClassId) (a : Nat → Nat) (u : Mem) (post : Int32 → Mem → Prop) (h : w_X4_seal  u post) : g_Mi l yX4_seal (Cond.code yX4_seal cX4_seal 2 (some .int) :: tT) rm_X4_seal D cA (Xw cA a) u [.ref (a 0)] post := by
  refine g_enter_i (by decide) (Xw_adr cA a) (Nat.le_of_ble_eq_true rfl) ?_
  intro p e s m args below meth c A Q S hml hK hA hret ls hl hW
  have hx := S.1
  have hb := S.2.1
  have hl : lv_has ls 2 [(0, .ref (a 0))] := hl
  skip
  refine lv_aload_n hx hb dX4_seal_0 rfl (lv_at hl 0 rfl) ?_
  refine xg_0_1 S hK hW kw_150 dX4_seal_1 ?_
  refine xg_2_2 S hK hW kw_77 dX4_seal_4 ?_
  refine lv_sipush (v := 200) hx hb dX4_seal_7 (by decide) ?_
  refine lv_icmp_lt (tgt := 16) hx hb dX4_seal_10 (by decide) (fun c1 => ?_) (fun c1 => ?_)
  · have h := h.1 c1
    refine lv_aload_n hx hb dX4_seal_16 rfl (lv_at hl 0 rfl) ?_
    refine xg_0_0 S hK hW kw_149 dX4_seal_17 ?_
    refine xg_1_6 S hK hW kw_50 dX4_seal_20 ?_
    refine lv_aload_n hx hb dX4_seal_23 rfl (lv_at hl 0 rfl) ?_
    refine xg_0_2 S hK hW kw_151 dX4_seal_24 ?_
    refine g_cali (g_runV S hml hK hW (c_X0_changes l D cA a u  _ h _) kw_192 kw_193 kw_194 kw_22 kw_195 hd_X0_changes ⟨rfl, rfl, Nat.le_of_ble_eq_true rfl, Nat.le_of_ble_eq_true rfl⟩ (q0 := 3) rfl rfl (As := []) (rest := [.int (u 17 0)]) rfl rfl hl.1 (Nat.le_of_ble_eq_true rfl) dX4_seal_27 ⟨Nat.zero_le _, Nat.zero_le _⟩) (Xw_adr cA a) hA hW (fun x3 u2 H locs h hW => ?_)
    refine lv_iadd hx hb dX4_seal_30 ?_
    refine lv_topi (fun x4 ex4 => ?_)
    have h := nm_use ex4 h
    refine lv_sipush (v := 400) hx hb dX4_seal_31 (by decide) ?_
    refine lv_icmp_le (tgt := 40) hx hb dX4_seal_34 (by decide) (fun c5 => ?_) (fun c5 => ?_)
    · have h := h.1 c5
      refine lv_iconst (v := 0) hx hb dX4_seal_40 (by decide) ?_
      refine lv_istore_n (lv' := [(1, .int 0), (0, .ref (a 0))]) hx hb dX4_seal_41 rfl hl (by decide) rfl (fun ls hl => ?_)
      have loop_42 : ∀ (K : Int32 → Mem → Prop), (∀ (w1_42 : Int32) (v_42 : Mem) (H : Heap) (locs : List Loc) (ls : Array Slot), K w1_42 v_42 → g_W D (Xw cA a) A s.heap v_42 H locs → lv_has ls 2 [(0, .ref (a 0)), (1, .int w1_42)] → W p l e rm_X4_seal s m args below meth c H locs 0 0 Q (F0 m 100 ls [])) → ∀ (n : Nat) (y1_42 : Int32) (u_42 : Mem) (H : Heap) (locs : List Loc) (ls : Array Slot), L_X4_seal_42  post K n y1_42 u_42 → g_W D (Xw cA a) A s.heap u_42 H locs → lv_has ls 2 [(0, .ref (a 0)), (1, .int y1_42)] → W p l e rm_X4_seal s m args below meth c H locs 0 0 Q (F0 m 42 ls []) := by
        intro K hE n
        induction n with
        | zero => intro y1_42 u_42 H locs ls h; exact False.elim h
        | succ n ih =>
          intro y1_42 u_42 H locs ls h hW hl
          refine lv_iload_n hx hb dX4_seal_42 rfl (lv_at hl 1 rfl) ?_
          refine lv_bipush (v := 32) hx hb dX4_seal_43 (by decide) ?_
          refine lv_icmp_ge (tgt := 100) hx hb dX4_seal_45 (by decide) (fun c20 => ?_) (fun c20 => ?_)
          · have h := h.1 c20
            exact hE y1_42 u_42 _ _ _ h hW (lv_sub hl [0, 1] rfl)
          · have h := h.2 c20
            refine lv_aload_n hx hb dX4_seal_48 rfl (lv_at hl 0 rfl) ?_
            refine xg_0_2 S hK hW kw_151 dX4_seal_49 ?_
            refine lv_iload_n hx hb dX4_seal_52 rfl (lv_at hl 1 rfl) ?_
            refine g_cali (g_runV S hml hK hW (c_X0_changesLeaf l D cA a u_42 y1_42 _ h _) kw_200 kw_197 kw_198 kw_22 kw_199 hd_X0_changesLeaf ⟨rfl, rfl, Nat.le_of_ble_eq_true rfl, Nat.le_of_ble_eq_true rfl⟩ (q0 := 3) rfl rfl (As := [.int y1_42]) (rest := []) rfl rfl hl.1 (Nat.le_of_ble_eq_true rfl) dX4_seal_53 ⟨Nat.zero_le _, Nat.zero_le _⟩) (Xw_adr cA a) hA hW (fun x22 u21 H locs h hW => ?_)
            refine lv_if_eq (tgt := 94) hx hb dX4_seal_56 (by decide) (fun c23 => ?_) (fun c23 => ?_)
            · have h := h.1 c23
              obtain ⟨x24, ex24⟩ : ∃ z : Int32, z = y1_42 + 1 := ⟨_, rfl⟩
              have h := nm_use ex24 h
              refine lv_iinc (v := x24) (lv' := [(1, .int x24), (0, .ref (a 0))]) hx hb dX4_seal_94 hl (k := 1) rfl (by rw [ex24]; rfl) (by decide) rfl (fun ls hl => ?_)
              refine lv_goto (tgt := 42) hx hb dX4_seal_97 (by decide) ?_
              exact ih x24 u21 _ _ _ h hW (lv_sub hl [1, 0] rfl)
            · have h := h.2 c23
              refine lv_aload_n hx hb dX4_seal_59 rfl (lv_at hl 0 rfl) ?_
              refine xg_0_0 S hK hW kw_149 dX4_seal_60 ?_
              refine lv_aload_n hx hb dX4_seal_63 rfl (lv_at hl 0 rfl) ?_
              refine xg_0_1 S hK hW kw_150 dX4_seal_64 ?_
              refine xg_2_2 S hK hW kw_77 dX4_seal_67 ?_
              refine lv_iconst (v := 1) hx hb dX4_seal_70 (by decide) ?_
              refine lv_iadd hx hb dX4_seal_71 ?_
              refine lv_topi (fun x25 ex25 => ?_)
              have h := nm_use ex25 h
              refine lv_iload_n hx hb dX4_seal_72 rfl (lv_at hl 1 rfl) ?_
              refine lv_aload_n hx hb dX4_seal_73 rfl (lv_at hl 0 rfl) ?_
              refine xg_0_2 S hK hW kw_151 dX4_seal_74 ?_
              refine xg_3_1 S hK hW kw_95 dX4_seal_77 ?_
              refine lv_iload_n hx hb dX4_seal_80 rfl (lv_at hl 1 rfl) ?_
              obtain ⟨hin, h⟩ := h
              refine xl_12 S hK hW hin dX4_seal_81 (fun x26 ex26 => ?_)
              have h := nm_use ex26 h
              refine lv_aload_n hx hb dX4_seal_82 rfl (lv_at hl 0 rfl) ?_
              refine xg_0_2 S hK hW kw_151 dX4_seal_83 ?_
              refine xg_3_2 S hK hW kw_97 dX4_seal_86 ?_
              refine lv_iload_n hx hb dX4_seal_89 rfl (lv_at hl 1 rfl) ?_
              obtain ⟨hin, h⟩ := h
              refine xl_13 S hK hW hin dX4_seal_90 (fun x27 ex27 => ?_)
              have h := nm_use ex27 h
              refine g_calv (g_runV S hml hK hW (c_X2_add l D cA a u21 x25 y1_42 x26 x27 _ h _) kw_201 kw_202 kw_203 kw_20 kw_204 hd_X2_add ⟨rfl, rfl, Nat.le_of_ble_eq_true rfl, Nat.le_of_ble_eq_true rfl⟩ (q0 := 1) rfl rfl (As := [.int x25, .int y1_42, .int x26, .int x27]) (rest := []) rfl rfl hl.1 (Nat.le_of_ble_eq_true rfl) dX4_seal_91 ⟨Nat.zero_le _, Nat.zero_le _⟩) (Xw_adr cA a) hA hW (fun u28 H locs h hW => ?_)
              obtain ⟨x29, ex29⟩ : ∃ z : Int32, z = y1_42 + 1 := ⟨_, rfl⟩
              have h := nm_use ex29 h
              refine lv_iinc (v := x29) (lv' := [(1, .int x29), (0, .ref (a 0))]) hx hb dX4_seal_94 hl (k := 1) rfl (by rw [ex29]; rfl) (by decide) rfl (fun ls hl => ?_)
              refine lv_goto (tgt := 42) hx hb dX4_seal_97 (by decide) ?_
              exact ih x29 u28 _ _ _ h hW (lv_sub hl [1, 0] rfl)
      obtain ⟨n_42, h⟩ := h
      refine loop_42 _ ?_ n_42 0 u2 _ _ _ h hW (lv_sub hl [1, 0] rfl)
      intro w1_42 v_42 H locs ls h hW hl
      refine lv_aload_n hx hb dX4_seal_100 rfl (lv_at hl 0 rfl) ?_
      refine xg_0_1 S hK hW kw_150 dX4_seal_101 ?_
      refine lv_aload_n hx hb dX4_seal_104 rfl (lv_at hl 0 rfl) ?_
      refine xg_0_3 S hK hW kw_152 dX4_seal_105 ?_
      refine lv_aload_n hx hb dX4_seal_108 rfl (lv_at hl 0 rfl) ?_
      refine xg_0_2 S hK hW kw_151 dX4_seal_109 ?_
      refine xg_3_1 S hK hW kw_95 dX4_seal_112 ?_
      refine g_cali (g_runV S hml hK hW (c_X3_grow_12 l D cA a v_42  _ h _) kw_134 kw_135 kw_136 kw_23 kw_137 hd_X3_grow ⟨rfl, rfl, Nat.le_of_ble_eq_true rfl, Nat.le_of_ble_eq_true rfl⟩ (q0 := 4) rfl rfl (As := [.ref (a 17)]) (rest := [.ref (a 2)]) rfl rfl hl.1 (Nat.le_of_ble_eq_true rfl) dX4_seal_115 ⟨Nat.zero_le _, Nat.zero_le _⟩) (Xw_adr cA a) hA hW (fun x17 u16 H locs h hW => ?_)
      refine g_calv (g_runV S hml hK hW (c_X1_rise l D cA a u16 x17 _ h _) kw_145 kw_146 kw_147 kw_21 kw_148 hd_X1_rise ⟨rfl, rfl, Nat.le_of_ble_eq_true rfl, Nat.le_of_ble_eq_true rfl⟩ (q0 := 2) rfl rfl (As := [.int x17]) (rest := []) rfl rfl hl.1 (Nat.le_of_ble_eq_true rfl) dX4_seal_118 ⟨Nat.zero_le _, Nat.zero_le _⟩) (Xw_adr cA a) hA hW (fun u18 H locs h hW => ?_)
      refine lv_aload_n hx hb dX4_seal_121 rfl (lv_at hl 0 rfl) ?_
      refine xg_0_2 S hK hW kw_151 dX4_seal_122 ?_
      refine lv_aload_n hx hb dX4_seal_125 rfl (lv_at hl 0 rfl) ?_
      refine xg_0_2 S hK hW kw_151 dX4_seal_126 ?_
      refine xg_3_1 S hK hW kw_95 dX4_seal_129 ?_
      refine g_calv (g_runV S hml hK hW (c_X0_startFrom_12 l D cA a u18  _ h _) kw_130 kw_131 kw_132 kw_22 kw_133 hd_X0_startFrom ⟨rfl, rfl, Nat.le_of_ble_eq_true rfl, Nat.le_of_ble_eq_true rfl⟩ (q0 := 3) rfl rfl (As := [.ref (a 17)]) (rest := []) rfl rfl hl.1 (Nat.le_of_ble_eq_true rfl) dX4_seal_132 ⟨Nat.zero_le _, Nat.zero_le _⟩) (Xw_adr cA a) hA hW (fun u19 H locs h hW => ?_)
      refine lv_aload_n hx hb dX4_seal_135 rfl (lv_at hl 0 rfl) ?_
      refine xg_0_1 S hK hW kw_150 dX4_seal_136 ?_
      refine xg_2_2 S hK hW kw_77 dX4_seal_139 ?_
      exact hret _ _ _ _ _ _ dX4_seal_142 hW h
    · have h := h.2 c5
      refine lv_bipush (v := (-105)) hx hb dX4_seal_37 (by decide) ?_
      exact hret _ _ _ _ _ _ dX4_seal_39 hW h
  · have h := h.2 c1
    refine lv_bipush (v := (-105)) hx hb dX4_seal_13 (by decide) ?_
    exact hret _ _ _ _ _ _ dX4_seal_15 hW h
def w_X4_drop  (u : Mem) (post : Int32 → Mem → Prop) : Prop := w_X0_startFrom 11 32 u (fun u1 => post (u 19 0) u1)
abbrev rm_X4_drop : Room := { frames := 1, cells := 0, slots := 0, locals := 22 }
theorem hd_X4_drop : yX4_drop.cls ≠ "java/lang/invoke/MethodHandle" ∧ yX4_drop.cls ≠ "java/lang/invoke/VarHandle" ∧ (parseMethodDescriptor yX4_drop.desc).map (fun d => d.parameters.length) = some 0 := by decide +kernel
set_option maxHeartbeats 4000000 in
set_option maxRecDepth 100000 in
theorem c_X4_drop (l : Launch) (D : va_G) (cA : ClassId) (a : Nat → Nat) (u : Mem) (post : Int32 → Mem → Prop) (h : w_X4_drop  u post) : g_Mi l yX4_drop (Cond.code yX4_drop cX4_drop 2 (some .int) :: tT) rm_X4_drop D cA (Xw cA a) u [.ref (a 0)] post := by
  refine g_enter_i (by decide) (Xw_adr cA a) (Nat.le_of_ble_eq_true rfl) ?_
  intro p e s m args below meth c A Q S hml hK hA hret ls hl hW
  have hx := S.1
  have hb := S.2.1
  have hl : lv_has ls 2 [(0, .ref (a 0))] := hl
  skip
  refine lv_aload_n hx hb dX4_drop_0 rfl (lv_at hl 0 rfl) ?_
  refine xg_0_2 S hK hW kw_151 dX4_drop_1 ?_
  refine xg_3_3 S hK hW kw_99 dX4_drop_4 ?_
  refine lv_istore_n (lv' := [(1, .int (u 19 0)), (0, .ref (a 0))]) hx hb dX4_drop_7 rfl hl (by decide) rfl (fun ls hl => ?_)
  refine lv_aload_n hx hb dX4_drop_8 rfl (lv_at hl 1 rfl) ?_
  refine xg_0_2 S hK hW kw_151 dX4_drop_9 ?_
  refine lv_aload_n hx hb dX4_drop_12 rfl (lv_at hl 1 rfl) ?_
  refine xg_0_2 S hK hW kw_151 dX4_drop_13 ?_
  refine xg_3_0 S hK hW kw_93 dX4_drop_16 ?_
  refine g_calv (g_runV S hml hK hW (c_X0_startFrom_11 l D cA a u  _ h _) kw_130 kw_131 kw_132 kw_22 kw_133 hd_X0_startFrom ⟨rfl, rfl, Nat.le_of_ble_eq_true rfl, Nat.le_of_ble_eq_true rfl⟩ (q0 := 3) rfl rfl (As := [.ref (a 16)]) (rest := []) rfl rfl hl.1 (Nat.le_of_ble_eq_true rfl) dX4_drop_19 ⟨Nat.zero_le _, Nat.zero_le _⟩) (Xw_adr cA a) hA hW (fun u1 H locs h hW => ?_)
  refine lv_iload_n hx hb dX4_drop_22 rfl (lv_at hl 0 rfl) ?_
  exact hret _ _ _ _ _ _ dX4_drop_23 hW h
def w_X4_wide (xp0 : Int32) (u : Mem) (post : Int64 → Mem → Prop) : Prop := nm ((xp0 : Int32).toInt64) fun z1 => nm (z1 - 4000000000 : Int64) fun z2 => post z2 u
abbrev rm_X4_wide : Room := { frames := 0, cells := 0, slots := 0, locals := 0 }
theorem hd_X4_wide : yX4_wide.cls ≠ "java/lang/invoke/MethodHandle" ∧ yX4_wide.cls ≠ "java/lang/invoke/VarHandle" ∧ (parseMethodDescriptor yX4_wide.desc).map (fun d => d.parameters.length) = some 1 := by decide +kernel
set_option maxHeartbeats 4000000 in
set_option maxRecDepth 100000 in
theorem c_X4_wide (l : Launch) (D : va_G) (cA : ClassId) (a : Nat → Nat) (u : Mem) (xp0 : Int32) (post : Int64 → Mem → Prop) (h : w_X4_wide xp0 u post) : g_Ml l yX4_wide (Cond.code yX4_wide cX4_wide 1 (some .long) :: tT) rm_X4_wide D cA (Xw cA a) u [.int xp0] post := by
  refine g_enter_l (by decide) (Xw_adr cA a) (Nat.le_of_ble_eq_true rfl) ?_
  intro p e s m args below meth c A Q S hml hK hA hret ls hl hW
  have hx := S.1
  have hb := S.2.1
  have hl : lv_has ls 1 [(0, .int xp0)] := hl
  skip
  refine lv_iload_n hx hb dX4_wide_0 rfl (lv_at hl 0 rfl) ?_
  refine lv_i2l hx hb dX4_wide_1 rfl ?_
  refine lv_topl (fun z1 ez1 => ?_)
  have h := nm_use ez1 h
  refine lv_ldc2 hx hb S.2.2.1 (S.2.2.2 _ kw_220) dX4_wide_2 ?_
  refine lv_lsub hx hb dX4_wide_5 ?_
  refine lv_topl (fun z2 ez2 => ?_)
  have h := nm_use ez2 h
  exact hret _ _ _ _ _ _ dX4_wide_6 hW h
def w_X4_isHeight (xp1 : Int32) (u : Mem) (post : Int32 → Mem → Prop) : Prop := (xp1 < 0 → (post 0 u)) ∧ (¬ xp1 < 0 → (((u 18 0) < xp1 → (post 0 u)) ∧ (¬ (u 18 0) < xp1 → (post 1 u))))
abbrev rm_X4_isHeight : Room := { frames := 0, cells := 0, slots := 0, locals := 0 }
theorem hd_X4_isHeight : yX4_isHeight.cls ≠ "java/lang/invoke/MethodHandle" ∧ yX4_isHeight.cls ≠ "java/lang/invoke/VarHandle" ∧ (parseMethodDescriptor yX4_isHeight.desc).map (fun d => d.parameters.length) = some 1 := by decide +kernel
set_option maxHeartbeats 4000000 in
set_option maxRecDepth 100000 in
theorem c_X4_isHeight (l : Launch) (D : va_G) (cA : ClassId) (a : Nat → Nat) (u : Mem) (xp1 : Int32) (post : Int32 → Mem → Prop) (h : w_X4_isHeight xp1 u post) : g_Mi l yX4_isHeight (Cond.code yX4_isHeight cX4_isHeight 2 (some .boolean) :: tT) rm_X4_isHeight D cA (Xw cA a) u [.ref (a 0), .int xp1] post := by
  refine g_enter_z (by decide) (Xw_adr cA a) (Nat.le_of_ble_eq_true rfl) ?_
  intro p e s m args below meth c A Q S hml hK hA hret ls hl hW
  have hx := S.1
  have hb := S.2.1
  have hl : lv_has ls 2 [(0, .ref (a 0)), (1, .int xp1)] := hl
  skip
  refine lv_iload_n hx hb dX4_isHeight_0 rfl (lv_at hl 1 rfl) ?_
  refine lv_if_lt (tgt := 19) hx hb dX4_isHeight_1 (by decide) (fun c1 => ?_) (fun c1 => ?_)
  · have h := h.1 c1
    refine lv_iconst (v := 0) hx hb dX4_isHeight_19 (by decide) ?_
    exact hret _ _ _ _ _ _ dX4_isHeight_20 hW (Or.inl rfl) h
  · have h := h.2 c1
    refine lv_iload_n hx hb dX4_isHeight_4 rfl (lv_at hl 1 rfl) ?_
    refine lv_aload_n hx hb dX4_isHeight_5 rfl (lv_at hl 0 rfl) ?_
    refine xg_0_1 S hK hW kw_150 dX4_isHeight_6 ?_
    refine xg_2_2 S hK hW kw_77 dX4_isHeight_9 ?_
    refine lv_icmp_gt (tgt := 19) hx hb dX4_isHeight_12 (by decide) (fun c2 => ?_) (fun c2 => ?_)
    · have h := h.1 c2
      refine lv_iconst (v := 0) hx hb dX4_isHeight_19 (by decide) ?_
      exact hret _ _ _ _ _ _ dX4_isHeight_20 hW (Or.inl rfl) h
    · have h := h.2 c2
      refine lv_iconst (v := 1) hx hb dX4_isHeight_15 (by decide) ?_
      refine lv_goto (tgt := 20) hx hb dX4_isHeight_16 (by decide) ?_
      exact hret _ _ _ _ _ _ dX4_isHeight_20 hW (Or.inr rfl) h
def w_X4_at (xp1 : Int32) (xp2 : Int32) (u : Mem) (post : Int64 → Mem → Prop) : Prop := w_X4_isLeaf xp1 u (fun x2 u1 => (x2 = 0 → (w_X4_wide (-101) u1 (fun z5 u4 => post z5 u4))) ∧ (¬ x2 = 0 → (w_X4_isHeight xp2 u1 (fun x7 u6 => (x7 = 0 → (w_X4_wide (-101) u6 (fun z20 u19 => post z20 u19))) ∧ (¬ x7 = 0 → (w_X1_isGone xp2 u6 (fun x10 u9 => (x10 = 0 → (w_X2_lastOf xp1 xp2 u9 (fun x13 u12 => (x13 = (-1) → (post 0 u12)) ∧ (¬ x13 = (-1) → (vp_in x13 400 ∧ nm (u12 5 (x13 : Int32).toNatClampNeg) fun x15 => nm ((x15 : Int32).toInt64) fun z16 => post z16 u12))))) ∧ (¬ x10 = 0 → (w_X4_wide (-104) u9 (fun z18 u17 => post z18 u17))))))))))
abbrev rm_X4_at : Room := { frames := 2, cells := 0, slots := 0, locals := 45 }
theorem hd_X4_at : yX4_at.cls ≠ "java/lang/invoke/MethodHandle" ∧ yX4_at.cls ≠ "java/lang/invoke/VarHandle" ∧ (parseMethodDescriptor yX4_at.desc).map (fun d => d.parameters.length) = some 2 := by decide +kernel
set_option maxHeartbeats 4000000 in
set_option maxRecDepth 100000 in
theorem c_X4_at (l : Launch) (D : va_G) (cA : ClassId) (a : Nat → Nat) (u : Mem) (xp1 xp2 : Int32) (post : Int64 → Mem → Prop) (h : w_X4_at xp1 xp2 u post) : g_Ml l yX4_at (Cond.code yX4_at cX4_at 4 (some .long) :: tT) rm_X4_at D cA (Xw cA a) u [.ref (a 0), .int xp1, .int xp2] post := by
  refine g_enter_l (by decide) (Xw_adr cA a) (Nat.le_of_ble_eq_true rfl) ?_
  intro p e s m args below meth c A Q S hml hK hA hret ls hl hW
  have hx := S.1
  have hb := S.2.1
  have hl : lv_has ls 4 [(0, .ref (a 0)), (1, .int xp1), (2, .int xp2)] := hl
  skip
  refine lv_iload_n hx hb dX4_at_0 rfl (lv_at hl 1 rfl) ?_
  refine g_cali (g_runS S hml hK hW (c_X4_isLeaf l D cA a u xp1 _ h _) kw_181 kw_182 kw_19 kw_183 hd_X4_isLeaf ⟨rfl, rfl, Nat.le_of_ble_eq_true rfl, Nat.le_of_ble_eq_true rfl⟩ (As := [.int xp1]) (rest := []) rfl rfl hl.1 (Nat.le_of_ble_eq_true rfl) dX4_at_1 ⟨Nat.zero_le _, Nat.zero_le _⟩) (Xw_adr cA a) hA hW (fun x2 u1 H locs h hW => ?_)
  refine lv_if_eq (tgt := 15) hx hb dX4_at_4 (by decide) (fun c3 => ?_) (fun c3 => ?_)
  · have h := h.1 c3
    refine lv_bipush (v := (-101)) hx hb dX4_at_15 (by decide) ?_
    refine g_call (g_runS S hml hK hW (c_X4_wide l D cA a u1 (-101) _ h _) kw_217 kw_218 kw_19 kw_219 hd_X4_wide ⟨rfl, rfl, Nat.le_of_ble_eq_true rfl, Nat.le_of_ble_eq_true rfl⟩ (As := [.int (-101)]) (rest := []) rfl rfl hl.1 (Nat.le_of_ble_eq_true rfl) dX4_at_17 ⟨Nat.zero_le _, Nat.zero_le _⟩) (Xw_adr cA a) hA hW (fun z5 u4 H locs h hW => ?_)
    exact hret _ _ _ _ _ _ dX4_at_20 hW h
  · have h := h.2 c3
    refine lv_aload_n hx hb dX4_at_7 rfl (lv_at hl 0 rfl) ?_
    refine lv_iload_n hx hb dX4_at_8 rfl (lv_at hl 2 rfl) ?_
    refine g_cali (g_runV S hml hK hW (c_X4_isHeight l D cA a u1 xp2 _ h _) kw_213 kw_215 kw_1 kw_19 kw_216 hd_X4_isHeight ⟨rfl, rfl, Nat.le_of_ble_eq_true rfl, Nat.le_of_ble_eq_true rfl⟩ (q0 := 0) rfl rfl (As := [.int xp2]) (rest := []) rfl rfl hl.1 (Nat.le_of_ble_eq_true rfl) dX4_at_9 ⟨Nat.zero_le _, Nat.zero_le _⟩) (Xw_adr cA a) hA hW (fun x7 u6 H locs h hW => ?_)
    refine lv_if_ne (tgt := 21) hx hb dX4_at_12 (by decide) (fun c8 => ?_) (fun c8 => ?_)
    · have h := h.2 c8
      refine lv_aload_n hx hb dX4_at_21 rfl (lv_at hl 0 rfl) ?_
      refine xg_0_1 S hK hW kw_150 dX4_at_22 ?_
      refine lv_iload_n hx hb dX4_at_25 rfl (lv_at hl 2 rfl) ?_
      refine g_cali (g_runV S hml hK hW (c_X1_isGone l D cA a u6 xp2 _ h _) kw_221 kw_222 kw_223 kw_21 kw_224 hd_X1_isGone ⟨rfl, rfl, Nat.le_of_ble_eq_true rfl, Nat.le_of_ble_eq_true rfl⟩ (q0 := 2) rfl rfl (As := [.int xp2]) (rest := []) rfl rfl hl.1 (Nat.le_of_ble_eq_true rfl) dX4_at_26 ⟨Nat.zero_le _, Nat.zero_le _⟩) (Xw_adr cA a) hA hW (fun x10 u9 H locs h hW => ?_)
      refine lv_if_eq (tgt := 38) hx hb dX4_at_29 (by decide) (fun c11 => ?_) (fun c11 => ?_)
      · have h := h.1 c11
        refine lv_aload_n hx hb dX4_at_38 rfl (lv_at hl 0 rfl) ?_
        refine xg_0_0 S hK hW kw_149 dX4_at_39 ?_
        refine lv_iload_n hx hb dX4_at_42 rfl (lv_at hl 1 rfl) ?_
        refine lv_iload_n hx hb dX4_at_43 rfl (lv_at hl 2 rfl) ?_
        refine g_cali (g_runV S hml hK hW (c_X2_lastOf l D cA a u9 xp1 xp2 _ h _) kw_225 kw_226 kw_227 kw_20 kw_228 hd_X2_lastOf ⟨rfl, rfl, Nat.le_of_ble_eq_true rfl, Nat.le_of_ble_eq_true rfl⟩ (q0 := 1) rfl rfl (As := [.int xp1, .int xp2]) (rest := []) rfl rfl hl.1 (Nat.le_of_ble_eq_true rfl) dX4_at_44 ⟨Nat.zero_le _, Nat.zero_le _⟩) (Xw_adr cA a) hA hW (fun x13 u12 H locs h hW => ?_)
        refine lv_istore_n (lv' := [(3, .int x13), (0, .ref (a 0)), (1, .int xp1), (2, .int xp2)]) hx hb dX4_at_47 rfl hl (by decide) rfl (fun ls hl => ?_)
        refine lv_iload_n hx hb dX4_at_48 rfl (lv_at hl 0 rfl) ?_
        refine lv_iconst (v := (-1)) hx hb dX4_at_49 (by decide) ?_
        refine lv_icmp_ne (tgt := 57) hx hb dX4_at_50 (by decide) (fun c14 => ?_) (fun c14 => ?_)
        · have h := h.2 c14
          refine lv_aload_n hx hb dX4_at_57 rfl (lv_at hl 1 rfl) ?_
          refine xg_0_0 S hK hW kw_149 dX4_at_58 ?_
          refine xg_1_2 S hK hW kw_44 dX4_at_61 ?_
          refine lv_iload_n hx hb dX4_at_64 rfl (lv_at hl 0 rfl) ?_
          obtain ⟨hin, h⟩ := h
          refine xl_5 S hK hW hin dX4_at_65 (fun x15 ex15 => ?_)
          have h := nm_use ex15 h
          refine lv_i2l hx hb dX4_at_66 rfl ?_
          refine lv_topl (fun z16 ez16 => ?_)
          have h := nm_use ez16 h
          exact hret _ _ _ _ _ _ dX4_at_67 hW h
        · have h := h.1 c14
          refine lv_lconst (v := 0) hx hb dX4_at_53 (by decide) ?_
          refine lv_goto (tgt := 67) hx hb dX4_at_54 (by decide) ?_
          exact hret _ _ _ _ _ _ dX4_at_67 hW h
      · have h := h.2 c11
        refine lv_bipush (v := (-104)) hx hb dX4_at_32 (by decide) ?_
        refine g_call (g_runS S hml hK hW (c_X4_wide l D cA a u9 (-104) _ h _) kw_217 kw_218 kw_19 kw_219 hd_X4_wide ⟨rfl, rfl, Nat.le_of_ble_eq_true rfl, Nat.le_of_ble_eq_true rfl⟩ (As := [.int (-104)]) (rest := []) rfl rfl hl.1 (Nat.le_of_ble_eq_true rfl) dX4_at_34 ⟨Nat.zero_le _, Nat.zero_le _⟩) (Xw_adr cA a) hA hW (fun z18 u17 H locs h hW => ?_)
        exact hret _ _ _ _ _ _ dX4_at_37 hW h
    · have h := h.1 c8
      refine lv_bipush (v := (-101)) hx hb dX4_at_15 (by decide) ?_
      refine g_call (g_runS S hml hK hW (c_X4_wide l D cA a u6 (-101) _ h _) kw_217 kw_218 kw_19 kw_219 hd_X4_wide ⟨rfl, rfl, Nat.le_of_ble_eq_true rfl, Nat.le_of_ble_eq_true rfl⟩ (As := [.int (-101)]) (rest := []) rfl rfl hl.1 (Nat.le_of_ble_eq_true rfl) dX4_at_17 ⟨Nat.zero_le _, Nat.zero_le _⟩) (Xw_adr cA a) hA hW (fun z20 u19 H locs h hW => ?_)
      exact hret _ _ _ _ _ _ dX4_at_20 hW h
def w_X4_now (xp1 : Int32) (u : Mem) (post : Int64 → Mem → Prop) : Prop := w_X4_isLeaf xp1 u (fun x2 u1 => (x2 = 0 → (w_X4_wide (-101) u1 (fun z7 u6 => post z7 u6))) ∧ (¬ x2 = 0 → (vp_in xp1 32 ∧ nm (u1 12 (xp1 : Int32).toNatClampNeg) fun x4 => nm ((x4 : Int32).toInt64) fun z5 => post z5 u1)))
abbrev rm_X4_now : Room := { frames := 1, cells := 0, slots := 0, locals := 20 }
theorem hd_X4_now : yX4_now.cls ≠ "java/lang/invoke/MethodHandle" ∧ yX4_now.cls ≠ "java/lang/invoke/VarHandle" ∧ (parseMethodDescriptor yX4_now.desc).map (fun d => d.parameters.length) = some 1 := by decide +kernel
set_option maxHeartbeats 4000000 in
set_option maxRecDepth 100000 in
theorem c_X4_now (l : Launch) (D : va_G) (cA : ClassId) (a : Nat → Nat) (u : Mem) (xp1 : Int32) (post : Int64 → Mem → Prop) (h : w_X4_now xp1 u post) : g_Ml l yX4_now (Cond.code yX4_now cX4_now 2 (some .long) :: tT) rm_X4_now D cA (Xw cA a) u [.ref (a 0), .int xp1] post := by
  refine g_enter_l (by decide) (Xw_adr cA a) (Nat.le_of_ble_eq_true rfl) ?_
  intro p e s m args below meth c A Q S hml hK hA hret ls hl hW
  have hx := S.1
  have hb := S.2.1
  have hl : lv_has ls 2 [(0, .ref (a 0)), (1, .int xp1)] := hl
  skip
  refine lv_iload_n hx hb dX4_now_0 rfl (lv_at hl 1 rfl) ?_
  refine g_cali (g_runS S hml hK hW (c_X4_isLeaf l D cA a u xp1 _ h _) kw_181 kw_182 kw_19 kw_183 hd_X4_isLeaf ⟨rfl, rfl, Nat.le_of_ble_eq_true rfl, Nat.le_of_ble_eq_true rfl⟩ (As := [.int xp1]) (rest := []) rfl rfl hl.1 (Nat.le_of_ble_eq_true rfl) dX4_now_1 ⟨Nat.zero_le _, Nat.zero_le _⟩) (Xw_adr cA a) hA hW (fun x2 u1 H locs h hW => ?_)
  refine lv_if_ne (tgt := 13) hx hb dX4_now_4 (by decide) (fun c3 => ?_) (fun c3 => ?_)
  · have h := h.2 c3
    refine lv_aload_n hx hb dX4_now_13 rfl (lv_at hl 0 rfl) ?_
    refine xg_0_2 S hK hW kw_151 dX4_now_14 ?_
    refine xg_3_1 S hK hW kw_95 dX4_now_17 ?_
    refine lv_iload_n hx hb dX4_now_20 rfl (lv_at hl 1 rfl) ?_
    obtain ⟨hin, h⟩ := h
    refine xl_12 S hK hW hin dX4_now_21 (fun x4 ex4 => ?_)
    have h := nm_use ex4 h
    refine lv_i2l hx hb dX4_now_22 rfl ?_
    refine lv_topl (fun z5 ez5 => ?_)
    have h := nm_use ez5 h
    exact hret _ _ _ _ _ _ dX4_now_23 hW h
  · have h := h.1 c3
    refine lv_bipush (v := (-101)) hx hb dX4_now_7 (by decide) ?_
    refine g_call (g_runS S hml hK hW (c_X4_wide l D cA a u1 (-101) _ h _) kw_217 kw_218 kw_19 kw_219 hd_X4_wide ⟨rfl, rfl, Nat.le_of_ble_eq_true rfl, Nat.le_of_ble_eq_true rfl⟩ (As := [.int (-101)]) (rest := []) rfl rfl hl.1 (Nat.le_of_ble_eq_true rfl) dX4_now_9 ⟨Nat.zero_le _, Nat.zero_le _⟩) (Xw_adr cA a) hA hW (fun z7 u6 H locs h hW => ?_)
    exact hret _ _ _ _ _ _ dX4_now_12 hW h
def w_X4_digest (xp1 : Int32) (u : Mem) (post : Int64 → Mem → Prop) : Prop := w_X4_isHeight xp1 u (fun x2 u1 => (x2 = 0 → (w_X4_wide (-101) u1 (fun z7 u6 => post z7 u6))) ∧ (¬ x2 = 0 → (vp_in xp1 201 ∧ nm (u1 9 (xp1 : Int32).toNatClampNeg) fun x4 => nm ((x4 : Int32).toInt64) fun z5 => post z5 u1)))
abbrev rm_X4_digest : Room := { frames := 1, cells := 0, slots := 0, locals := 21 }
theorem hd_X4_digest : yX4_digest.cls ≠ "java/lang/invoke/MethodHandle" ∧ yX4_digest.cls ≠ "java/lang/invoke/VarHandle" ∧ (parseMethodDescriptor yX4_digest.desc).map (fun d => d.parameters.length) = some 1 := by decide +kernel
set_option maxHeartbeats 4000000 in
set_option maxRecDepth 100000 in
theorem c_X4_digest (l : Launch) (D : va_G) (cA : ClassId) (a : Nat → Nat) (u : Mem) (xp1 : Int32) (post : Int64 → Mem → Prop) (h : w_X4_digest xp1 u post) : g_Ml l yX4_digest (Cond.code yX4_digest cX4_digest 2 (some .long) :: tT) rm_X4_digest D cA (Xw cA a) u [.ref (a 0), .int xp1] post := by
  refine g_enter_l (by decide) (Xw_adr cA a) (Nat.le_of_ble_eq_true rfl) ?_
  intro p e s m args below meth c A Q S hml hK hA hret ls hl hW
  have hx := S.1
  have hb := S.2.1
  have hl : lv_has ls 2 [(0, .ref (a 0)), (1, .int xp1)] := hl
  skip
  refine lv_aload_n hx hb dX4_digest_0 rfl (lv_at hl 0 rfl) ?_
  refine lv_iload_n hx hb dX4_digest_1 rfl (lv_at hl 1 rfl) ?_
  refine g_cali (g_runV S hml hK hW (c_X4_isHeight l D cA a u xp1 _ h _) kw_213 kw_215 kw_1 kw_19 kw_216 hd_X4_isHeight ⟨rfl, rfl, Nat.le_of_ble_eq_true rfl, Nat.le_of_ble_eq_true rfl⟩ (q0 := 0) rfl rfl (As := [.int xp1]) (rest := []) rfl rfl hl.1 (Nat.le_of_ble_eq_true rfl) dX4_digest_2 ⟨Nat.zero_le _, Nat.zero_le _⟩) (Xw_adr cA a) hA hW (fun x2 u1 H locs h hW => ?_)
  refine lv_if_ne (tgt := 14) hx hb dX4_digest_5 (by decide) (fun c3 => ?_) (fun c3 => ?_)
  · have h := h.2 c3
    refine lv_aload_n hx hb dX4_digest_14 rfl (lv_at hl 0 rfl) ?_
    refine xg_0_1 S hK hW kw_150 dX4_digest_15 ?_
    refine xg_2_0 S hK hW kw_74 dX4_digest_18 ?_
    refine lv_iload_n hx hb dX4_digest_21 rfl (lv_at hl 1 rfl) ?_
    obtain ⟨hin, h⟩ := h
    refine xl_9 S hK hW hin dX4_digest_22 (fun x4 ex4 => ?_)
    have h := nm_use ex4 h
    refine lv_i2l hx hb dX4_digest_23 rfl ?_
    refine lv_topl (fun z5 ez5 => ?_)
    have h := nm_use ez5 h
    exact hret _ _ _ _ _ _ dX4_digest_24 hW h
  · have h := h.1 c3
    refine lv_bipush (v := (-101)) hx hb dX4_digest_8 (by decide) ?_
    refine g_call (g_runS S hml hK hW (c_X4_wide l D cA a u1 (-101) _ h _) kw_217 kw_218 kw_19 kw_219 hd_X4_wide ⟨rfl, rfl, Nat.le_of_ble_eq_true rfl, Nat.le_of_ble_eq_true rfl⟩ (As := [.int (-101)]) (rest := []) rfl rfl hl.1 (Nat.le_of_ble_eq_true rfl) dX4_digest_10 ⟨Nat.zero_le _, Nat.zero_le _⟩) (Xw_adr cA a) hA hW (fun z7 u6 H locs h hW => ?_)
    exact hret _ _ _ _ _ _ dX4_digest_13 hW h
def w_X4_blame (xp1 : Int32) (xp2 : Int32) (xp3 : Int32) (u : Mem) (post : Int32 → Mem → Prop) : Prop := w_X4_isLeaf xp1 u (fun x2 u1 => (x2 = 0 → (post (-101) u1)) ∧ (¬ x2 = 0 → (w_X4_isHeight xp2 u1 (fun x5 u4 => (x5 = 0 → (post (-101) u4)) ∧ (¬ x5 = 0 → ((xp3 < 0 → (post (-102) u4)) ∧ (¬ xp3 < 0 → ((xp3 ≤ 1 → (w_X1_isGone xp2 u4 (fun x10 u9 => (x10 = 0 → (w_X2_lastOf xp1 xp2 u9 (fun x13 u12 => (x13 = (-1) → (post (-1) u12)) ∧ (¬ x13 = (-1) → ((xp3 = 0 → (vp_in x13 400 ∧ nm (u12 6 (x13 : Int32).toNatClampNeg) fun x17 => post x17 u12)) ∧ (¬ xp3 = 0 → (vp_in x13 400 ∧ nm (u12 3 (x13 : Int32).toNatClampNeg) fun x16 => post x16 u12))))))) ∧ (¬ x10 = 0 → (post (-104) u9))))) ∧ (¬ xp3 ≤ 1 → (post (-102) u4))))))))))
abbrev rm_X4_blame : Room := { frames := 2, cells := 0, slots := 0, locals := 45 }
theorem hd_X4_blame : yX4_blame.cls ≠ "java/lang/invoke/MethodHandle" ∧ yX4_blame.cls ≠ "java/lang/invoke/VarHandle" ∧ (parseMethodDescriptor yX4_blame.desc).map (fun d => d.parameters.length) = some 3 := by decide +kernel
set_option maxHeartbeats 4000000 in
set_option maxRecDepth 100000 in
theorem c_X4_blame (l : Launch) (D : va_G) (cA : ClassId) (a : Nat → Nat) (u : Mem) (xp1 xp2 xp3 : Int32) (post : Int32 → Mem → Prop) (h : w_X4_blame xp1 xp2 xp3 u post) : g_Mi l yX4_blame (Cond.code yX4_blame cX4_blame 5 (some .int) :: tT) rm_X4_blame D cA (Xw cA a) u [.ref (a 0), .int xp1, .int xp2, .int xp3] post := by
  refine g_enter_i (by decide) (Xw_adr cA a) (Nat.le_of_ble_eq_true rfl) ?_
  intro p e s m args below meth c A Q S hml hK hA hret ls hl hW
  have hx := S.1
  have hb := S.2.1
  have hl : lv_has ls 5 [(0, .ref (a 0)), (1, .int xp1), (2, .int xp2), (3, .int xp3)] := hl
  skip
  refine lv_iload_n hx hb dX4_blame_0 rfl (lv_at hl 1 rfl) ?_
  refine g_cali (g_runS S hml hK hW (c_X4_isLeaf l D cA a u xp1 _ h _) kw_181 kw_182 kw_19 kw_183 hd_X4_isLeaf ⟨rfl, rfl, Nat.le_of_ble_eq_true rfl, Nat.le_of_ble_eq_true rfl⟩ (As := [.int xp1]) (rest := []) rfl rfl hl.1 (Nat.le_of_ble_eq_true rfl) dX4_blame_1 ⟨Nat.zero_le _, Nat.zero_le _⟩) (Xw_adr cA a) hA hW (fun x2 u1 H locs h hW => ?_)
  refine lv_if_eq (tgt := 15) hx hb dX4_blame_4 (by decide) (fun c3 => ?_) (fun c3 => ?_)
  · have h := h.1 c3
    refine lv_bipush (v := (-101)) hx hb dX4_blame_15 (by decide) ?_
    exact hret _ _ _ _ _ _ dX4_blame_17 hW h
  · have h := h.2 c3
    refine lv_aload_n hx hb dX4_blame_7 rfl (lv_at hl 0 rfl) ?_
    refine lv_iload_n hx hb dX4_blame_8 rfl (lv_at hl 2 rfl) ?_
    refine g_cali (g_runV S hml hK hW (c_X4_isHeight l D cA a u1 xp2 _ h _) kw_213 kw_215 kw_1 kw_19 kw_216 hd_X4_isHeight ⟨rfl, rfl, Nat.le_of_ble_eq_true rfl, Nat.le_of_ble_eq_true rfl⟩ (q0 := 0) rfl rfl (As := [.int xp2]) (rest := []) rfl rfl hl.1 (Nat.le_of_ble_eq_true rfl) dX4_blame_9 ⟨Nat.zero_le _, Nat.zero_le _⟩) (Xw_adr cA a) hA hW (fun x5 u4 H locs h hW => ?_)
    refine lv_if_ne (tgt := 18) hx hb dX4_blame_12 (by decide) (fun c6 => ?_) (fun c6 => ?_)
    · have h := h.2 c6
      refine lv_iload_n hx hb dX4_blame_18 rfl (lv_at hl 3 rfl) ?_
      refine lv_if_lt (tgt := 27) hx hb dX4_blame_19 (by decide) (fun c7 => ?_) (fun c7 => ?_)
      · have h := h.1 c7
        refine lv_bipush (v := (-102)) hx hb dX4_blame_27 (by decide) ?_
        exact hret _ _ _ _ _ _ dX4_blame_29 hW h
      · have h := h.2 c7
        refine lv_iload_n hx hb dX4_blame_22 rfl (lv_at hl 3 rfl) ?_
        refine lv_iconst (v := 1) hx hb dX4_blame_23 (by decide) ?_
        refine lv_icmp_le (tgt := 30) hx hb dX4_blame_24 (by decide) (fun c8 => ?_) (fun c8 => ?_)
        · have h := h.1 c8
          refine lv_aload_n hx hb dX4_blame_30 rfl (lv_at hl 0 rfl) ?_
          refine xg_0_1 S hK hW kw_150 dX4_blame_31 ?_
          refine lv_iload_n hx hb dX4_blame_34 rfl (lv_at hl 2 rfl) ?_
          refine g_cali (g_runV S hml hK hW (c_X1_isGone l D cA a u4 xp2 _ h _) kw_221 kw_222 kw_223 kw_21 kw_224 hd_X1_isGone ⟨rfl, rfl, Nat.le_of_ble_eq_true rfl, Nat.le_of_ble_eq_true rfl⟩ (q0 := 2) rfl rfl (As := [.int xp2]) (rest := []) rfl rfl hl.1 (Nat.le_of_ble_eq_true rfl) dX4_blame_35 ⟨Nat.zero_le _, Nat.zero_le _⟩) (Xw_adr cA a) hA hW (fun x10 u9 H locs h hW => ?_)
          refine lv_if_eq (tgt := 44) hx hb dX4_blame_38 (by decide) (fun c11 => ?_) (fun c11 => ?_)
          · have h := h.1 c11
            refine lv_aload_n hx hb dX4_blame_44 rfl (lv_at hl 0 rfl) ?_
            refine xg_0_0 S hK hW kw_149 dX4_blame_45 ?_
            refine lv_iload_n hx hb dX4_blame_48 rfl (lv_at hl 1 rfl) ?_
            refine lv_iload_n hx hb dX4_blame_49 rfl (lv_at hl 2 rfl) ?_
            refine g_cali (g_runV S hml hK hW (c_X2_lastOf l D cA a u9 xp1 xp2 _ h _) kw_225 kw_226 kw_227 kw_20 kw_228 hd_X2_lastOf ⟨rfl, rfl, Nat.le_of_ble_eq_true rfl, Nat.le_of_ble_eq_true rfl⟩ (q0 := 1) rfl rfl (As := [.int xp1, .int xp2]) (rest := []) rfl rfl hl.1 (Nat.le_of_ble_eq_true rfl) dX4_blame_50 ⟨Nat.zero_le _, Nat.zero_le _⟩) (Xw_adr cA a) hA hW (fun x13 u12 H locs h hW => ?_)
            refine lv_istore (lv' := [(4, .int x13), (0, .ref (a 0)), (1, .int xp1), (2, .int xp2), (3, .int xp3)]) hx hb dX4_blame_53 hl (by decide) rfl (fun ls hl => ?_)
            refine lv_iload hx hb dX4_blame_55 (lv_at hl 0 rfl) ?_
            refine lv_iconst (v := (-1)) hx hb dX4_blame_57 (by decide) ?_
            refine lv_icmp_ne (tgt := 63) hx hb dX4_blame_58 (by decide) (fun c14 => ?_) (fun c14 => ?_)
            · have h := h.2 c14
              refine lv_iload_n hx hb dX4_blame_63 rfl (lv_at hl 4 rfl) ?_
              refine lv_if_ne (tgt := 80) hx hb dX4_blame_64 (by decide) (fun c15 => ?_) (fun c15 => ?_)
              · have h := h.2 c15
                refine lv_aload_n hx hb dX4_blame_80 rfl (lv_at hl 1 rfl) ?_
                refine xg_0_0 S hK hW kw_149 dX4_blame_81 ?_
                refine xg_1_0 S hK hW kw_41 dX4_blame_84 ?_
                refine lv_iload hx hb dX4_blame_87 (lv_at hl 0 rfl) ?_
                obtain ⟨hin, h⟩ := h
                refine xl_3 S hK hW hin dX4_blame_89 (fun x16 ex16 => ?_)
                have h := nm_use ex16 h
                exact hret _ _ _ _ _ _ dX4_blame_90 hW h
              · have h := h.1 c15
                refine lv_aload_n hx hb dX4_blame_67 rfl (lv_at hl 1 rfl) ?_
                refine xg_0_0 S hK hW kw_149 dX4_blame_68 ?_
                refine xg_1_3 S hK hW kw_46 dX4_blame_71 ?_
                refine lv_iload hx hb dX4_blame_74 (lv_at hl 0 rfl) ?_
                obtain ⟨hin, h⟩ := h
                refine xl_6 S hK hW hin dX4_blame_76 (fun x17 ex17 => ?_)
                have h := nm_use ex17 h
                refine lv_goto (tgt := 90) hx hb dX4_blame_77 (by decide) ?_
                exact hret _ _ _ _ _ _ dX4_blame_90 hW h
            · have h := h.1 c14
              refine lv_iconst (v := (-1)) hx hb dX4_blame_61 (by decide) ?_
              exact hret _ _ _ _ _ _ dX4_blame_62 hW h
          · have h := h.2 c11
            refine lv_bipush (v := (-104)) hx hb dX4_blame_41 (by decide) ?_
            exact hret _ _ _ _ _ _ dX4_blame_43 hW h
        · have h := h.2 c8
          refine lv_bipush (v := (-102)) hx hb dX4_blame_27 (by decide) ?_
          exact hret _ _ _ _ _ _ dX4_blame_29 hW h
    · have h := h.1 c6
      refine lv_bipush (v := (-101)) hx hb dX4_blame_15 (by decide) ?_
      exact hret _ _ _ _ _ _ dX4_blame_17 hW h
def L_X4_first_30 (f1_30 : Int32) (f2_30 : Int32) (f5_30 : Int32) (post : Int32 → Mem → Prop) (K : Int32 → Int32 → Mem → Prop) : Nat → Int32 → Int32 → Mem → Prop
  | 0, _, _, _ => False
  | n_30 + 1, y3_30, y4_30, u_30 => ((u_30 17 0) ≤ y4_30 → (K y3_30 y4_30 u_30)) ∧ (¬ (u_30 17 0) ≤ y4_30 → (vp_in y4_30 400 ∧ nm (u_30 3 (y4_30 : Int32).toNatClampNeg) fun x6 => (f5_30 < x6 → (K y3_30 y4_30 u_30)) ∧ (¬ f5_30 < x6 → (w_X2_isOf y4_30 f1_30 u_30 (fun x9 u8 => (x9 = 0 → (nm (y4_30 + 1) fun x11 => L_X4_first_30 f1_30 f2_30 f5_30 post K n_30 y3_30 x11 u8)) ∧ (¬ x9 = 0 → (vp_in y4_30 400 ∧ nm (u8 5 (y4_30 : Int32).toNatClampNeg) fun x12 => nm (y4_30 + 1) fun x13 => L_X4_first_30 f1_30 f2_30 f5_30 post K n_30 x12 x13 u8)))))))
def L_X4_first_18 (f1_18 : Int32) (f2_18 : Int32) (post : Int32 → Mem → Prop) (K : Int32 → Int32 → Int32 → Mem → Prop) : Nat → Int32 → Int32 → Int32 → Mem → Prop
  | 0, _, _, _, _ => False
  | n_18 + 1, y3_18, y4_18, y5_18, u_18 => ((u_18 18 0) < y5_18 → (K y3_18 y4_18 y5_18 u_18)) ∧ (¬ (u_18 18 0) < y5_18 → (∃ n_30, L_X4_first_30 f1_18 f2_18 y5_18 post (fun w3_30 w4_30 v_30 => (w3_30 = f2_18 → (w_X1_isGone y5_18 v_30 (fun x17 u16 => (x17 = 0 → (post y5_18 u16)) ∧ (¬ x17 = 0 → (nm (y5_18 + 1) fun x19 => L_X4_first_18 f1_18 f2_18 post K n_18 w3_30 w4_30 x19 u16))))) ∧ (¬ w3_30 = f2_18 → (nm (y5_18 + 1) fun x15 => L_X4_first_18 f1_18 f2_18 post K n_18 w3_30 w4_30 x15 v_30))) n_30 y3_18 y4_18 u_18))
def w_X4_first (xp1 : Int32) (xp2 : Int32) (u : Mem) (post : Int32 → Mem → Prop) : Prop := w_X4_isLeaf xp1 u (fun x2 u1 => (x2 = 0 → (post (-101) u1)) ∧ (¬ x2 = 0 → (∃ n_18, L_X4_first_18 xp1 xp2 post (fun w3_18 w4_18 w5_18 v_18 => post (-1) v_18) n_18 0 0 0 u1)))
abbrev rm_X4_first : Room := { frames := 1, cells := 0, slots := 0, locals := 22 }
theorem hd_X4_first : yX4_first.cls ≠ "java/lang/invoke/MethodHandle" ∧ yX4_first.cls ≠ "java/lang/invoke/VarHandle" ∧ (parseMethodDescriptor yX4_first.desc).map (fun d => d.parameters.length) = some 2 := by decide +kernel
set_option maxHeartbeats 4000000 in
set_option maxRecDepth 100000 in
theorem c_X4_first (l : Launch) (D : va_G) (cA : ClassId) (a : Nat → Nat) (u : Mem) (xp1 xp2 : Int32) (post : Int32 → Mem → Prop) (h : w_X4_first xp1 xp2 u post) : g_Mi l yX4_first (Cond.code yX4_first cX4_first 6 (some .int) :: tT) rm_X4_first D cA (Xw cA a) u [.ref (a 0), .int xp1, .int xp2] post := by
  refine g_enter_i (by decide) (Xw_adr cA a) (Nat.le_of_ble_eq_true rfl) ?_
  intro p e s m args below meth c A Q S hml hK hA hret ls hl hW
  have hx := S.1
  have hb := S.2.1
  have hl : lv_has ls 6 [(0, .ref (a 0)), (1, .int xp1), (2, .int xp2)] := hl
  skip
  refine lv_iload_n hx hb dX4_first_0 rfl (lv_at hl 1 rfl) ?_
  refine g_cali (g_runS S hml hK hW (c_X4_isLeaf l D cA a u xp1 _ h _) kw_181 kw_182 kw_19 kw_183 hd_X4_isLeaf ⟨rfl, rfl, Nat.le_of_ble_eq_true rfl, Nat.le_of_ble_eq_true rfl⟩ (As := [.int xp1]) (rest := []) rfl rfl hl.1 (Nat.le_of_ble_eq_true rfl) dX4_first_1 ⟨Nat.zero_le _, Nat.zero_le _⟩) (Xw_adr cA a) hA hW (fun x2 u1 H locs h hW => ?_)
  refine lv_if_ne (tgt := 10) hx hb dX4_first_4 (by decide) (fun c3 => ?_) (fun c3 => ?_)
  · have h := h.2 c3
    refine lv_iconst (v := 0) hx hb dX4_first_10 (by decide) ?_
    refine lv_istore_n (lv' := [(3, .int 0), (0, .ref (a 0)), (1, .int xp1), (2, .int xp2)]) hx hb dX4_first_11 rfl hl (by decide) rfl (fun ls hl => ?_)
    refine lv_iconst (v := 0) hx hb dX4_first_12 (by decide) ?_
    refine lv_istore (lv' := [(4, .int 0), (3, .int 0), (0, .ref (a 0)), (1, .int xp1), (2, .int xp2)]) hx hb dX4_first_13 hl (by decide) rfl (fun ls hl => ?_)
    refine lv_iconst (v := 0) hx hb dX4_first_15 (by decide) ?_
    refine lv_istore (lv' := [(5, .int 0), (4, .int 0), (3, .int 0), (0, .ref (a 0)), (1, .int xp1), (2, .int xp2)]) hx hb dX4_first_16 hl (by decide) rfl (fun ls hl => ?_)
    have loop_18 : ∀ (K : Int32 → Int32 → Int32 → Mem → Prop), (∀ (w3_18 w4_18 w5_18 : Int32) (v_18 : Mem) (H : Heap) (locs : List Loc) (ls : Array Slot), K w3_18 w4_18 w5_18 v_18 → g_W D (Xw cA a) A s.heap v_18 H locs → lv_has ls 6 [(0, .ref (a 0)), (1, .int xp1), (2, .int xp2), (3, .int w3_18), (4, .int w4_18), (5, .int w5_18)] → W p l e rm_X4_first s m args below meth c H locs 0 0 Q (F0 m 113 ls [])) → ∀ (n : Nat) (y3_18 y4_18 y5_18 : Int32) (u_18 : Mem) (H : Heap) (locs : List Loc) (ls : Array Slot), L_X4_first_18 xp1 xp2 post K n y3_18 y4_18 y5_18 u_18 → g_W D (Xw cA a) A s.heap u_18 H locs → lv_has ls 6 [(0, .ref (a 0)), (1, .int xp1), (2, .int xp2), (3, .int y3_18), (4, .int y4_18), (5, .int y5_18)] → W p l e rm_X4_first s m args below meth c H locs 0 0 Q (F0 m 18 ls []) := by
      intro K hE n
      induction n with
      | zero => intro y3_18 y4_18 y5_18 u_18 H locs ls h; exact False.elim h
      | succ n ih =>
        intro y3_18 y4_18 y5_18 u_18 H locs ls h hW hl
        refine lv_iload hx hb dX4_first_18 (lv_at hl 5 rfl) ?_
        refine lv_aload_n hx hb dX4_first_20 rfl (lv_at hl 0 rfl) ?_
        refine xg_0_1 S hK hW kw_150 dX4_first_21 ?_
        refine xg_2_2 S hK hW kw_77 dX4_first_24 ?_
        refine lv_icmp_gt (tgt := 113) hx hb dX4_first_27 (by decide) (fun c29 => ?_) (fun c29 => ?_)
        · have h := h.1 c29
          exact hE y3_18 y4_18 y5_18 u_18 _ _ _ h hW (lv_sub hl [0, 1, 2, 3, 4, 5] rfl)
        · have h := h.2 c29
          have loop_30 : ∀ (K : Int32 → Int32 → Mem → Prop), (∀ (w3_30 w4_30 : Int32) (v_30 : Mem) (H : Heap) (locs : List Loc) (ls : Array Slot), K w3_30 w4_30 v_30 → g_W D (Xw cA a) A s.heap v_30 H locs → lv_has ls 6 [(0, .ref (a 0)), (1, .int xp1), (2, .int xp2), (3, .int w3_30), (4, .int w4_30), (5, .int y5_18)] → W p l e rm_X4_first s m args below meth c H locs 0 0 Q (F0 m 87 ls [])) → ∀ (n : Nat) (y3_30 y4_30 : Int32) (u_30 : Mem) (H : Heap) (locs : List Loc) (ls : Array Slot), L_X4_first_30 xp1 xp2 y5_18 post K n y3_30 y4_30 u_30 → g_W D (Xw cA a) A s.heap u_30 H locs → lv_has ls 6 [(0, .ref (a 0)), (1, .int xp1), (2, .int xp2), (3, .int y3_30), (4, .int y4_30), (5, .int y5_18)] → W p l e rm_X4_first s m args below meth c H locs 0 0 Q (F0 m 30 ls []) := by
            intro K hE n
            induction n with
            | zero => intro y3_30 y4_30 u_30 H locs ls h; exact False.elim h
            | succ n ih =>
              intro y3_30 y4_30 u_30 H locs ls h hW hl
              refine lv_iload hx hb dX4_first_30 (lv_at hl 4 rfl) ?_
              refine lv_aload_n hx hb dX4_first_32 rfl (lv_at hl 0 rfl) ?_
              refine xg_0_0 S hK hW kw_149 dX4_first_33 ?_
              refine xg_1_6 S hK hW kw_50 dX4_first_36 ?_
              refine lv_icmp_ge (tgt := 87) hx hb dX4_first_39 (by decide) (fun c45 => ?_) (fun c45 => ?_)
              · have h := h.1 c45
                exact hE y3_30 y4_30 u_30 _ _ _ h hW (lv_sub hl [0, 1, 2, 3, 4, 5] rfl)
              · have h := h.2 c45
                refine lv_aload_n hx hb dX4_first_42 rfl (lv_at hl 0 rfl) ?_
                refine xg_0_0 S hK hW kw_149 dX4_first_43 ?_
                refine xg_1_0 S hK hW kw_41 dX4_first_46 ?_
                refine lv_iload hx hb dX4_first_49 (lv_at hl 4 rfl) ?_
                obtain ⟨hin, h⟩ := h
                refine xl_3 S hK hW hin dX4_first_51 (fun x46 ex46 => ?_)
                have h := nm_use ex46 h
                refine lv_iload hx hb dX4_first_52 (lv_at hl 5 rfl) ?_
                refine lv_icmp_gt (tgt := 87) hx hb dX4_first_54 (by decide) (fun c47 => ?_) (fun c47 => ?_)
                · have h := h.1 c47
                  exact hE y3_30 y4_30 u_30 _ _ _ h hW (lv_sub hl [0, 1, 2, 3, 4, 5] rfl)
                · have h := h.2 c47
                  refine lv_aload_n hx hb dX4_first_57 rfl (lv_at hl 0 rfl) ?_
                  refine xg_0_0 S hK hW kw_149 dX4_first_58 ?_
                  refine lv_iload hx hb dX4_first_61 (lv_at hl 4 rfl) ?_
                  refine lv_iload_n hx hb dX4_first_63 rfl (lv_at hl 1 rfl) ?_
                  refine g_cali (g_runV S hml hK hW (c_X2_isOf l D cA a u_30 y4_30 xp1 _ h _) kw_249 kw_230 kw_231 kw_20 kw_232 hd_X2_isOf ⟨rfl, rfl, Nat.le_of_ble_eq_true rfl, Nat.le_of_ble_eq_true rfl⟩ (q0 := 1) rfl rfl (As := [.int y4_30, .int xp1]) (rest := []) rfl rfl hl.1 (Nat.le_of_ble_eq_true rfl) dX4_first_64 ⟨Nat.zero_le _, Nat.zero_le _⟩) (Xw_adr cA a) hA hW (fun x49 u48 H locs h hW => ?_)
                  refine lv_if_eq (tgt := 81) hx hb dX4_first_67 (by decide) (fun c50 => ?_) (fun c50 => ?_)
                  · have h := h.1 c50
                    obtain ⟨x51, ex51⟩ : ∃ z : Int32, z = y4_30 + 1 := ⟨_, rfl⟩
                    have h := nm_use ex51 h
                    refine lv_iinc (v := x51) (lv' := [(4, .int x51), (0, .ref (a 0)), (1, .int xp1), (2, .int xp2), (3, .int y3_30), (5, .int y5_18)]) hx hb dX4_first_81 hl (k := 4) rfl (by rw [ex51]; rfl) (by decide) rfl (fun ls hl => ?_)
                    refine lv_goto (tgt := 30) hx hb dX4_first_84 (by decide) ?_
                    exact ih y3_30 x51 u48 _ _ _ h hW (lv_sub hl [1, 2, 3, 4, 0, 5] rfl)
                  · have h := h.2 c50
                    refine lv_aload_n hx hb dX4_first_70 rfl (lv_at hl 0 rfl) ?_
                    refine xg_0_0 S hK hW kw_149 dX4_first_71 ?_
                    refine xg_1_2 S hK hW kw_44 dX4_first_74 ?_
                    refine lv_iload hx hb dX4_first_77 (lv_at hl 4 rfl) ?_
                    obtain ⟨hin, h⟩ := h
                    refine xl_5 S hK hW hin dX4_first_79 (fun x52 ex52 => ?_)
                    have h := nm_use ex52 h
                    refine lv_istore_n (lv' := [(3, .int x52), (0, .ref (a 0)), (1, .int xp1), (2, .int xp2), (4, .int y4_30), (5, .int y5_18)]) hx hb dX4_first_80 rfl hl (by decide) rfl (fun ls hl => ?_)
                    obtain ⟨x53, ex53⟩ : ∃ z : Int32, z = y4_30 + 1 := ⟨_, rfl⟩
                    have h := nm_use ex53 h
                    refine lv_iinc (v := x53) (lv' := [(4, .int x53), (3, .int x52), (0, .ref (a 0)), (1, .int xp1), (2, .int xp2), (5, .int y5_18)]) hx hb dX4_first_81 hl (k := 4) rfl (by rw [ex53]; rfl) (by decide) rfl (fun ls hl => ?_)
                    refine lv_goto (tgt := 30) hx hb dX4_first_84 (by decide) ?_
                    exact ih x52 x53 u48 _ _ _ h hW (lv_sub hl [2, 3, 4, 1, 0, 5] rfl)
          obtain ⟨n_30, h⟩ := h
          refine loop_30 _ ?_ n_30 y3_18 y4_18 u_18 _ _ _ h hW (lv_sub hl [0, 1, 2, 3, 4, 5] rfl)
          intro w3_30 w4_30 v_30 H locs ls h hW hl
          refine lv_iload_n hx hb dX4_first_87 rfl (lv_at hl 3 rfl) ?_
          refine lv_iload_n hx hb dX4_first_88 rfl (lv_at hl 2 rfl) ?_
          refine lv_icmp_ne (tgt := 107) hx hb dX4_first_89 (by decide) (fun c39 => ?_) (fun c39 => ?_)
          · have h := h.2 c39
            obtain ⟨x40, ex40⟩ : ∃ z : Int32, z = y5_18 + 1 := ⟨_, rfl⟩
            have h := nm_use ex40 h
            refine lv_iinc (v := x40) (lv' := [(5, .int x40), (0, .ref (a 0)), (1, .int xp1), (2, .int xp2), (3, .int w3_30), (4, .int w4_30)]) hx hb dX4_first_107 hl (k := 5) rfl (by rw [ex40]; rfl) (by decide) rfl (fun ls hl => ?_)
            refine lv_goto (tgt := 18) hx hb dX4_first_110 (by decide) ?_
            exact ih w3_30 w4_30 x40 v_30 _ _ _ h hW (lv_sub hl [1, 2, 3, 4, 5, 0] rfl)
          · have h := h.1 c39
            refine lv_aload_n hx hb dX4_first_92 rfl (lv_at hl 0 rfl) ?_
            refine xg_0_1 S hK hW kw_150 dX4_first_93 ?_
            refine lv_iload hx hb dX4_first_96 (lv_at hl 5 rfl) ?_
            refine g_cali (g_runV S hml hK hW (c_X1_isGone l D cA a v_30 y5_18 _ h _) kw_221 kw_222 kw_223 kw_21 kw_224 hd_X1_isGone ⟨rfl, rfl, Nat.le_of_ble_eq_true rfl, Nat.le_of_ble_eq_true rfl⟩ (q0 := 2) rfl rfl (As := [.int y5_18]) (rest := []) rfl rfl hl.1 (Nat.le_of_ble_eq_true rfl) dX4_first_98 ⟨Nat.zero_le _, Nat.zero_le _⟩) (Xw_adr cA a) hA hW (fun x42 u41 H locs h hW => ?_)
            refine lv_if_ne (tgt := 107) hx hb dX4_first_101 (by decide) (fun c43 => ?_) (fun c43 => ?_)
            · have h := h.2 c43
              obtain ⟨x44, ex44⟩ : ∃ z : Int32, z = y5_18 + 1 := ⟨_, rfl⟩
              have h := nm_use ex44 h
              refine lv_iinc (v := x44) (lv' := [(5, .int x44), (0, .ref (a 0)), (1, .int xp1), (2, .int xp2), (3, .int w3_30), (4, .int w4_30)]) hx hb dX4_first_107 hl (k := 5) rfl (by rw [ex44]; rfl) (by decide) rfl (fun ls hl => ?_)
              refine lv_goto (tgt := 18) hx hb dX4_first_110 (by decide) ?_
              exact ih w3_30 w4_30 x44 u41 _ _ _ h hW (lv_sub hl [1, 2, 3, 4, 5, 0] rfl)
            · have h := h.1 c43
              refine lv_iload hx hb dX4_first_104 (lv_at hl 5 rfl) ?_
              exact hret _ _ _ _ _ _ dX4_first_106 hW h
    obtain ⟨n_18, h⟩ := h
    refine loop_18 _ ?_ n_18 0 0 0 u1 _ _ _ h hW (lv_sub hl [3, 4, 5, 2, 1, 0] rfl)
    intro w3_18 w4_18 w5_18 v_18 H locs ls h hW hl
    refine lv_iconst (v := (-1)) hx hb dX4_first_113 (by decide) ?_
    exact hret _ _ _ _ _ _ dX4_first_114 hW h
  · have h := h.1 c3
    refine lv_bipush (v := (-101)) hx hb dX4_first_7 (by decide) ?_
    exact hret _ _ _ _ _ _ dX4_first_9 hW h
def w_X4_refusalOfTwo (xp1 : Int32) (xp2 : Int32) (u : Mem) (post : Int32 → Mem → Prop) : Prop := w_X4_isHeight xp1 u (fun x2 u1 => (x2 = 0 → (post (-101) u1)) ∧ (¬ x2 = 0 → (w_X4_isHeight xp2 u1 (fun x5 u4 => (x5 = 0 → (post (-101) u4)) ∧ (¬ x5 = 0 → (w_X1_isGone xp1 u4 (fun x8 u7 => (x8 = 0 → (w_X1_isGone xp2 u7 (fun x11 u10 => (x11 = 0 → (post 0 u10)) ∧ (¬ x11 = 0 → (post (-104) u10))))) ∧ (¬ x8 = 0 → (post (-104) u7)))))))))
abbrev rm_X4_refusalOfTwo : Room := { frames := 1, cells := 0, slots := 0, locals := 21 }
theorem hd_X4_refusalOfTwo : yX4_refusalOfTwo.cls ≠ "java/lang/invoke/MethodHandle" ∧ yX4_refusalOfTwo.cls ≠ "java/lang/invoke/VarHandle" ∧ (parseMethodDescriptor yX4_refusalOfTwo.desc).map (fun d => d.parameters.length) = some 2 := by decide +kernel
set_option maxHeartbeats 4000000 in
set_option maxRecDepth 100000 in
theorem c_X4_refusalOfTwo (l : Launch) (D : va_G) (cA : ClassId) (a : Nat → Nat) (u : Mem) (xp1 xp2 : Int32) (post : Int32 → Mem → Prop) (h : w_X4_refusalOfTwo xp1 xp2 u post) : g_Mi l yX4_refusalOfTwo (Cond.code yX4_refusalOfTwo cX4_refusalOfTwo 3 (some .int) :: tT) rm_X4_refusalOfTwo D cA (Xw cA a) u [.ref (a 0), .int xp1, .int xp2] post := by
  refine g_enter_i (by decide) (Xw_adr cA a) (Nat.le_of_ble_eq_true rfl) ?_
  intro p e s m args below meth c A Q S hml hK hA hret ls hl hW
  have hx := S.1
  have hb := S.2.1
  have hl : lv_has ls 3 [(0, .ref (a 0)), (1, .int xp1), (2, .int xp2)] := hl
  skip
  refine lv_aload_n hx hb dX4_refusalOfTwo_0 rfl (lv_at hl 0 rfl) ?_
  refine lv_iload_n hx hb dX4_refusalOfTwo_1 rfl (lv_at hl 1 rfl) ?_
  refine g_cali (g_runV S hml hK hW (c_X4_isHeight l D cA a u xp1 _ h _) kw_213 kw_215 kw_1 kw_19 kw_216 hd_X4_isHeight ⟨rfl, rfl, Nat.le_of_ble_eq_true rfl, Nat.le_of_ble_eq_true rfl⟩ (q0 := 0) rfl rfl (As := [.int xp1]) (rest := []) rfl rfl hl.1 (Nat.le_of_ble_eq_true rfl) dX4_refusalOfTwo_2 ⟨Nat.zero_le _, Nat.zero_le _⟩) (Xw_adr cA a) hA hW (fun x2 u1 H locs h hW => ?_)
  refine lv_if_eq (tgt := 16) hx hb dX4_refusalOfTwo_5 (by decide) (fun c3 => ?_) (fun c3 => ?_)
  · have h := h.1 c3
    refine lv_bipush (v := (-101)) hx hb dX4_refusalOfTwo_16 (by decide) ?_
    exact hret _ _ _ _ _ _ dX4_refusalOfTwo_18 hW h
  · have h := h.2 c3
    refine lv_aload_n hx hb dX4_refusalOfTwo_8 rfl (lv_at hl 0 rfl) ?_
    refine lv_iload_n hx hb dX4_refusalOfTwo_9 rfl (lv_at hl 2 rfl) ?_
    refine g_cali (g_runV S hml hK hW (c_X4_isHeight l D cA a u1 xp2 _ h _) kw_213 kw_215 kw_1 kw_19 kw_216 hd_X4_isHeight ⟨rfl, rfl, Nat.le_of_ble_eq_true rfl, Nat.le_of_ble_eq_true rfl⟩ (q0 := 0) rfl rfl (As := [.int xp2]) (rest := []) rfl rfl hl.1 (Nat.le_of_ble_eq_true rfl) dX4_refusalOfTwo_10 ⟨Nat.zero_le _, Nat.zero_le _⟩) (Xw_adr cA a) hA hW (fun x5 u4 H locs h hW => ?_)
    refine lv_if_ne (tgt := 19) hx hb dX4_refusalOfTwo_13 (by decide) (fun c6 => ?_) (fun c6 => ?_)
    · have h := h.2 c6
      refine lv_aload_n hx hb dX4_refusalOfTwo_19 rfl (lv_at hl 0 rfl) ?_
      refine xg_0_1 S hK hW kw_150 dX4_refusalOfTwo_20 ?_
      refine lv_iload_n hx hb dX4_refusalOfTwo_23 rfl (lv_at hl 1 rfl) ?_
      refine g_cali (g_runV S hml hK hW (c_X1_isGone l D cA a u4 xp1 _ h _) kw_221 kw_222 kw_223 kw_21 kw_224 hd_X1_isGone ⟨rfl, rfl, Nat.le_of_ble_eq_true rfl, Nat.le_of_ble_eq_true rfl⟩ (q0 := 2) rfl rfl (As := [.int xp1]) (rest := []) rfl rfl hl.1 (Nat.le_of_ble_eq_true rfl) dX4_refusalOfTwo_24 ⟨Nat.zero_le _, Nat.zero_le _⟩) (Xw_adr cA a) hA hW (fun x8 u7 H locs h hW => ?_)
      refine lv_if_ne (tgt := 41) hx hb dX4_refusalOfTwo_27 (by decide) (fun c9 => ?_) (fun c9 => ?_)
      · have h := h.2 c9
        refine lv_bipush (v := (-104)) hx hb dX4_refusalOfTwo_41 (by decide) ?_
        exact hret _ _ _ _ _ _ dX4_refusalOfTwo_43 hW h
      · have h := h.1 c9
        refine lv_aload_n hx hb dX4_refusalOfTwo_30 rfl (lv_at hl 0 rfl) ?_
        refine xg_0_1 S hK hW kw_150 dX4_refusalOfTwo_31 ?_
        refine lv_iload_n hx hb dX4_refusalOfTwo_34 rfl (lv_at hl 2 rfl) ?_
        refine g_cali (g_runV S hml hK hW (c_X1_isGone l D cA a u7 xp2 _ h _) kw_221 kw_222 kw_223 kw_21 kw_224 hd_X1_isGone ⟨rfl, rfl, Nat.le_of_ble_eq_true rfl, Nat.le_of_ble_eq_true rfl⟩ (q0 := 2) rfl rfl (As := [.int xp2]) (rest := []) rfl rfl hl.1 (Nat.le_of_ble_eq_true rfl) dX4_refusalOfTwo_35 ⟨Nat.zero_le _, Nat.zero_le _⟩) (Xw_adr cA a) hA hW (fun x11 u10 H locs h hW => ?_)
        refine lv_if_eq (tgt := 44) hx hb dX4_refusalOfTwo_38 (by decide) (fun c12 => ?_) (fun c12 => ?_)
        · have h := h.1 c12
          refine lv_iconst (v := 0) hx hb dX4_refusalOfTwo_44 (by decide) ?_
          exact hret _ _ _ _ _ _ dX4_refusalOfTwo_45 hW h
        · have h := h.2 c12
          refine lv_bipush (v := (-104)) hx hb dX4_refusalOfTwo_41 (by decide) ?_
          exact hret _ _ _ _ _ _ dX4_refusalOfTwo_43 hW h
    · have h := h.1 c6
      refine lv_bipush (v := (-101)) hx hb dX4_refusalOfTwo_16 (by decide) ?_
      exact hret _ _ _ _ _ _ dX4_refusalOfTwo_18 hW h
def w_X4_loadTwo (xp1 : Int32) (xp2 : Int32) (u : Mem) (post : Mem → Prop) : Prop := w_X2_load xp1 1 32 u (fun u1 => w_X2_load xp2 2 32 u1 (fun u2 => post u2))
abbrev rm_X4_loadTwo : Room := { frames := 2, cells := 0, slots := 0, locals := 47 }
theorem hd_X4_loadTwo : yX4_loadTwo.cls ≠ "java/lang/invoke/MethodHandle" ∧ yX4_loadTwo.cls ≠ "java/lang/invoke/VarHandle" ∧ (parseMethodDescriptor yX4_loadTwo.desc).map (fun d => d.parameters.length) = some 2 := by decide +kernel
set_option maxHeartbeats 4000000 in
set_option maxRecDepth 100000 in
theorem c_X4_loadTwo (l : Launch) (D : va_G) (cA : ClassId) (a : Nat → Nat) (u : Mem) (xp1 xp2 : Int32) (post : Mem → Prop) (h : w_X4_loadTwo xp1 xp2 u post) : g_Mv l yX4_loadTwo (Cond.code yX4_loadTwo cX4_loadTwo 3 none :: tT) rm_X4_loadTwo D cA (Xw cA a) u [.ref (a 0), .int xp1, .int xp2] post := by
  refine g_enter_v (by decide) (Xw_adr cA a) (Nat.le_of_ble_eq_true rfl) ?_
  intro p e s m args below meth c A Q S hml hK hA hret ls hl hW
  have hx := S.1
  have hb := S.2.1
  have hl : lv_has ls 3 [(0, .ref (a 0)), (1, .int xp1), (2, .int xp2)] := hl
  skip
  refine lv_aload_n hx hb dX4_loadTwo_0 rfl (lv_at hl 0 rfl) ?_
  refine xg_0_0 S hK hW kw_149 dX4_loadTwo_1 ?_
  refine lv_iload_n hx hb dX4_loadTwo_4 rfl (lv_at hl 1 rfl) ?_
  refine lv_aload_n hx hb dX4_loadTwo_5 rfl (lv_at hl 0 rfl) ?_
  refine xg_0_5 S hK hW kw_154 dX4_loadTwo_6 ?_
  refine g_calv (g_runV S hml hK hW (c_X2_load_1 l D cA a u xp1 _ h _) kw_262 kw_263 kw_264 kw_20 kw_265 hd_X2_load ⟨rfl, rfl, Nat.le_of_ble_eq_true rfl, Nat.le_of_ble_eq_true rfl⟩ (q0 := 1) rfl rfl (As := [.int xp1, .ref (a 6)]) (rest := []) rfl rfl hl.1 (Nat.le_of_ble_eq_true rfl) dX4_loadTwo_9 ⟨Nat.zero_le _, Nat.zero_le _⟩) (Xw_adr cA a) hA hW (fun u1 H locs h hW => ?_)
  refine lv_aload_n hx hb dX4_loadTwo_12 rfl (lv_at hl 0 rfl) ?_
  refine xg_0_0 S hK hW kw_149 dX4_loadTwo_13 ?_
  refine lv_iload_n hx hb dX4_loadTwo_16 rfl (lv_at hl 2 rfl) ?_
  refine lv_aload_n hx hb dX4_loadTwo_17 rfl (lv_at hl 0 rfl) ?_
  refine xg_0_6 S hK hW kw_155 dX4_loadTwo_18 ?_
  refine g_calv (g_runV S hml hK hW (c_X2_load_2 l D cA a u1 xp2 _ h _) kw_262 kw_263 kw_264 kw_20 kw_265 hd_X2_load ⟨rfl, rfl, Nat.le_of_ble_eq_true rfl, Nat.le_of_ble_eq_true rfl⟩ (q0 := 1) rfl rfl (As := [.int xp2, .ref (a 7)]) (rest := []) rfl rfl hl.1 (Nat.le_of_ble_eq_true rfl) dX4_loadTwo_21 ⟨Nat.zero_le _, Nat.zero_le _⟩) (Xw_adr cA a) hA hW (fun u2 H locs h hW => ?_)
  exact hret _ _ _ _ _ dX4_loadTwo_24 hW h
def L_X4_differs_25 (f1_25 : Int32) (f2_25 : Int32) (f3_25 : Int32) (post : Int32 → Mem → Prop) (K : Int32 → Int32 → Mem → Prop) : Nat → Int32 → Int32 → Mem → Prop
  | 0, _, _, _ => False
  | n_25 + 1, y4_25, y5_25, u_25 => (32 ≤ y5_25 → (K y4_25 y5_25 u_25)) ∧ (¬ 32 ≤ y5_25 → (vp_in y5_25 32 ∧ nm (u_25 1 (y5_25 : Int32).toNatClampNeg) fun x6 => vp_in y5_25 32 ∧ nm (u_25 2 (y5_25 : Int32).toNatClampNeg) fun x7 => (x6 = x7 → (nm (y5_25 + 1) fun x9 => L_X4_differs_25 f1_25 f2_25 f3_25 post K n_25 y4_25 x9 u_25)) ∧ (¬ x6 = x7 → (nm (y4_25 + 1) fun x10 => nm (y5_25 + 1) fun x11 => L_X4_differs_25 f1_25 f2_25 f3_25 post K n_25 x10 x11 u_25))))
def w_X4_differs (xp1 : Int32) (xp2 : Int32) (u : Mem) (post : Int32 → Mem → Prop) : Prop := w_X4_refusalOfTwo xp1 xp2 u (fun x2 u1 => (x2 = 0 → (w_X4_loadTwo xp1 xp2 u1 (fun u4 => ∃ n_25, L_X4_differs_25 xp1 xp2 x2 post (fun w4_25 w5_25 v_25 => post w4_25 v_25) n_25 0 0 u4))) ∧ (¬ x2 = 0 → (post x2 u1)))
abbrev rm_X4_differs : Room := { frames := 3, cells := 0, slots := 0, locals := 69 }
theorem hd_X4_differs : yX4_differs.cls ≠ "java/lang/invoke/MethodHandle" ∧ yX4_differs.cls ≠ "java/lang/invoke/VarHandle" ∧ (parseMethodDescriptor yX4_differs.desc).map (fun d => d.parameters.length) = some 2 := by decide +kernel
set_option maxHeartbeats 4000000 in
set_option maxRecDepth 100000 in
theorem c_X4_differs (l : Launch) (D : va_G) (cA : ClassId) (a : Nat → Nat) (u : Mem) (xp1 xp2 : Int32) (post : Int32 → Mem → Prop) (h : w_X4_differs xp1 xp2 u post) : g_Mi l yX4_differs (Cond.code yX4_differs cX4_differs 6 (some .int) :: tT) rm_X4_differs D cA (Xw cA a) u [.ref (a 0), .int xp1, .int xp2] post := by
  refine g_enter_i (by decide) (Xw_adr cA a) (Nat.le_of_ble_eq_true rfl) ?_
  intro p e s m args below meth c A Q S hml hK hA hret ls hl hW
  have hx := S.1
  have hb := S.2.1
  have hl : lv_has ls 6 [(0, .ref (a 0)), (1, .int xp1), (2, .int xp2)] := hl
  skip
  refine lv_aload_n hx hb dX4_differs_0 rfl (lv_at hl 0 rfl) ?_
  refine lv_iload_n hx hb dX4_differs_1 rfl (lv_at hl 1 rfl) ?_
  refine lv_iload_n hx hb dX4_differs_2 rfl (lv_at hl 2 rfl) ?_
  refine g_cali (g_runV S hml hK hW (c_X4_refusalOfTwo l D cA a u xp1 xp2 _ h _) kw_254 kw_256 kw_2 kw_19 kw_257 hd_X4_refusalOfTwo ⟨rfl, rfl, Nat.le_of_ble_eq_true rfl, Nat.le_of_ble_eq_true rfl⟩ (q0 := 0) rfl rfl (As := [.int xp1, .int xp2]) (rest := []) rfl rfl hl.1 (Nat.le_of_ble_eq_true rfl) dX4_differs_3 ⟨Nat.zero_le _, Nat.zero_le _⟩) (Xw_adr cA a) hA hW (fun x2 u1 H locs h hW => ?_)
  refine lv_istore_n (lv' := [(3, .int x2), (0, .ref (a 0)), (1, .int xp1), (2, .int xp2)]) hx hb dX4_differs_6 rfl hl (by decide) rfl (fun ls hl => ?_)
  refine lv_iload_n hx hb dX4_differs_7 rfl (lv_at hl 0 rfl) ?_
  refine lv_if_eq (tgt := 13) hx hb dX4_differs_8 (by decide) (fun c3 => ?_) (fun c3 => ?_)
  · have h := h.1 c3
    refine lv_aload_n hx hb dX4_differs_13 rfl (lv_at hl 1 rfl) ?_
    refine lv_iload_n hx hb dX4_differs_14 rfl (lv_at hl 2 rfl) ?_
    refine lv_iload_n hx hb dX4_differs_15 rfl (lv_at hl 3 rfl) ?_
    refine g_calv (g_runV S hml hK hW (c_X4_loadTwo l D cA a u1 xp1 xp2 _ h _) kw_258 kw_260 kw_3 kw_19 kw_261 hd_X4_loadTwo ⟨rfl, rfl, Nat.le_of_ble_eq_true rfl, Nat.le_of_ble_eq_true rfl⟩ (q0 := 0) rfl rfl (As := [.int xp1, .int xp2]) (rest := []) rfl rfl hl.1 (Nat.le_of_ble_eq_true rfl) dX4_differs_16 ⟨Nat.zero_le _, Nat.zero_le _⟩) (Xw_adr cA a) hA hW (fun u4 H locs h hW => ?_)
    refine lv_iconst (v := 0) hx hb dX4_differs_19 (by decide) ?_
    refine lv_istore (lv' := [(4, .int 0), (3, .int x2), (0, .ref (a 0)), (1, .int xp1), (2, .int xp2)]) hx hb dX4_differs_20 hl (by decide) rfl (fun ls hl => ?_)
    refine lv_iconst (v := 0) hx hb dX4_differs_22 (by decide) ?_
    refine lv_istore (lv' := [(5, .int 0), (4, .int 0), (3, .int x2), (0, .ref (a 0)), (1, .int xp1), (2, .int xp2)]) hx hb dX4_differs_23 hl (by decide) rfl (fun ls hl => ?_)
    have loop_25 : ∀ (K : Int32 → Int32 → Mem → Prop), (∀ (w4_25 w5_25 : Int32) (v_25 : Mem) (H : Heap) (locs : List Loc) (ls : Array Slot), K w4_25 w5_25 v_25 → g_W D (Xw cA a) A s.heap v_25 H locs → lv_has ls 6 [(0, .ref (a 0)), (1, .int xp1), (2, .int xp2), (3, .int x2), (4, .int w4_25), (5, .int w5_25)] → W p l e rm_X4_differs s m args below meth c H locs 0 0 Q (F0 m 58 ls [])) → ∀ (n : Nat) (y4_25 y5_25 : Int32) (u_25 : Mem) (H : Heap) (locs : List Loc) (ls : Array Slot), L_X4_differs_25 xp1 xp2 x2 post K n y4_25 y5_25 u_25 → g_W D (Xw cA a) A s.heap u_25 H locs → lv_has ls 6 [(0, .ref (a 0)), (1, .int xp1), (2, .int xp2), (3, .int x2), (4, .int y4_25), (5, .int y5_25)] → W p l e rm_X4_differs s m args below meth c H locs 0 0 Q (F0 m 25 ls []) := by
      intro K hE n
      induction n with
      | zero => intro y4_25 y5_25 u_25 H locs ls h; exact False.elim h
      | succ n ih =>
        intro y4_25 y5_25 u_25 H locs ls h hW hl
        refine lv_iload hx hb dX4_differs_25 (lv_at hl 5 rfl) ?_
        refine lv_bipush (v := 32) hx hb dX4_differs_27 (by decide) ?_
        refine lv_icmp_ge (tgt := 58) hx hb dX4_differs_29 (by decide) (fun c12 => ?_) (fun c12 => ?_)
        · have h := h.1 c12
          exact hE y4_25 y5_25 u_25 _ _ _ h hW (lv_sub hl [0, 1, 2, 3, 4, 5] rfl)
        · have h := h.2 c12
          refine lv_aload_n hx hb dX4_differs_32 rfl (lv_at hl 0 rfl) ?_
          refine xg_0_5 S hK hW kw_154 dX4_differs_33 ?_
          refine lv_iload hx hb dX4_differs_36 (lv_at hl 5 rfl) ?_
          obtain ⟨hin, h⟩ := h
          refine xl_1 S hK hW hin dX4_differs_38 (fun x13 ex13 => ?_)
          have h := nm_use ex13 h
          refine lv_aload_n hx hb dX4_differs_39 rfl (lv_at hl 0 rfl) ?_
          refine xg_0_6 S hK hW kw_155 dX4_differs_40 ?_
          refine lv_iload hx hb dX4_differs_43 (lv_at hl 5 rfl) ?_
          obtain ⟨hin, h⟩ := h
          refine xl_2 S hK hW hin dX4_differs_45 (fun x14 ex14 => ?_)
          have h := nm_use ex14 h
          refine lv_icmp_eq (tgt := 52) hx hb dX4_differs_46 (by decide) (fun c15 => ?_) (fun c15 => ?_)
          · have h := h.1 c15
            obtain ⟨x16, ex16⟩ : ∃ z : Int32, z = y5_25 + 1 := ⟨_, rfl⟩
            have h := nm_use ex16 h
            refine lv_iinc (v := x16) (lv' := [(5, .int x16), (0, .ref (a 0)), (1, .int xp1), (2, .int xp2), (3, .int x2), (4, .int y4_25)]) hx hb dX4_differs_52 hl (k := 5) rfl (by rw [ex16]; rfl) (by decide) rfl (fun ls hl => ?_)
            refine lv_goto (tgt := 25) hx hb dX4_differs_55 (by decide) ?_
            exact ih y4_25 x16 u_25 _ _ _ h hW (lv_sub hl [1, 2, 3, 4, 5, 0] rfl)
          · have h := h.2 c15
            obtain ⟨x17, ex17⟩ : ∃ z : Int32, z = y4_25 + 1 := ⟨_, rfl⟩
            have h := nm_use ex17 h
            refine lv_iinc (v := x17) (lv' := [(4, .int x17), (0, .ref (a 0)), (1, .int xp1), (2, .int xp2), (3, .int x2), (5, .int y5_25)]) hx hb dX4_differs_49 hl (k := 4) rfl (by rw [ex17]; rfl) (by decide) rfl (fun ls hl => ?_)
            obtain ⟨x18, ex18⟩ : ∃ z : Int32, z = y5_25 + 1 := ⟨_, rfl⟩
            have h := nm_use ex18 h
            refine lv_iinc (v := x18) (lv' := [(5, .int x18), (4, .int x17), (0, .ref (a 0)), (1, .int xp1), (2, .int xp2), (3, .int x2)]) hx hb dX4_differs_52 hl (k := 5) rfl (by rw [ex18]; rfl) (by decide) rfl (fun ls hl => ?_)
            refine lv_goto (tgt := 25) hx hb dX4_differs_55 (by decide) ?_
            exact ih x17 x18 u_25 _ _ _ h hW (lv_sub hl [2, 3, 4, 5, 1, 0] rfl)
    obtain ⟨n_25, h⟩ := h
    refine loop_25 _ ?_ n_25 0 0 u4 _ _ _ h hW (lv_sub hl [3, 4, 5, 2, 1, 0] rfl)
    intro w4_25 w5_25 v_25 H locs ls h hW hl
    refine lv_iload hx hb dX4_differs_58 (lv_at hl 4 rfl) ?_
    exact hret _ _ _ _ _ _ dX4_differs_60 hW h
  · have h := h.2 c3
    refine lv_iload_n hx hb dX4_differs_11 rfl (lv_at hl 0 rfl) ?_
    exact hret _ _ _ _ _ _ dX4_differs_12 hW h
def L_X4_difference_28 (f1_28 : Int32) (f2_28 : Int32) (f3_28 : Int32) (f4_28 : Int32) (post : Int32 → Mem → Prop) (K : Int32 → Int32 → Mem → Prop) : Nat → Int32 → Int32 → Mem → Prop
  | 0, _, _, _ => False
  | n_28 + 1, y5_28, y6_28, u_28 => (32 ≤ y6_28 → (K y5_28 y6_28 u_28)) ∧ (¬ 32 ≤ y6_28 → (vp_in y6_28 32 ∧ nm (u_28 1 (y6_28 : Int32).toNatClampNeg) fun x6 => vp_in y6_28 32 ∧ nm (u_28 2 (y6_28 : Int32).toNatClampNeg) fun x7 => (x6 = x7 → (nm (y6_28 + 1) fun x12 => L_X4_difference_28 f1_28 f2_28 f3_28 f4_28 post K n_28 y5_28 x12 u_28)) ∧ (¬ x6 = x7 → ((y5_28 = f3_28 → (post y6_28 u_28)) ∧ (¬ y5_28 = f3_28 → (nm (y5_28 + 1) fun x10 => nm (y6_28 + 1) fun x11 => L_X4_difference_28 f1_28 f2_28 f3_28 f4_28 post K n_28 x10 x11 u_28))))))
def w_X4_difference (xp1 : Int32) (xp2 : Int32) (xp3 : Int32) (u : Mem) (post : Int32 → Mem → Prop) : Prop := w_X4_refusalOfTwo xp1 xp2 u (fun x2 u1 => (x2 = 0 → (w_X4_loadTwo xp1 xp2 u1 (fun u4 => ∃ n_28, L_X4_difference_28 xp1 xp2 xp3 x2 post (fun w5_28 w6_28 v_28 => post (-1) v_28) n_28 0 0 u4))) ∧ (¬ x2 = 0 → (post x2 u1)))
abbrev rm_X4_difference : Room := { frames := 3, cells := 0, slots := 0, locals := 69 }
theorem hd_X4_difference : yX4_difference.cls ≠ "java/lang/invoke/MethodHandle" ∧ yX4_difference.cls ≠ "java/lang/invoke/VarHandle" ∧ (parseMethodDescriptor yX4_difference.desc).map (fun d => d.parameters.length) = some 3 := by decide +kernel
set_option maxHeartbeats 4000000 in
set_option maxRecDepth 100000 in
theorem c_X4_difference (l : Launch) (D : va_G) (cA : ClassId) (a : Nat → Nat) (u : Mem) (xp1 xp2 xp3 : Int32) (post : Int32 → Mem → Prop) (h : w_X4_difference xp1 xp2 xp3 u post) : g_Mi l yX4_difference (Cond.code yX4_difference cX4_difference 7 (some .int) :: tT) rm_X4_difference D cA (Xw cA a) u [.ref (a 0), .int xp1, .int xp2, .int xp3] post := by
  refine g_enter_i (by decide) (Xw_adr cA a) (Nat.le_of_ble_eq_true rfl) ?_
  intro p e s m args below meth c A Q S hml hK hA hret ls hl hW
  have hx := S.1
  have hb := S.2.1
  have hl : lv_has ls 7 [(0, .ref (a 0)), (1, .int xp1), (2, .int xp2), (3, .int xp3)] := hl
  skip
  refine lv_aload_n hx hb dX4_difference_0 rfl (lv_at hl 0 rfl) ?_
  refine lv_iload_n hx hb dX4_difference_1 rfl (lv_at hl 1 rfl) ?_
  refine lv_iload_n hx hb dX4_difference_2 rfl (lv_at hl 2 rfl) ?_
  refine g_cali (g_runV S hml hK hW (c_X4_refusalOfTwo l D cA a u xp1 xp2 _ h _) kw_254 kw_256 kw_2 kw_19 kw_257 hd_X4_refusalOfTwo ⟨rfl, rfl, Nat.le_of_ble_eq_true rfl, Nat.le_of_ble_eq_true rfl⟩ (q0 := 0) rfl rfl (As := [.int xp1, .int xp2]) (rest := []) rfl rfl hl.1 (Nat.le_of_ble_eq_true rfl) dX4_difference_3 ⟨Nat.zero_le _, Nat.zero_le _⟩) (Xw_adr cA a) hA hW (fun x2 u1 H locs h hW => ?_)
  refine lv_istore (lv' := [(4, .int x2), (0, .ref (a 0)), (1, .int xp1), (2, .int xp2), (3, .int xp3)]) hx hb dX4_difference_6 hl (by decide) rfl (fun ls hl => ?_)
  refine lv_iload hx hb dX4_difference_8 (lv_at hl 0 rfl) ?_
  refine lv_if_eq (tgt := 16) hx hb dX4_difference_10 (by decide) (fun c3 => ?_) (fun c3 => ?_)
  · have h := h.1 c3
    refine lv_aload_n hx hb dX4_difference_16 rfl (lv_at hl 1 rfl) ?_
    refine lv_iload_n hx hb dX4_difference_17 rfl (lv_at hl 2 rfl) ?_
    refine lv_iload_n hx hb dX4_difference_18 rfl (lv_at hl 3 rfl) ?_
    refine g_calv (g_runV S hml hK hW (c_X4_loadTwo l D cA a u1 xp1 xp2 _ h _) kw_258 kw_260 kw_3 kw_19 kw_261 hd_X4_loadTwo ⟨rfl, rfl, Nat.le_of_ble_eq_true rfl, Nat.le_of_ble_eq_true rfl⟩ (q0 := 0) rfl rfl (As := [.int xp1, .int xp2]) (rest := []) rfl rfl hl.1 (Nat.le_of_ble_eq_true rfl) dX4_difference_19 ⟨Nat.zero_le _, Nat.zero_le _⟩) (Xw_adr cA a) hA hW (fun u4 H locs h hW => ?_)
    refine lv_iconst (v := 0) hx hb dX4_difference_22 (by decide) ?_
    refine lv_istore (lv' := [(5, .int 0), (4, .int x2), (0, .ref (a 0)), (1, .int xp1), (2, .int xp2), (3, .int xp3)]) hx hb dX4_difference_23 hl (by decide) rfl (fun ls hl => ?_)
    refine lv_iconst (v := 0) hx hb dX4_difference_25 (by decide) ?_
    refine lv_istore (lv' := [(6, .int 0), (5, .int 0), (4, .int x2), (0, .ref (a 0)), (1, .int xp1), (2, .int xp2), (3, .int xp3)]) hx hb dX4_difference_26 hl (by decide) rfl (fun ls hl => ?_)
    have loop_28 : ∀ (K : Int32 → Int32 → Mem → Prop), (∀ (w5_28 w6_28 : Int32) (v_28 : Mem) (H : Heap) (locs : List Loc) (ls : Array Slot), K w5_28 w6_28 v_28 → g_W D (Xw cA a) A s.heap v_28 H locs → lv_has ls 7 [(0, .ref (a 0)), (1, .int xp1), (2, .int xp2), (3, .int xp3), (4, .int x2), (5, .int w5_28), (6, .int w6_28)] → W p l e rm_X4_difference s m args below meth c H locs 0 0 Q (F0 m 73 ls [])) → ∀ (n : Nat) (y5_28 y6_28 : Int32) (u_28 : Mem) (H : Heap) (locs : List Loc) (ls : Array Slot), L_X4_difference_28 xp1 xp2 xp3 x2 post K n y5_28 y6_28 u_28 → g_W D (Xw cA a) A s.heap u_28 H locs → lv_has ls 7 [(0, .ref (a 0)), (1, .int xp1), (2, .int xp2), (3, .int xp3), (4, .int x2), (5, .int y5_28), (6, .int y6_28)] → W p l e rm_X4_difference s m args below meth c H locs 0 0 Q (F0 m 28 ls []) := by
      intro K hE n
      induction n with
      | zero => intro y5_28 y6_28 u_28 H locs ls h; exact False.elim h
      | succ n ih =>
        intro y5_28 y6_28 u_28 H locs ls h hW hl
        refine lv_iload hx hb dX4_difference_28 (lv_at hl 6 rfl) ?_
        refine lv_bipush (v := 32) hx hb dX4_difference_30 (by decide) ?_
        refine lv_icmp_ge (tgt := 73) hx hb dX4_difference_32 (by decide) (fun c13 => ?_) (fun c13 => ?_)
        · have h := h.1 c13
          exact hE y5_28 y6_28 u_28 _ _ _ h hW (lv_sub hl [0, 1, 2, 3, 4, 5, 6] rfl)
        · have h := h.2 c13
          refine lv_aload_n hx hb dX4_difference_35 rfl (lv_at hl 0 rfl) ?_
          refine xg_0_5 S hK hW kw_154 dX4_difference_36 ?_
          refine lv_iload hx hb dX4_difference_39 (lv_at hl 6 rfl) ?_
          obtain ⟨hin, h⟩ := h
          refine xl_1 S hK hW hin dX4_difference_41 (fun x14 ex14 => ?_)
          have h := nm_use ex14 h
          refine lv_aload_n hx hb dX4_difference_42 rfl (lv_at hl 0 rfl) ?_
          refine xg_0_6 S hK hW kw_155 dX4_difference_43 ?_
          refine lv_iload hx hb dX4_difference_46 (lv_at hl 6 rfl) ?_
          obtain ⟨hin, h⟩ := h
          refine xl_2 S hK hW hin dX4_difference_48 (fun x15 ex15 => ?_)
          have h := nm_use ex15 h
          refine lv_icmp_ne (tgt := 55) hx hb dX4_difference_49 (by decide) (fun c16 => ?_) (fun c16 => ?_)
          · have h := h.2 c16
            refine lv_iload hx hb dX4_difference_55 (lv_at hl 5 rfl) ?_
            refine lv_iload_n hx hb dX4_difference_57 rfl (lv_at hl 3 rfl) ?_
            refine lv_icmp_ne (tgt := 64) hx hb dX4_difference_58 (by decide) (fun c17 => ?_) (fun c17 => ?_)
            · have h := h.2 c17
              obtain ⟨x18, ex18⟩ : ∃ z : Int32, z = y5_28 + 1 := ⟨_, rfl⟩
              have h := nm_use ex18 h
              refine lv_iinc (v := x18) (lv' := [(5, .int x18), (0, .ref (a 0)), (1, .int xp1), (2, .int xp2), (3, .int xp3), (4, .int x2), (6, .int y6_28)]) hx hb dX4_difference_64 hl (k := 5) rfl (by rw [ex18]; rfl) (by decide) rfl (fun ls hl => ?_)
              obtain ⟨x19, ex19⟩ : ∃ z : Int32, z = y6_28 + 1 := ⟨_, rfl⟩
              have h := nm_use ex19 h
              refine lv_iinc (v := x19) (lv' := [(6, .int x19), (5, .int x18), (0, .ref (a 0)), (1, .int xp1), (2, .int xp2), (3, .int xp3), (4, .int x2)]) hx hb dX4_difference_67 hl (k := 6) rfl (by rw [ex19]; rfl) (by decide) rfl (fun ls hl => ?_)
              refine lv_goto (tgt := 28) hx hb dX4_difference_70 (by decide) ?_
              exact ih x18 x19 u_28 _ _ _ h hW (lv_sub hl [2, 3, 4, 5, 6, 1, 0] rfl)
            · have h := h.1 c17
              refine lv_iload hx hb dX4_difference_61 (lv_at hl 6 rfl) ?_
              exact hret _ _ _ _ _ _ dX4_difference_63 hW h
          · have h := h.1 c16
            refine lv_goto (tgt := 67) hx hb dX4_difference_52 (by decide) ?_
            obtain ⟨x20, ex20⟩ : ∃ z : Int32, z = y6_28 + 1 := ⟨_, rfl⟩
            have h := nm_use ex20 h
            refine lv_iinc (v := x20) (lv' := [(6, .int x20), (0, .ref (a 0)), (1, .int xp1), (2, .int xp2), (3, .int xp3), (4, .int x2), (5, .int y5_28)]) hx hb dX4_difference_67 hl (k := 6) rfl (by rw [ex20]; rfl) (by decide) rfl (fun ls hl => ?_)
            refine lv_goto (tgt := 28) hx hb dX4_difference_70 (by decide) ?_
            exact ih y5_28 x20 u_28 _ _ _ h hW (lv_sub hl [1, 2, 3, 4, 5, 6, 0] rfl)
    obtain ⟨n_28, h⟩ := h
    refine loop_28 _ ?_ n_28 0 0 u4 _ _ _ h hW (lv_sub hl [3, 4, 5, 6, 2, 1, 0] rfl)
    intro w5_28 w6_28 v_28 H locs ls h hW hl
    refine lv_iconst (v := (-1)) hx hb dX4_difference_73 (by decide) ?_
    exact hret _ _ _ _ _ _ dX4_difference_74 hW h
  · have h := h.2 c3
    refine lv_iload hx hb dX4_difference_13 (lv_at hl 0 rfl) ?_
    exact hret _ _ _ _ _ _ dX4_difference_15 hW h
def w_X4_rule (xp1 : Int32) (u : Mem) (post : Int32 → Mem → Prop) : Prop := (xp1 < 0 → (post (-102) u)) ∧ (¬ xp1 < 0 → ((xp1 ≤ 100 → (nm (g_ms u 15 0 xp1) fun u3 => post (u 15 0) u3)) ∧ (¬ xp1 ≤ 100 → (post (-102) u))))
abbrev rm_X4_rule : Room := { frames := 0, cells := 0, slots := 0, locals := 0 }
theorem hd_X4_rule : yX4_rule.cls ≠ "java/lang/invoke/MethodHandle" ∧ yX4_rule.cls ≠ "java/lang/invoke/VarHandle" ∧ (parseMethodDescriptor yX4_rule.desc).map (fun d => d.parameters.length) = some 1 := by decide +kernel
set_option maxHeartbeats 4000000 in
set_option maxRecDepth 100000 in
theorem c_X4_rule (l : Launch) (D : va_G) (cA : ClassId) (a : Nat → Nat) (u : Mem) (xp1 : Int32) (post : Int32 → Mem → Prop) (h : w_X4_rule xp1 u post) : g_Mi l yX4_rule (Cond.code yX4_rule cX4_rule 3 (some .int) :: tT) rm_X4_rule D cA (Xw cA a) u [.ref (a 0), .int xp1] post := by
  refine g_enter_i (by decide) (Xw_adr cA a) (Nat.le_of_ble_eq_true rfl) ?_
  intro p e s m args below meth c A Q S hml hK hA hret ls hl hW
  have hx := S.1
  have hb := S.2.1
  have hl : lv_has ls 3 [(0, .ref (a 0)), (1, .int xp1)] := hl
  skip
  refine lv_iload_n hx hb dX4_rule_0 rfl (lv_at hl 1 rfl) ?_
  refine lv_if_lt (tgt := 10) hx hb dX4_rule_1 (by decide) (fun c1 => ?_) (fun c1 => ?_)
  · have h := h.1 c1
    refine lv_bipush (v := (-102)) hx hb dX4_rule_10 (by decide) ?_
    exact hret _ _ _ _ _ _ dX4_rule_12 hW h
  · have h := h.2 c1
    refine lv_iload_n hx hb dX4_rule_4 rfl (lv_at hl 1 rfl) ?_
    refine lv_bipush (v := 100) hx hb dX4_rule_5 (by decide) ?_
    refine lv_icmp_le (tgt := 13) hx hb dX4_rule_7 (by decide) (fun c2 => ?_) (fun c2 => ?_)
    · have h := h.1 c2
      refine lv_aload_n hx hb dX4_rule_13 rfl (lv_at hl 0 rfl) ?_
      refine xg_0_7 S hK hW kw_156 dX4_rule_14 ?_
      refine lv_istore_n (lv' := [(2, .int (u 15 0)), (0, .ref (a 0)), (1, .int xp1)]) hx hb dX4_rule_17 rfl hl (by decide) rfl (fun ls hl => ?_)
      refine lv_aload_n hx hb dX4_rule_18 rfl (lv_at hl 1 rfl) ?_
      refine lv_iload_n hx hb dX4_rule_19 rfl (lv_at hl 2 rfl) ?_
      refine xp_15 S hK hW kw_156 dX4_rule_20 (fun u3 H locs eu3 hW => ?_)
      have h := nm_use eu3 h
      refine lv_iload_n hx hb dX4_rule_23 rfl (lv_at hl 0 rfl) ?_
      exact hret _ _ _ _ _ _ dX4_rule_24 hW h
    · have h := h.2 c2
      refine lv_bipush (v := (-102)) hx hb dX4_rule_10 (by decide) ?_
      exact hret _ _ _ _ _ _ dX4_rule_12 hW h
