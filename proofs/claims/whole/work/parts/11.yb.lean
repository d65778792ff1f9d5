def w_X5_goes (xp1 : Int32) (u : Mem) (post : Int32 → Mem → Prop) : Prop := vp_in xp1 201 ∧ nm (u 2 (xp1 : Int32).toNatClampNeg) fun x1 => (x1 = 0 → (((u 17 0) = 0 → (post 1 u)) ∧ (¬ (u 17 0) = 0 → (¬ (u 17 0) = 0 ∧ nm (xp1 - xp1 / (u 17 0) * (u 17 0)) fun x4 => (x4 = 0 → (post 0 u)) ∧ (¬ x4 = 0 → (post 1 u)))))) ∧ (¬ x1 = 0 → (post 0 u))
abbrev rm_X5_goes : Room := { frames := 0, cells := 0, slots := 0, locals := 0 }
theorem hd_X5_goes : yX5_goes.cls ≠ "java/lang/invoke/MethodHandle" ∧ yX5_goes.cls ≠ "java/lang/invoke/VarHandle" ∧ (parseMethodDescriptor yX5_goes.desc).map (fun d => d.parameters.length) = some 1 := by decide +kernel
set_option maxHeartbeats 4000000 in
set_option maxRecDepth 100000 in
theorem c_X5_goes (l : Launch) (D : va_G) (cA : ClassId) (b : Nat → Nat) (u : Mem) (xp1 : Int32) (post : Int32 → Mem → Prop) (h : w_X5_goes xp1 u post) : g_Mi l yX5_goes (Cond.code yX5_goes cX5_goes 2 (some .boolean) :: tT) rm_X5_goes D cA (Yw cA b) u [.ref (b 0), .int xp1] post := by
  refine g_enter_z (by decide) (Yw_adr cA b) (Nat.le_of_ble_eq_true rfl) ?_
  intro p e s m args below meth c A Q S hml hK hA hret ls hl hW
  have hx := S.1
  have hb := S.2.1
  have hl : lv_has ls 2 [(0, .ref (b 0)), (1, .int xp1)] := hl
  skip
  refine lv_aload_n hx hb dX5_goes_0 rfl (lv_at hl 0 rfl) ?_
  refine yg_0_3 S hK hW kw_428 dX5_goes_1 ?_
  refine lv_iload_n hx hb dX5_goes_4 rfl (lv_at hl 1 rfl) ?_
  obtain ⟨hin, h⟩ := h
  refine yl_2 S hK hW hin dX5_goes_5 (fun x1 ex1 => ?_)
  have h := nm_use ex1 h
  refine lv_if_ne (tgt := 29) hx hb dX5_goes_6 (by decide) (fun c2 => ?_) (fun c2 => ?_)
  · have h := h.2 c2
    refine lv_iconst (v := 0) hx hb dX5_goes_29 (by decide) ?_
    exact hret _ _ _ _ _ _ dX5_goes_30 hW (Or.inl rfl) h
  · have h := h.1 c2
    refine lv_aload_n hx hb dX5_goes_9 rfl (lv_at hl 0 rfl) ?_
    refine yg_0_15 S hK hW kw_440 dX5_goes_10 ?_
    refine lv_if_eq (tgt := 25) hx hb dX5_goes_13 (by decide) (fun c3 => ?_) (fun c3 => ?_)
    · have h := h.1 c3
      refine lv_iconst (v := 1) hx hb dX5_goes_25 (by decide) ?_
      refine lv_goto (tgt := 30) hx hb dX5_goes_26 (by decide) ?_
      exact hret _ _ _ _ _ _ dX5_goes_30 hW (Or.inr rfl) h
    · have h := h.2 c3
      refine lv_iload_n hx hb dX5_goes_16 rfl (lv_at hl 1 rfl) ?_
      refine lv_aload_n hx hb dX5_goes_17 rfl (lv_at hl 0 rfl) ?_
      refine yg_0_15 S hK hW kw_440 dX5_goes_18 ?_
      obtain ⟨hz, h⟩ := h
      refine lv_irem hx hb dX5_goes_21 hz ?_
      refine lv_topi (fun x4 ex4 => ?_)
      have h := nm_use ex4 h
      refine lv_if_eq (tgt := 29) hx hb dX5_goes_22 (by decide) (fun c5 => ?_) (fun c5 => ?_)
      · have h := h.1 c5
        refine lv_iconst (v := 0) hx hb dX5_goes_29 (by decide) ?_
        exact hret _ _ _ _ _ _ dX5_goes_30 hW (Or.inl rfl) h
      · have h := h.2 c5
        refine lv_iconst (v := 1) hx hb dX5_goes_25 (by decide) ?_
        refine lv_goto (tgt := 30) hx hb dX5_goes_26 (by decide) ?_
        exact hret _ _ _ _ _ _ dX5_goes_30 hW (Or.inr rfl) h
def L_X5_isNeeded_11 (f1_11 : Int32) (post : Int32 → Mem → Prop) (K : Int32 → Int32 → Mem → Prop) : Nat → Int32 → Int32 → Mem → Prop
  | 0, _, _, _ => False
  | n_11 + 1, y2_11, y3_11, u_11 => ((u_11 15 0) ≤ y3_11 → (K y2_11 y3_11 u_11)) ∧ (¬ (u_11 15 0) ≤ y3_11 → (vp_in y3_11 400 ∧ nm (u_11 10 (y3_11 : Int32).toNatClampNeg) fun x4 => (x4 = 0 → (vp_in y3_11 400 ∧ nm (u_11 6 (y3_11 : Int32).toNatClampNeg) fun x7 => vp_in f1_11 400 ∧ nm (u_11 6 (f1_11 : Int32).toNatClampNeg) fun x8 => (x7 = x8 → (vp_in y3_11 400 ∧ nm (u_11 7 (y3_11 : Int32).toNatClampNeg) fun x11 => (y2_11 ≤ x11 → (nm (y3_11 + 1) fun x13 => L_X5_isNeeded_11 f1_11 post K n_11 y2_11 x13 u_11)) ∧ (¬ y2_11 ≤ x11 → (vp_in y3_11 400 ∧ nm (u_11 7 (y3_11 : Int32).toNatClampNeg) fun x14 => nm (y3_11 + 1) fun x15 => L_X5_isNeeded_11 f1_11 post K n_11 x14 x15 u_11)))) ∧ (¬ x7 = x8 → (nm (y3_11 + 1) fun x10 => L_X5_isNeeded_11 f1_11 post K n_11 y2_11 x10 u_11)))) ∧ (¬ x4 = 0 → (nm (y3_11 + 1) fun x6 => L_X5_isNeeded_11 f1_11 post K n_11 y2_11 x6 u_11))))
def L_X5_isNeeded_80 (f1_80 : Int32) (f2_80 : Int32) (post : Int32 → Mem → Prop) (K : Int32 → Int32 → Mem → Prop) : Nat → Int32 → Int32 → Mem → Prop
  | 0, _, _, _ => False
  | n_80 + 1, y3_80, y4_80, u_80 => (f2_80 ≤ y4_80 → (K y3_80 y4_80 u_80)) ∧ (¬ f2_80 ≤ y4_80 → ((y3_80 = 0 → (vp_in y4_80 201 ∧ nm (u_80 2 (y4_80 : Int32).toNatClampNeg) fun x20 => (x20 = 0 → (nm (y4_80 + 1) fun x23 => L_X5_isNeeded_80 f1_80 f2_80 post K n_80 1 x23 u_80)) ∧ (¬ x20 = 0 → (nm (y4_80 + 1) fun x22 => L_X5_isNeeded_80 f1_80 f2_80 post K n_80 0 x22 u_80)))) ∧ (¬ y3_80 = 0 → (nm (y4_80 + 1) fun x19 => L_X5_isNeeded_80 f1_80 f2_80 post K n_80 1 x19 u_80))))
def w_X5_isNeeded (xp1 : Int32) (u : Mem) (post : Int32 → Mem → Prop) : Prop := nm ((u 13 0) + (1 : Int32) : Int32) fun x1 => nm (xp1 + (1 : Int32) : Int32) fun x2 => ∃ n_11, L_X5_isNeeded_11 xp1 post (fun w2_11 w3_11 v_11 => vp_in xp1 400 ∧ nm (v_11 7 (xp1 : Int32).toNatClampNeg) fun x16 => ∃ n_80, L_X5_isNeeded_80 xp1 w2_11 post (fun w3_80 w4_80 v_80 => bz w3_80 ∧ post w3_80 v_80) n_80 0 x16 v_11) n_11 x1 x2 u
abbrev rm_X5_isNeeded : Room := { frames := 0, cells := 0, slots := 0, locals := 0 }
theorem hd_X5_isNeeded : yX5_isNeeded.cls ≠ "java/lang/invoke/MethodHandle" ∧ yX5_isNeeded.cls ≠ "java/lang/invoke/VarHandle" ∧ (parseMethodDescriptor yX5_isNeeded.desc).map (fun d => d.parameters.length) = some 1 := by decide +kernel
set_option maxHeartbeats 4000000 in
set_option maxRecDepth 100000 in
theorem c_X5_isNeeded (l : Launch) (D : va_G) (cA : ClassId) (b : Nat → Nat) (u : Mem) (xp1 : Int32) (post : Int32 → Mem → Prop) (h : w_X5_isNeeded xp1 u post) : g_Mi l yX5_isNeeded (Cond.code yX5_isNeeded cX5_isNeeded 5 (some .boolean) :: tT) rm_X5_isNeeded D cA (Yw cA b) u [.ref (b 0), .int xp1] post := by
  refine g_enter_z (by decide) (Yw_adr cA b) (Nat.le_of_ble_eq_true rfl) ?_
  intro p e s m args below meth c A Q S hml hK hA hret ls hl hW
  have hx := S.1
  have hb := S.2.1
  have hl : lv_has ls 5 [(0, .ref (b 0)), (1, .int xp1)] := hl
  skip
  refine lv_aload_n hx hb dX5_isNeeded_0 rfl (lv_at hl 0 rfl) ?_
  refine yg_0_0 S hK hW kw_425 dX5_isNeeded_1 ?_
  refine lv_iconst (v := 1) hx hb dX5_isNeeded_4 (by decide) ?_
  refine lv_iadd hx hb dX5_isNeeded_5 ?_
  refine lv_topi (fun x1 ex1 => ?_)
  have h := nm_use ex1 h
  refine lv_istore_n (lv' := [(2, .int x1), (0, .ref (b 0)), (1, .int xp1)]) hx hb dX5_isNeeded_6 rfl hl (by decide) rfl (fun ls hl => ?_)
  refine lv_iload_n hx hb dX5_isNeeded_7 rfl (lv_at hl 2 rfl) ?_
  refine lv_iconst (v := 1) hx hb dX5_isNeeded_8 (by decide) ?_
  refine lv_iadd hx hb dX5_isNeeded_9 ?_
  refine lv_topi (fun x2 ex2 => ?_)
  have h := nm_use ex2 h
  refine lv_istore_n (lv' := [(3, .int x2), (2, .int x1), (0, .ref (b 0)), (1, .int xp1)]) hx hb dX5_isNeeded_10 rfl hl (by decide) rfl (fun ls hl => ?_)
  have loop_11 : ∀ (K : Int32 → Int32 → Mem → Prop), (∀ (w2_11 w3_11 : Int32) (v_11 : Mem) (H : Heap) (locs : List Loc) (ls : Array Slot), K w2_11 w3_11 v_11 → g_W D (Yw cA b) A s.heap v_11 H locs → lv_has ls 5 [(0, .ref (b 0)), (1, .int xp1), (2, .int w2_11), (3, .int w3_11)] → W p l e rm_X5_isNeeded s m args below meth c H locs 0 0 Q (F0 m 70 ls [])) → ∀ (n : Nat) (y2_11 y3_11 : Int32) (u_11 : Mem) (H : Heap) (locs : List Loc) (ls : Array Slot), L_X5_isNeeded_11 xp1 post K n y2_11 y3_11 u_11 → g_W D (Yw cA b) A s.heap u_11 H locs → lv_has ls 5 [(0, .ref (b 0)), (1, .int xp1), (2, .int y2_11), (3, .int y3_11)] → W p l e rm_X5_isNeeded s m args below meth c H locs 0 0 Q (F0 m 11 ls []) := by
    intro K hE n
    induction n with
    | zero => intro y2_11 y3_11 u_11 H locs ls h; exact False.elim h
    | succ n ih =>
      intro y2_11 y3_11 u_11 H locs ls h hW hl
      refine lv_iload_n hx hb dX5_isNeeded_11 rfl (lv_at hl 3 rfl) ?_
      refine lv_aload_n hx hb dX5_isNeeded_12 rfl (lv_at hl 0 rfl) ?_
      refine yg_0_8 S hK hW kw_433 dX5_isNeeded_13 ?_
      refine lv_icmp_ge (tgt := 70) hx hb dX5_isNeeded_16 (by decide) (fun c31 => ?_) (fun c31 => ?_)
      · have h := h.1 c31
        exact hE y2_11 y3_11 u_11 _ _ _ h hW (lv_sub hl [0, 1, 2, 3] rfl)
      · have h := h.2 c31
        refine lv_aload_n hx hb dX5_isNeeded_19 rfl (lv_at hl 0 rfl) ?_
        refine yg_0_13 S hK hW kw_438 dX5_isNeeded_20 ?_
        refine lv_iload_n hx hb dX5_isNeeded_23 rfl (lv_at hl 3 rfl) ?_
        obtain ⟨hin, h⟩ := h
        refine yl_10 S hK hW hin dX5_isNeeded_24 (fun x32 ex32 => ?_)
        have h := nm_use ex32 h
        refine lv_if_ne (tgt := 62) hx hb dX5_isNeeded_25 (by decide) (fun c33 => ?_) (fun c33 => ?_)
        · have h := h.2 c33
          refine lv_iload_n hx hb dX5_isNeeded_62 rfl (lv_at hl 2 rfl) ?_
          refine lv_istore_n (lv' := [(2, .int y2_11), (0, .ref (b 0)), (1, .int xp1), (3, .int y3_11)]) hx hb dX5_isNeeded_63 rfl hl (by decide) rfl (fun ls hl => ?_)
          obtain ⟨x34, ex34⟩ : ∃ z : Int32, z = y3_11 + 1 := ⟨_, rfl⟩
          have h := nm_use ex34 h
          refine lv_iinc (v := x34) (lv' := [(3, .int x34), (2, .int y2_11), (0, .ref (b 0)), (1, .int xp1)]) hx hb dX5_isNeeded_64 hl (k := 3) rfl (by rw [ex34]; rfl) (by decide) rfl (fun ls hl => ?_)
          refine lv_goto (tgt := 11) hx hb dX5_isNeeded_67 (by decide) ?_
          exact ih y2_11 x34 u_11 _ _ _ h hW (lv_sub hl [2, 3, 1, 0] rfl)
        · have h := h.1 c33
          refine lv_aload_n hx hb dX5_isNeeded_28 rfl (lv_at hl 0 rfl) ?_
          refine yg_0_9 S hK hW kw_434 dX5_isNeeded_29 ?_
          refine lv_iload_n hx hb dX5_isNeeded_32 rfl (lv_at hl 3 rfl) ?_
          obtain ⟨hin, h⟩ := h
          refine yl_6 S hK hW hin dX5_isNeeded_33 (fun x35 ex35 => ?_)
          have h := nm_use ex35 h
          refine lv_aload_n hx hb dX5_isNeeded_34 rfl (lv_at hl 0 rfl) ?_
          refine yg_0_9 S hK hW kw_434 dX5_isNeeded_35 ?_
          refine lv_iload_n hx hb dX5_isNeeded_38 rfl (lv_at hl 1 rfl) ?_
          obtain ⟨hin, h⟩ := h
          refine yl_6 S hK hW hin dX5_isNeeded_39 (fun x36 ex36 => ?_)
          have h := nm_use ex36 h
          refine lv_icmp_ne (tgt := 62) hx hb dX5_isNeeded_40 (by decide) (fun c37 => ?_) (fun c37 => ?_)
          · have h := h.2 c37
            refine lv_iload_n hx hb dX5_isNeeded_62 rfl (lv_at hl 2 rfl) ?_
            refine lv_istore_n (lv' := [(2, .int y2_11), (0, .ref (b 0)), (1, .int xp1), (3, .int y3_11)]) hx hb dX5_isNeeded_63 rfl hl (by decide) rfl (fun ls hl => ?_)
            obtain ⟨x38, ex38⟩ : ∃ z : Int32, z = y3_11 + 1 := ⟨_, rfl⟩
            have h := nm_use ex38 h
            refine lv_iinc (v := x38) (lv' := [(3, .int x38), (2, .int y2_11), (0, .ref (b 0)), (1, .int xp1)]) hx hb dX5_isNeeded_64 hl (k := 3) rfl (by rw [ex38]; rfl) (by decide) rfl (fun ls hl => ?_)
            refine lv_goto (tgt := 11) hx hb dX5_isNeeded_67 (by decide) ?_
            exact ih y2_11 x38 u_11 _ _ _ h hW (lv_sub hl [2, 3, 1, 0] rfl)
          · have h := h.1 c37
            refine lv_aload_n hx hb dX5_isNeeded_43 rfl (lv_at hl 0 rfl) ?_
            refine yg_0_10 S hK hW kw_435 dX5_isNeeded_44 ?_
            refine lv_iload_n hx hb dX5_isNeeded_47 rfl (lv_at hl 3 rfl) ?_
            obtain ⟨hin, h⟩ := h
            refine yl_7 S hK hW hin dX5_isNeeded_48 (fun x39 ex39 => ?_)
            have h := nm_use ex39 h
            refine lv_iload_n hx hb dX5_isNeeded_49 rfl (lv_at hl 2 rfl) ?_
            refine lv_icmp_ge (tgt := 62) hx hb dX5_isNeeded_50 (by decide) (fun c40 => ?_) (fun c40 => ?_)
            · have h := h.1 c40
              refine lv_iload_n hx hb dX5_isNeeded_62 rfl (lv_at hl 2 rfl) ?_
              refine lv_istore_n (lv' := [(2, .int y2_11), (0, .ref (b 0)), (1, .int xp1), (3, .int y3_11)]) hx hb dX5_isNeeded_63 rfl hl (by decide) rfl (fun ls hl => ?_)
              obtain ⟨x41, ex41⟩ : ∃ z : Int32, z = y3_11 + 1 := ⟨_, rfl⟩
              have h := nm_use ex41 h
              refine lv_iinc (v := x41) (lv' := [(3, .int x41), (2, .int y2_11), (0, .ref (b 0)), (1, .int xp1)]) hx hb dX5_isNeeded_64 hl (k := 3) rfl (by rw [ex41]; rfl) (by decide) rfl (fun ls hl => ?_)
              refine lv_goto (tgt := 11) hx hb dX5_isNeeded_67 (by decide) ?_
              exact ih y2_11 x41 u_11 _ _ _ h hW (lv_sub hl [2, 3, 1, 0] rfl)
            · have h := h.2 c40
              refine lv_aload_n hx hb dX5_isNeeded_53 rfl (lv_at hl 0 rfl) ?_
              refine yg_0_10 S hK hW kw_435 dX5_isNeeded_54 ?_
              refine lv_iload_n hx hb dX5_isNeeded_57 rfl (lv_at hl 3 rfl) ?_
              obtain ⟨hin, h⟩ := h
              refine yl_7 S hK hW hin dX5_isNeeded_58 (fun x42 ex42 => ?_)
              have h := nm_use ex42 h
              refine lv_goto (tgt := 63) hx hb dX5_isNeeded_59 (by decide) ?_
              refine lv_istore_n (lv' := [(2, .int x42), (0, .ref (b 0)), (1, .int xp1), (3, .int y3_11)]) hx hb dX5_isNeeded_63 rfl hl (by decide) rfl (fun ls hl => ?_)
              obtain ⟨x43, ex43⟩ : ∃ z : Int32, z = y3_11 + 1 := ⟨_, rfl⟩
              have h := nm_use ex43 h
              refine lv_iinc (v := x43) (lv' := [(3, .int x43), (2, .int x42), (0, .ref (b 0)), (1, .int xp1)]) hx hb dX5_isNeeded_64 hl (k := 3) rfl (by rw [ex43]; rfl) (by decide) rfl (fun ls hl => ?_)
              refine lv_goto (tgt := 11) hx hb dX5_isNeeded_67 (by decide) ?_
              exact ih x42 x43 u_11 _ _ _ h hW (lv_sub hl [2, 3, 1, 0] rfl)
  obtain ⟨n_11, h⟩ := h
  refine loop_11 _ ?_ n_11 x1 x2 u _ _ _ h hW (lv_sub hl [2, 3, 1, 0] rfl)
  intro w2_11 w3_11 v_11 H locs ls h hW hl
  refine lv_iconst (v := 0) hx hb dX5_isNeeded_70 (by decide) ?_
  refine lv_istore_n (lv' := [(3, .int 0), (0, .ref (b 0)), (1, .int xp1), (2, .int w2_11)]) hx hb dX5_isNeeded_71 rfl hl (by decide) rfl (fun ls hl => ?_)
  refine lv_aload_n hx hb dX5_isNeeded_72 rfl (lv_at hl 1 rfl) ?_
  refine yg_0_10 S hK hW kw_435 dX5_isNeeded_73 ?_
  refine lv_iload_n hx hb dX5_isNeeded_76 rfl (lv_at hl 2 rfl) ?_
  obtain ⟨hin, h⟩ := h
  refine yl_7 S hK hW hin dX5_isNeeded_77 (fun x16 ex16 => ?_)
  have h := nm_use ex16 h
  refine lv_istore (lv' := [(4, .int x16), (3, .int 0), (0, .ref (b 0)), (1, .int xp1), (2, .int w2_11)]) hx hb dX5_isNeeded_78 hl (by decide) rfl (fun ls hl => ?_)
  have loop_80 : ∀ (K : Int32 → Int32 → Mem → Prop), (∀ (w3_80 w4_80 : Int32) (v_80 : Mem) (H : Heap) (locs : List Loc) (ls : Array Slot), K w3_80 w4_80 v_80 → g_W D (Yw cA b) A s.heap v_80 H locs → lv_has ls 5 [(0, .ref (b 0)), (1, .int xp1), (2, .int w2_11), (3, .int w3_80), (4, .int w4_80)] → W p l e rm_X5_isNeeded s m args below meth c H locs 0 0 Q (F0 m 112 ls [])) → ∀ (n : Nat) (y3_80 y4_80 : Int32) (u_80 : Mem) (H : Heap) (locs : List Loc) (ls : Array Slot), L_X5_isNeeded_80 xp1 w2_11 post K n y3_80 y4_80 u_80 → g_W D (Yw cA b) A s.heap u_80 H locs → lv_has ls 5 [(0, .ref (b 0)), (1, .int xp1), (2, .int w2_11), (3, .int y3_80), (4, .int y4_80)] → W p l e rm_X5_isNeeded s m args below meth c H locs 0 0 Q (F0 m 80 ls []) := by
    intro K hE n
    induction n with
    | zero => intro y3_80 y4_80 u_80 H locs ls h; exact False.elim h
    | succ n ih =>
      intro y3_80 y4_80 u_80 H locs ls h hW hl
      refine lv_iload hx hb dX5_isNeeded_80 (lv_at hl 4 rfl) ?_
      refine lv_iload_n hx hb dX5_isNeeded_82 rfl (lv_at hl 2 rfl) ?_
      refine lv_icmp_ge (tgt := 112) hx hb dX5_isNeeded_83 (by decide) (fun c24 => ?_) (fun c24 => ?_)
      · have h := h.1 c24
        exact hE y3_80 y4_80 u_80 _ _ _ h hW (lv_sub hl [0, 1, 2, 3, 4] rfl)
      · have h := h.2 c24
        refine lv_iload_n hx hb dX5_isNeeded_86 rfl (lv_at hl 3 rfl) ?_
        refine lv_if_ne (tgt := 100) hx hb dX5_isNeeded_87 (by decide) (fun c25 => ?_) (fun c25 => ?_)
        · have h := h.2 c25
          refine lv_iconst (v := 1) hx hb dX5_isNeeded_100 (by decide) ?_
          refine lv_goto (tgt := 105) hx hb dX5_isNeeded_101 (by decide) ?_
          refine lv_istore_n (lv' := [(3, .int 1), (0, .ref (b 0)), (1, .int xp1), (2, .int w2_11), (4, .int y4_80)]) hx hb dX5_isNeeded_105 rfl hl (by decide) rfl (fun ls hl => ?_)
          obtain ⟨x26, ex26⟩ : ∃ z : Int32, z = y4_80 + 1 := ⟨_, rfl⟩
          have h := nm_use ex26 h
          refine lv_iinc (v := x26) (lv' := [(4, .int x26), (3, .int 1), (0, .ref (b 0)), (1, .int xp1), (2, .int w2_11)]) hx hb dX5_isNeeded_106 hl (k := 4) rfl (by rw [ex26]; rfl) (by decide) rfl (fun ls hl => ?_)
          refine lv_goto (tgt := 80) hx hb dX5_isNeeded_109 (by decide) ?_
          exact ih 1 x26 u_80 _ _ _ h hW (lv_sub hl [2, 3, 4, 1, 0] rfl)
        · have h := h.1 c25
          refine lv_aload_n hx hb dX5_isNeeded_90 rfl (lv_at hl 0 rfl) ?_
          refine yg_0_3 S hK hW kw_428 dX5_isNeeded_91 ?_
          refine lv_iload hx hb dX5_isNeeded_94 (lv_at hl 4 rfl) ?_
          obtain ⟨hin, h⟩ := h
          refine yl_2 S hK hW hin dX5_isNeeded_96 (fun x27 ex27 => ?_)
          have h := nm_use ex27 h
          refine lv_if_ne (tgt := 104) hx hb dX5_isNeeded_97 (by decide) (fun c28 => ?_) (fun c28 => ?_)
          · have h := h.2 c28
            refine lv_iconst (v := 0) hx hb dX5_isNeeded_104 (by decide) ?_
            refine lv_istore_n (lv' := [(3, .int 0), (0, .ref (b 0)), (1, .int xp1), (2, .int w2_11), (4, .int y4_80)]) hx hb dX5_isNeeded_105 rfl hl (by decide) rfl (fun ls hl => ?_)
            obtain ⟨x29, ex29⟩ : ∃ z : Int32, z = y4_80 + 1 := ⟨_, rfl⟩
            have h := nm_use ex29 h
            refine lv_iinc (v := x29) (lv' := [(4, .int x29), (3, .int 0), (0, .ref (b 0)), (1, .int xp1), (2, .int w2_11)]) hx hb dX5_isNeeded_106 hl (k := 4) rfl (by rw [ex29]; rfl) (by decide) rfl (fun ls hl => ?_)
            refine lv_goto (tgt := 80) hx hb dX5_isNeeded_109 (by decide) ?_
            exact ih 0 x29 u_80 _ _ _ h hW (lv_sub hl [2, 3, 4, 1, 0] rfl)
          · have h := h.1 c28
            refine lv_iconst (v := 1) hx hb dX5_isNeeded_100 (by decide) ?_
            refine lv_goto (tgt := 105) hx hb dX5_isNeeded_101 (by decide) ?_
            refine lv_istore_n (lv' := [(3, .int 1), (0, .ref (b 0)), (1, .int xp1), (2, .int w2_11), (4, .int y4_80)]) hx hb dX5_isNeeded_105 rfl hl (by decide) rfl (fun ls hl => ?_)
            obtain ⟨x30, ex30⟩ : ∃ z : Int32, z = y4_80 + 1 := ⟨_, rfl⟩
            have h := nm_use ex30 h
            refine lv_iinc (v := x30) (lv' := [(4, .int x30), (3, .int 1), (0, .ref (b 0)), (1, .int xp1), (2, .int w2_11)]) hx hb dX5_isNeeded_106 hl (k := 4) rfl (by rw [ex30]; rfl) (by decide) rfl (fun ls hl => ?_)
            refine lv_goto (tgt := 80) hx hb dX5_isNeeded_109 (by decide) ?_
            exact ih 1 x30 u_80 _ _ _ h hW (lv_sub hl [2, 3, 4, 1, 0] rfl)
  obtain ⟨n_80, h⟩ := h
  refine loop_80 _ ?_ n_80 0 x16 v_11 _ _ _ h hW (lv_sub hl [2, 3, 4, 1, 0] rfl)
  intro w3_80 w4_80 v_80 H locs ls h hW hl
  refine lv_iload_n hx hb dX5_isNeeded_112 rfl (lv_at hl 3 rfl) ?_
  exact hret _ _ _ _ _ _ dX5_isNeeded_113 hW h.1 h.2
def L_X5_prune_15 (f1_15 : Int32) (post : Int32 → Mem → Prop) (K : Int32 → Int32 → Mem → Prop) : Nat → Int32 → Int32 → Mem → Prop
  | 0, _, _, _ => False
  | n_15 + 1, y2_15, y3_15, u_15 => (f1_15 ≤ y3_15 → (K y2_15 y3_15 u_15)) ∧ (¬ f1_15 ≤ y3_15 → (w_X5_goes y3_15 u_15 (fun x6 u5 => (x6 = 0 → (nm (y2_15 + (0 : Int32) : Int32) fun x8 => nm (y3_15 + 1) fun x9 => L_X5_prune_15 f1_15 post K n_15 x8 x9 u5)) ∧ (¬ x6 = 0 → (nm (y2_15 + (1 : Int32) : Int32) fun x10 => nm (y3_15 + 1) fun x11 => L_X5_prune_15 f1_15 post K n_15 x10 x11 u5)))))
def L_X5_prune_72 (f1_72 : Int32) (f2_72 : Int32) (post : Int32 → Mem → Prop) (K : Int32 → Mem → Prop) : Nat → Int32 → Mem → Prop
  | 0, _, _ => False
  | n_72 + 1, y3_72, u_72 => (f1_72 ≤ y3_72 → (K y3_72 u_72)) ∧ (¬ f1_72 ≤ y3_72 → (w_X5_goes y3_72 u_72 (fun x18 u17 => (x18 = 0 → (vp_in y3_72 201 ∧ nm (u17 2 (y3_72 : Int32).toNatClampNeg) fun x20 => vp_in y3_72 201 ∧ nm (g_ms u17 2 (y3_72 : Int32).toNatClampNeg x20) fun u21 => nm (y3_72 + 1) fun x22 => L_X5_prune_72 f1_72 f2_72 post K n_72 x22 u21)) ∧ (¬ x18 = 0 → (vp_in y3_72 201 ∧ nm (g_ms u17 2 (y3_72 : Int32).toNatClampNeg (u17 16 0)) fun u23 => nm (y3_72 + 1) fun x24 => L_X5_prune_72 f1_72 f2_72 post K n_72 x24 u23)))))
def L_X5_prune_112 (f1_112 : Int32) (f2_112 : Int32) (post : Int32 → Mem → Prop) (K : Int32 → Mem → Prop) : Nat → Int32 → Mem → Prop
  | 0, _, _ => False
  | n_112 + 1, y3_112, u_112 => ((u_112 15 0) ≤ y3_112 → (K y3_112 u_112)) ∧ (¬ (u_112 15 0) ≤ y3_112 → (vp_in y3_112 400 ∧ nm (u_112 10 (y3_112 : Int32).toNatClampNeg) fun x26 => (x26 = 0 → (w_X5_isNeeded y3_112 u_112 (fun x30 u29 => (x30 = 0 → (vp_in y3_112 400 ∧ nm (g_ms u29 10 (y3_112 : Int32).toNatClampNeg (u29 16 0)) fun u33 => nm (y3_112 + 1) fun x34 => L_X5_prune_112 f1_112 f2_112 post K n_112 x34 u33)) ∧ (¬ x30 = 0 → (nm (y3_112 + 1) fun x32 => L_X5_prune_112 f1_112 f2_112 post K n_112 x32 u29))))) ∧ (¬ x26 = 0 → (nm (y3_112 + 1) fun x28 => L_X5_prune_112 f1_112 f2_112 post K n_112 x28 u_112))))
def w_X5_prune (xp1 : Int32) (u : Mem) (post : Int32 → Mem → Prop) : Prop := w_X5_isHeight xp1 u (fun x2 u1 => (x2 = 0 → (post (-101) u1)) ∧ (¬ x2 = 0 → (∃ n_15, L_X5_prune_15 xp1 post (fun w2_15 w3_15 v_15 => (w2_15 = 0 → (post 0 v_15)) ∧ (¬ w2_15 = 0 → (((v_15 16 0) = 8 → (post (-105) v_15)) ∧ (¬ (v_15 16 0) = 8 → (nm ((v_15 16 0) + (1 : Int32) : Int32) fun x14 => nm (g_ms v_15 16 0 x14) fun u15 => ∃ n_72, L_X5_prune_72 xp1 w2_15 post (fun w3_72 v_72 => ∃ n_112, L_X5_prune_112 xp1 w2_15 post (fun w3_112 v_112 => post w2_15 v_112) n_112 0 v_72) n_72 0 u15))))) n_15 0 0 u1)))
abbrev rm_X5_prune : Room := { frames := 2, cells := 0, slots := 0, locals := 43 }
theorem hd_X5_prune : yX5_prune.cls ≠ "java/lang/invoke/MethodHandle" ∧ yX5_prune.cls ≠ "java/lang/invoke/VarHandle" ∧ (parseMethodDescriptor yX5_prune.desc).map (fun d => d.parameters.length) = some 1 := by decide +kernel
set_option maxHeartbeats 4000000 in
set_option maxRecDepth 100000 in
theorem c_X5_prune (l : Launch) (D : va_G) (cA : ClassId) (b : Nat → Nat) (u : Mem) (xp1 : Int32) (post : Int32 → Mem → Prop) (h : w_X5_prune xp1 u post) : g_Mi l yX5_prune (Cond.code yX5_prune cX5_prune 4 (some .int) :: tT) rm_X5_prune D cA (Yw cA b) u [.ref (b 0), .int xp1] post := by
  refine g_enter_i (by decide) (Yw_adr cA b) (Nat.le_of_ble_eq_true rfl) ?_
  intro p e s m args below meth c A Q S hml hK hA hret ls hl hW
  have hx := S.1
  have hb := S.2.1
  have hl : lv_has ls 4 [(0, .ref (b 0)), (1, .int xp1)] := hl
  skip
  refine lv_aload_n hx hb dX5_prune_0 rfl (lv_at hl 0 rfl) ?_
  refine lv_iload_n hx hb dX5_prune_1 rfl (lv_at hl 1 rfl) ?_
  refine g_cali (g_runV S hml hK hW (c_X5_isHeight l D cA b u xp1 _ h _) kw_510 kw_512 kw_10 kw_25 kw_513 hd_X5_isHeight ⟨rfl, rfl, Nat.le_of_ble_eq_true rfl, Nat.le_of_ble_eq_true rfl⟩ (q0 := 0) rfl rfl (As := [.int xp1]) (rest := []) rfl rfl hl.1 (Nat.le_of_ble_eq_true rfl) dX5_prune_2 ⟨Nat.zero_le _, Nat.zero_le _⟩) (Yw_adr cA b) hA hW (fun x2 u1 H locs h hW => ?_)
  refine lv_if_ne (tgt := 11) hx hb dX5_prune_5 (by decide) (fun c3 => ?_) (fun c3 => ?_)
  · have h := h.2 c3
    refine lv_iconst (v := 0) hx hb dX5_prune_11 (by decide) ?_
    refine lv_istore_n (lv' := [(2, .int 0), (0, .ref (b 0)), (1, .int xp1)]) hx hb dX5_prune_12 rfl hl (by decide) rfl (fun ls hl => ?_)
    refine lv_iconst (v := 0) hx hb dX5_prune_13 (by decide) ?_
    refine lv_istore_n (lv' := [(3, .int 0), (2, .int 0), (0, .ref (b 0)), (1, .int xp1)]) hx hb dX5_prune_14 rfl hl (by decide) rfl (fun ls hl => ?_)
    have loop_15 : ∀ (K : Int32 → Int32 → Mem → Prop), (∀ (w2_15 w3_15 : Int32) (v_15 : Mem) (H : Heap) (locs : List Loc) (ls : Array Slot), K w2_15 w3_15 v_15 → g_W D (Yw cA b) A s.heap v_15 H locs → lv_has ls 4 [(0, .ref (b 0)), (1, .int xp1), (2, .int w2_15), (3, .int w3_15)] → W p l e rm_X5_prune s m args below meth c H locs 0 0 Q (F0 m 42 ls [])) → ∀ (n : Nat) (y2_15 y3_15 : Int32) (u_15 : Mem) (H : Heap) (locs : List Loc) (ls : Array Slot), L_X5_prune_15 xp1 post K n y2_15 y3_15 u_15 → g_W D (Yw cA b) A s.heap u_15 H locs → lv_has ls 4 [(0, .ref (b 0)), (1, .int xp1), (2, .int y2_15), (3, .int y3_15)] → W p l e rm_X5_prune s m args below meth c H locs 0 0 Q (F0 m 15 ls []) := by
      intro K hE n
      induction n with
      | zero => intro y2_15 y3_15 u_15 H locs ls h; exact False.elim h
      | succ n ih =>
        intro y2_15 y3_15 u_15 H locs ls h hW hl
        refine lv_iload_n hx hb dX5_prune_15 rfl (lv_at hl 3 rfl) ?_
        refine lv_iload_n hx hb dX5_prune_16 rfl (lv_at hl 1 rfl) ?_
        refine lv_icmp_ge (tgt := 42) hx hb dX5_prune_17 (by decide) (fun c54 => ?_) (fun c54 => ?_)
        · have h := h.1 c54
          exact hE y2_15 y3_15 u_15 _ _ _ h hW (lv_sub hl [0, 1, 2, 3] rfl)
        · have h := h.2 c54
          refine lv_iload_n hx hb dX5_prune_20 rfl (lv_at hl 2 rfl) ?_
          refine lv_aload_n hx hb dX5_prune_21 rfl (lv_at hl 0 rfl) ?_
          refine lv_iload_n hx hb dX5_prune_22 rfl (lv_at hl 3 rfl) ?_
          refine g_cali (g_runV S hml hK hW (c_X5_goes l D cA b u_15 y3_15 _ h _) kw_552 kw_554 kw_12 kw_25 kw_555 hd_X5_goes ⟨rfl, rfl, Nat.le_of_ble_eq_true rfl, Nat.le_of_ble_eq_true rfl⟩ (q0 := 0) rfl rfl (As := [.int y3_15]) (rest := [.int y2_15]) rfl rfl hl.1 (Nat.le_of_ble_eq_true rfl) dX5_prune_23 ⟨Nat.zero_le _, Nat.zero_le _⟩) (Yw_adr cA b) hA hW (fun x56 u55 H locs h hW => ?_)
          refine lv_if_eq (tgt := 33) hx hb dX5_prune_26 (by decide) (fun c57 => ?_) (fun c57 => ?_)
          · have h := h.1 c57
            refine lv_iconst (v := 0) hx hb dX5_prune_33 (by decide) ?_
            refine lv_iadd hx hb dX5_prune_34 ?_
            refine lv_topi (fun x58 ex58 => ?_)
            have h := nm_use ex58 h
            refine lv_istore_n (lv' := [(2, .int x58), (0, .ref (b 0)), (1, .int xp1), (3, .int y3_15)]) hx hb dX5_prune_35 rfl hl (by decide) rfl (fun ls hl => ?_)
            obtain ⟨x59, ex59⟩ : ∃ z : Int32, z = y3_15 + 1 := ⟨_, rfl⟩
            have h := nm_use ex59 h
            refine lv_iinc (v := x59) (lv' := [(3, .int x59), (2, .int x58), (0, .ref (b 0)), (1, .int xp1)]) hx hb dX5_prune_36 hl (k := 3) rfl (by rw [ex59]; rfl) (by decide) rfl (fun ls hl => ?_)
            refine lv_goto (tgt := 15) hx hb dX5_prune_39 (by decide) ?_
            exact ih x58 x59 u55 _ _ _ h hW (lv_sub hl [2, 3, 1, 0] rfl)
          · have h := h.2 c57
            refine lv_iconst (v := 1) hx hb dX5_prune_29 (by decide) ?_
            refine lv_goto (tgt := 34) hx hb dX5_prune_30 (by decide) ?_
            refine lv_iadd hx hb dX5_prune_34 ?_
            refine lv_topi (fun x60 ex60 => ?_)
            have h := nm_use ex60 h
            refine lv_istore_n (lv' := [(2, .int x60), (0, .ref (b 0)), (1, .int xp1), (3, .int y3_15)]) hx hb dX5_prune_35 rfl hl (by decide) rfl (fun ls hl => ?_)
            obtain ⟨x61, ex61⟩ : ∃ z : Int32, z = y3_15 + 1 := ⟨_, rfl⟩
            have h := nm_use ex61 h
            refine lv_iinc (v := x61) (lv' := [(3, .int x61), (2, .int x60), (0, .ref (b 0)), (1, .int xp1)]) hx hb dX5_prune_36 hl (k := 3) rfl (by rw [ex61]; rfl) (by decide) rfl (fun ls hl => ?_)
            refine lv_goto (tgt := 15) hx hb dX5_prune_39 (by decide) ?_
            exact ih x60 x61 u55 _ _ _ h hW (lv_sub hl [2, 3, 1, 0] rfl)
    obtain ⟨n_15, h⟩ := h
    refine loop_15 _ ?_ n_15 0 0 u1 _ _ _ h hW (lv_sub hl [2, 3, 1, 0] rfl)
    intro w2_15 w3_15 v_15 H locs ls h hW hl
    refine lv_iload_n hx hb dX5_prune_42 rfl (lv_at hl 2 rfl) ?_
    refine lv_if_ne (tgt := 48) hx hb dX5_prune_43 (by decide) (fun c12 => ?_) (fun c12 => ?_)
    · have h := h.2 c12
      refine lv_aload_n hx hb dX5_prune_48 rfl (lv_at hl 0 rfl) ?_
      refine yg_0_14 S hK hW kw_439 dX5_prune_49 ?_
      refine lv_bipush (v := 8) hx hb dX5_prune_52 (by decide) ?_
      refine lv_icmp_ne (tgt := 60) hx hb dX5_prune_54 (by decide) (fun c13 => ?_) (fun c13 => ?_)
      · have h := h.2 c13
        refine lv_aload_n hx hb dX5_prune_60 rfl (lv_at hl 0 rfl) ?_
        refine lv_dup hx hb dX5_prune_61 rfl ?_
        refine yg_0_14 S hK hW kw_439 dX5_prune_62 ?_
        refine lv_iconst (v := 1) hx hb dX5_prune_65 (by decide) ?_
        refine lv_iadd hx hb dX5_prune_66 ?_
        refine lv_topi (fun x14 ex14 => ?_)
        have h := nm_use ex14 h
        refine yp_16 S hK hW kw_439 dX5_prune_67 (fun u15 H locs eu15 hW => ?_)
        have h := nm_use eu15 h
        refine lv_iconst (v := 0) hx hb dX5_prune_70 (by decide) ?_
        refine lv_istore_n (lv' := [(3, .int 0), (0, .ref (b 0)), (1, .int xp1), (2, .int w2_15)]) hx hb dX5_prune_71 rfl hl (by decide) rfl (fun ls hl => ?_)
        have loop_72 : ∀ (K : Int32 → Mem → Prop), (∀ (w3_72 : Int32) (v_72 : Mem) (H : Heap) (locs : List Loc) (ls : Array Slot), K w3_72 v_72 → g_W D (Yw cA b) A s.heap v_72 H locs → lv_has ls 4 [(0, .ref (b 0)), (1, .int xp1), (2, .int w2_15), (3, .int w3_72)] → W p l e rm_X5_prune s m args below meth c H locs 0 0 Q (F0 m 110 ls [])) → ∀ (n : Nat) (y3_72 : Int32) (u_72 : Mem) (H : Heap) (locs : List Loc) (ls : Array Slot), L_X5_prune_72 xp1 w2_15 post K n y3_72 u_72 → g_W D (Yw cA b) A s.heap u_72 H locs → lv_has ls 4 [(0, .ref (b 0)), (1, .int xp1), (2, .int w2_15), (3, .int y3_72)] → W p l e rm_X5_prune s m args below meth c H locs 0 0 Q (F0 m 72 ls []) := by
          intro K hE n
          induction n with
          | zero => intro y3_72 u_72 H locs ls h; exact False.elim h
          | succ n ih =>
            intro y3_72 u_72 H locs ls h hW hl
            refine lv_iload_n hx hb dX5_prune_72 rfl (lv_at hl 3 rfl) ?_
            refine lv_iload_n hx hb dX5_prune_73 rfl (lv_at hl 1 rfl) ?_
            refine lv_icmp_ge (tgt := 110) hx hb dX5_prune_74 (by decide) (fun c45 => ?_) (fun c45 => ?_)
            · have h := h.1 c45
              exact hE y3_72 u_72 _ _ _ h hW (lv_sub hl [0, 1, 2, 3] rfl)
            · have h := h.2 c45
              refine lv_aload_n hx hb dX5_prune_77 rfl (lv_at hl 0 rfl) ?_
              refine yg_0_3 S hK hW kw_428 dX5_prune_78 ?_
              refine lv_iload_n hx hb dX5_prune_81 rfl (lv_at hl 3 rfl) ?_
              refine lv_aload_n hx hb dX5_prune_82 rfl (lv_at hl 0 rfl) ?_
              refine lv_iload_n hx hb dX5_prune_83 rfl (lv_at hl 3 rfl) ?_
              refine g_cali (g_runV S hml hK hW (c_X5_goes l D cA b u_72 y3_72 _ h _) kw_552 kw_554 kw_12 kw_25 kw_555 hd_X5_goes ⟨rfl, rfl, Nat.le_of_ble_eq_true rfl, Nat.le_of_ble_eq_true rfl⟩ (q0 := 0) rfl rfl (As := [.int y3_72]) (rest := [.int y3_72, .ref (b 3)]) rfl rfl hl.1 (Nat.le_of_ble_eq_true rfl) dX5_prune_84 ⟨Nat.zero_le _, Nat.zero_le _⟩) (Yw_adr cA b) hA hW (fun x47 u46 H locs h hW => ?_)
              refine lv_if_eq (tgt := 97) hx hb dX5_prune_87 (by decide) (fun c48 => ?_) (fun c48 => ?_)
              · have h := h.1 c48
                refine lv_aload_n hx hb dX5_prune_97 rfl (lv_at hl 0 rfl) ?_
                refine yg_0_3 S hK hW kw_428 dX5_prune_98 ?_
                refine lv_iload_n hx hb dX5_prune_101 rfl (lv_at hl 3 rfl) ?_
                obtain ⟨hin, h⟩ := h
                refine yl_2 S hK hW hin dX5_prune_102 (fun x49 ex49 => ?_)
                have h := nm_use ex49 h
                obtain ⟨hin, h⟩ := h
                refine ys_2 S hK hW hin dX5_prune_103 (fun u50 H locs eu50 hW => ?_)
                have h := nm_use eu50 h
                obtain ⟨x51, ex51⟩ : ∃ z : Int32, z = y3_72 + 1 := ⟨_, rfl⟩
                have h := nm_use ex51 h
                refine lv_iinc (v := x51) (lv' := [(3, .int x51), (0, .ref (b 0)), (1, .int xp1), (2, .int w2_15)]) hx hb dX5_prune_104 hl (k := 3) rfl (by rw [ex51]; rfl) (by decide) rfl (fun ls hl => ?_)
                refine lv_goto (tgt := 72) hx hb dX5_prune_107 (by decide) ?_
                exact ih x51 u50 _ _ _ h hW (lv_sub hl [1, 2, 3, 0] rfl)
              · have h := h.2 c48
                refine lv_aload_n hx hb dX5_prune_90 rfl (lv_at hl 0 rfl) ?_
                refine yg_0_14 S hK hW kw_439 dX5_prune_91 ?_
                refine lv_goto (tgt := 103) hx hb dX5_prune_94 (by decide) ?_
                obtain ⟨hin, h⟩ := h
                refine ys_2 S hK hW hin dX5_prune_103 (fun u52 H locs eu52 hW => ?_)
                have h := nm_use eu52 h
                obtain ⟨x53, ex53⟩ : ∃ z : Int32, z = y3_72 + 1 := ⟨_, rfl⟩
                have h := nm_use ex53 h
                refine lv_iinc (v := x53) (lv' := [(3, .int x53), (0, .ref (b 0)), (1, .int xp1), (2, .int w2_15)]) hx hb dX5_prune_104 hl (k := 3) rfl (by rw [ex53]; rfl) (by decide) rfl (fun ls hl => ?_)
                refine lv_goto (tgt := 72) hx hb dX5_prune_107 (by decide) ?_
                exact ih x53 u52 _ _ _ h hW (lv_sub hl [1, 2, 3, 0] rfl)
        obtain ⟨n_72, h⟩ := h
        refine loop_72 _ ?_ n_72 0 u15 _ _ _ h hW (lv_sub hl [1, 2, 3, 0] rfl)
        intro w3_72 v_72 H locs ls h hW hl
        refine lv_iconst (v := 0) hx hb dX5_prune_110 (by decide) ?_
        refine lv_istore_n (lv' := [(3, .int 0), (0, .ref (b 0)), (1, .int xp1), (2, .int w2_15)]) hx hb dX5_prune_111 rfl hl (by decide) rfl (fun ls hl => ?_)
        have loop_112 : ∀ (K : Int32 → Mem → Prop), (∀ (w3_112 : Int32) (v_112 : Mem) (H : Heap) (locs : List Loc) (ls : Array Slot), K w3_112 v_112 → g_W D (Yw cA b) A s.heap v_112 H locs → lv_has ls 4 [(0, .ref (b 0)), (1, .int xp1), (2, .int w2_15), (3, .int w3_112)] → W p l e rm_X5_prune s m args below meth c H locs 0 0 Q (F0 m 153 ls [])) → ∀ (n : Nat) (y3_112 : Int32) (u_112 : Mem) (H : Heap) (locs : List Loc) (ls : Array Slot), L_X5_prune_112 xp1 w2_15 post K n y3_112 u_112 → g_W D (Yw cA b) A s.heap u_112 H locs → lv_has ls 4 [(0, .ref (b 0)), (1, .int xp1), (2, .int w2_15), (3, .int y3_112)] → W p l e rm_X5_prune s m args below meth c H locs 0 0 Q (F0 m 112 ls []) := by
          intro K hE n
          induction n with
          | zero => intro y3_112 u_112 H locs ls h; exact False.elim h
          | succ n ih =>
            intro y3_112 u_112 H locs ls h hW hl
            refine lv_iload_n hx hb dX5_prune_112 rfl (lv_at hl 3 rfl) ?_
            refine lv_aload_n hx hb dX5_prune_113 rfl (lv_at hl 0 rfl) ?_
            refine yg_0_8 S hK hW kw_433 dX5_prune_114 ?_
            refine lv_icmp_ge (tgt := 153) hx hb dX5_prune_117 (by decide) (fun c35 => ?_) (fun c35 => ?_)
            · have h := h.1 c35
              exact hE y3_112 u_112 _ _ _ h hW (lv_sub hl [0, 1, 2, 3] rfl)
            · have h := h.2 c35
              refine lv_aload_n hx hb dX5_prune_120 rfl (lv_at hl 0 rfl) ?_
              refine yg_0_13 S hK hW kw_438 dX5_prune_121 ?_
              refine lv_iload_n hx hb dX5_prune_124 rfl (lv_at hl 3 rfl) ?_
              obtain ⟨hin, h⟩ := h
              refine yl_10 S hK hW hin dX5_prune_125 (fun x36 ex36 => ?_)
              have h := nm_use ex36 h
              refine lv_if_ne (tgt := 147) hx hb dX5_prune_126 (by decide) (fun c37 => ?_) (fun c37 => ?_)
              · have h := h.2 c37
                obtain ⟨x38, ex38⟩ : ∃ z : Int32, z = y3_112 + 1 := ⟨_, rfl⟩
                have h := nm_use ex38 h
                refine lv_iinc (v := x38) (lv' := [(3, .int x38), (0, .ref (b 0)), (1, .int xp1), (2, .int w2_15)]) hx hb dX5_prune_147 hl (k := 3) rfl (by rw [ex38]; rfl) (by decide) rfl (fun ls hl => ?_)
                refine lv_goto (tgt := 112) hx hb dX5_prune_150 (by decide) ?_
                exact ih x38 u_112 _ _ _ h hW (lv_sub hl [1, 2, 3, 0] rfl)
              · have h := h.1 c37
                refine lv_aload_n hx hb dX5_prune_129 rfl (lv_at hl 0 rfl) ?_
                refine lv_iload_n hx hb dX5_prune_130 rfl (lv_at hl 3 rfl) ?_
                refine g_cali (g_runV S hml hK hW (c_X5_isNeeded l D cA b u_112 y3_112 _ h _) kw_556 kw_558 kw_13 kw_25 kw_559 hd_X5_isNeeded ⟨rfl, rfl, Nat.le_of_ble_eq_true rfl, Nat.le_of_ble_eq_true rfl⟩ (q0 := 0) rfl rfl (As := [.int y3_112]) (rest := []) rfl rfl hl.1 (Nat.le_of_ble_eq_true rfl) dX5_prune_131 ⟨Nat.zero_le _, Nat.zero_le _⟩) (Yw_adr cA b) hA hW (fun x40 u39 H locs h hW => ?_)
                refine lv_if_ne (tgt := 147) hx hb dX5_prune_134 (by decide) (fun c41 => ?_) (fun c41 => ?_)
                · have h := h.2 c41
                  obtain ⟨x42, ex42⟩ : ∃ z : Int32, z = y3_112 + 1 := ⟨_, rfl⟩
                  have h := nm_use ex42 h
                  refine lv_iinc (v := x42) (lv' := [(3, .int x42), (0, .ref (b 0)), (1, .int xp1), (2, .int w2_15)]) hx hb dX5_prune_147 hl (k := 3) rfl (by rw [ex42]; rfl) (by decide) rfl (fun ls hl => ?_)
                  refine lv_goto (tgt := 112) hx hb dX5_prune_150 (by decide) ?_
                  exact ih x42 u39 _ _ _ h hW (lv_sub hl [1, 2, 3, 0] rfl)
                · have h := h.1 c41
                  refine lv_aload_n hx hb dX5_prune_137 rfl (lv_at hl 0 rfl) ?_
                  refine yg_0_13 S hK hW kw_438 dX5_prune_138 ?_
                  refine lv_iload_n hx hb dX5_prune_141 rfl (lv_at hl 3 rfl) ?_
                  refine lv_aload_n hx hb dX5_prune_142 rfl (lv_at hl 0 rfl) ?_
                  refine yg_0_14 S hK hW kw_439 dX5_prune_143 ?_
                  obtain ⟨hin, h⟩ := h
                  refine ys_10 S hK hW hin dX5_prune_146 (fun u43 H locs eu43 hW => ?_)
                  have h := nm_use eu43 h
                  obtain ⟨x44, ex44⟩ : ∃ z : Int32, z = y3_112 + 1 := ⟨_, rfl⟩
                  have h := nm_use ex44 h
                  refine lv_iinc (v := x44) (lv' := [(3, .int x44), (0, .ref (b 0)), (1, .int xp1), (2, .int w2_15)]) hx hb dX5_prune_147 hl (k := 3) rfl (by rw [ex44]; rfl) (by decide) rfl (fun ls hl => ?_)
                  refine lv_goto (tgt := 112) hx hb dX5_prune_150 (by decide) ?_
                  exact ih x44 u43 _ _ _ h hW (lv_sub hl [1, 2, 3, 0] rfl)
        obtain ⟨n_112, h⟩ := h
        refine loop_112 _ ?_ n_112 0 v_72 _ _ _ h hW (lv_sub hl [1, 2, 3, 0] rfl)
        intro w3_112 v_112 H locs ls h hW hl
        refine lv_iload_n hx hb dX5_prune_153 rfl (lv_at hl 2 rfl) ?_
        exact hret _ _ _ _ _ _ dX5_prune_154 hW h
      · have h := h.1 c13
        refine lv_bipush (v := (-105)) hx hb dX5_prune_57 (by decide) ?_
        exact hret _ _ _ _ _ _ dX5_prune_59 hW h
    · have h := h.1 c12
      refine lv_iconst (v := 0) hx hb dX5_prune_46 (by decide) ?_
      exact hret _ _ _ _ _ _ dX5_prune_47 hW h
  · have h := h.1 c3
    refine lv_bipush (v := (-101)) hx hb dX5_prune_8 (by decide) ?_
    exact hret _ _ _ _ _ _ dX5_prune_10 hW h
def w_X5_pruned (xp1 : Int32) (u : Mem) (post : Int32 → Mem → Prop) : Prop := w_X5_isHeight xp1 u (fun x2 u1 => (x2 = 0 → (post (-101) u1)) ∧ (¬ x2 = 0 → (vp_in xp1 201 ∧ nm (u1 2 (xp1 : Int32).toNatClampNeg) fun x4 => (x4 ≤ 0 → (post 0 u1)) ∧ (¬ x4 ≤ 0 → (post 1 u1)))))
abbrev rm_X5_pruned : Room := { frames := 2, cells := 0, slots := 0, locals := 43 }
theorem hd_X5_pruned : yX5_pruned.cls ≠ "java/lang/invoke/MethodHandle" ∧ yX5_pruned.cls ≠ "java/lang/invoke/VarHandle" ∧ (parseMethodDescriptor yX5_pruned.desc).map (fun d => d.parameters.length) = some 1 := by decide +kernel
set_option maxHeartbeats 4000000 in
set_option maxRecDepth 100000 in
theorem c_X5_pruned (l : Launch) (D : va_G) (cA : ClassId) (b : Nat → Nat) (u : Mem) (xp1 : Int32) (post : Int32 → Mem → Prop) (h : w_X5_pruned xp1 u post) : g_Mi l yX5_pruned (Cond.code yX5_pruned cX5_pruned 2 (some .int) :: tT) rm_X5_pruned D cA (Yw cA b) u [.ref (b 0), .int xp1] post := by
  refine g_enter_i (by decide) (Yw_adr cA b) (Nat.le_of_ble_eq_true rfl) ?_
  intro p e s m args below meth c A Q S hml hK hA hret ls hl hW
  have hx := S.1
  have hb := S.2.1
  have hl : lv_has ls 2 [(0, .ref (b 0)), (1, .int xp1)] := hl
  skip
  refine lv_aload_n hx hb dX5_pruned_0 rfl (lv_at hl 0 rfl) ?_
  refine lv_iload_n hx hb dX5_pruned_1 rfl (lv_at hl 1 rfl) ?_
  refine g_cali (g_runV S hml hK hW (c_X5_isHeight l D cA b u xp1 _ h _) kw_510 kw_512 kw_10 kw_25 kw_513 hd_X5_isHeight ⟨rfl, rfl, Nat.le_of_ble_eq_true rfl, Nat.le_of_ble_eq_true rfl⟩ (q0 := 0) rfl rfl (As := [.int xp1]) (rest := []) rfl rfl hl.1 (Nat.le_of_ble_eq_true rfl) dX5_pruned_2 ⟨Nat.zero_le _, Nat.zero_le _⟩) (Yw_adr cA b) hA hW (fun x2 u1 H locs h hW => ?_)
  refine lv_if_ne (tgt := 13) hx hb dX5_pruned_5 (by decide) (fun c3 => ?_) (fun c3 => ?_)
  · have h := h.2 c3
    refine lv_aload_n hx hb dX5_pruned_13 rfl (lv_at hl 0 rfl) ?_
    refine yg_0_3 S hK hW kw_428 dX5_pruned_14 ?_
    refine lv_iload_n hx hb dX5_pruned_17 rfl (lv_at hl 1 rfl) ?_
    obtain ⟨hin, h⟩ := h
    refine yl_2 S hK hW hin dX5_pruned_18 (fun x4 ex4 => ?_)
    have h := nm_use ex4 h
    refine lv_if_le (tgt := 26) hx hb dX5_pruned_19 (by decide) (fun c5 => ?_) (fun c5 => ?_)
    · have h := h.1 c5
      refine lv_iconst (v := 0) hx hb dX5_pruned_26 (by decide) ?_
      exact hret _ _ _ _ _ _ dX5_pruned_27 hW h
    · have h := h.2 c5
      refine lv_iconst (v := 1) hx hb dX5_pruned_22 (by decide) ?_
      refine lv_goto (tgt := 27) hx hb dX5_pruned_23 (by decide) ?_
      exact hret _ _ _ _ _ _ dX5_pruned_27 hW h
  · have h := h.1 c3
    refine lv_bipush (v := (-101)) hx hb dX5_pruned_8 (by decide) ?_
    refine lv_goto (tgt := 27) hx hb dX5_pruned_10 (by decide) ?_
    exact hret _ _ _ _ _ _ dX5_pruned_27 hW h
def L_X5_bring_14  (post : Int32 → Mem → Prop) (K : Int32 → Int32 → Mem → Prop) : Nat → Int32 → Int32 → Mem → Prop
  | 0, _, _, _ => False
  | n_14 + 1, y1_14, y2_14, u_14 => ((u_14 15 0) ≤ y2_14 → (K y1_14 y2_14 u_14)) ∧ (¬ (u_14 15 0) ≤ y2_14 → (vp_in y2_14 400 ∧ nm (u_14 10 (y2_14 : Int32).toNatClampNeg) fun x3 => (x3 = (u_14 16 0) → (vp_in y2_14 400 ∧ nm (g_ms u_14 10 (y2_14 : Int32).toNatClampNeg 0) fun u6 => nm (y1_14 + 1) fun x7 => nm (y2_14 + 1) fun x8 => L_X5_bring_14  post K n_14 x7 x8 u6)) ∧ (¬ x3 = (u_14 16 0) → (nm (y2_14 + 1) fun x5 => L_X5_bring_14  post K n_14 y1_14 x5 u_14))))
def L_X5_bring_53 (f1_53 : Int32) (post : Int32 → Mem → Prop) (K : Int32 → Mem → Prop) : Nat → Int32 → Mem → Prop
  | 0, _, _ => False
  | n_53 + 1, y2_53, u_53 => ((u_53 13 0) < y2_53 → (K y2_53 u_53)) ∧ (¬ (u_53 13 0) < y2_53 → (vp_in y2_53 201 ∧ nm (u_53 2 (y2_53 : Int32).toNatClampNeg) fun x10 => (x10 = (u_53 16 0) → (vp_in y2_53 201 ∧ nm (g_ms u_53 2 (y2_53 : Int32).toNatClampNeg 0) fun u15 => nm (y2_53 + 1) fun x16 => L_X5_bring_53 f1_53 post K n_53 x16 u15)) ∧ (¬ x10 = (u_53 16 0) → (vp_in y2_53 201 ∧ nm (u_53 2 (y2_53 : Int32).toNatClampNeg) fun x12 => vp_in y2_53 201 ∧ nm (g_ms u_53 2 (y2_53 : Int32).toNatClampNeg x12) fun u13 => nm (y2_53 + 1) fun x14 => L_X5_bring_53 f1_53 post K n_53 x14 u13))))
def w_X5_bring  (u : Mem) (post : Int32 → Mem → Prop) : Prop := ((u 16 0) = 0 → (post (-103) u)) ∧ (¬ (u 16 0) = 0 → (∃ n_14, L_X5_bring_14  post (fun w1_14 w2_14 v_14 => ∃ n_53, L_X5_bring_53 w1_14 post (fun w2_53 v_53 => nm ((v_53 16 0) - (1 : Int32) : Int32) fun x17 => nm (g_ms v_53 16 0 x17) fun u18 => post w1_14 u18) n_53 0 v_14) n_14 0 0 u))
abbrev rm_X5_bring : Room := { frames := 0, cells := 0, slots := 0, locals := 0 }
theorem hd_X5_bring : yX5_bring.cls ≠ "java/lang/invoke/MethodHandle" ∧ yX5_bring.cls ≠ "java/lang/invoke/VarHandle" ∧ (parseMethodDescriptor yX5_bring.desc).map (fun d => d.parameters.length) = some 0 := by decide +kernel
set_option maxHeartbeats 4000000 in
set_option maxRecDepth 100000 in
theorem c_X5_bring (l : Launch) (D : va_G) (cA : ClassId) (b : Nat → Nat) (u : Mem) (post : Int32 → Mem → Prop) (h : w_X5_bring  u post) : g_Mi l yX5_bring (Cond.code yX5_bring cX5_bring 3 (some .int) :: tT) rm_X5_bring D cA (Yw cA b) u [.ref (b 0)] post := by
  refine g_enter_i (by decide) (Yw_adr cA b) (Nat.le_of_ble_eq_true rfl) ?_
  intro p e s m args below meth c A Q S hml hK hA hret ls hl hW
  have hx := S.1
  have hb := S.2.1
  have hl : lv_has ls 3 [(0, .ref (b 0))] := hl
  skip
  refine lv_aload_n hx hb dX5_bring_0 rfl (lv_at hl 0 rfl) ?_
  refine yg_0_14 S hK hW kw_439 dX5_bring_1 ?_
  refine lv_if_ne (tgt := 10) hx hb dX5_bring_4 (by decide) (fun c1 => ?_) (fun c1 => ?_)
  · have h := h.2 c1
    refine lv_iconst (v := 0) hx hb dX5_bring_10 (by decide) ?_
    refine lv_istore_n (lv' := [(1, .int 0), (0, .ref (b 0))]) hx hb dX5_bring_11 rfl hl (by decide) rfl (fun ls hl => ?_)
    refine lv_iconst (v := 0) hx hb dX5_bring_12 (by decide) ?_
    refine lv_istore_n (lv' := [(2, .int 0), (1, .int 0), (0, .ref (b 0))]) hx hb dX5_bring_13 rfl hl (by decide) rfl (fun ls hl => ?_)
    have loop_14 : ∀ (K : Int32 → Int32 → Mem → Prop), (∀ (w1_14 w2_14 : Int32) (v_14 : Mem) (H : Heap) (locs : List Loc) (ls : Array Slot), K w1_14 w2_14 v_14 → g_W D (Yw cA b) A s.heap v_14 H locs → lv_has ls 3 [(0, .ref (b 0)), (1, .int w1_14), (2, .int w2_14)] → W p l e rm_X5_bring s m args below meth c H locs 0 0 Q (F0 m 51 ls [])) → ∀ (n : Nat) (y1_14 y2_14 : Int32) (u_14 : Mem) (H : Heap) (locs : List Loc) (ls : Array Slot), L_X5_bring_14  post K n y1_14 y2_14 u_14 → g_W D (Yw cA b) A s.heap u_14 H locs → lv_has ls 3 [(0, .ref (b 0)), (1, .int y1_14), (2, .int y2_14)] → W p l e rm_X5_bring s m args below meth c H locs 0 0 Q (F0 m 14 ls []) := by
      intro K hE n
      induction n with
      | zero => intro y1_14 y2_14 u_14 H locs ls h; exact False.elim h
      | succ n ih =>
        intro y1_14 y2_14 u_14 H locs ls h hW hl
        refine lv_iload_n hx hb dX5_bring_14 rfl (lv_at hl 2 rfl) ?_
        refine lv_aload_n hx hb dX5_bring_15 rfl (lv_at hl 0 rfl) ?_
        refine yg_0_8 S hK hW kw_433 dX5_bring_16 ?_
        refine lv_icmp_ge (tgt := 51) hx hb dX5_bring_19 (by decide) (fun c27 => ?_) (fun c27 => ?_)
        · have h := h.1 c27
          exact hE y1_14 y2_14 u_14 _ _ _ h hW (lv_sub hl [0, 1, 2] rfl)
        · have h := h.2 c27
          refine lv_aload_n hx hb dX5_bring_22 rfl (lv_at hl 0 rfl) ?_
          refine yg_0_13 S hK hW kw_438 dX5_bring_23 ?_
          refine lv_iload_n hx hb dX5_bring_26 rfl (lv_at hl 2 rfl) ?_
          obtain ⟨hin, h⟩ := h
          refine yl_10 S hK hW hin dX5_bring_27 (fun x28 ex28 => ?_)
          have h := nm_use ex28 h
          refine lv_aload_n hx hb dX5_bring_28 rfl (lv_at hl 0 rfl) ?_
          refine yg_0_14 S hK hW kw_439 dX5_bring_29 ?_
          refine lv_icmp_ne (tgt := 45) hx hb dX5_bring_32 (by decide) (fun c29 => ?_) (fun c29 => ?_)
          · have h := h.2 c29
            obtain ⟨x30, ex30⟩ : ∃ z : Int32, z = y2_14 + 1 := ⟨_, rfl⟩
            have h := nm_use ex30 h
            refine lv_iinc (v := x30) (lv' := [(2, .int x30), (0, .ref (b 0)), (1, .int y1_14)]) hx hb dX5_bring_45 hl (k := 2) rfl (by rw [ex30]; rfl) (by decide) rfl (fun ls hl => ?_)
            refine lv_goto (tgt := 14) hx hb dX5_bring_48 (by decide) ?_
            exact ih y1_14 x30 u_14 _ _ _ h hW (lv_sub hl [1, 2, 0] rfl)
          · have h := h.1 c29
            refine lv_aload_n hx hb dX5_bring_35 rfl (lv_at hl 0 rfl) ?_
            refine yg_0_13 S hK hW kw_438 dX5_bring_36 ?_
            refine lv_iload_n hx hb dX5_bring_39 rfl (lv_at hl 2 rfl) ?_
            refine lv_iconst (v := 0) hx hb dX5_bring_40 (by decide) ?_
            obtain ⟨hin, h⟩ := h
            refine ys_10 S hK hW hin dX5_bring_41 (fun u31 H locs eu31 hW => ?_)
            have h := nm_use eu31 h
            obtain ⟨x32, ex32⟩ : ∃ z : Int32, z = y1_14 + 1 := ⟨_, rfl⟩
            have h := nm_use ex32 h
            refine lv_iinc (v := x32) (lv' := [(1, .int x32), (0, .ref (b 0)), (2, .int y2_14)]) hx hb dX5_bring_42 hl (k := 1) rfl (by rw [ex32]; rfl) (by decide) rfl (fun ls hl => ?_)
            obtain ⟨x33, ex33⟩ : ∃ z : Int32, z = y2_14 + 1 := ⟨_, rfl⟩
            have h := nm_use ex33 h
            refine lv_iinc (v := x33) (lv' := [(2, .int x33), (1, .int x32), (0, .ref (b 0))]) hx hb dX5_bring_45 hl (k := 2) rfl (by rw [ex33]; rfl) (by decide) rfl (fun ls hl => ?_)
            refine lv_goto (tgt := 14) hx hb dX5_bring_48 (by decide) ?_
            exact ih x32 x33 u31 _ _ _ h hW (lv_sub hl [2, 1, 0] rfl)
    obtain ⟨n_14, h⟩ := h
    refine loop_14 _ ?_ n_14 0 0 u _ _ _ h hW (lv_sub hl [2, 1, 0] rfl)
    intro w1_14 w2_14 v_14 H locs ls h hW hl
    refine lv_iconst (v := 0) hx hb dX5_bring_51 (by decide) ?_
    refine lv_istore_n (lv' := [(2, .int 0), (0, .ref (b 0)), (1, .int w1_14)]) hx hb dX5_bring_52 rfl hl (by decide) rfl (fun ls hl => ?_)
    have loop_53 : ∀ (K : Int32 → Mem → Prop), (∀ (w2_53 : Int32) (v_53 : Mem) (H : Heap) (locs : List Loc) (ls : Array Slot), K w2_53 v_53 → g_W D (Yw cA b) A s.heap v_53 H locs → lv_has ls 3 [(0, .ref (b 0)), (1, .int w1_14), (2, .int w2_53)] → W p l e rm_X5_bring s m args below meth c H locs 0 0 Q (F0 m 96 ls [])) → ∀ (n : Nat) (y2_53 : Int32) (u_53 : Mem) (H : Heap) (locs : List Loc) (ls : Array Slot), L_X5_bring_53 w1_14 post K n y2_53 u_53 → g_W D (Yw cA b) A s.heap u_53 H locs → lv_has ls 3 [(0, .ref (b 0)), (1, .int w1_14), (2, .int y2_53)] → W p l e rm_X5_bring s m args below meth c H locs 0 0 Q (F0 m 53 ls []) := by
      intro K hE n
      induction n with
      | zero => intro y2_53 u_53 H locs ls h; exact False.elim h
      | succ n ih =>
        intro y2_53 u_53 H locs ls h hW hl
        refine lv_iload_n hx hb dX5_bring_53 rfl (lv_at hl 2 rfl) ?_
        refine lv_aload_n hx hb dX5_bring_54 rfl (lv_at hl 0 rfl) ?_
        refine yg_0_0 S hK hW kw_425 dX5_bring_55 ?_
        refine lv_icmp_gt (tgt := 96) hx hb dX5_bring_58 (by decide) (fun c19 => ?_) (fun c19 => ?_)
        · have h := h.1 c19
          exact hE y2_53 u_53 _ _ _ h hW (lv_sub hl [0, 1, 2] rfl)
        · have h := h.2 c19
          refine lv_aload_n hx hb dX5_bring_61 rfl (lv_at hl 0 rfl) ?_
          refine yg_0_3 S hK hW kw_428 dX5_bring_62 ?_
          refine lv_iload_n hx hb dX5_bring_65 rfl (lv_at hl 2 rfl) ?_
          refine lv_aload_n hx hb dX5_bring_66 rfl (lv_at hl 0 rfl) ?_
          refine yg_0_3 S hK hW kw_428 dX5_bring_67 ?_
          refine lv_iload_n hx hb dX5_bring_70 rfl (lv_at hl 2 rfl) ?_
          obtain ⟨hin, h⟩ := h
          refine yl_2 S hK hW hin dX5_bring_71 (fun x20 ex20 => ?_)
          have h := nm_use ex20 h
          refine lv_aload_n hx hb dX5_bring_72 rfl (lv_at hl 0 rfl) ?_
          refine yg_0_14 S hK hW kw_439 dX5_bring_73 ?_
          refine lv_icmp_ne (tgt := 83) hx hb dX5_bring_76 (by decide) (fun c21 => ?_) (fun c21 => ?_)
          · have h := h.2 c21
            refine lv_aload_n hx hb dX5_bring_83 rfl (lv_at hl 0 rfl) ?_
            refine yg_0_3 S hK hW kw_428 dX5_bring_84 ?_
            refine lv_iload_n hx hb dX5_bring_87 rfl (lv_at hl 2 rfl) ?_
            obtain ⟨hin, h⟩ := h
            refine yl_2 S hK hW hin dX5_bring_88 (fun x22 ex22 => ?_)
            have h := nm_use ex22 h
            obtain ⟨hin, h⟩ := h
            refine ys_2 S hK hW hin dX5_bring_89 (fun u23 H locs eu23 hW => ?_)
            have h := nm_use eu23 h
            obtain ⟨x24, ex24⟩ : ∃ z : Int32, z = y2_53 + 1 := ⟨_, rfl⟩
            have h := nm_use ex24 h
            refine lv_iinc (v := x24) (lv' := [(2, .int x24), (0, .ref (b 0)), (1, .int w1_14)]) hx hb dX5_bring_90 hl (k := 2) rfl (by rw [ex24]; rfl) (by decide) rfl (fun ls hl => ?_)
            refine lv_goto (tgt := 53) hx hb dX5_bring_93 (by decide) ?_
            exact ih x24 u23 _ _ _ h hW (lv_sub hl [1, 2, 0] rfl)
          · have h := h.1 c21
            refine lv_iconst (v := 0) hx hb dX5_bring_79 (by decide) ?_
            refine lv_goto (tgt := 89) hx hb dX5_bring_80 (by decide) ?_
            obtain ⟨hin, h⟩ := h
            refine ys_2 S hK hW hin dX5_bring_89 (fun u25 H locs eu25 hW => ?_)
            have h := nm_use eu25 h
            obtain ⟨x26, ex26⟩ : ∃ z : Int32, z = y2_53 + 1 := ⟨_, rfl⟩
            have h := nm_use ex26 h
            refine lv_iinc (v := x26) (lv' := [(2, .int x26), (0, .ref (b 0)), (1, .int w1_14)]) hx hb dX5_bring_90 hl (k := 2) rfl (by rw [ex26]; rfl) (by decide) rfl (fun ls hl => ?_)
            refine lv_goto (tgt := 53) hx hb dX5_bring_93 (by decide) ?_
            exact ih x26 u25 _ _ _ h hW (lv_sub hl [1, 2, 0] rfl)
    obtain ⟨n_53, h⟩ := h
    refine loop_53 _ ?_ n_53 0 v_14 _ _ _ h hW (lv_sub hl [1, 2, 0] rfl)
    intro w2_53 v_53 H locs ls h hW hl
    refine lv_aload_n hx hb dX5_bring_96 rfl (lv_at hl 0 rfl) ?_
    refine lv_dup hx hb dX5_bring_97 rfl ?_
    refine yg_0_14 S hK hW kw_439 dX5_bring_98 ?_
    refine lv_iconst (v := 1) hx hb dX5_bring_101 (by decide) ?_
    refine lv_isub hx hb dX5_bring_102 ?_
    refine lv_topi (fun x17 ex17 => ?_)
    have h := nm_use ex17 h
    refine yp_16 S hK hW kw_439 dX5_bring_103 (fun u18 H locs eu18 hW => ?_)
    have h := nm_use eu18 h
    refine lv_iload_n hx hb dX5_bring_106 rfl (lv_at hl 1 rfl) ?_
    exact hret _ _ _ _ _ _ dX5_bring_107 hW h
  · have h := h.1 c1
    refine lv_bipush (v := (-103)) hx hb dX5_bring_7 (by decide) ?_
    exact hret _ _ _ _ _ _ dX5_bring_9 hW h
def L_X5_squeeze_4 (f1_4 : Int32) (post : Int32 → Mem → Prop) (K : Int32 → Int32 → Mem → Prop) : Nat → Int32 → Int32 → Mem → Prop
  | 0, _, _, _ => False
  | n_4 + 1, y2_4, y3_4, u_4 => ((u_4 15 0) ≤ y3_4 → (K y2_4 y3_4 u_4)) ∧ (¬ (u_4 15 0) ≤ y3_4 → (vp_in y3_4 400 ∧ nm (u_4 10 (y3_4 : Int32).toNatClampNeg) fun x2 => (x2 = 0 → (vp_in y3_4 400 ∧ nm (u_4 7 (y3_4 : Int32).toNatClampNeg) fun x5 => (f1_4 < x5 → (nm (y3_4 + 1) fun x7 => L_X5_squeeze_4 f1_4 post K n_4 y2_4 x7 u_4)) ∧ (¬ f1_4 < x5 → (vp_in y3_4 400 ∧ nm (u_4 6 (y3_4 : Int32).toNatClampNeg) fun x8 => vp_in y2_4 400 ∧ nm (g_ms u_4 6 (y2_4 : Int32).toNatClampNeg x8) fun u9 => vp_in y3_4 400 ∧ nm (u9 7 (y3_4 : Int32).toNatClampNeg) fun x10 => vp_in y2_4 400 ∧ nm (g_ms u9 7 (y2_4 : Int32).toNatClampNeg x10) fun u11 => vp_in y3_4 400 ∧ nm (u11 8 (y3_4 : Int32).toNatClampNeg) fun x12 => vp_in y2_4 400 ∧ nm (g_ms u11 8 (y2_4 : Int32).toNatClampNeg x12) fun u13 => vp_in y3_4 400 ∧ nm (u13 9 (y3_4 : Int32).toNatClampNeg) fun x14 => vp_in y2_4 400 ∧ nm (g_ms u13 9 (y2_4 : Int32).toNatClampNeg x14) fun u15 => vp_in y2_4 400 ∧ nm (g_ms u15 10 (y2_4 : Int32).toNatClampNeg 0) fun u16 => nm (y2_4 + 1) fun x17 => nm (y3_4 + 1) fun x18 => L_X5_squeeze_4 f1_4 post K n_4 x17 x18 u16)))) ∧ (¬ x2 = 0 → (nm (y3_4 + 1) fun x4 => L_X5_squeeze_4 f1_4 post K n_4 y2_4 x4 u_4))))
def w_X5_squeeze (xp1 : Int32) (u : Mem) (post : Int32 → Mem → Prop) : Prop := ∃ n_4, L_X5_squeeze_4 xp1 post (fun w2_4 w3_4 v_4 => nm ((v_4 15 0) - w2_4 : Int32) fun x19 => nm (g_ms v_4 15 0 w2_4) fun u20 => post x19 u20) n_4 0 0 u
abbrev rm_X5_squeeze : Room := { frames := 0, cells := 0, slots := 0, locals := 0 }
theorem hd_X5_squeeze : yX5_squeeze.cls ≠ "java/lang/invoke/MethodHandle" ∧ yX5_squeeze.cls ≠ "java/lang/invoke/VarHandle" ∧ (parseMethodDescriptor yX5_squeeze.desc).map (fun d => d.parameters.length) = some 1 := by decide +kernel
set_option maxHeartbeats 4000000 in
set_option maxRecDepth 100000 in
theorem c_X5_squeeze (l : Launch) (D : va_G) (cA : ClassId) (b : Nat → Nat) (u : Mem) (xp1 : Int32) (post : Int32 → Mem → Prop) (h : w_X5_squeeze xp1 u post) : g_Mi l yX5_squeeze (Cond.code yX5_squeeze cX5_squeeze 4 (some .int) :: tT) rm_X5_squeeze D cA (Yw cA b) u [.ref (b 0), .int xp1] post := by
  refine g_enter_i (by decide) (Yw_adr cA b) (Nat.le_of_ble_eq_true rfl) ?_
  intro p e s m args below meth c A Q S hml hK hA hret ls hl hW
  have hx := S.1
  have hb := S.2.1
  have hl : lv_has ls 4 [(0, .ref (b 0)), (1, .int xp1)] := hl
  skip
  refine lv_iconst (v := 0) hx hb dX5_squeeze_0 (by decide) ?_
  refine lv_istore_n (lv' := [(2, .int 0), (0, .ref (b 0)), (1, .int xp1)]) hx hb dX5_squeeze_1 rfl hl (by decide) rfl (fun ls hl => ?_)
  refine lv_iconst (v := 0) hx hb dX5_squeeze_2 (by decide) ?_
  refine lv_istore_n (lv' := [(3, .int 0), (2, .int 0), (0, .ref (b 0)), (1, .int xp1)]) hx hb dX5_squeeze_3 rfl hl (by decide) rfl (fun ls hl => ?_)
  have loop_4 : ∀ (K : Int32 → Int32 → Mem → Prop), (∀ (w2_4 w3_4 : Int32) (v_4 : Mem) (H : Heap) (locs : List Loc) (ls : Array Slot), K w2_4 w3_4 v_4 → g_W D (Yw cA b) A s.heap v_4 H locs → lv_has ls 4 [(0, .ref (b 0)), (1, .int xp1), (2, .int w2_4), (3, .int w3_4)] → W p l e rm_X5_squeeze s m args below meth c H locs 0 0 Q (F0 m 95 ls [])) → ∀ (n : Nat) (y2_4 y3_4 : Int32) (u_4 : Mem) (H : Heap) (locs : List Loc) (ls : Array Slot), L_X5_squeeze_4 xp1 post K n y2_4 y3_4 u_4 → g_W D (Yw cA b) A s.heap u_4 H locs → lv_has ls 4 [(0, .ref (b 0)), (1, .int xp1), (2, .int y2_4), (3, .int y3_4)] → W p l e rm_X5_squeeze s m args below meth c H locs 0 0 Q (F0 m 4 ls []) := by
    intro K hE n
    induction n with
    | zero => intro y2_4 y3_4 u_4 H locs ls h; exact False.elim h
    | succ n ih =>
      intro y2_4 y3_4 u_4 H locs ls h hW hl
      refine lv_iload_n hx hb dX5_squeeze_4 rfl (lv_at hl 3 rfl) ?_
      refine lv_aload_n hx hb dX5_squeeze_5 rfl (lv_at hl 0 rfl) ?_
      refine yg_0_8 S hK hW kw_433 dX5_squeeze_6 ?_
      refine lv_icmp_ge (tgt := 95) hx hb dX5_squeeze_9 (by decide) (fun c21 => ?_) (fun c21 => ?_)
      · have h := h.1 c21
        exact hE y2_4 y3_4 u_4 _ _ _ h hW (lv_sub hl [0, 1, 2, 3] rfl)
      · have h := h.2 c21
        refine lv_aload_n hx hb dX5_squeeze_12 rfl (lv_at hl 0 rfl) ?_
        refine yg_0_13 S hK hW kw_438 dX5_squeeze_13 ?_
        refine lv_iload_n hx hb dX5_squeeze_16 rfl (lv_at hl 3 rfl) ?_
        obtain ⟨hin, h⟩ := h
        refine yl_10 S hK hW hin dX5_squeeze_17 (fun x22 ex22 => ?_)
        have h := nm_use ex22 h
        refine lv_if_ne (tgt := 89) hx hb dX5_squeeze_18 (by decide) (fun c23 => ?_) (fun c23 => ?_)
        · have h := h.2 c23
          obtain ⟨x24, ex24⟩ : ∃ z : Int32, z = y3_4 + 1 := ⟨_, rfl⟩
          have h := nm_use ex24 h
          refine lv_iinc (v := x24) (lv' := [(3, .int x24), (0, .ref (b 0)), (1, .int xp1), (2, .int y2_4)]) hx hb dX5_squeeze_89 hl (k := 3) rfl (by rw [ex24]; rfl) (by decide) rfl (fun ls hl => ?_)
          refine lv_goto (tgt := 4) hx hb dX5_squeeze_92 (by decide) ?_
          exact ih y2_4 x24 u_4 _ _ _ h hW (lv_sub hl [1, 2, 3, 0] rfl)
        · have h := h.1 c23
          refine lv_aload_n hx hb dX5_squeeze_21 rfl (lv_at hl 0 rfl) ?_
          refine yg_0_10 S hK hW kw_435 dX5_squeeze_22 ?_
          refine lv_iload_n hx hb dX5_squeeze_25 rfl (lv_at hl 3 rfl) ?_
          obtain ⟨hin, h⟩ := h
          refine yl_7 S hK hW hin dX5_squeeze_26 (fun x25 ex25 => ?_)
          have h := nm_use ex25 h
          refine lv_iload_n hx hb dX5_squeeze_27 rfl (lv_at hl 1 rfl) ?_
          refine lv_icmp_gt (tgt := 89) hx hb dX5_squeeze_28 (by decide) (fun c26 => ?_) (fun c26 => ?_)
          · have h := h.1 c26
            obtain ⟨x27, ex27⟩ : ∃ z : Int32, z = y3_4 + 1 := ⟨_, rfl⟩
            have h := nm_use ex27 h
            refine lv_iinc (v := x27) (lv' := [(3, .int x27), (0, .ref (b 0)), (1, .int xp1), (2, .int y2_4)]) hx hb dX5_squeeze_89 hl (k := 3) rfl (by rw [ex27]; rfl) (by decide) rfl (fun ls hl => ?_)
            refine lv_goto (tgt := 4) hx hb dX5_squeeze_92 (by decide) ?_
            exact ih y2_4 x27 u_4 _ _ _ h hW (lv_sub hl [1, 2, 3, 0] rfl)
          · have h := h.2 c26
            refine lv_aload_n hx hb dX5_squeeze_31 rfl (lv_at hl 0 rfl) ?_
            refine yg_0_9 S hK hW kw_434 dX5_squeeze_32 ?_
            refine lv_iload_n hx hb dX5_squeeze_35 rfl (lv_at hl 2 rfl) ?_
            refine lv_aload_n hx hb dX5_squeeze_36 rfl (lv_at hl 0 rfl) ?_
            refine yg_0_9 S hK hW kw_434 dX5_squeeze_37 ?_
            refine lv_iload_n hx hb dX5_squeeze_40 rfl (lv_at hl 3 rfl) ?_
            obtain ⟨hin, h⟩ := h
            refine yl_6 S hK hW hin dX5_squeeze_41 (fun x28 ex28 => ?_)
            have h := nm_use ex28 h
            obtain ⟨hin, h⟩ := h
            refine ys_6 S hK hW hin dX5_squeeze_42 (fun u29 H locs eu29 hW => ?_)
            have h := nm_use eu29 h
            refine lv_aload_n hx hb dX5_squeeze_43 rfl (lv_at hl 0 rfl) ?_
            refine yg_0_10 S hK hW kw_435 dX5_squeeze_44 ?_
            refine lv_iload_n hx hb dX5_squeeze_47 rfl (lv_at hl 2 rfl) ?_
            refine lv_aload_n hx hb dX5_squeeze_48 rfl (lv_at hl 0 rfl) ?_
            refine yg_0_10 S hK hW kw_435 dX5_squeeze_49 ?_
            refine lv_iload_n hx hb dX5_squeeze_52 rfl (lv_at hl 3 rfl) ?_
            obtain ⟨hin, h⟩ := h
            refine yl_7 S hK hW hin dX5_squeeze_53 (fun x30 ex30 => ?_)
            have h := nm_use ex30 h
            obtain ⟨hin, h⟩ := h
            refine ys_7 S hK hW hin dX5_squeeze_54 (fun u31 H locs eu31 hW => ?_)
            have h := nm_use eu31 h
            refine lv_aload_n hx hb dX5_squeeze_55 rfl (lv_at hl 0 rfl) ?_
            refine yg_0_11 S hK hW kw_436 dX5_squeeze_56 ?_
            refine lv_iload_n hx hb dX5_squeeze_59 rfl (lv_at hl 2 rfl) ?_
            refine lv_aload_n hx hb dX5_squeeze_60 rfl (lv_at hl 0 rfl) ?_
            refine yg_0_11 S hK hW kw_436 dX5_squeeze_61 ?_
            refine lv_iload_n hx hb dX5_squeeze_64 rfl (lv_at hl 3 rfl) ?_
            obtain ⟨hin, h⟩ := h
            refine yl_8 S hK hW hin dX5_squeeze_65 (fun x32 ex32 => ?_)
            have h := nm_use ex32 h
            obtain ⟨hin, h⟩ := h
            refine ys_8 S hK hW hin dX5_squeeze_66 (fun u33 H locs eu33 hW => ?_)
            have h := nm_use eu33 h
            refine lv_aload_n hx hb dX5_squeeze_67 rfl (lv_at hl 0 rfl) ?_
            refine yg_0_12 S hK hW kw_437 dX5_squeeze_68 ?_
            refine lv_iload_n hx hb dX5_squeeze_71 rfl (lv_at hl 2 rfl) ?_
            refine lv_aload_n hx hb dX5_squeeze_72 rfl (lv_at hl 0 rfl) ?_
            refine yg_0_12 S hK hW kw_437 dX5_squeeze_73 ?_
            refine lv_iload_n hx hb dX5_squeeze_76 rfl (lv_at hl 3 rfl) ?_
            obtain ⟨hin, h⟩ := h
            refine yl_9 S hK hW hin dX5_squeeze_77 (fun x34 ex34 => ?_)
            have h := nm_use ex34 h
            obtain ⟨hin, h⟩ := h
            refine ys_9 S hK hW hin dX5_squeeze_78 (fun u35 H locs eu35 hW => ?_)
            have h := nm_use eu35 h
            refine lv_aload_n hx hb dX5_squeeze_79 rfl (lv_at hl 0 rfl) ?_
            refine yg_0_13 S hK hW kw_438 dX5_squeeze_80 ?_
            refine lv_iload_n hx hb dX5_squeeze_83 rfl (lv_at hl 2 rfl) ?_
            refine lv_iconst (v := 0) hx hb dX5_squeeze_84 (by decide) ?_
            obtain ⟨hin, h⟩ := h
            refine ys_10 S hK hW hin dX5_squeeze_85 (fun u36 H locs eu36 hW => ?_)
            have h := nm_use eu36 h
            obtain ⟨x37, ex37⟩ : ∃ z : Int32, z = y2_4 + 1 := ⟨_, rfl⟩
            have h := nm_use ex37 h
            refine lv_iinc (v := x37) (lv' := [(2, .int x37), (0, .ref (b 0)), (1, .int xp1), (3, .int y3_4)]) hx hb dX5_squeeze_86 hl (k := 2) rfl (by rw [ex37]; rfl) (by decide) rfl (fun ls hl => ?_)
            obtain ⟨x38, ex38⟩ : ∃ z : Int32, z = y3_4 + 1 := ⟨_, rfl⟩
            have h := nm_use ex38 h
            refine lv_iinc (v := x38) (lv' := [(3, .int x38), (2, .int x37), (0, .ref (b 0)), (1, .int xp1)]) hx hb dX5_squeeze_89 hl (k := 3) rfl (by rw [ex38]; rfl) (by decide) rfl (fun ls hl => ?_)
            refine lv_goto (tgt := 4) hx hb dX5_squeeze_92 (by decide) ?_
            exact ih x37 x38 u36 _ _ _ h hW (lv_sub hl [2, 3, 1, 0] rfl)
  obtain ⟨n_4, h⟩ := h
  refine loop_4 _ ?_ n_4 0 0 u _ _ _ h hW (lv_sub hl [2, 3, 1, 0] rfl)
  intro w2_4 w3_4 v_4 H locs ls h hW hl
  refine lv_aload_n hx hb dX5_squeeze_95 rfl (lv_at hl 0 rfl) ?_
  refine yg_0_8 S hK hW kw_433 dX5_squeeze_96 ?_
  refine lv_iload_n hx hb dX5_squeeze_99 rfl (lv_at hl 2 rfl) ?_
  refine lv_isub hx hb dX5_squeeze_100 ?_
  refine lv_topi (fun x19 ex19 => ?_)
  have h := nm_use ex19 h
  refine lv_istore_n (lv' := [(3, .int x19), (0, .ref (b 0)), (1, .int xp1), (2, .int w2_4)]) hx hb dX5_squeeze_101 rfl hl (by decide) rfl (fun ls hl => ?_)
  refine lv_aload_n hx hb dX5_squeeze_102 rfl (lv_at hl 1 rfl) ?_
  refine lv_iload_n hx hb dX5_squeeze_103 rfl (lv_at hl 3 rfl) ?_
  refine yp_15 S hK hW kw_433 dX5_squeeze_104 (fun u20 H locs eu20 hW => ?_)
  have h := nm_use eu20 h
  refine lv_iload_n hx hb dX5_squeeze_107 rfl (lv_at hl 0 rfl) ?_
  exact hret _ _ _ _ _ _ dX5_squeeze_108 hW h
def L_X5_forget_2  (post : Int32 → Mem → Prop) (K : Int32 → Mem → Prop) : Nat → Int32 → Mem → Prop
  | 0, _, _ => False
  | n_2 + 1, y1_2, u_2 => ((u_2 13 0) < y1_2 → (K y1_2 u_2)) ∧ (¬ (u_2 13 0) < y1_2 → (vp_in y1_2 201 ∧ nm (u_2 2 (y1_2 : Int32).toNatClampNeg) fun x2 => (x2 ≤ 0 → (vp_in y1_2 201 ∧ nm (g_ms u_2 2 (y1_2 : Int32).toNatClampNeg 0) fun u4 => nm (y1_2 + 1) fun x5 => L_X5_forget_2  post K n_2 x5 u4)) ∧ (¬ x2 ≤ 0 → (vp_in y1_2 201 ∧ nm (g_ms u_2 2 (y1_2 : Int32).toNatClampNeg 9) fun u6 => nm (y1_2 + 1) fun x7 => L_X5_forget_2  post K n_2 x7 u6))))
def w_X5_forget  (u : Mem) (post : Int32 → Mem → Prop) : Prop := ∃ n_2, L_X5_forget_2  post (fun w1_2 v_2 => nm (g_ms v_2 16 0 0) fun u8 => w_X5_squeeze (u8 13 0) u8 (fun x10 u9 => post x10 u9)) n_2 0 u
abbrev rm_X5_forget : Room := { frames := 1, cells := 0, slots := 0, locals := 23 }
theorem hd_X5_forget : yX5_forget.cls ≠ "java/lang/invoke/MethodHandle" ∧ yX5_forget.cls ≠ "java/lang/invoke/VarHandle" ∧ (parseMethodDescriptor yX5_forget.desc).map (fun d => d.parameters.length) = some 0 := by decide +kernel
set_option maxHeartbeats 4000000 in
set_option maxRecDepth 100000 in
theorem c_X5_forget (l : Launch) (D : va_G) (cA : ClassId) (b : Nat → Nat) (u : Mem) (post : Int32 → Mem → Prop) (h : w_X5_forget  u post) : g_Mi l yX5_forget (Cond.code yX5_forget cX5_forget 2 (some .int) :: tT) rm_X5_forget D cA (Yw cA b) u [.ref (b 0)] post := by
  refine g_enter_i (by decide) (Yw_adr cA b) (Nat.le_of_ble_eq_true rfl) ?_
  intro p e s m args below meth c A Q S hml hK hA hret ls hl hW
  have hx := S.1
  have hb := S.2.1
  have hl : lv_has ls 2 [(0, .ref (b 0))] := hl
  skip
  refine lv_iconst (v := 0) hx hb dX5_forget_0 (by decide) ?_
  refine lv_istore_n (lv' := [(1, .int 0), (0, .ref (b 0))]) hx hb dX5_forget_1 rfl hl (by decide) rfl (fun ls hl => ?_)
  have loop_2 : ∀ (K : Int32 → Mem → Prop), (∀ (w1_2 : Int32) (v_2 : Mem) (H : Heap) (locs : List Loc) (ls : Array Slot), K w1_2 v_2 → g_W D (Yw cA b) A s.heap v_2 H locs → lv_has ls 2 [(0, .ref (b 0)), (1, .int w1_2)] → W p l e rm_X5_forget s m args below meth c H locs 0 0 Q (F0 m 37 ls [])) → ∀ (n : Nat) (y1_2 : Int32) (u_2 : Mem) (H : Heap) (locs : List Loc) (ls : Array Slot), L_X5_forget_2  post K n y1_2 u_2 → g_W D (Yw cA b) A s.heap u_2 H locs → lv_has ls 2 [(0, .ref (b 0)), (1, .int y1_2)] → W p l e rm_X5_forget s m args below meth c H locs 0 0 Q (F0 m 2 ls []) := by
    intro K hE n
    induction n with
    | zero => intro y1_2 u_2 H locs ls h; exact False.elim h
    | succ n ih =>
      intro y1_2 u_2 H locs ls h hW hl
      refine lv_iload_n hx hb dX5_forget_2 rfl (lv_at hl 1 rfl) ?_
      refine lv_aload_n hx hb dX5_forget_3 rfl (lv_at hl 0 rfl) ?_
      refine yg_0_0 S hK hW kw_425 dX5_forget_4 ?_
      refine lv_icmp_gt (tgt := 37) hx hb dX5_forget_7 (by decide) (fun c11 => ?_) (fun c11 => ?_)
      · have h := h.1 c11
        exact hE y1_2 u_2 _ _ _ h hW (lv_sub hl [0, 1] rfl)
      · have h := h.2 c11
        refine lv_aload_n hx hb dX5_forget_10 rfl (lv_at hl 0 rfl) ?_
        refine yg_0_3 S hK hW kw_428 dX5_forget_11 ?_
        refine lv_iload_n hx hb dX5_forget_14 rfl (lv_at hl 1 rfl) ?_
        refine lv_aload_n hx hb dX5_forget_15 rfl (lv_at hl 0 rfl) ?_
        refine yg_0_3 S hK hW kw_428 dX5_forget_16 ?_
        refine lv_iload_n hx hb dX5_forget_19 rfl (lv_at hl 1 rfl) ?_
        obtain ⟨hin, h⟩ := h
        refine yl_2 S hK hW hin dX5_forget_20 (fun x12 ex12 => ?_)
        have h := nm_use ex12 h
        refine lv_if_le (tgt := 29) hx hb dX5_forget_21 (by decide) (fun c13 => ?_) (fun c13 => ?_)
        · have h := h.1 c13
          refine lv_iconst (v := 0) hx hb dX5_forget_29 (by decide) ?_
          obtain ⟨hin, h⟩ := h
          refine ys_2 S hK hW hin dX5_forget_30 (fun u14 H locs eu14 hW => ?_)
          have h := nm_use eu14 h
          obtain ⟨x15, ex15⟩ : ∃ z : Int32, z = y1_2 + 1 := ⟨_, rfl⟩
          have h := nm_use ex15 h
          refine lv_iinc (v := x15) (lv' := [(1, .int x15), (0, .ref (b 0))]) hx hb dX5_forget_31 hl (k := 1) rfl (by rw [ex15]; rfl) (by decide) rfl (fun ls hl => ?_)
          refine lv_goto (tgt := 2) hx hb dX5_forget_34 (by decide) ?_
          exact ih x15 u14 _ _ _ h hW (lv_sub hl [1, 0] rfl)
        · have h := h.2 c13
          refine lv_bipush (v := 9) hx hb dX5_forget_24 (by decide) ?_
          refine lv_goto (tgt := 30) hx hb dX5_forget_26 (by decide) ?_
          obtain ⟨hin, h⟩ := h
          refine ys_2 S hK hW hin dX5_forget_30 (fun u16 H locs eu16 hW => ?_)
          have h := nm_use eu16 h
          obtain ⟨x17, ex17⟩ : ∃ z : Int32, z = y1_2 + 1 := ⟨_, rfl⟩
          have h := nm_use ex17 h
          refine lv_iinc (v := x17) (lv' := [(1, .int x17), (0, .ref (b 0))]) hx hb dX5_forget_31 hl (k := 1) rfl (by rw [ex17]; rfl) (by decide) rfl (fun ls hl => ?_)
          refine lv_goto (tgt := 2) hx hb dX5_forget_34 (by decide) ?_
          exact ih x17 u16 _ _ _ h hW (lv_sub hl [1, 0] rfl)
  obtain ⟨n_2, h⟩ := h
  refine loop_2 _ ?_ n_2 0 u _ _ _ h hW (lv_sub hl [1, 0] rfl)
  intro w1_2 v_2 H locs ls h hW hl
  refine lv_aload_n hx hb dX5_forget_37 rfl (lv_at hl 0 rfl) ?_
  refine lv_iconst (v := 0) hx hb dX5_forget_38 (by decide) ?_
  refine yp_16 S hK hW kw_439 dX5_forget_39 (fun u8 H locs eu8 hW => ?_)
  have h := nm_use eu8 h
  refine lv_aload_n hx hb dX5_forget_42 rfl (lv_at hl 0 rfl) ?_
  refine lv_aload_n hx hb dX5_forget_43 rfl (lv_at hl 0 rfl) ?_
  refine yg_0_0 S hK hW kw_425 dX5_forget_44 ?_
  refine g_cali (g_runV S hml hK hW (c_X5_squeeze l D cA b u8 (u8 13 0) _ h _) kw_572 kw_574 kw_14 kw_25 kw_575 hd_X5_squeeze ⟨rfl, rfl, Nat.le_of_ble_eq_true rfl, Nat.le_of_ble_eq_true rfl⟩ (q0 := 0) rfl rfl (As := [.int (u8 13 0)]) (rest := []) rfl rfl hl.1 (Nat.le_of_ble_eq_true rfl) dX5_forget_47 ⟨Nat.zero_le _, Nat.zero_le _⟩) (Yw_adr cA b) hA hW (fun x10 u9 H locs h hW => ?_)
  exact hret _ _ _ _ _ _ dX5_forget_50 hW h
def L_X5_heightsBy_4 (f1_4 : Int32) (post : Int32 → Mem → Prop) (K : Int32 → Int32 → Mem → Prop) : Nat → Int32 → Int32 → Mem → Prop
  | 0, _, _, _ => False
  | n_4 + 1, y2_4, y3_4, u_4 => ((u_4 13 0) < y3_4 → (K y2_4 y3_4 u_4)) ∧ (¬ (u_4 13 0) < y3_4 → (vp_in y3_4 201 ∧ nm (u_4 2 (y3_4 : Int32).toNatClampNeg) fun x2 => (x2 = f1_4 → (nm (y2_4 + (1 : Int32) : Int32) fun x6 => nm (y3_4 + 1) fun x7 => L_X5_heightsBy_4 f1_4 post K n_4 x6 x7 u_4)) ∧ (¬ x2 = f1_4 → (nm (y2_4 + (0 : Int32) : Int32) fun x4 => nm (y3_4 + 1) fun x5 => L_X5_heightsBy_4 f1_4 post K n_4 x4 x5 u_4))))
def w_X5_heightsBy (xp1 : Int32) (u : Mem) (post : Int32 → Mem → Prop) : Prop := ∃ n_4, L_X5_heightsBy_4 xp1 post (fun w2_4 w3_4 v_4 => post w2_4 v_4) n_4 0 0 u
abbrev rm_X5_heightsBy : Room := { frames := 0, cells := 0, slots := 0, locals := 0 }
theorem hd_X5_heightsBy : yX5_heightsBy.cls ≠ "java/lang/invoke/MethodHandle" ∧ yX5_heightsBy.cls ≠ "java/lang/invoke/VarHandle" ∧ (parseMethodDescriptor yX5_heightsBy.desc).map (fun d => d.parameters.length) = some 1 := by decide +kernel
set_option maxHeartbeats 4000000 in
set_option maxRecDepth 100000 in
theorem c_X5_heightsBy (l : Launch) (D : va_G) (cA : ClassId) (b : Nat → Nat) (u : Mem) (xp1 : Int32) (post : Int32 → Mem → Prop) (h : w_X5_heightsBy xp1 u post) : g_Mi l yX5_heightsBy (Cond.code yX5_heightsBy cX5_heightsBy 4 (some .int) :: tT) rm_X5_heightsBy D cA (Yw cA b) u [.ref (b 0), .int xp1] post := by
  refine g_enter_i (by decide) (Yw_adr cA b) (Nat.le_of_ble_eq_true rfl) ?_
  intro p e s m args below meth c A Q S hml hK hA hret ls hl hW
  have hx := S.1
  have hb := S.2.1
  have hl : lv_has ls 4 [(0, .ref (b 0)), (1, .int xp1)] := hl
  skip
  refine lv_iconst (v := 0) hx hb dX5_heightsBy_0 (by decide) ?_
  refine lv_istore_n (lv' := [(2, .int 0), (0, .ref (b 0)), (1, .int xp1)]) hx hb dX5_heightsBy_1 rfl hl (by decide) rfl (fun ls hl => ?_)
  refine lv_iconst (v := 0) hx hb dX5_heightsBy_2 (by decide) ?_
  refine lv_istore_n (lv' := [(3, .int 0), (2, .int 0), (0, .ref (b 0)), (1, .int xp1)]) hx hb dX5_heightsBy_3 rfl hl (by decide) rfl (fun ls hl => ?_)
  have loop_4 : ∀ (K : Int32 → Int32 → Mem → Prop), (∀ (w2_4 w3_4 : Int32) (v_4 : Mem) (H : Heap) (locs : List Loc) (ls : Array Slot), K w2_4 w3_4 v_4 → g_W D (Yw cA b) A s.heap v_4 H locs → lv_has ls 4 [(0, .ref (b 0)), (1, .int xp1), (2, .int w2_4), (3, .int w3_4)] → W p l e rm_X5_heightsBy s m args below meth c H locs 0 0 Q (F0 m 36 ls [])) → ∀ (n : Nat) (y2_4 y3_4 : Int32) (u_4 : Mem) (H : Heap) (locs : List Loc) (ls : Array Slot), L_X5_heightsBy_4 xp1 post K n y2_4 y3_4 u_4 → g_W D (Yw cA b) A s.heap u_4 H locs → lv_has ls 4 [(0, .ref (b 0)), (1, .int xp1), (2, .int y2_4), (3, .int y3_4)] → W p l e rm_X5_heightsBy s m args below meth c H locs 0 0 Q (F0 m 4 ls []) := by
    intro K hE n
    induction n with
    | zero => intro y2_4 y3_4 u_4 H locs ls h; exact False.elim h
    | succ n ih =>
      intro y2_4 y3_4 u_4 H locs ls h hW hl
      refine lv_iload_n hx hb dX5_heightsBy_4 rfl (lv_at hl 3 rfl) ?_
      refine lv_aload_n hx hb dX5_heightsBy_5 rfl (lv_at hl 0 rfl) ?_
      refine yg_0_0 S hK hW kw_425 dX5_heightsBy_6 ?_
      refine lv_icmp_gt (tgt := 36) hx hb dX5_heightsBy_9 (by decide) (fun c8 => ?_) (fun c8 => ?_)
      · have h := h.1 c8
        exact hE y2_4 y3_4 u_4 _ _ _ h hW (lv_sub hl [0, 1, 2, 3] rfl)
      · have h := h.2 c8
        refine lv_iload_n hx hb dX5_heightsBy_12 rfl (lv_at hl 2 rfl) ?_
        refine lv_aload_n hx hb dX5_heightsBy_13 rfl (lv_at hl 0 rfl) ?_
        refine yg_0_3 S hK hW kw_428 dX5_heightsBy_14 ?_
        refine lv_iload_n hx hb dX5_heightsBy_17 rfl (lv_at hl 3 rfl) ?_
        obtain ⟨hin, h⟩ := h
        refine yl_2 S hK hW hin dX5_heightsBy_18 (fun x9 ex9 => ?_)
        have h := nm_use ex9 h
        refine lv_iload_n hx hb dX5_heightsBy_19 rfl (lv_at hl 1 rfl) ?_
        refine lv_icmp_ne (tgt := 27) hx hb dX5_heightsBy_20 (by decide) (fun c10 => ?_) (fun c10 => ?_)
        · have h := h.2 c10
          refine lv_iconst (v := 0) hx hb dX5_heightsBy_27 (by decide) ?_
          refine lv_iadd hx hb dX5_heightsBy_28 ?_
          refine lv_topi (fun x11 ex11 => ?_)
          have h := nm_use ex11 h
          refine lv_istore_n (lv' := [(2, .int x11), (0, .ref (b 0)), (1, .int xp1), (3, .int y3_4)]) hx hb dX5_heightsBy_29 rfl hl (by decide) rfl (fun ls hl => ?_)
          obtain ⟨x12, ex12⟩ : ∃ z : Int32, z = y3_4 + 1 := ⟨_, rfl⟩
          have h := nm_use ex12 h
          refine lv_iinc (v := x12) (lv' := [(3, .int x12), (2, .int x11), (0, .ref (b 0)), (1, .int xp1)]) hx hb dX5_heightsBy_30 hl (k := 3) rfl (by rw [ex12]; rfl) (by decide) rfl (fun ls hl => ?_)
          refine lv_goto (tgt := 4) hx hb dX5_heightsBy_33 (by decide) ?_
          exact ih x11 x12 u_4 _ _ _ h hW (lv_sub hl [2, 3, 1, 0] rfl)
        · have h := h.1 c10
          refine lv_iconst (v := 1) hx hb dX5_heightsBy_23 (by decide) ?_
          refine lv_goto (tgt := 28) hx hb dX5_heightsBy_24 (by decide) ?_
          refine lv_iadd hx hb dX5_heightsBy_28 ?_
          refine lv_topi (fun x13 ex13 => ?_)
          have h := nm_use ex13 h
          refine lv_istore_n (lv' := [(2, .int x13), (0, .ref (b 0)), (1, .int xp1), (3, .int y3_4)]) hx hb dX5_heightsBy_29 rfl hl (by decide) rfl (fun ls hl => ?_)
          obtain ⟨x14, ex14⟩ : ∃ z : Int32, z = y3_4 + 1 := ⟨_, rfl⟩
          have h := nm_use ex14 h
          refine lv_iinc (v := x14) (lv' := [(3, .int x14), (2, .int x13), (0, .ref (b 0)), (1, .int xp1)]) hx hb dX5_heightsBy_30 hl (k := 3) rfl (by rw [ex14]; rfl) (by decide) rfl (fun ls hl => ?_)
          refine lv_goto (tgt := 4) hx hb dX5_heightsBy_33 (by decide) ?_
          exact ih x13 x14 u_4 _ _ _ h hW (lv_sub hl [2, 3, 1, 0] rfl)
  obtain ⟨n_4, h⟩ := h
  refine loop_4 _ ?_ n_4 0 0 u _ _ _ h hW (lv_sub hl [2, 3, 1, 0] rfl)
  intro w2_4 w3_4 v_4 H locs ls h hW hl
  refine lv_iload_n hx hb dX5_heightsBy_36 rfl (lv_at hl 2 rfl) ?_
  exact hret _ _ _ _ _ _ dX5_heightsBy_37 hW h
def L_X5_rowsIn_4 (f1_4 : Int32) (post : Int32 → Mem → Prop) (K : Int32 → Int32 → Mem → Prop) : Nat → Int32 → Int32 → Mem → Prop
  | 0, _, _, _ => False
  | n_4 + 1, y2_4, y3_4, u_4 => ((u_4 15 0) ≤ y3_4 → (K y2_4 y3_4 u_4)) ∧ (¬ (u_4 15 0) ≤ y3_4 → (vp_in y3_4 400 ∧ nm (u_4 10 (y3_4 : Int32).toNatClampNeg) fun x2 => (x2 = f1_4 → (nm (y2_4 + (1 : Int32) : Int32) fun x6 => nm (y3_4 + 1) fun x7 => L_X5_rowsIn_4 f1_4 post K n_4 x6 x7 u_4)) ∧ (¬ x2 = f1_4 → (nm (y2_4 + (0 : Int32) : Int32) fun x4 => nm (y3_4 + 1) fun x5 => L_X5_rowsIn_4 f1_4 post K n_4 x4 x5 u_4))))
def w_X5_rowsIn (xp1 : Int32) (u : Mem) (post : Int32 → Mem → Prop) : Prop := ∃ n_4, L_X5_rowsIn_4 xp1 post (fun w2_4 w3_4 v_4 => post w2_4 v_4) n_4 0 0 u
abbrev rm_X5_rowsIn : Room := { frames := 0, cells := 0, slots := 0, locals := 0 }
theorem hd_X5_rowsIn : yX5_rowsIn.cls ≠ "java/lang/invoke/MethodHandle" ∧ yX5_rowsIn.cls ≠ "java/lang/invoke/VarHandle" ∧ (parseMethodDescriptor yX5_rowsIn.desc).map (fun d => d.parameters.length) = some 1 := by decide +kernel
set_option maxHeartbeats 4000000 in
set_option maxRecDepth 100000 in
theorem c_X5_rowsIn (l : Launch) (D : va_G) (cA : ClassId) (b : Nat → Nat) (u : Mem) (xp1 : Int32) (post : Int32 → Mem → Prop) (h : w_X5_rowsIn xp1 u post) : g_Mi l yX5_rowsIn (Cond.code yX5_rowsIn cX5_rowsIn 4 (some .int) :: tT) rm_X5_rowsIn D cA (Yw cA b) u [.ref (b 0), .int xp1] post := by
  refine g_enter_i (by decide) (Yw_adr cA b) (Nat.le_of_ble_eq_true rfl) ?_
  intro p e s m args below meth c A Q S hml hK hA hret ls hl hW
  have hx := S.1
  have hb := S.2.1
  have hl : lv_has ls 4 [(0, .ref (b 0)), (1, .int xp1)] := hl
  skip
  refine lv_iconst (v := 0) hx hb dX5_rowsIn_0 (by decide) ?_
  refine lv_istore_n (lv' := [(2, .int 0), (0, .ref (b 0)), (1, .int xp1)]) hx hb dX5_rowsIn_1 rfl hl (by decide) rfl (fun ls hl => ?_)
  refine lv_iconst (v := 0) hx hb dX5_rowsIn_2 (by decide) ?_
  refine lv_istore_n (lv' := [(3, .int 0), (2, .int 0), (0, .ref (b 0)), (1, .int xp1)]) hx hb dX5_rowsIn_3 rfl hl (by decide) rfl (fun ls hl => ?_)
  have loop_4 : ∀ (K : Int32 → Int32 → Mem → Prop), (∀ (w2_4 w3_4 : Int32) (v_4 : Mem) (H : Heap) (locs : List Loc) (ls : Array Slot), K w2_4 w3_4 v_4 → g_W D (Yw cA b) A s.heap v_4 H locs → lv_has ls 4 [(0, .ref (b 0)), (1, .int xp1), (2, .int w2_4), (3, .int w3_4)] → W p l e rm_X5_rowsIn s m args below meth c H locs 0 0 Q (F0 m 36 ls [])) → ∀ (n : Nat) (y2_4 y3_4 : Int32) (u_4 : Mem) (H : Heap) (locs : List Loc) (ls : Array Slot), L_X5_rowsIn_4 xp1 post K n y2_4 y3_4 u_4 → g_W D (Yw cA b) A s.heap u_4 H locs → lv_has ls 4 [(0, .ref (b 0)), (1, .int xp1), (2, .int y2_4), (3, .int y3_4)] → W p l e rm_X5_rowsIn s m args below meth c H locs 0 0 Q (F0 m 4 ls []) := by
    intro K hE n
    induction n with
    | zero => intro y2_4 y3_4 u_4 H locs ls h; exact False.elim h
    | succ n ih =>
      intro y2_4 y3_4 u_4 H locs ls h hW hl
      refine lv_iload_n hx hb dX5_rowsIn_4 rfl (lv_at hl 3 rfl) ?_
      refine lv_aload_n hx hb dX5_rowsIn_5 rfl (lv_at hl 0 rfl) ?_
      refine yg_0_8 S hK hW kw_433 dX5_rowsIn_6 ?_
      refine lv_icmp_ge (tgt := 36) hx hb dX5_rowsIn_9 (by decide) (fun c8 => ?_) (fun c8 => ?_)
      · have h := h.1 c8
        exact hE y2_4 y3_4 u_4 _ _ _ h hW (lv_sub hl [0, 1, 2, 3] rfl)
      · have h := h.2 c8
        refine lv_iload_n hx hb dX5_rowsIn_12 rfl (lv_at hl 2 rfl) ?_
        refine lv_aload_n hx hb dX5_rowsIn_13 rfl (lv_at hl 0 rfl) ?_
        refine yg_0_13 S hK hW kw_438 dX5_rowsIn_14 ?_
        refine lv_iload_n hx hb dX5_rowsIn_17 rfl (lv_at hl 3 rfl) ?_
        obtain ⟨hin, h⟩ := h
        refine yl_10 S hK hW hin dX5_rowsIn_18 (fun x9 ex9 => ?_)
        have h := nm_use ex9 h
        refine lv_iload_n hx hb dX5_rowsIn_19 rfl (lv_at hl 1 rfl) ?_
        refine lv_icmp_ne (tgt := 27) hx hb dX5_rowsIn_20 (by decide) (fun c10 => ?_) (fun c10 => ?_)
        · have h := h.2 c10
          refine lv_iconst (v := 0) hx hb dX5_rowsIn_27 (by decide) ?_
          refine lv_iadd hx hb dX5_rowsIn_28 ?_
          refine lv_topi (fun x11 ex11 => ?_)
          have h := nm_use ex11 h
          refine lv_istore_n (lv' := [(2, .int x11), (0, .ref (b 0)), (1, .int xp1), (3, .int y3_4)]) hx hb dX5_rowsIn_29 rfl hl (by decide) rfl (fun ls hl => ?_)
          obtain ⟨x12, ex12⟩ : ∃ z : Int32, z = y3_4 + 1 := ⟨_, rfl⟩
          have h := nm_use ex12 h
          refine lv_iinc (v := x12) (lv' := [(3, .int x12), (2, .int x11), (0, .ref (b 0)), (1, .int xp1)]) hx hb dX5_rowsIn_30 hl (k := 3) rfl (by rw [ex12]; rfl) (by decide) rfl (fun ls hl => ?_)
          refine lv_goto (tgt := 4) hx hb dX5_rowsIn_33 (by decide) ?_
          exact ih x11 x12 u_4 _ _ _ h hW (lv_sub hl [2, 3, 1, 0] rfl)
        · have h := h.1 c10
          refine lv_iconst (v := 1) hx hb dX5_rowsIn_23 (by decide) ?_
          refine lv_goto (tgt := 28) hx hb dX5_rowsIn_24 (by decide) ?_
          refine lv_iadd hx hb dX5_rowsIn_28 ?_
          refine lv_topi (fun x13 ex13 => ?_)
          have h := nm_use ex13 h
          refine lv_istore_n (lv' := [(2, .int x13), (0, .ref (b 0)), (1, .int xp1), (3, .int y3_4)]) hx hb dX5_rowsIn_29 rfl hl (by decide) rfl (fun ls hl => ?_)
          obtain ⟨x14, ex14⟩ : ∃ z : Int32, z = y3_4 + 1 := ⟨_, rfl⟩
          have h := nm_use ex14 h
          refine lv_iinc (v := x14) (lv' := [(3, .int x14), (2, .int x13), (0, .ref (b 0)), (1, .int xp1)]) hx hb dX5_rowsIn_30 hl (k := 3) rfl (by rw [ex14]; rfl) (by decide) rfl (fun ls hl => ?_)
          refine lv_goto (tgt := 4) hx hb dX5_rowsIn_33 (by decide) ?_
          exact ih x13 x14 u_4 _ _ _ h hW (lv_sub hl [2, 3, 1, 0] rfl)
  obtain ⟨n_4, h⟩ := h
  refine loop_4 _ ?_ n_4 0 0 u _ _ _ h hW (lv_sub hl [2, 3, 1, 0] rfl)
  intro w2_4 w3_4 v_4 H locs ls h hW hl
  refine lv_iload_n hx hb dX5_rowsIn_36 rfl (lv_at hl 2 rfl) ?_
  exact hret _ _ _ _ _ _ dX5_rowsIn_37 hW h
def w_X5_archive (xp1 : Int32) (xp2 : Int32) (u : Mem) (post : Int32 → Mem → Prop) : Prop := nm ((u 16 0) - (1 : Int32) : Int32) fun x1 => w_X5_in xp1 0 x1 u (fun x3 u2 => (x3 = 0 → (post (-101) u2)) ∧ (¬ x3 = 0 → ((xp2 = 0 → (nm ((1 : Int32) + xp1 : Int32) fun x10 => w_X5_rowsIn x10 u2 (fun x12 u11 => post x12 u11))) ∧ (¬ xp2 = 0 → ((xp2 = 1 → (nm ((1 : Int32) + xp1 : Int32) fun x7 => w_X5_heightsBy x7 u2 (fun x9 u8 => post x9 u8))) ∧ (¬ xp2 = 1 → (post (-102) u2)))))))
abbrev rm_X5_archive : Room := { frames := 1, cells := 0, slots := 0, locals := 23 }
theorem hd_X5_archive : yX5_archive.cls ≠ "java/lang/invoke/MethodHandle" ∧ yX5_archive.cls ≠ "java/lang/invoke/VarHandle" ∧ (parseMethodDescriptor yX5_archive.desc).map (fun d => d.parameters.length) = some 2 := by decide +kernel
set_option maxHeartbeats 4000000 in
set_option maxRecDepth 100000 in
theorem c_X5_archive (l : Launch) (D : va_G) (cA : ClassId) (b : Nat → Nat) (u : Mem) (xp1 xp2 : Int32) (post : Int32 → Mem → Prop) (h : w_X5_archive xp1 xp2 u post) : g_Mi l yX5_archive (Cond.code yX5_archive cX5_archive 3 (some .int) :: tT) rm_X5_archive D cA (Yw cA b) u [.ref (b 0), .int xp1, .int xp2] post := by
  refine g_enter_i (by decide) (Yw_adr cA b) (Nat.le_of_ble_eq_true rfl) ?_
  intro p e s m args below meth c A Q S hml hK hA hret ls hl hW
  have hx := S.1
  have hb := S.2.1
  have hl : lv_has ls 3 [(0, .ref (b 0)), (1, .int xp1), (2, .int xp2)] := hl
  skip
  refine lv_iload_n hx hb dX5_archive_0 rfl (lv_at hl 1 rfl) ?_
  refine lv_iconst (v := 0) hx hb dX5_archive_1 (by decide) ?_
  refine lv_aload_n hx hb dX5_archive_2 rfl (lv_at hl 0 rfl) ?_
  refine yg_0_14 S hK hW kw_439 dX5_archive_3 ?_
  refine lv_iconst (v := 1) hx hb dX5_archive_6 (by decide) ?_
  refine lv_isub hx hb dX5_archive_7 ?_
  refine lv_topi (fun x1 ex1 => ?_)
  have h := nm_use ex1 h
  refine g_cali (g_runS S hml hK hW (c_X5_in l D cA b u xp1 0 x1 _ h _) kw_487 kw_488 kw_25 kw_489 hd_X5_in ⟨rfl, rfl, Nat.le_of_ble_eq_true rfl, Nat.le_of_ble_eq_true rfl⟩ (As := [.int xp1, .int 0, .int x1]) (rest := []) rfl rfl hl.1 (Nat.le_of_ble_eq_true rfl) dX5_archive_8 ⟨Nat.zero_le _, Nat.zero_le _⟩) (Yw_adr cA b) hA hW (fun x3 u2 H locs h hW => ?_)
  refine lv_if_ne (tgt := 17) hx hb dX5_archive_11 (by decide) (fun c4 => ?_) (fun c4 => ?_)
  · have h := h.2 c4
    refine lv_iload_n hx hb dX5_archive_17 rfl (lv_at hl 2 rfl) ?_
    refine lv_if_ne (tgt := 31) hx hb dX5_archive_18 (by decide) (fun c5 => ?_) (fun c5 => ?_)
    · have h := h.2 c5
      refine lv_iload_n hx hb dX5_archive_31 rfl (lv_at hl 2 rfl) ?_
      refine lv_iconst (v := 1) hx hb dX5_archive_32 (by decide) ?_
      refine lv_icmp_ne (tgt := 46) hx hb dX5_archive_33 (by decide) (fun c6 => ?_) (fun c6 => ?_)
      · have h := h.2 c6
        refine lv_bipush (v := (-102)) hx hb dX5_archive_46 (by decide) ?_
        exact hret _ _ _ _ _ _ dX5_archive_48 hW h
      · have h := h.1 c6
        refine lv_aload_n hx hb dX5_archive_36 rfl (lv_at hl 0 rfl) ?_
        refine lv_iconst (v := 1) hx hb dX5_archive_37 (by decide) ?_
        refine lv_iload_n hx hb dX5_archive_38 rfl (lv_at hl 1 rfl) ?_
        refine lv_iadd hx hb dX5_archive_39 ?_
        refine lv_topi (fun x7 ex7 => ?_)
        have h := nm_use ex7 h
        refine g_cali (g_runV S hml hK hW (c_X5_heightsBy l D cA b u2 x7 _ h _) kw_584 kw_586 kw_16 kw_25 kw_587 hd_X5_heightsBy ⟨rfl, rfl, Nat.le_of_ble_eq_true rfl, Nat.le_of_ble_eq_true rfl⟩ (q0 := 0) rfl rfl (As := [.int x7]) (rest := []) rfl rfl hl.1 (Nat.le_of_ble_eq_true rfl) dX5_archive_40 ⟨Nat.zero_le _, Nat.zero_le _⟩) (Yw_adr cA b) hA hW (fun x9 u8 H locs h hW => ?_)
        refine lv_goto (tgt := 48) hx hb dX5_archive_43 (by decide) ?_
        exact hret _ _ _ _ _ _ dX5_archive_48 hW h
    · have h := h.1 c5
      refine lv_aload_n hx hb dX5_archive_21 rfl (lv_at hl 0 rfl) ?_
      refine lv_iconst (v := 1) hx hb dX5_archive_22 (by decide) ?_
      refine lv_iload_n hx hb dX5_archive_23 rfl (lv_at hl 1 rfl) ?_
      refine lv_iadd hx hb dX5_archive_24 ?_
      refine lv_topi (fun x10 ex10 => ?_)
      have h := nm_use ex10 h
      refine g_cali (g_runV S hml hK hW (c_X5_rowsIn l D cA b u2 x10 _ h _) kw_580 kw_582 kw_15 kw_25 kw_583 hd_X5_rowsIn ⟨rfl, rfl, Nat.le_of_ble_eq_true rfl, Nat.le_of_ble_eq_true rfl⟩ (q0 := 0) rfl rfl (As := [.int x10]) (rest := []) rfl rfl hl.1 (Nat.le_of_ble_eq_true rfl) dX5_archive_25 ⟨Nat.zero_le _, Nat.zero_le _⟩) (Yw_adr cA b) hA hW (fun x12 u11 H locs h hW => ?_)
      refine lv_goto (tgt := 48) hx hb dX5_archive_28 (by decide) ?_
      exact hret _ _ _ _ _ _ dX5_archive_48 hW h
  · have h := h.1 c4
    refine lv_bipush (v := (-101)) hx hb dX5_archive_14 (by decide) ?_
    exact hret _ _ _ _ _ _ dX5_archive_16 hW h
def w_X5_barsReplay (xp1 : Int32) (xp2 : Int32) (u : Mem) (post : Int32 → Mem → Prop) : Prop := w_X5_isHeight xp1 u (fun x2 u1 => (x2 = 0 → (post (-101) u1)) ∧ (¬ x2 = 0 → (w_X5_isHeight xp2 u1 (fun x5 u4 => (x5 = 0 → (post (-101) u4)) ∧ (¬ x5 = 0 → ((xp1 ≤ xp2 → (w_X5_bars xp1 xp2 u4 (fun x9 u8 => post x9 u8))) ∧ (¬ xp1 ≤ xp2 → (post (-102) u4))))))))
abbrev rm_X5_barsReplay : Room := { frames := 3, cells := 0, slots := 0, locals := 65 }
theorem hd_X5_barsReplay : yX5_barsReplay.cls ≠ "java/lang/invoke/MethodHandle" ∧ yX5_barsReplay.cls ≠ "java/lang/invoke/VarHandle" ∧ (parseMethodDescriptor yX5_barsReplay.desc).map (fun d => d.parameters.length) = some 2 := by decide +kernel
set_option maxHeartbeats 4000000 in
set_option maxRecDepth 100000 in
theorem c_X5_barsReplay (l : Launch) (D : va_G) (cA : ClassId) (b : Nat → Nat) (u : Mem) (xp1 xp2 : Int32) (post : Int32 → Mem → Prop) (h : w_X5_barsReplay xp1 xp2 u post) : g_Mi l yX5_barsReplay (Cond.code yX5_barsReplay cX5_barsReplay 3 (some .int) :: tT) rm_X5_barsReplay D cA (Yw cA b) u [.ref (b 0), .int xp1, .int xp2] post := by
  refine g_enter_i (by decide) (Yw_adr cA b) (Nat.le_of_ble_eq_true rfl) ?_
  intro p e s m args below meth c A Q S hml hK hA hret ls hl hW
  have hx := S.1
  have hb := S.2.1
  have hl : lv_has ls 3 [(0, .ref (b 0)), (1, .int xp1), (2, .int xp2)] := hl
  skip
  refine lv_aload_n hx hb dX5_barsReplay_0 rfl (lv_at hl 0 rfl) ?_
  refine lv_iload_n hx hb dX5_barsReplay_1 rfl (lv_at hl 1 rfl) ?_
  refine g_cali (g_runV S hml hK hW (c_X5_isHeight l D cA b u xp1 _ h _) kw_510 kw_512 kw_10 kw_25 kw_513 hd_X5_isHeight ⟨rfl, rfl, Nat.le_of_ble_eq_true rfl, Nat.le_of_ble_eq_true rfl⟩ (q0 := 0) rfl rfl (As := [.int xp1]) (rest := []) rfl rfl hl.1 (Nat.le_of_ble_eq_true rfl) dX5_barsReplay_2 ⟨Nat.zero_le _, Nat.zero_le _⟩) (Yw_adr cA b) hA hW (fun x2 u1 H locs h hW => ?_)
  refine lv_if_eq (tgt := 16) hx hb dX5_barsReplay_5 (by decide) (fun c3 => ?_) (fun c3 => ?_)
  · have h := h.1 c3
    refine lv_bipush (v := (-101)) hx hb dX5_barsReplay_16 (by decide) ?_
    exact hret _ _ _ _ _ _ dX5_barsReplay_18 hW h
  · have h := h.2 c3
    refine lv_aload_n hx hb dX5_barsReplay_8 rfl (lv_at hl 0 rfl) ?_
    refine lv_iload_n hx hb dX5_barsReplay_9 rfl (lv_at hl 2 rfl) ?_
    refine g_cali (g_runV S hml hK hW (c_X5_isHeight l D cA b u1 xp2 _ h _) kw_510 kw_512 kw_10 kw_25 kw_513 hd_X5_isHeight ⟨rfl, rfl, Nat.le_of_ble_eq_true rfl, Nat.le_of_ble_eq_true rfl⟩ (q0 := 0) rfl rfl (As := [.int xp2]) (rest := []) rfl rfl hl.1 (Nat.le_of_ble_eq_true rfl) dX5_barsReplay_10 ⟨Nat.zero_le _, Nat.zero_le _⟩) (Yw_adr cA b) hA hW (fun x5 u4 H locs h hW => ?_)
    refine lv_if_ne (tgt := 19) hx hb dX5_barsReplay_13 (by decide) (fun c6 => ?_) (fun c6 => ?_)
    · have h := h.2 c6
      refine lv_iload_n hx hb dX5_barsReplay_19 rfl (lv_at hl 2 rfl) ?_
      refine lv_iload_n hx hb dX5_barsReplay_20 rfl (lv_at hl 1 rfl) ?_
      refine lv_icmp_ge (tgt := 29) hx hb dX5_barsReplay_21 (by decide) (fun c7 => ?_) (fun c7 => ?_)
      · have h := h.1 c7
        refine lv_aload_n hx hb dX5_barsReplay_29 rfl (lv_at hl 0 rfl) ?_
        refine lv_iload_n hx hb dX5_barsReplay_30 rfl (lv_at hl 1 rfl) ?_
        refine lv_iload_n hx hb dX5_barsReplay_31 rfl (lv_at hl 2 rfl) ?_
        refine g_cali (g_runV S hml hK hW (c_X5_bars l D cA b u4 xp1 xp2 _ h _) kw_536 kw_538 kw_11 kw_25 kw_539 hd_X5_bars ⟨rfl, rfl, Nat.le_of_ble_eq_true rfl, Nat.le_of_ble_eq_true rfl⟩ (q0 := 0) rfl rfl (As := [.int xp1, .int xp2]) (rest := []) rfl rfl hl.1 (Nat.le_of_ble_eq_true rfl) dX5_barsReplay_32 ⟨Nat.zero_le _, Nat.zero_le _⟩) (Yw_adr cA b) hA hW (fun x9 u8 H locs h hW => ?_)
        exact hret _ _ _ _ _ _ dX5_barsReplay_35 hW h
      · have h := h.2 c7
        refine lv_bipush (v := (-102)) hx hb dX5_barsReplay_24 (by decide) ?_
        refine lv_goto (tgt := 35) hx hb dX5_barsReplay_26 (by decide) ?_
        exact hret _ _ _ _ _ _ dX5_barsReplay_35 hW h
    · have h := h.1 c6
      refine lv_bipush (v := (-101)) hx hb dX5_barsReplay_16 (by decide) ?_
      exact hret _ _ _ _ _ _ dX5_barsReplay_18 hW h
def L_X5_replay_21 (f1_21 : Int32) (f2_21 : Int32) (f3_21 : Int32) (post : Int64 → Mem → Prop) (K : Int32 → Mem → Prop) : Nat → Int32 → Mem → Prop
  | 0, _, _ => False
  | n_21 + 1, y4_21, u_21 => (32 ≤ y4_21 → (K y4_21 u_21)) ∧ (¬ 32 ≤ y4_21 → (nm ((32 : Int32) + y4_21 : Int32) fun x5 => nm ((32 : Int32) * f1_21 : Int32) fun x6 => nm (x6 + y4_21 : Int32) fun x7 => vp_in x7 6432 ∧ nm (u_21 0 (x7 : Int32).toNatClampNeg) fun x8 => vp_in x5 64 ∧ nm (g_ms u_21 12 (x5 : Int32).toNatClampNeg x8) fun u9 => nm (y4_21 + 1) fun x10 => L_X5_replay_21 f1_21 f2_21 f3_21 post K n_21 x10 u9))
def L_X5_replay_59 (f1_59 : Int32) (f2_59 : Int32) (f3_59 : Int32) (post : Int64 → Mem → Prop) (K : Int32 → Mem → Prop) : Nat → Int32 → Mem → Prop
  | 0, _, _ => False
  | n_59 + 1, y4_59, u_59 => ((u_59 15 0) ≤ y4_59 → (K y4_59 u_59)) ∧ (¬ (u_59 15 0) ≤ y4_59 → (vp_in y4_59 400 ∧ nm (u_59 10 (y4_59 : Int32).toNatClampNeg) fun x12 => (x12 = 0 → (vp_in y4_59 400 ∧ nm (u_59 7 (y4_59 : Int32).toNatClampNeg) fun x15 => nm (f1_59 + (1 : Int32) : Int32) fun x16 => w_X5_in x15 x16 f2_59 u_59 (fun x18 u17 => (x18 = 0 → (nm (y4_59 + 1) fun x20 => L_X5_replay_59 f1_59 f2_59 f3_59 post K n_59 x20 u17)) ∧ (¬ x18 = 0 → (vp_in y4_59 400 ∧ nm (u17 6 (y4_59 : Int32).toNatClampNeg) fun x21 => nm ((32 : Int32) + x21 : Int32) fun x22 => vp_in y4_59 400 ∧ nm (u17 8 (y4_59 : Int32).toNatClampNeg) fun x23 => vp_in x22 64 ∧ nm (g_ms u17 12 (x22 : Int32).toNatClampNeg x23) fun u24 => nm (y4_59 + 1) fun x25 => L_X5_replay_59 f1_59 f2_59 f3_59 post K n_59 x25 u24))))) ∧ (¬ x12 = 0 → (nm (y4_59 + 1) fun x14 => L_X5_replay_59 f1_59 f2_59 f3_59 post K n_59 x14 u_59))))
def L_X5_replay_126 (f1_126 : Int32) (f2_126 : Int32) (f3_126 : Int32) (post : Int64 → Mem → Prop) (K : Int32 → Mem → Prop) : Nat → Int32 → Mem → Prop
  | 0, _, _ => False
  | n_126 + 1, y4_126, u_126 => (32 ≤ y4_126 → (K y4_126 u_126)) ∧ (¬ 32 ≤ y4_126 → (nm ((32 : Int32) + y4_126 : Int32) fun x27 => nm ((32 : Int32) + y4_126 : Int32) fun x28 => vp_in x28 64 ∧ nm (u_126 12 (x28 : Int32).toNatClampNeg) fun x29 => w_X5_ofLeaf y4_126 x29 u_126 (fun x31 u30 => vp_in x27 64 ∧ nm (g_ms u30 12 (x27 : Int32).toNatClampNeg x31) fun u32 => nm (y4_126 + 1) fun x33 => L_X5_replay_126 f1_126 f2_126 f3_126 post K n_126 x33 u32)))
def L_X5_replay_168 (f1_168 : Int32) (f2_168 : Int32) (f3_168 : Int32) (post : Int64 → Mem → Prop) (K : Int32 → Mem → Prop) : Nat → Int32 → Mem → Prop
  | 0, _, _ => False
  | n_168 + 1, y4_168, u_168 => (y4_168 ≤ 0 → (K y4_168 u_168)) ∧ (¬ y4_168 ≤ 0 → (nm ((2 : Int32) * y4_168 : Int32) fun x35 => vp_in x35 64 ∧ nm (u_168 12 (x35 : Int32).toNatClampNeg) fun x36 => nm ((2 : Int32) * y4_168 : Int32) fun x37 => nm (x37 + (1 : Int32) : Int32) fun x38 => vp_in x38 64 ∧ nm (u_168 12 (x38 : Int32).toNatClampNeg) fun x39 => w_X5_ofTwo x36 x39 u_168 (fun x41 u40 => vp_in y4_168 64 ∧ nm (g_ms u40 12 (y4_168 : Int32).toNatClampNeg x41) fun u42 => nm (y4_168 + (-1)) fun x43 => L_X5_replay_168 f1_168 f2_168 f3_168 post K n_168 x43 u42)))
def w_X5_replay (xp1 : Int32) (xp2 : Int32) (u : Mem) (post : Int64 → Mem → Prop) : Prop := w_X5_barsReplay xp1 xp2 u (fun x2 u1 => (0 ≤ x2 → (∃ n_21, L_X5_replay_21 xp1 xp2 x2 post (fun w4_21 v_21 => ∃ n_59, L_X5_replay_59 xp1 xp2 x2 post (fun w4_59 v_59 => ∃ n_126, L_X5_replay_126 xp1 xp2 x2 post (fun w4_126 v_126 => ∃ n_168, L_X5_replay_168 xp1 xp2 x2 post (fun w4_168 v_168 => vp_in 1 64 ∧ nm (v_168 12 (1 : Int32).toNatClampNeg) fun x44 => nm ((x44 : Int32).toInt64) fun z45 => post z45 v_168) n_168 31 v_126) n_126 0 v_59) n_59 0 v_21) n_21 0 u1)) ∧ (¬ 0 ≤ x2 → (nm ((x2 : Int32).toInt64) fun z86 => nm (z86 - 4000000000 : Int64) fun z87 => post z87 u1)))
abbrev rm_X5_replay : Room := { frames := 4, cells := 0, slots := 0, locals := 87 }
theorem hd_X5_replay : yX5_replay.cls ≠ "java/lang/invoke/MethodHandle" ∧ yX5_replay.cls ≠ "java/lang/invoke/VarHandle" ∧ (parseMethodDescriptor yX5_replay.desc).map (fun d => d.parameters.length) = some 2 := by decide +kernel
set_option maxHeartbeats 4000000 in
set_option maxRecDepth 100000 in
theorem c_X5_replay (l : Launch) (D : va_G) (cA : ClassId) (b : Nat → Nat) (u : Mem) (xp1 xp2 : Int32) (post : Int64 → Mem → Prop) (h : w_X5_replay xp1 xp2 u post) : g_Ml l yX5_replay (Cond.code yX5_replay cX5_replay 5 (some .long) :: tT) rm_X5_replay D cA (Yw cA b) u [.ref (b 0), .int xp1, .int xp2] post := by
  refine g_enter_l (by decide) (Yw_adr cA b) (Nat.le_of_ble_eq_true rfl) ?_
  intro p e s m args below meth c A Q S hml hK hA hret ls hl hW
  have hx := S.1
  have hb := S.2.1
  have hl : lv_has ls 5 [(0, .ref (b 0)), (1, .int xp1), (2, .int xp2)] := hl
  skip
  refine lv_aload_n hx hb dX5_replay_0 rfl (lv_at hl 0 rfl) ?_
  refine lv_iload_n hx hb dX5_replay_1 rfl (lv_at hl 1 rfl) ?_
  refine lv_iload_n hx hb dX5_replay_2 rfl (lv_at hl 2 rfl) ?_
  refine g_cali (g_runV S hml hK hW (c_X5_barsReplay l D cA b u xp1 xp2 _ h _) kw_592 kw_594 kw_17 kw_25 kw_595 hd_X5_barsReplay ⟨rfl, rfl, Nat.le_of_ble_eq_true rfl, Nat.le_of_ble_eq_true rfl⟩ (q0 := 0) rfl rfl (As := [.int xp1, .int xp2]) (rest := []) rfl rfl hl.1 (Nat.le_of_ble_eq_true rfl) dX5_replay_3 ⟨Nat.zero_le _, Nat.zero_le _⟩) (Yw_adr cA b) hA hW (fun x2 u1 H locs h hW => ?_)
  refine lv_istore_n (lv' := [(3, .int x2), (0, .ref (b 0)), (1, .int xp1), (2, .int xp2)]) hx hb dX5_replay_6 rfl hl (by decide) rfl (fun ls hl => ?_)
  refine lv_iload_n hx hb dX5_replay_7 rfl (lv_at hl 0 rfl) ?_
  refine lv_if_ge (tgt := 18) hx hb dX5_replay_8 (by decide) (fun c3 => ?_) (fun c3 => ?_)
  · have h := h.1 c3
    refine lv_iconst (v := 0) hx hb dX5_replay_18 (by decide) ?_
    refine lv_istore (lv' := [(4, .int 0), (3, .int x2), (0, .ref (b 0)), (1, .int xp1), (2, .int xp2)]) hx hb dX5_replay_19 hl (by decide) rfl (fun ls hl => ?_)
    have loop_21 : ∀ (K : Int32 → Mem → Prop), (∀ (w4_21 : Int32) (v_21 : Mem) (H : Heap) (locs : List Loc) (ls : Array Slot), K w4_21 v_21 → g_W D (Yw cA b) A s.heap v_21 H locs → lv_has ls 5 [(0, .ref (b 0)), (1, .int xp1), (2, .int xp2), (3, .int x2), (4, .int w4_21)] → W p l e rm_X5_replay s m args below meth c H locs 0 0 Q (F0 m 56 ls [])) → ∀ (n : Nat) (y4_21 : Int32) (u_21 : Mem) (H : Heap) (locs : List Loc) (ls : Array Slot), L_X5_replay_21 xp1 xp2 x2 post K n y4_21 u_21 → g_W D (Yw cA b) A s.heap u_21 H locs → lv_has ls 5 [(0, .ref (b 0)), (1, .int xp1), (2, .int xp2), (3, .int x2), (4, .int y4_21)] → W p l e rm_X5_replay s m args below meth c H locs 0 0 Q (F0 m 21 ls []) := by
      intro K hE n
      induction n with
      | zero => intro y4_21 u_21 H locs ls h; exact False.elim h
      | succ n ih =>
        intro y4_21 u_21 H locs ls h hW hl
        refine lv_iload hx hb dX5_replay_21 (lv_at hl 4 rfl) ?_
        refine lv_bipush (v := 32) hx hb dX5_replay_23 (by decide) ?_
        refine lv_icmp_ge (tgt := 56) hx hb dX5_replay_25 (by decide) (fun c79 => ?_) (fun c79 => ?_)
        · have h := h.1 c79
          exact hE y4_21 u_21 _ _ _ h hW (lv_sub hl [0, 1, 2, 3, 4] rfl)
        · have h := h.2 c79
          refine lv_aload_n hx hb dX5_replay_28 rfl (lv_at hl 0 rfl) ?_
          refine yg_0_17 S hK hW kw_442 dX5_replay_29 ?_
          refine lv_bipush (v := 32) hx hb dX5_replay_32 (by decide) ?_
          refine lv_iload hx hb dX5_replay_34 (lv_at hl 4 rfl) ?_
          refine lv_iadd hx hb dX5_replay_36 ?_
          refine lv_topi (fun x80 ex80 => ?_)
          have h := nm_use ex80 h
          refine lv_aload_n hx hb dX5_replay_37 rfl (lv_at hl 0 rfl) ?_
          refine yg_0_1 S hK hW kw_426 dX5_replay_38 ?_
          refine lv_bipush (v := 32) hx hb dX5_replay_41 (by decide) ?_
          refine lv_iload_n hx hb dX5_replay_43 rfl (lv_at hl 1 rfl) ?_
          refine lv_imul hx hb dX5_replay_44 ?_
          refine lv_topi (fun x81 ex81 => ?_)
          have h := nm_use ex81 h
          refine lv_iload hx hb dX5_replay_45 (lv_at hl 4 rfl) ?_
          refine lv_iadd hx hb dX5_replay_47 ?_
          refine lv_topi (fun x82 ex82 => ?_)
          have h := nm_use ex82 h
          obtain ⟨hin, h⟩ := h
          refine yl_0 S hK hW hin dX5_replay_48 (fun x83 ex83 => ?_)
          have h := nm_use ex83 h
          obtain ⟨hin, h⟩ := h
          refine ys_12 S hK hW hin dX5_replay_49 (fun u84 H locs eu84 hW => ?_)
          have h := nm_use eu84 h
          obtain ⟨x85, ex85⟩ : ∃ z : Int32, z = y4_21 + 1 := ⟨_, rfl⟩
          have h := nm_use ex85 h
          refine lv_iinc (v := x85) (lv' := [(4, .int x85), (0, .ref (b 0)), (1, .int xp1), (2, .int xp2), (3, .int x2)]) hx hb dX5_replay_50 hl (k := 4) rfl (by rw [ex85]; rfl) (by decide) rfl (fun ls hl => ?_)
          refine lv_goto (tgt := 21) hx hb dX5_replay_53 (by decide) ?_
          exact ih x85 u84 _ _ _ h hW (lv_sub hl [1, 2, 3, 4, 0] rfl)
    obtain ⟨n_21, h⟩ := h
    refine loop_21 _ ?_ n_21 0 u1 _ _ _ h hW (lv_sub hl [2, 3, 4, 1, 0] rfl)
    intro w4_21 v_21 H locs ls h hW hl
    refine lv_iconst (v := 0) hx hb dX5_replay_56 (by decide) ?_
    refine lv_istore (lv' := [(4, .int 0), (0, .ref (b 0)), (1, .int xp1), (2, .int xp2), (3, .int x2)]) hx hb dX5_replay_57 hl (by decide) rfl (fun ls hl => ?_)
    have loop_59 : ∀ (K : Int32 → Mem → Prop), (∀ (w4_59 : Int32) (v_59 : Mem) (H : Heap) (locs : List Loc) (ls : Array Slot), K w4_59 v_59 → g_W D (Yw cA b) A s.heap v_59 H locs → lv_has ls 5 [(0, .ref (b 0)), (1, .int xp1), (2, .int xp2), (3, .int x2), (4, .int w4_59)] → W p l e rm_X5_replay s m args below meth c H locs 0 0 Q (F0 m 123 ls [])) → ∀ (n : Nat) (y4_59 : Int32) (u_59 : Mem) (H : Heap) (locs : List Loc) (ls : Array Slot), L_X5_replay_59 xp1 xp2 x2 post K n y4_59 u_59 → g_W D (Yw cA b) A s.heap u_59 H locs → lv_has ls 5 [(0, .ref (b 0)), (1, .int xp1), (2, .int xp2), (3, .int x2), (4, .int y4_59)] → W p l e rm_X5_replay s m args below meth c H locs 0 0 Q (F0 m 59 ls []) := by
      intro K hE n
      induction n with
      | zero => intro y4_59 u_59 H locs ls h; exact False.elim h
      | succ n ih =>
        intro y4_59 u_59 H locs ls h hW hl
        refine lv_iload hx hb dX5_replay_59 (lv_at hl 4 rfl) ?_
        refine lv_aload_n hx hb dX5_replay_61 rfl (lv_at hl 0 rfl) ?_
        refine yg_0_8 S hK hW kw_433 dX5_replay_62 ?_
        refine lv_icmp_ge (tgt := 123) hx hb dX5_replay_65 (by decide) (fun c64 => ?_) (fun c64 => ?_)
        · have h := h.1 c64
          exact hE y4_59 u_59 _ _ _ h hW (lv_sub hl [0, 1, 2, 3, 4] rfl)
        · have h := h.2 c64
          refine lv_aload_n hx hb dX5_replay_68 rfl (lv_at hl 0 rfl) ?_
          refine yg_0_13 S hK hW kw_438 dX5_replay_69 ?_
          refine lv_iload hx hb dX5_replay_72 (lv_at hl 4 rfl) ?_
          obtain ⟨hin, h⟩ := h
          refine yl_10 S hK hW hin dX5_replay_74 (fun x65 ex65 => ?_)
          have h := nm_use ex65 h
          refine lv_if_ne (tgt := 117) hx hb dX5_replay_75 (by decide) (fun c66 => ?_) (fun c66 => ?_)
          · have h := h.2 c66
            obtain ⟨x67, ex67⟩ : ∃ z : Int32, z = y4_59 + 1 := ⟨_, rfl⟩
            have h := nm_use ex67 h
            refine lv_iinc (v := x67) (lv' := [(4, .int x67), (0, .ref (b 0)), (1, .int xp1), (2, .int xp2), (3, .int x2)]) hx hb dX5_replay_117 hl (k := 4) rfl (by rw [ex67]; rfl) (by decide) rfl (fun ls hl => ?_)
            refine lv_goto (tgt := 59) hx hb dX5_replay_120 (by decide) ?_
            exact ih x67 u_59 _ _ _ h hW (lv_sub hl [1, 2, 3, 4, 0] rfl)
          · have h := h.1 c66
            refine lv_aload_n hx hb dX5_replay_78 rfl (lv_at hl 0 rfl) ?_
            refine yg_0_10 S hK hW kw_435 dX5_replay_79 ?_
            refine lv_iload hx hb dX5_replay_82 (lv_at hl 4 rfl) ?_
            obtain ⟨hin, h⟩ := h
            refine yl_7 S hK hW hin dX5_replay_84 (fun x68 ex68 => ?_)
            have h := nm_use ex68 h
            refine lv_iload_n hx hb dX5_replay_85 rfl (lv_at hl 1 rfl) ?_
            refine lv_iconst (v := 1) hx hb dX5_replay_86 (by decide) ?_
            refine lv_iadd hx hb dX5_replay_87 ?_
            refine lv_topi (fun x69 ex69 => ?_)
            have h := nm_use ex69 h
            refine lv_iload_n hx hb dX5_replay_88 rfl (lv_at hl 2 rfl) ?_
            refine g_cali (g_runS S hml hK hW (c_X5_in l D cA b u_59 x68 x69 xp2 _ h _) kw_487 kw_488 kw_25 kw_489 hd_X5_in ⟨rfl, rfl, Nat.le_of_ble_eq_true rfl, Nat.le_of_ble_eq_true rfl⟩ (As := [.int x68, .int x69, .int xp2]) (rest := []) rfl rfl hl.1 (Nat.le_of_ble_eq_true rfl) dX5_replay_89 ⟨Nat.zero_le _, Nat.zero_le _⟩) (Yw_adr cA b) hA hW (fun x71 u70 H locs h hW => ?_)
            refine lv_if_eq (tgt := 117) hx hb dX5_replay_92 (by decide) (fun c72 => ?_) (fun c72 => ?_)
            · have h := h.1 c72
              obtain ⟨x73, ex73⟩ : ∃ z : Int32, z = y4_59 + 1 := ⟨_, rfl⟩
              have h := nm_use ex73 h
              refine lv_iinc (v := x73) (lv' := [(4, .int x73), (0, .ref (b 0)), (1, .int xp1), (2, .int xp2), (3, .int x2)]) hx hb dX5_replay_117 hl (k := 4) rfl (by rw [ex73]; rfl) (by decide) rfl (fun ls hl => ?_)
              refine lv_goto (tgt := 59) hx hb dX5_replay_120 (by decide) ?_
              exact ih x73 u70 _ _ _ h hW (lv_sub hl [1, 2, 3, 4, 0] rfl)
            · have h := h.2 c72
              refine lv_aload_n hx hb dX5_replay_95 rfl (lv_at hl 0 rfl) ?_
              refine yg_0_17 S hK hW kw_442 dX5_replay_96 ?_
              refine lv_bipush (v := 32) hx hb dX5_replay_99 (by decide) ?_
              refine lv_aload_n hx hb dX5_replay_101 rfl (lv_at hl 0 rfl) ?_
              refine yg_0_9 S hK hW kw_434 dX5_replay_102 ?_
              refine lv_iload hx hb dX5_replay_105 (lv_at hl 4 rfl) ?_
              obtain ⟨hin, h⟩ := h
              refine yl_6 S hK hW hin dX5_replay_107 (fun x74 ex74 => ?_)
              have h := nm_use ex74 h
              refine lv_iadd hx hb dX5_replay_108 ?_
              refine lv_topi (fun x75 ex75 => ?_)
              have h := nm_use ex75 h
              refine lv_aload_n hx hb dX5_replay_109 rfl (lv_at hl 0 rfl) ?_
              refine yg_0_11 S hK hW kw_436 dX5_replay_110 ?_
              refine lv_iload hx hb dX5_replay_113 (lv_at hl 4 rfl) ?_
              obtain ⟨hin, h⟩ := h
              refine yl_8 S hK hW hin dX5_replay_115 (fun x76 ex76 => ?_)
              have h := nm_use ex76 h
              obtain ⟨hin, h⟩ := h
              refine ys_12 S hK hW hin dX5_replay_116 (fun u77 H locs eu77 hW => ?_)
              have h := nm_use eu77 h
              obtain ⟨x78, ex78⟩ : ∃ z : Int32, z = y4_59 + 1 := ⟨_, rfl⟩
              have h := nm_use ex78 h
              refine lv_iinc (v := x78) (lv' := [(4, .int x78), (0, .ref (b 0)), (1, .int xp1), (2, .int xp2), (3, .int x2)]) hx hb dX5_replay_117 hl (k := 4) rfl (by rw [ex78]; rfl) (by decide) rfl (fun ls hl => ?_)
              refine lv_goto (tgt := 59) hx hb dX5_replay_120 (by decide) ?_
              exact ih x78 u77 _ _ _ h hW (lv_sub hl [1, 2, 3, 4, 0] rfl)
    obtain ⟨n_59, h⟩ := h
    refine loop_59 _ ?_ n_59 0 v_21 _ _ _ h hW (lv_sub hl [1, 2, 3, 4, 0] rfl)
    intro w4_59 v_59 H locs ls h hW hl
    refine lv_iconst (v := 0) hx hb dX5_replay_123 (by decide) ?_
    refine lv_istore (lv' := [(4, .int 0), (0, .ref (b 0)), (1, .int xp1), (2, .int xp2), (3, .int x2)]) hx hb dX5_replay_124 hl (by decide) rfl (fun ls hl => ?_)
    have loop_126 : ∀ (K : Int32 → Mem → Prop), (∀ (w4_126 : Int32) (v_126 : Mem) (H : Heap) (locs : List Loc) (ls : Array Slot), K w4_126 v_126 → g_W D (Yw cA b) A s.heap v_126 H locs → lv_has ls 5 [(0, .ref (b 0)), (1, .int xp1), (2, .int xp2), (3, .int x2), (4, .int w4_126)] → W p l e rm_X5_replay s m args below meth c H locs 0 0 Q (F0 m 164 ls [])) → ∀ (n : Nat) (y4_126 : Int32) (u_126 : Mem) (H : Heap) (locs : List Loc) (ls : Array Slot), L_X5_replay_126 xp1 xp2 x2 post K n y4_126 u_126 → g_W D (Yw cA b) A s.heap u_126 H locs → lv_has ls 5 [(0, .ref (b 0)), (1, .int xp1), (2, .int xp2), (3, .int x2), (4, .int y4_126)] → W p l e rm_X5_replay s m args below meth c H locs 0 0 Q (F0 m 126 ls []) := by
      intro K hE n
      induction n with
      | zero => intro y4_126 u_126 H locs ls h; exact False.elim h
      | succ n ih =>
        intro y4_126 u_126 H locs ls h hW hl
        refine lv_iload hx hb dX5_replay_126 (lv_at hl 4 rfl) ?_
        refine lv_bipush (v := 32) hx hb dX5_replay_128 (by decide) ?_
        refine lv_icmp_ge (tgt := 164) hx hb dX5_replay_130 (by decide) (fun c56 => ?_) (fun c56 => ?_)
        · have h := h.1 c56
          exact hE y4_126 u_126 _ _ _ h hW (lv_sub hl [0, 1, 2, 3, 4] rfl)
        · have h := h.2 c56
          refine lv_aload_n hx hb dX5_replay_133 rfl (lv_at hl 0 rfl) ?_
          refine yg_0_17 S hK hW kw_442 dX5_replay_134 ?_
          refine lv_bipush (v := 32) hx hb dX5_replay_137 (by decide) ?_
          refine lv_iload hx hb dX5_replay_139 (lv_at hl 4 rfl) ?_
          refine lv_iadd hx hb dX5_replay_141 ?_
          refine lv_topi (fun x57 ex57 => ?_)
          have h := nm_use ex57 h
          refine lv_iload hx hb dX5_replay_142 (lv_at hl 4 rfl) ?_
          refine lv_aload_n hx hb dX5_replay_144 rfl (lv_at hl 0 rfl) ?_
          refine yg_0_17 S hK hW kw_442 dX5_replay_145 ?_
          refine lv_bipush (v := 32) hx hb dX5_replay_148 (by decide) ?_
          refine lv_iload hx hb dX5_replay_150 (lv_at hl 4 rfl) ?_
          refine lv_iadd hx hb dX5_replay_152 ?_
          refine lv_topi (fun x58 ex58 => ?_)
          have h := nm_use ex58 h
          obtain ⟨hin, h⟩ := h
          refine yl_12 S hK hW hin dX5_replay_153 (fun x59 ex59 => ?_)
          have h := nm_use ex59 h
          refine g_cali (g_runS S hml hK hW (c_X5_ofLeaf l D cA b u_126 y4_126 x59 _ h _) kw_418 kw_419 kw_25 kw_420 hd_X5_ofLeaf ⟨rfl, rfl, Nat.le_of_ble_eq_true rfl, Nat.le_of_ble_eq_true rfl⟩ (As := [.int y4_126, .int x59]) (rest := [.int x57, .ref (b 13)]) rfl rfl hl.1 (Nat.le_of_ble_eq_true rfl) dX5_replay_154 ⟨Nat.zero_le _, Nat.zero_le _⟩) (Yw_adr cA b) hA hW (fun x61 u60 H locs h hW => ?_)
          obtain ⟨hin, h⟩ := h
          refine ys_12 S hK hW hin dX5_replay_157 (fun u62 H locs eu62 hW => ?_)
          have h := nm_use eu62 h
          obtain ⟨x63, ex63⟩ : ∃ z : Int32, z = y4_126 + 1 := ⟨_, rfl⟩
          have h := nm_use ex63 h
          refine lv_iinc (v := x63) (lv' := [(4, .int x63), (0, .ref (b 0)), (1, .int xp1), (2, .int xp2), (3, .int x2)]) hx hb dX5_replay_158 hl (k := 4) rfl (by rw [ex63]; rfl) (by decide) rfl (fun ls hl => ?_)
          refine lv_goto (tgt := 126) hx hb dX5_replay_161 (by decide) ?_
          exact ih x63 u62 _ _ _ h hW (lv_sub hl [1, 2, 3, 4, 0] rfl)
    obtain ⟨n_126, h⟩ := h
    refine loop_126 _ ?_ n_126 0 v_59 _ _ _ h hW (lv_sub hl [1, 2, 3, 4, 0] rfl)
    intro w4_126 v_126 H locs ls h hW hl
    refine lv_bipush (v := 31) hx hb dX5_replay_164 (by decide) ?_
    refine lv_istore (lv' := [(4, .int 31), (0, .ref (b 0)), (1, .int xp1), (2, .int xp2), (3, .int x2)]) hx hb dX5_replay_166 hl (by decide) rfl (fun ls hl => ?_)
    have loop_168 : ∀ (K : Int32 → Mem → Prop), (∀ (w4_168 : Int32) (v_168 : Mem) (H : Heap) (locs : List Loc) (ls : Array Slot), K w4_168 v_168 → g_W D (Yw cA b) A s.heap v_168 H locs → lv_has ls 5 [(0, .ref (b 0)), (1, .int xp1), (2, .int xp2), (3, .int x2), (4, .int w4_168)] → W p l e rm_X5_replay s m args below meth c H locs 0 0 Q (F0 m 209 ls [])) → ∀ (n : Nat) (y4_168 : Int32) (u_168 : Mem) (H : Heap) (locs : List Loc) (ls : Array Slot), L_X5_replay_168 xp1 xp2 x2 post K n y4_168 u_168 → g_W D (Yw cA b) A s.heap u_168 H locs → lv_has ls 5 [(0, .ref (b 0)), (1, .int xp1), (2, .int xp2), (3, .int x2), (4, .int y4_168)] → W p l e rm_X5_replay s m args below meth c H locs 0 0 Q (F0 m 168 ls []) := by
      intro K hE n
      induction n with
      | zero => intro y4_168 u_168 H locs ls h; exact False.elim h
      | succ n ih =>
        intro y4_168 u_168 H locs ls h hW hl
        refine lv_iload hx hb dX5_replay_168 (lv_at hl 4 rfl) ?_
        refine lv_if_le (tgt := 209) hx hb dX5_replay_170 (by decide) (fun c46 => ?_) (fun c46 => ?_)
        · have h := h.1 c46
          exact hE y4_168 u_168 _ _ _ h hW (lv_sub hl [0, 1, 2, 3, 4] rfl)
        · have h := h.2 c46
          refine lv_aload_n hx hb dX5_replay_173 rfl (lv_at hl 0 rfl) ?_
          refine yg_0_17 S hK hW kw_442 dX5_replay_174 ?_
          refine lv_iload hx hb dX5_replay_177 (lv_at hl 4 rfl) ?_
          refine lv_aload_n hx hb dX5_replay_179 rfl (lv_at hl 0 rfl) ?_
          refine yg_0_17 S hK hW kw_442 dX5_replay_180 ?_
          refine lv_iconst (v := 2) hx hb dX5_replay_183 (by decide) ?_
          refine lv_iload hx hb dX5_replay_184 (lv_at hl 4 rfl) ?_
          refine lv_imul hx hb dX5_replay_186 ?_
          refine lv_topi (fun x47 ex47 => ?_)
          have h := nm_use ex47 h
          obtain ⟨hin, h⟩ := h
          refine yl_12 S hK hW hin dX5_replay_187 (fun x48 ex48 => ?_)
          have h := nm_use ex48 h
          refine lv_aload_n hx hb dX5_replay_188 rfl (lv_at hl 0 rfl) ?_
          refine yg_0_17 S hK hW kw_442 dX5_replay_189 ?_
          refine lv_iconst (v := 2) hx hb dX5_replay_192 (by decide) ?_
          refine lv_iload hx hb dX5_replay_193 (lv_at hl 4 rfl) ?_
          refine lv_imul hx hb dX5_replay_195 ?_
          refine lv_topi (fun x49 ex49 => ?_)
          have h := nm_use ex49 h
          refine lv_iconst (v := 1) hx hb dX5_replay_196 (by decide) ?_
          refine lv_iadd hx hb dX5_replay_197 ?_
          refine lv_topi (fun x50 ex50 => ?_)
          have h := nm_use ex50 h
          obtain ⟨hin, h⟩ := h
          refine yl_12 S hK hW hin dX5_replay_198 (fun x51 ex51 => ?_)
          have h := nm_use ex51 h
          refine g_cali (g_runS S hml hK hW (c_X5_ofTwo l D cA b u_168 x48 x51 _ h _) kw_421 kw_422 kw_25 kw_423 hd_X5_ofTwo ⟨rfl, rfl, Nat.le_of_ble_eq_true rfl, Nat.le_of_ble_eq_true rfl⟩ (As := [.int x48, .int x51]) (rest := [.int y4_168, .ref (b 13)]) rfl rfl hl.1 (Nat.le_of_ble_eq_true rfl) dX5_replay_199 ⟨Nat.zero_le _, Nat.zero_le _⟩) (Yw_adr cA b) hA hW (fun x53 u52 H locs h hW => ?_)
          obtain ⟨hin, h⟩ := h
          refine ys_12 S hK hW hin dX5_replay_202 (fun u54 H locs eu54 hW => ?_)
          have h := nm_use eu54 h
          obtain ⟨x55, ex55⟩ : ∃ z : Int32, z = y4_168 + (-1) := ⟨_, rfl⟩
          have h := nm_use ex55 h
          refine lv_iinc (v := x55) (lv' := [(4, .int x55), (0, .ref (b 0)), (1, .int xp1), (2, .int xp2), (3, .int x2)]) hx hb dX5_replay_203 hl (k := 4) rfl (by rw [ex55]; rfl) (by decide) rfl (fun ls hl => ?_)
          refine lv_goto (tgt := 168) hx hb dX5_replay_206 (by decide) ?_
          exact ih x55 u54 _ _ _ h hW (lv_sub hl [1, 2, 3, 4, 0] rfl)
    obtain ⟨n_168, h⟩ := h
    refine loop_168 _ ?_ n_168 31 v_126 _ _ _ h hW (lv_sub hl [1, 2, 3, 4, 0] rfl)
    intro w4_168 v_168 H locs ls h hW hl
    refine lv_aload_n hx hb dX5_replay_209 rfl (lv_at hl 0 rfl) ?_
    refine yg_0_17 S hK hW kw_442 dX5_replay_210 ?_
    refine lv_iconst (v := 1) hx hb dX5_replay_213 (by decide) ?_
    obtain ⟨hin, h⟩ := h
    refine yl_12 S hK hW hin dX5_replay_214 (fun x44 ex44 => ?_)
    have h := nm_use ex44 h
    refine lv_i2l hx hb dX5_replay_215 rfl ?_
    refine lv_topl (fun z45 ez45 => ?_)
    have h := nm_use ez45 h
    exact hret _ _ _ _ _ _ dX5_replay_216 hW h
  · have h := h.2 c3
    refine lv_iload_n hx hb dX5_replay_11 rfl (lv_at hl 0 rfl) ?_
    refine lv_i2l hx hb dX5_replay_12 rfl ?_
    refine lv_topl (fun z86 ez86 => ?_)
    have h := nm_use ez86 h
    refine lv_ldc2 hx hb S.2.2.1 (S.2.2.2 _ kw_596) dX5_replay_13 ?_
    refine lv_lsub hx hb dX5_replay_16 ?_
    refine lv_topl (fun z87 ez87 => ?_)
    have h := nm_use ez87 h
    exact hret _ _ _ _ _ _ dX5_replay_17 hW h
def L_X5_replayed_19 (f1_19 : Int32) (f2_19 : Int32) (f3_19 : Int32) (post : Int32 → Mem → Prop) (K : Int32 → Int32 → Mem → Prop) : Nat → Int32 → Int32 → Mem → Prop
  | 0, _, _, _ => False
  | n_19 + 1, y4_19, y5_19, u_19 => ((u_19 15 0) ≤ y5_19 → (K y4_19 y5_19 u_19)) ∧ (¬ (u_19 15 0) ≤ y5_19 → (vp_in y5_19 400 ∧ nm (u_19 10 (y5_19 : Int32).toNatClampNeg) fun x5 => (x5 = 0 → (vp_in y5_19 400 ∧ nm (u_19 7 (y5_19 : Int32).toNatClampNeg) fun x9 => nm (f1_19 + (1 : Int32) : Int32) fun x10 => w_X5_in x9 x10 f2_19 u_19 (fun x12 u11 => (x12 = 0 → (nm (y4_19 + (0 : Int32) : Int32) fun x14 => nm (y5_19 + 1) fun x15 => L_X5_replayed_19 f1_19 f2_19 f3_19 post K n_19 x14 x15 u11)) ∧ (¬ x12 = 0 → (nm (y4_19 + (1 : Int32) : Int32) fun x16 => nm (y5_19 + 1) fun x17 => L_X5_replayed_19 f1_19 f2_19 f3_19 post K n_19 x16 x17 u11))))) ∧ (¬ x5 = 0 → (nm (y4_19 + (0 : Int32) : Int32) fun x7 => nm (y5_19 + 1) fun x8 => L_X5_replayed_19 f1_19 f2_19 f3_19 post K n_19 x7 x8 u_19))))
def w_X5_replayed (xp1 : Int32) (xp2 : Int32) (u : Mem) (post : Int32 → Mem → Prop) : Prop := w_X5_barsReplay xp1 xp2 u (fun x2 u1 => (0 ≤ x2 → (∃ n_19, L_X5_replayed_19 xp1 xp2 x2 post (fun w4_19 w5_19 v_19 => post w4_19 v_19) n_19 0 0 u1)) ∧ (¬ 0 ≤ x2 → (post x2 u1)))
abbrev rm_X5_replayed : Room := { frames := 4, cells := 0, slots := 0, locals := 87 }
theorem hd_X5_replayed : yX5_replayed.cls ≠ "java/lang/invoke/MethodHandle" ∧ yX5_replayed.cls ≠ "java/lang/invoke/VarHandle" ∧ (parseMethodDescriptor yX5_replayed.desc).map (fun d => d.parameters.length) = some 2 := by decide +kernel
set_option maxHeartbeats 4000000 in
set_option maxRecDepth 100000 in
theorem c_X5_replayed (l : Launch) (D : va_G) (cA : ClassId) (b : Nat → Nat) (u : Mem) (xp1 xp2 : Int32) (post : Int32 → Mem → Prop) (h : w_X5_replayed xp1 xp2 u post) : g_Mi l yX5_replayed (Cond.code yX5_replayed cX5_replayed 6 (some .int) :: tT) rm_X5_replayed D cA (Yw cA b) u [.ref (b 0), .int xp1, .int xp2] post := by
  refine g_enter_i (by decide) (Yw_adr cA b) (Nat.le_of_ble_eq_true rfl) ?_
  intro p e s m args below meth c A Q S hml hK hA hret ls hl hW
  have hx := S.1
  have hb := S.2.1
  have hl : lv_has ls 6 [(0, .ref (b 0)), (1, .int xp1), (2, .int xp2)] := hl
  skip
  refine lv_aload_n hx hb dX5_replayed_0 rfl (lv_at hl 0 rfl) ?_
  refine lv_iload_n hx hb dX5_replayed_1 rfl (lv_at hl 1 rfl) ?_
  refine lv_iload_n hx hb dX5_replayed_2 rfl (lv_at hl 2 rfl) ?_
  refine g_cali (g_runV S hml hK hW (c_X5_barsReplay l D cA b u xp1 xp2 _ h _) kw_592 kw_594 kw_17 kw_25 kw_595 hd_X5_barsReplay ⟨rfl, rfl, Nat.le_of_ble_eq_true rfl, Nat.le_of_ble_eq_true rfl⟩ (q0 := 0) rfl rfl (As := [.int xp1, .int xp2]) (rest := []) rfl rfl hl.1 (Nat.le_of_ble_eq_true rfl) dX5_replayed_3 ⟨Nat.zero_le _, Nat.zero_le _⟩) (Yw_adr cA b) hA hW (fun x2 u1 H locs h hW => ?_)
  refine lv_istore_n (lv' := [(3, .int x2), (0, .ref (b 0)), (1, .int xp1), (2, .int xp2)]) hx hb dX5_replayed_6 rfl hl (by decide) rfl (fun ls hl => ?_)
  refine lv_iload_n hx hb dX5_replayed_7 rfl (lv_at hl 0 rfl) ?_
  refine lv_if_ge (tgt := 13) hx hb dX5_replayed_8 (by decide) (fun c3 => ?_) (fun c3 => ?_)
  · have h := h.1 c3
    refine lv_iconst (v := 0) hx hb dX5_replayed_13 (by decide) ?_
    refine lv_istore (lv' := [(4, .int 0), (3, .int x2), (0, .ref (b 0)), (1, .int xp1), (2, .int xp2)]) hx hb dX5_replayed_14 hl (by decide) rfl (fun ls hl => ?_)
    refine lv_iconst (v := 0) hx hb dX5_replayed_16 (by decide) ?_
    refine lv_istore (lv' := [(5, .int 0), (4, .int 0), (3, .int x2), (0, .ref (b 0)), (1, .int xp1), (2, .int xp2)]) hx hb dX5_replayed_17 hl (by decide) rfl (fun ls hl => ?_)
    have loop_19 : ∀ (K : Int32 → Int32 → Mem → Prop), (∀ (w4_19 w5_19 : Int32) (v_19 : Mem) (H : Heap) (locs : List Loc) (ls : Array Slot), K w4_19 w5_19 v_19 → g_W D (Yw cA b) A s.heap v_19 H locs → lv_has ls 6 [(0, .ref (b 0)), (1, .int xp1), (2, .int xp2), (3, .int x2), (4, .int w4_19), (5, .int w5_19)] → W p l e rm_X5_replayed s m args below meth c H locs 0 0 Q (F0 m 71 ls [])) → ∀ (n : Nat) (y4_19 y5_19 : Int32) (u_19 : Mem) (H : Heap) (locs : List Loc) (ls : Array Slot), L_X5_replayed_19 xp1 xp2 x2 post K n y4_19 y5_19 u_19 → g_W D (Yw cA b) A s.heap u_19 H locs → lv_has ls 6 [(0, .ref (b 0)), (1, .int xp1), (2, .int xp2), (3, .int x2), (4, .int y4_19), (5, .int y5_19)] → W p l e rm_X5_replayed s m args below meth c H locs 0 0 Q (F0 m 19 ls []) := by
      intro K hE n
      induction n with
      | zero => intro y4_19 y5_19 u_19 H locs ls h; exact False.elim h
      | succ n ih =>
        intro y4_19 y5_19 u_19 H locs ls h hW hl
        refine lv_iload hx hb dX5_replayed_19 (lv_at hl 5 rfl) ?_
        refine lv_aload_n hx hb dX5_replayed_21 rfl (lv_at hl 0 rfl) ?_
        refine yg_0_8 S hK hW kw_433 dX5_replayed_22 ?_
        refine lv_icmp_ge (tgt := 71) hx hb dX5_replayed_25 (by decide) (fun c18 => ?_) (fun c18 => ?_)
        · have h := h.1 c18
          exact hE y4_19 y5_19 u_19 _ _ _ h hW (lv_sub hl [0, 1, 2, 3, 4, 5] rfl)
        · have h := h.2 c18
          refine lv_iload hx hb dX5_replayed_28 (lv_at hl 4 rfl) ?_
          refine lv_aload_n hx hb dX5_replayed_30 rfl (lv_at hl 0 rfl) ?_
          refine yg_0_13 S hK hW kw_438 dX5_replayed_31 ?_
          refine lv_iload hx hb dX5_replayed_34 (lv_at hl 5 rfl) ?_
          obtain ⟨hin, h⟩ := h
          refine yl_10 S hK hW hin dX5_replayed_36 (fun x19 ex19 => ?_)
          have h := nm_use ex19 h
          refine lv_if_ne (tgt := 61) hx hb dX5_replayed_37 (by decide) (fun c20 => ?_) (fun c20 => ?_)
          · have h := h.2 c20
            refine lv_iconst (v := 0) hx hb dX5_replayed_61 (by decide) ?_
            refine lv_iadd hx hb dX5_replayed_62 ?_
            refine lv_topi (fun x21 ex21 => ?_)
            have h := nm_use ex21 h
            refine lv_istore (lv' := [(4, .int x21), (0, .ref (b 0)), (1, .int xp1), (2, .int xp2), (3, .int x2), (5, .int y5_19)]) hx hb dX5_replayed_63 hl (by decide) rfl (fun ls hl => ?_)
            obtain ⟨x22, ex22⟩ : ∃ z : Int32, z = y5_19 + 1 := ⟨_, rfl⟩
            have h := nm_use ex22 h
            refine lv_iinc (v := x22) (lv' := [(5, .int x22), (4, .int x21), (0, .ref (b 0)), (1, .int xp1), (2, .int xp2), (3, .int x2)]) hx hb dX5_replayed_65 hl (k := 5) rfl (by rw [ex22]; rfl) (by decide) rfl (fun ls hl => ?_)
            refine lv_goto (tgt := 19) hx hb dX5_replayed_68 (by decide) ?_
            exact ih x21 x22 u_19 _ _ _ h hW (lv_sub hl [2, 3, 4, 5, 1, 0] rfl)
          · have h := h.1 c20
            refine lv_aload_n hx hb dX5_replayed_40 rfl (lv_at hl 0 rfl) ?_
            refine yg_0_10 S hK hW kw_435 dX5_replayed_41 ?_
            refine lv_iload hx hb dX5_replayed_44 (lv_at hl 5 rfl) ?_
            obtain ⟨hin, h⟩ := h
            refine yl_7 S hK hW hin dX5_replayed_46 (fun x23 ex23 => ?_)
            have h := nm_use ex23 h
            refine lv_iload_n hx hb dX5_replayed_47 rfl (lv_at hl 1 rfl) ?_
            refine lv_iconst (v := 1) hx hb dX5_replayed_48 (by decide) ?_
            refine lv_iadd hx hb dX5_replayed_49 ?_
            refine lv_topi (fun x24 ex24 => ?_)
            have h := nm_use ex24 h
            refine lv_iload_n hx hb dX5_replayed_50 rfl (lv_at hl 2 rfl) ?_
            refine g_cali (g_runS S hml hK hW (c_X5_in l D cA b u_19 x23 x24 xp2 _ h _) kw_487 kw_488 kw_25 kw_489 hd_X5_in ⟨rfl, rfl, Nat.le_of_ble_eq_true rfl, Nat.le_of_ble_eq_true rfl⟩ (As := [.int x23, .int x24, .int xp2]) (rest := [.int y4_19]) rfl rfl hl.1 (Nat.le_of_ble_eq_true rfl) dX5_replayed_51 ⟨Nat.zero_le _, Nat.zero_le _⟩) (Yw_adr cA b) hA hW (fun x26 u25 H locs h hW => ?_)
            refine lv_if_eq (tgt := 61) hx hb dX5_replayed_54 (by decide) (fun c27 => ?_) (fun c27 => ?_)
            · have h := h.1 c27
              refine lv_iconst (v := 0) hx hb dX5_replayed_61 (by decide) ?_
              refine lv_iadd hx hb dX5_replayed_62 ?_
              refine lv_topi (fun x28 ex28 => ?_)
              have h := nm_use ex28 h
              refine lv_istore (lv' := [(4, .int x28), (0, .ref (b 0)), (1, .int xp1), (2, .int xp2), (3, .int x2), (5, .int y5_19)]) hx hb dX5_replayed_63 hl (by decide) rfl (fun ls hl => ?_)
              obtain ⟨x29, ex29⟩ : ∃ z : Int32, z = y5_19 + 1 := ⟨_, rfl⟩
              have h := nm_use ex29 h
              refine lv_iinc (v := x29) (lv' := [(5, .int x29), (4, .int x28), (0, .ref (b 0)), (1, .int xp1), (2, .int xp2), (3, .int x2)]) hx hb dX5_replayed_65 hl (k := 5) rfl (by rw [ex29]; rfl) (by decide) rfl (fun ls hl => ?_)
              refine lv_goto (tgt := 19) hx hb dX5_replayed_68 (by decide) ?_
              exact ih x28 x29 u25 _ _ _ h hW (lv_sub hl [2, 3, 4, 5, 1, 0] rfl)
            · have h := h.2 c27
              refine lv_iconst (v := 1) hx hb dX5_replayed_57 (by decide) ?_
              refine lv_goto (tgt := 62) hx hb dX5_replayed_58 (by decide) ?_
              refine lv_iadd hx hb dX5_replayed_62 ?_
              refine lv_topi (fun x30 ex30 => ?_)
              have h := nm_use ex30 h
              refine lv_istore (lv' := [(4, .int x30), (0, .ref (b 0)), (1, .int xp1), (2, .int xp2), (3, .int x2), (5, .int y5_19)]) hx hb dX5_replayed_63 hl (by decide) rfl (fun ls hl => ?_)
              obtain ⟨x31, ex31⟩ : ∃ z : Int32, z = y5_19 + 1 := ⟨_, rfl⟩
              have h := nm_use ex31 h
              refine lv_iinc (v := x31) (lv' := [(5, .int x31), (4, .int x30), (0, .ref (b 0)), (1, .int xp1), (2, .int xp2), (3, .int x2)]) hx hb dX5_replayed_65 hl (k := 5) rfl (by rw [ex31]; rfl) (by decide) rfl (fun ls hl => ?_)
              refine lv_goto (tgt := 19) hx hb dX5_replayed_68 (by decide) ?_
              exact ih x30 x31 u25 _ _ _ h hW (lv_sub hl [2, 3, 4, 5, 1, 0] rfl)
    obtain ⟨n_19, h⟩ := h
    refine loop_19 _ ?_ n_19 0 0 u1 _ _ _ h hW (lv_sub hl [3, 4, 5, 2, 1, 0] rfl)
    intro w4_19 w5_19 v_19 H locs ls h hW hl
    refine lv_iload hx hb dX5_replayed_71 (lv_at hl 4 rfl) ?_
    exact hret _ _ _ _ _ _ dX5_replayed_73 hW h
  · have h := h.2 c3
    refine lv_iload_n hx hb dX5_replayed_11 rfl (lv_at hl 0 rfl) ?_
    exact hret _ _ _ _ _ _ dX5_replayed_12 hW h
def w_X5_proof (xp1 : Int32) (xp2 : Int32) (xp3 : Int32) (u : Mem) (post : Int64 → Mem → Prop) : Prop := w_X5_isLeaf xp1 u (fun x2 u1 => (x2 = 0 → (post (-4000000101) u1)) ∧ (¬ x2 = 0 → (w_X5_isHeight xp2 u1 (fun x5 u4 => (x5 = 0 → (post (-4000000101) u4)) ∧ (¬ x5 = 0 → (w_X5_in xp3 0 4 u4 (fun x8 u7 => (x8 = 0 → (post (-4000000102) u7)) ∧ (¬ x8 = 0 → (vp_in xp2 201 ∧ nm (u7 2 (xp2 : Int32).toNatClampNeg) fun x10 => (x10 ≤ 0 → (w_X5_digestOf xp2 u7 (fun x13 u12 => nm ((32 : Int32) + xp1 : Int32) fun x14 => nm (x14 >>> (xp3 &&& 31) : Int32) fun x15 => nm (x15 - x15 / 2 * 2) fun x16 => (x16 = 0 → (nm (x15 + (1 : Int32) : Int32) fun x21 => vp_in x21 64 ∧ nm (u12 12 (x21 : Int32).toNatClampNeg) fun x22 => nm ((x22 : Int32).toInt64) fun z23 => post z23 u12)) ∧ (¬ x16 = 0 → (nm (x15 - (1 : Int32) : Int32) fun x18 => vp_in x18 64 ∧ nm (u12 12 (x18 : Int32).toNatClampNeg) fun x19 => nm ((x19 : Int32).toInt64) fun z20 => post z20 u12))))) ∧ (¬ x10 ≤ 0 → (post (-4000000104) u7)))))))))))
abbrev rm_X5_proof : Room := { frames := 2, cells := 0, slots := 0, locals := 44 }
theorem hd_X5_proof : yX5_proof.cls ≠ "java/lang/invoke/MethodHandle" ∧ yX5_proof.cls ≠ "java/lang/invoke/VarHandle" ∧ (parseMethodDescriptor yX5_proof.desc).map (fun d => d.parameters.length) = some 3 := by decide +kernel
set_option maxHeartbeats 4000000 in
set_option maxRecDepth 100000 in
theorem c_X5_proof (l : Launch) (D : va_G) (cA : ClassId) (b : Nat → Nat) (u : Mem) (xp1 xp2 xp3 : Int32) (post : Int64 → Mem → Prop) (h : w_X5_proof xp1 xp2 xp3 u post) : g_Ml l yX5_proof (Cond.code yX5_proof cX5_proof 6 (some .long) :: tT) rm_X5_proof D cA (Yw cA b) u [.ref (b 0), .int xp1, .int xp2, .int xp3] post := by
  refine g_enter_l (by decide) (Yw_adr cA b) (Nat.le_of_ble_eq_true rfl) ?_
  intro p e s m args below meth c A Q S hml hK hA hret ls hl hW
  have hx := S.1
  have hb := S.2.1
  have hl : lv_has ls 6 [(0, .ref (b 0)), (1, .int xp1), (2, .int xp2), (3, .int xp3)] := hl
  skip
  refine lv_iload_n hx hb dX5_proof_0 rfl (lv_at hl 1 rfl) ?_
  refine g_cali (g_runS S hml hK hW (c_X5_isLeaf l D cA b u xp1 _ h _) kw_484 kw_485 kw_25 kw_486 hd_X5_isLeaf ⟨rfl, rfl, Nat.le_of_ble_eq_true rfl, Nat.le_of_ble_eq_true rfl⟩ (As := [.int xp1]) (rest := []) rfl rfl hl.1 (Nat.le_of_ble_eq_true rfl) dX5_proof_1 ⟨Nat.zero_le _, Nat.zero_le _⟩) (Yw_adr cA b) hA hW (fun x2 u1 H locs h hW => ?_)
  refine lv_if_eq (tgt := 15) hx hb dX5_proof_4 (by decide) (fun c3 => ?_) (fun c3 => ?_)
  · have h := h.1 c3
    refine lv_ldc2 hx hb S.2.2.1 (S.2.2.2 _ kw_514) dX5_proof_15 ?_
    exact hret _ _ _ _ _ _ dX5_proof_18 hW h
  · have h := h.2 c3
    refine lv_aload_n hx hb dX5_proof_7 rfl (lv_at hl 0 rfl) ?_
    refine lv_iload_n hx hb dX5_proof_8 rfl (lv_at hl 2 rfl) ?_
    refine g_cali (g_runV S hml hK hW (c_X5_isHeight l D cA b u1 xp2 _ h _) kw_510 kw_512 kw_10 kw_25 kw_513 hd_X5_isHeight ⟨rfl, rfl, Nat.le_of_ble_eq_true rfl, Nat.le_of_ble_eq_true rfl⟩ (q0 := 0) rfl rfl (As := [.int xp2]) (rest := []) rfl rfl hl.1 (Nat.le_of_ble_eq_true rfl) dX5_proof_9 ⟨Nat.zero_le _, Nat.zero_le _⟩) (Yw_adr cA b) hA hW (fun x5 u4 H locs h hW => ?_)
    refine lv_if_ne (tgt := 19) hx hb dX5_proof_12 (by decide) (fun c6 => ?_) (fun c6 => ?_)
    · have h := h.2 c6
      refine lv_iload_n hx hb dX5_proof_19 rfl (lv_at hl 3 rfl) ?_
      refine lv_iconst (v := 0) hx hb dX5_proof_20 (by decide) ?_
      refine lv_iconst (v := 4) hx hb dX5_proof_21 (by decide) ?_
      refine g_cali (g_runS S hml hK hW (c_X5_in l D cA b u4 xp3 0 4 _ h _) kw_487 kw_488 kw_25 kw_489 hd_X5_in ⟨rfl, rfl, Nat.le_of_ble_eq_true rfl, Nat.le_of_ble_eq_true rfl⟩ (As := [.int xp3, .int 0, .int 4]) (rest := []) rfl rfl hl.1 (Nat.le_of_ble_eq_true rfl) dX5_proof_22 ⟨Nat.zero_le _, Nat.zero_le _⟩) (Yw_adr cA b) hA hW (fun x8 u7 H locs h hW => ?_)
      refine lv_if_ne (tgt := 32) hx hb dX5_proof_25 (by decide) (fun c9 => ?_) (fun c9 => ?_)
      · have h := h.2 c9
        refine lv_aload_n hx hb dX5_proof_32 rfl (lv_at hl 0 rfl) ?_
        refine yg_0_3 S hK hW kw_428 dX5_proof_33 ?_
        refine lv_iload_n hx hb dX5_proof_36 rfl (lv_at hl 2 rfl) ?_
        obtain ⟨hin, h⟩ := h
        refine yl_2 S hK hW hin dX5_proof_37 (fun x10 ex10 => ?_)
        have h := nm_use ex10 h
        refine lv_if_le (tgt := 45) hx hb dX5_proof_38 (by decide) (fun c11 => ?_) (fun c11 => ?_)
        · have h := h.1 c11
          refine lv_aload_n hx hb dX5_proof_45 rfl (lv_at hl 0 rfl) ?_
          refine lv_iload_n hx hb dX5_proof_46 rfl (lv_at hl 2 rfl) ?_
          refine g_cali (g_runV S hml hK hW (c_X5_digestOf l D cA b u7 xp2 _ h _) kw_414 kw_416 kw_7 kw_25 kw_417 hd_X5_digestOf ⟨rfl, rfl, Nat.le_of_ble_eq_true rfl, Nat.le_of_ble_eq_true rfl⟩ (q0 := 0) rfl rfl (As := [.int xp2]) (rest := []) rfl rfl hl.1 (Nat.le_of_ble_eq_true rfl) dX5_proof_47 ⟨Nat.zero_le _, Nat.zero_le _⟩) (Yw_adr cA b) hA hW (fun x13 u12 H locs h hW => ?_)
          refine lv_istore (lv' := [(4, .int x13), (0, .ref (b 0)), (1, .int xp1), (2, .int xp2), (3, .int xp3)]) hx hb dX5_proof_50 hl (by decide) rfl (fun ls hl => ?_)
          refine lv_bipush (v := 32) hx hb dX5_proof_52 (by decide) ?_
          refine lv_iload_n hx hb dX5_proof_54 rfl (lv_at hl 2 rfl) ?_
          refine lv_iadd hx hb dX5_proof_55 ?_
          refine lv_topi (fun x14 ex14 => ?_)
          have h := nm_use ex14 h
          refine lv_iload_n hx hb dX5_proof_56 rfl (lv_at hl 4 rfl) ?_
          refine lv_ishr hx hb dX5_proof_57 ?_
          refine lv_topi (fun x15 ex15 => ?_)
          have h := nm_use ex15 h
          refine lv_istore (lv' := [(5, .int x15), (4, .int x13), (0, .ref (b 0)), (1, .int xp1), (2, .int xp2), (3, .int xp3)]) hx hb dX5_proof_58 hl (by decide) rfl (fun ls hl => ?_)
          refine lv_aload_n hx hb dX5_proof_60 rfl (lv_at hl 2 rfl) ?_
          refine yg_0_17 S hK hW kw_442 dX5_proof_61 ?_
          refine lv_iload hx hb dX5_proof_64 (lv_at hl 0 rfl) ?_
          refine lv_iconst (v := 2) hx hb dX5_proof_66 (by decide) ?_
          refine lv_irem hx hb dX5_proof_67 (by decide) ?_
          refine lv_topi (fun x16 ex16 => ?_)
          have h := nm_use ex16 h
          refine lv_if_ne (tgt := 78) hx hb dX5_proof_68 (by decide) (fun c17 => ?_) (fun c17 => ?_)
          · have h := h.2 c17
            refine lv_iload hx hb dX5_proof_78 (lv_at hl 0 rfl) ?_
            refine lv_iconst (v := 1) hx hb dX5_proof_80 (by decide) ?_
            refine lv_isub hx hb dX5_proof_81 ?_
            refine lv_topi (fun x18 ex18 => ?_)
            have h := nm_use ex18 h
            obtain ⟨hin, h⟩ := h
            refine yl_12 S hK hW hin dX5_proof_82 (fun x19 ex19 => ?_)
            have h := nm_use ex19 h
            refine lv_i2l hx hb dX5_proof_83 rfl ?_
            refine lv_topl (fun z20 ez20 => ?_)
            have h := nm_use ez20 h
            exact hret _ _ _ _ _ _ dX5_proof_84 hW h
          · have h := h.1 c17
            refine lv_iload hx hb dX5_proof_71 (lv_at hl 0 rfl) ?_
            refine lv_iconst (v := 1) hx hb dX5_proof_73 (by decide) ?_
            refine lv_iadd hx hb dX5_proof_74 ?_
            refine lv_topi (fun x21 ex21 => ?_)
            have h := nm_use ex21 h
            refine lv_goto (tgt := 82) hx hb dX5_proof_75 (by decide) ?_
            obtain ⟨hin, h⟩ := h
            refine yl_12 S hK hW hin dX5_proof_82 (fun x22 ex22 => ?_)
            have h := nm_use ex22 h
            refine lv_i2l hx hb dX5_proof_83 rfl ?_
            refine lv_topl (fun z23 ez23 => ?_)
            have h := nm_use ez23 h
            exact hret _ _ _ _ _ _ dX5_proof_84 hW h
        · have h := h.2 c11
          refine lv_ldc2 hx hb S.2.2.1 (S.2.2.2 _ kw_515) dX5_proof_41 ?_
          exact hret _ _ _ _ _ _ dX5_proof_44 hW h
      · have h := h.1 c9
        refine lv_ldc2 hx hb S.2.2.1 (S.2.2.2 _ kw_605) dX5_proof_28 ?_
        exact hret _ _ _ _ _ _ dX5_proof_31 hW h
    · have h := h.1 c6
      refine lv_ldc2 hx hb S.2.2.1 (S.2.2.2 _ kw_514) dX5_proof_15 ?_
      exact hret _ _ _ _ _ _ dX5_proof_18 hW h
def w_X5_lay (xp1 : Int32) (xp2 : Int32) (u : Mem) (post : Int32 → Mem → Prop) : Prop := w_X5_in xp1 0 4 u (fun x2 u1 => (x2 = 0 → (post (-102) u1)) ∧ (¬ x2 = 0 → (vp_in xp1 5 ∧ nm (u1 11 (xp1 : Int32).toNatClampNeg) fun x4 => vp_in xp1 5 ∧ nm (g_ms u1 11 (xp1 : Int32).toNatClampNeg xp2) fun u5 => post x4 u5)))
abbrev rm_X5_lay : Room := { frames := 1, cells := 0, slots := 0, locals := 22 }
theorem hd_X5_lay : yX5_lay.cls ≠ "java/lang/invoke/MethodHandle" ∧ yX5_lay.cls ≠ "java/lang/invoke/VarHandle" ∧ (parseMethodDescriptor yX5_lay.desc).map (fun d => d.parameters.length) = some 2 := by decide +kernel
set_option maxHeartbeats 4000000 in
set_option maxRecDepth 100000 in
theorem c_X5_lay (l : Launch) (D : va_G) (cA : ClassId) (b : Nat → Nat) (u : Mem) (xp1 xp2 : Int32) (post : Int32 → Mem → Prop) (h : w_X5_lay xp1 xp2 u post) : g_Mi l yX5_lay (Cond.code yX5_lay cX5_lay 4 (some .int) :: tT) rm_X5_lay D cA (Yw cA b) u [.ref (b 0), .int xp1, .int xp2] post := by
  refine g_enter_i (by decide) (Yw_adr cA b) (Nat.le_of_ble_eq_true rfl) ?_
  intro p e s m args below meth c A Q S hml hK hA hret ls hl hW
  have hx := S.1
  have hb := S.2.1
  have hl : lv_has ls 4 [(0, .ref (b 0)), (1, .int xp1), (2, .int xp2)] := hl
  skip
  refine lv_iload_n hx hb dX5_lay_0 rfl (lv_at hl 1 rfl) ?_
  refine lv_iconst (v := 0) hx hb dX5_lay_1 (by decide) ?_
  refine lv_iconst (v := 4) hx hb dX5_lay_2 (by decide) ?_
  refine g_cali (g_runS S hml hK hW (c_X5_in l D cA b u xp1 0 4 _ h _) kw_487 kw_488 kw_25 kw_489 hd_X5_in ⟨rfl, rfl, Nat.le_of_ble_eq_true rfl, Nat.le_of_ble_eq_true rfl⟩ (As := [.int xp1, .int 0, .int 4]) (rest := []) rfl rfl hl.1 (Nat.le_of_ble_eq_true rfl) dX5_lay_3 ⟨Nat.zero_le _, Nat.zero_le _⟩) (Yw_adr cA b) hA hW (fun x2 u1 H locs h hW => ?_)
  refine lv_if_ne (tgt := 12) hx hb dX5_lay_6 (by decide) (fun c3 => ?_) (fun c3 => ?_)
  · have h := h.2 c3
    refine lv_aload_n hx hb dX5_lay_12 rfl (lv_at hl 0 rfl) ?_
    refine yg_0_16 S hK hW kw_441 dX5_lay_13 ?_
    refine lv_iload_n hx hb dX5_lay_16 rfl (lv_at hl 1 rfl) ?_
    obtain ⟨hin, h⟩ := h
    refine yl_11 S hK hW hin dX5_lay_17 (fun x4 ex4 => ?_)
    have h := nm_use ex4 h
    refine lv_istore_n (lv' := [(3, .int x4), (0, .ref (b 0)), (1, .int xp1), (2, .int xp2)]) hx hb dX5_lay_18 rfl hl (by decide) rfl (fun ls hl => ?_)
    refine lv_aload_n hx hb dX5_lay_19 rfl (lv_at hl 1 rfl) ?_
    refine yg_0_16 S hK hW kw_441 dX5_lay_20 ?_
    refine lv_iload_n hx hb dX5_lay_23 rfl (lv_at hl 2 rfl) ?_
    refine lv_iload_n hx hb dX5_lay_24 rfl (lv_at hl 3 rfl) ?_
    obtain ⟨hin, h⟩ := h
    refine ys_11 S hK hW hin dX5_lay_25 (fun u5 H locs eu5 hW => ?_)
    have h := nm_use eu5 h
    refine lv_iload_n hx hb dX5_lay_26 rfl (lv_at hl 0 rfl) ?_
    exact hret _ _ _ _ _ _ dX5_lay_27 hW h
  · have h := h.1 c3
    refine lv_bipush (v := (-102)) hx hb dX5_lay_9 (by decide) ?_
    exact hret _ _ _ _ _ _ dX5_lay_11 hW h
def L_X5_proves_28 (f1_28 : Int32) (f2_28 : Int32) (f3_28 : Int32) (post : Int32 → Mem → Prop) (K : Int32 → Int32 → Mem → Prop) : Nat → Int32 → Int32 → Mem → Prop
  | 0, _, _, _ => False
  | n_28 + 1, y4_28, y5_28, u_28 => (5 ≤ y5_28 → (K y4_28 y5_28 u_28)) ∧ (¬ 5 ≤ y5_28 → (nm (f1_28 >>> (y5_28 &&& 31) : Int32) fun x10 => nm (x10 - x10 / 2 * 2) fun x11 => (x11 = 0 → (vp_in y5_28 5 ∧ nm (u_28 11 (y5_28 : Int32).toNatClampNeg) fun x17 => w_X5_ofTwo y4_28 x17 u_28 (fun x19 u18 => nm (y5_28 + 1) fun x20 => L_X5_proves_28 f1_28 f2_28 f3_28 post K n_28 x19 x20 u18))) ∧ (¬ x11 = 0 → (vp_in y5_28 5 ∧ nm (u_28 11 (y5_28 : Int32).toNatClampNeg) fun x13 => w_X5_ofTwo x13 y4_28 u_28 (fun x15 u14 => nm (y5_28 + 1) fun x16 => L_X5_proves_28 f1_28 f2_28 f3_28 post K n_28 x15 x16 u14)))))
def w_X5_proves (xp1 : Int32) (xp2 : Int32) (xp3 : Int32) (u : Mem) (post : Int32 → Mem → Prop) : Prop := w_X5_isLeaf xp1 u (fun x2 u1 => (x2 = 0 → (post (-101) u1)) ∧ (¬ x2 = 0 → (w_X5_isHeight xp3 u1 (fun x5 u4 => (x5 = 0 → (post (-101) u4)) ∧ (¬ x5 = 0 → (w_X5_ofLeaf xp1 xp2 u4 (fun x8 u7 => ∃ n_28, L_X5_proves_28 xp1 xp2 xp3 post (fun w4_28 w5_28 v_28 => vp_in xp3 201 ∧ nm (v_28 1 (xp3 : Int32).toNatClampNeg) fun x21 => (w4_28 = x21 → (post 1 v_28)) ∧ (¬ w4_28 = x21 → (post 0 v_28))) n_28 x8 0 u7)))))))
abbrev rm_X5_proves : Room := { frames := 2, cells := 0, slots := 0, locals := 43 }
theorem hd_X5_proves : yX5_proves.cls ≠ "java/lang/invoke/MethodHandle" ∧ yX5_proves.cls ≠ "java/lang/invoke/VarHandle" ∧ (parseMethodDescriptor yX5_proves.desc).map (fun d => d.parameters.length) = some 3 := by decide +kernel
set_option maxHeartbeats 4000000 in
set_option maxRecDepth 100000 in
theorem c_X5_proves (l : Launch) (D : va_G) (cA : ClassId) (b : Nat → Nat) (u : Mem) (xp1 xp2 xp3 : Int32) (post : Int32 → Mem → Prop) (h : w_X5_proves xp1 xp2 xp3 u post) : g_Mi l yX5_proves (Cond.code yX5_proves cX5_proves 6 (some .int) :: tT) rm_X5_proves D cA (Yw cA b) u [.ref (b 0), .int xp1, .int xp2, .int xp3] post := by
  refine g_enter_i (by decide) (Yw_adr cA b) (Nat.le_of_ble_eq_true rfl) ?_
  intro p e s m args below meth c A Q S hml hK hA hret ls hl hW
  have hx := S.1
  have hb := S.2.1
  have hl : lv_has ls 6 [(0, .ref (b 0)), (1, .int xp1), (2, .int xp2), (3, .int xp3)] := hl
  skip
  refine lv_iload_n hx hb dX5_proves_0 rfl (lv_at hl 1 rfl) ?_
  refine g_cali (g_runS S hml hK hW (c_X5_isLeaf l D cA b u xp1 _ h _) kw_484 kw_485 kw_25 kw_486 hd_X5_isLeaf ⟨rfl, rfl, Nat.le_of_ble_eq_true rfl, Nat.le_of_ble_eq_true rfl⟩ (As := [.int xp1]) (rest := []) rfl rfl hl.1 (Nat.le_of_ble_eq_true rfl) dX5_proves_1 ⟨Nat.zero_le _, Nat.zero_le _⟩) (Yw_adr cA b) hA hW (fun x2 u1 H locs h hW => ?_)
  refine lv_if_eq (tgt := 15) hx hb dX5_proves_4 (by decide) (fun c3 => ?_) (fun c3 => ?_)
  · have h := h.1 c3
    refine lv_bipush (v := (-101)) hx hb dX5_proves_15 (by decide) ?_
    exact hret _ _ _ _ _ _ dX5_proves_17 hW h
  · have h := h.2 c3
    refine lv_aload_n hx hb dX5_proves_7 rfl (lv_at hl 0 rfl) ?_
    refine lv_iload_n hx hb dX5_proves_8 rfl (lv_at hl 3 rfl) ?_
    refine g_cali (g_runV S hml hK hW (c_X5_isHeight l D cA b u1 xp3 _ h _) kw_510 kw_512 kw_10 kw_25 kw_513 hd_X5_isHeight ⟨rfl, rfl, Nat.le_of_ble_eq_true rfl, Nat.le_of_ble_eq_true rfl⟩ (q0 := 0) rfl rfl (As := [.int xp3]) (rest := []) rfl rfl hl.1 (Nat.le_of_ble_eq_true rfl) dX5_proves_9 ⟨Nat.zero_le _, Nat.zero_le _⟩) (Yw_adr cA b) hA hW (fun x5 u4 H locs h hW => ?_)
    refine lv_if_ne (tgt := 18) hx hb dX5_proves_12 (by decide) (fun c6 => ?_) (fun c6 => ?_)
    · have h := h.2 c6
      refine lv_iload_n hx hb dX5_proves_18 rfl (lv_at hl 1 rfl) ?_
      refine lv_iload_n hx hb dX5_proves_19 rfl (lv_at hl 2 rfl) ?_
      refine g_cali (g_runS S hml hK hW (c_X5_ofLeaf l D cA b u4 xp1 xp2 _ h _) kw_418 kw_419 kw_25 kw_420 hd_X5_ofLeaf ⟨rfl, rfl, Nat.le_of_ble_eq_true rfl, Nat.le_of_ble_eq_true rfl⟩ (As := [.int xp1, .int xp2]) (rest := []) rfl rfl hl.1 (Nat.le_of_ble_eq_true rfl) dX5_proves_20 ⟨Nat.zero_le _, Nat.zero_le _⟩) (Yw_adr cA b) hA hW (fun x8 u7 H locs h hW => ?_)
      refine lv_istore (lv' := [(4, .int x8), (0, .ref (b 0)), (1, .int xp1), (2, .int xp2), (3, .int xp3)]) hx hb dX5_proves_23 hl (by decide) rfl (fun ls hl => ?_)
      refine lv_iconst (v := 0) hx hb dX5_proves_25 (by decide) ?_
      refine lv_istore (lv' := [(5, .int 0), (4, .int x8), (0, .ref (b 0)), (1, .int xp1), (2, .int xp2), (3, .int xp3)]) hx hb dX5_proves_26 hl (by decide) rfl (fun ls hl => ?_)
      have loop_28 : ∀ (K : Int32 → Int32 → Mem → Prop), (∀ (w4_28 w5_28 : Int32) (v_28 : Mem) (H : Heap) (locs : List Loc) (ls : Array Slot), K w4_28 w5_28 v_28 → g_W D (Yw cA b) A s.heap v_28 H locs → lv_has ls 6 [(0, .ref (b 0)), (1, .int xp1), (2, .int xp2), (3, .int xp3), (4, .int w4_28), (5, .int w5_28)] → W p l e rm_X5_proves s m args below meth c H locs 0 0 Q (F0 m 78 ls [])) → ∀ (n : Nat) (y4_28 y5_28 : Int32) (u_28 : Mem) (H : Heap) (locs : List Loc) (ls : Array Slot), L_X5_proves_28 xp1 xp2 xp3 post K n y4_28 y5_28 u_28 → g_W D (Yw cA b) A s.heap u_28 H locs → lv_has ls 6 [(0, .ref (b 0)), (1, .int xp1), (2, .int xp2), (3, .int xp3), (4, .int y4_28), (5, .int y5_28)] → W p l e rm_X5_proves s m args below meth c H locs 0 0 Q (F0 m 28 ls []) := by
        intro K hE n
        induction n with
        | zero => intro y4_28 y5_28 u_28 H locs ls h; exact False.elim h
        | succ n ih =>
          intro y4_28 y5_28 u_28 H locs ls h hW hl
          refine lv_iload hx hb dX5_proves_28 (lv_at hl 5 rfl) ?_
          refine lv_iconst (v := 5) hx hb dX5_proves_30 (by decide) ?_
          refine lv_icmp_ge (tgt := 78) hx hb dX5_proves_31 (by decide) (fun c23 => ?_) (fun c23 => ?_)
          · have h := h.1 c23
            exact hE y4_28 y5_28 u_28 _ _ _ h hW (lv_sub hl [0, 1, 2, 3, 4, 5] rfl)
          · have h := h.2 c23
            refine lv_iload_n hx hb dX5_proves_34 rfl (lv_at hl 1 rfl) ?_
            refine lv_iload hx hb dX5_proves_35 (lv_at hl 5 rfl) ?_
            refine lv_ishr hx hb dX5_proves_37 ?_
            refine lv_topi (fun x24 ex24 => ?_)
            have h := nm_use ex24 h
            refine lv_iconst (v := 2) hx hb dX5_proves_38 (by decide) ?_
            refine lv_irem hx hb dX5_proves_39 (by decide) ?_
            refine lv_topi (fun x25 ex25 => ?_)
            have h := nm_use ex25 h
            refine lv_if_ne (tgt := 58) hx hb dX5_proves_40 (by decide) (fun c26 => ?_) (fun c26 => ?_)
            · have h := h.2 c26
              refine lv_aload_n hx hb dX5_proves_58 rfl (lv_at hl 0 rfl) ?_
              refine yg_0_16 S hK hW kw_441 dX5_proves_59 ?_
              refine lv_iload hx hb dX5_proves_62 (lv_at hl 5 rfl) ?_
              obtain ⟨hin, h⟩ := h
              refine yl_11 S hK hW hin dX5_proves_64 (fun x27 ex27 => ?_)
              have h := nm_use ex27 h
              refine lv_iload hx hb dX5_proves_65 (lv_at hl 4 rfl) ?_
              refine g_cali (g_runS S hml hK hW (c_X5_ofTwo l D cA b u_28 x27 y4_28 _ h _) kw_421 kw_422 kw_25 kw_423 hd_X5_ofTwo ⟨rfl, rfl, Nat.le_of_ble_eq_true rfl, Nat.le_of_ble_eq_true rfl⟩ (As := [.int x27, .int y4_28]) (rest := []) rfl rfl hl.1 (Nat.le_of_ble_eq_true rfl) dX5_proves_67 ⟨Nat.zero_le _, Nat.zero_le _⟩) (Yw_adr cA b) hA hW (fun x29 u28 H locs h hW => ?_)
              refine lv_istore (lv' := [(4, .int x29), (0, .ref (b 0)), (1, .int xp1), (2, .int xp2), (3, .int xp3), (5, .int y5_28)]) hx hb dX5_proves_70 hl (by decide) rfl (fun ls hl => ?_)
              obtain ⟨x30, ex30⟩ : ∃ z : Int32, z = y5_28 + 1 := ⟨_, rfl⟩
              have h := nm_use ex30 h
              refine lv_iinc (v := x30) (lv' := [(5, .int x30), (4, .int x29), (0, .ref (b 0)), (1, .int xp1), (2, .int xp2), (3, .int xp3)]) hx hb dX5_proves_72 hl (k := 5) rfl (by rw [ex30]; rfl) (by decide) rfl (fun ls hl => ?_)
              refine lv_goto (tgt := 28) hx hb dX5_proves_75 (by decide) ?_
              exact ih x29 x30 u28 _ _ _ h hW (lv_sub hl [2, 3, 4, 5, 1, 0] rfl)
            · have h := h.1 c26
              refine lv_iload hx hb dX5_proves_43 (lv_at hl 4 rfl) ?_
              refine lv_aload_n hx hb dX5_proves_45 rfl (lv_at hl 0 rfl) ?_
              refine yg_0_16 S hK hW kw_441 dX5_proves_46 ?_
              refine lv_iload hx hb dX5_proves_49 (lv_at hl 5 rfl) ?_
              obtain ⟨hin, h⟩ := h
              refine yl_11 S hK hW hin dX5_proves_51 (fun x31 ex31 => ?_)
              have h := nm_use ex31 h
              refine g_cali (g_runS S hml hK hW (c_X5_ofTwo l D cA b u_28 y4_28 x31 _ h _) kw_421 kw_422 kw_25 kw_423 hd_X5_ofTwo ⟨rfl, rfl, Nat.le_of_ble_eq_true rfl, Nat.le_of_ble_eq_true rfl⟩ (As := [.int y4_28, .int x31]) (rest := []) rfl rfl hl.1 (Nat.le_of_ble_eq_true rfl) dX5_proves_52 ⟨Nat.zero_le _, Nat.zero_le _⟩) (Yw_adr cA b) hA hW (fun x33 u32 H locs h hW => ?_)
              refine lv_goto (tgt := 70) hx hb dX5_proves_55 (by decide) ?_
              refine lv_istore (lv' := [(4, .int x33), (0, .ref (b 0)), (1, .int xp1), (2, .int xp2), (3, .int xp3), (5, .int y5_28)]) hx hb dX5_proves_70 hl (by decide) rfl (fun ls hl => ?_)
              obtain ⟨x34, ex34⟩ : ∃ z : Int32, z = y5_28 + 1 := ⟨_, rfl⟩
              have h := nm_use ex34 h
              refine lv_iinc (v := x34) (lv' := [(5, .int x34), (4, .int x33), (0, .ref (b 0)), (1, .int xp1), (2, .int xp2), (3, .int xp3)]) hx hb dX5_proves_72 hl (k := 5) rfl (by rw [ex34]; rfl) (by decide) rfl (fun ls hl => ?_)
              refine lv_goto (tgt := 28) hx hb dX5_proves_75 (by decide) ?_
              exact ih x33 x34 u32 _ _ _ h hW (lv_sub hl [2, 3, 4, 5, 1, 0] rfl)
      obtain ⟨n_28, h⟩ := h
      refine loop_28 _ ?_ n_28 x8 0 u7 _ _ _ h hW (lv_sub hl [2, 3, 4, 5, 1, 0] rfl)
      intro w4_28 w5_28 v_28 H locs ls h hW hl
      refine lv_iload hx hb dX5_proves_78 (lv_at hl 4 rfl) ?_
      refine lv_aload_n hx hb dX5_proves_80 rfl (lv_at hl 0 rfl) ?_
      refine yg_0_2 S hK hW kw_427 dX5_proves_81 ?_
      refine lv_iload_n hx hb dX5_proves_84 rfl (lv_at hl 3 rfl) ?_
      obtain ⟨hin, h⟩ := h
      refine yl_1 S hK hW hin dX5_proves_85 (fun x21 ex21 => ?_)
      have h := nm_use ex21 h
      refine lv_icmp_ne (tgt := 93) hx hb dX5_proves_86 (by decide) (fun c22 => ?_) (fun c22 => ?_)
      · have h := h.2 c22
        refine lv_iconst (v := 0) hx hb dX5_proves_93 (by decide) ?_
        exact hret _ _ _ _ _ _ dX5_proves_94 hW h
      · have h := h.1 c22
        refine lv_iconst (v := 1) hx hb dX5_proves_89 (by decide) ?_
        refine lv_goto (tgt := 94) hx hb dX5_proves_90 (by decide) ?_
        exact hret _ _ _ _ _ _ dX5_proves_94 hW h
    · have h := h.1 c6
      refine lv_bipush (v := (-101)) hx hb dX5_proves_15 (by decide) ?_
      exact hret _ _ _ _ _ _ dX5_proves_17 hW h
def w_X5_back (xp1 : Int32) (u : Mem) (post : Int32 → Mem → Prop) : Prop := w_X5_isHeight xp1 u (fun x2 u1 => (x2 = 0 → (post (-101) u1)) ∧ (¬ x2 = 0 → (((u1 16 0) ≤ 0 → (vp_in xp1 201 ∧ nm (u1 2 (xp1 : Int32).toNatClampNeg) fun x5 => (x5 ≤ 0 → (w_X5_squeeze xp1 u1 (fun x8 u7 => nm (g_ms u7 13 0 xp1) fun u9 => nm (g_ms u9 14 0 0) fun u10 => post x8 u10))) ∧ (¬ x5 ≤ 0 → (post (-104) u1)))) ∧ (¬ (u1 16 0) ≤ 0 → (post (-103) u1)))))
abbrev rm_X5_back : Room := { frames := 2, cells := 0, slots := 0, locals := 43 }
theorem hd_X5_back : yX5_back.cls ≠ "java/lang/invoke/MethodHandle" ∧ yX5_back.cls ≠ "java/lang/invoke/VarHandle" ∧ (parseMethodDescriptor yX5_back.desc).map (fun d => d.parameters.length) = some 1 := by decide +kernel
set_option maxHeartbeats 4000000 in
set_option maxRecDepth 100000 in
theorem c_X5_back (l : Launch) (D : va_G) (cA : ClassId) (b : Nat → Nat) (u : Mem) (xp1 : Int32) (post : Int32 → Mem → Prop) (h : w_X5_back xp1 u post) : g_Mi l yX5_back (Cond.code yX5_back cX5_back 3 (some .int) :: tT) rm_X5_back D cA (Yw cA b) u [.ref (b 0), .int xp1] post := by
  refine g_enter_i (by decide) (Yw_adr cA b) (Nat.le_of_ble_eq_true rfl) ?_
  intro p e s m args below meth c A Q S hml hK hA hret ls hl hW
  have hx := S.1
  have hb := S.2.1
  have hl : lv_has ls 3 [(0, .ref (b 0)), (1, .int xp1)] := hl
  skip
  refine lv_aload_n hx hb dX5_back_0 rfl (lv_at hl 0 rfl) ?_
  refine lv_iload_n hx hb dX5_back_1 rfl (lv_at hl 1 rfl) ?_
  refine g_cali (g_runV S hml hK hW (c_X5_isHeight l D cA b u xp1 _ h _) kw_510 kw_512 kw_10 kw_25 kw_513 hd_X5_isHeight ⟨rfl, rfl, Nat.le_of_ble_eq_true rfl, Nat.le_of_ble_eq_true rfl⟩ (q0 := 0) rfl rfl (As := [.int xp1]) (rest := []) rfl rfl hl.1 (Nat.le_of_ble_eq_true rfl) dX5_back_2 ⟨Nat.zero_le _, Nat.zero_le _⟩) (Yw_adr cA b) hA hW (fun x2 u1 H locs h hW => ?_)
  refine lv_if_ne (tgt := 11) hx hb dX5_back_5 (by decide) (fun c3 => ?_) (fun c3 => ?_)
  · have h := h.2 c3
    refine lv_aload_n hx hb dX5_back_11 rfl (lv_at hl 0 rfl) ?_
    refine yg_0_14 S hK hW kw_439 dX5_back_12 ?_
    refine lv_if_le (tgt := 21) hx hb dX5_back_15 (by decide) (fun c4 => ?_) (fun c4 => ?_)
    · have h := h.1 c4
      refine lv_aload_n hx hb dX5_back_21 rfl (lv_at hl 0 rfl) ?_
      refine yg_0_3 S hK hW kw_428 dX5_back_22 ?_
      refine lv_iload_n hx hb dX5_back_25 rfl (lv_at hl 1 rfl) ?_
      obtain ⟨hin, h⟩ := h
      refine yl_2 S hK hW hin dX5_back_26 (fun x5 ex5 => ?_)
      have h := nm_use ex5 h
      refine lv_if_le (tgt := 33) hx hb dX5_back_27 (by decide) (fun c6 => ?_) (fun c6 => ?_)
      · have h := h.1 c6
        refine lv_aload_n hx hb dX5_back_33 rfl (lv_at hl 0 rfl) ?_
        refine lv_iload_n hx hb dX5_back_34 rfl (lv_at hl 1 rfl) ?_
        refine g_cali (g_runV S hml hK hW (c_X5_squeeze l D cA b u1 xp1 _ h _) kw_572 kw_574 kw_14 kw_25 kw_575 hd_X5_squeeze ⟨rfl, rfl, Nat.le_of_ble_eq_true rfl, Nat.le_of_ble_eq_true rfl⟩ (q0 := 0) rfl rfl (As := [.int xp1]) (rest := []) rfl rfl hl.1 (Nat.le_of_ble_eq_true rfl) dX5_back_35 ⟨Nat.zero_le _, Nat.zero_le _⟩) (Yw_adr cA b) hA hW (fun x8 u7 H locs h hW => ?_)
        refine lv_istore_n (lv' := [(2, .int x8), (0, .ref (b 0)), (1, .int xp1)]) hx hb dX5_back_38 rfl hl (by decide) rfl (fun ls hl => ?_)
        refine lv_aload_n hx hb dX5_back_39 rfl (lv_at hl 1 rfl) ?_
        refine lv_iload_n hx hb dX5_back_40 rfl (lv_at hl 2 rfl) ?_
        refine yp_13 S hK hW kw_425 dX5_back_41 (fun u9 H locs eu9 hW => ?_)
        have h := nm_use eu9 h
        refine lv_aload_n hx hb dX5_back_44 rfl (lv_at hl 1 rfl) ?_
        refine lv_iconst (v := 0) hx hb dX5_back_45 (by decide) ?_
        refine yp_14 S hK hW kw_429 dX5_back_46 (fun u10 H locs eu10 hW => ?_)
        have h := nm_use eu10 h
        refine lv_iload_n hx hb dX5_back_49 rfl (lv_at hl 0 rfl) ?_
        exact hret _ _ _ _ _ _ dX5_back_50 hW h
      · have h := h.2 c6
        refine lv_bipush (v := (-104)) hx hb dX5_back_30 (by decide) ?_
        exact hret _ _ _ _ _ _ dX5_back_32 hW h
    · have h := h.2 c4
      refine lv_bipush (v := (-103)) hx hb dX5_back_18 (by decide) ?_
      exact hret _ _ _ _ _ _ dX5_back_20 hW h
  · have h := h.1 c3
    refine lv_bipush (v := (-101)) hx hb dX5_back_8 (by decide) ?_
    exact hret _ _ _ _ _ _ dX5_back_10 hW h
def L_X5_row_28 (f1_28 : Int32) (f2_28 : Int32) (f3_28 : Int32) (post : Int32 → Mem → Prop) (K : Int32 → Int32 → Mem → Prop) : Nat → Int32 → Int32 → Mem → Prop
  | 0, _, _, _ => False
  | n_28 + 1, y4_28, y5_28, u_28 => ((u_28 15 0) ≤ y5_28 → (K y4_28 y5_28 u_28)) ∧ (¬ (u_28 15 0) ≤ y5_28 → (vp_in y5_28 400 ∧ nm (u_28 10 (y5_28 : Int32).toNatClampNeg) fun x8 => (x8 = 0 → (vp_in y5_28 400 ∧ nm (u_28 6 (y5_28 : Int32).toNatClampNeg) fun x11 => (x11 = f1_28 → ((y4_28 = f2_28 → ((f3_28 = 0 → (vp_in y5_28 400 ∧ nm (u_28 7 (y5_28 : Int32).toNatClampNeg) fun x19 => post x19 u_28)) ∧ (¬ f3_28 = 0 → (vp_in y5_28 400 ∧ nm (u_28 9 (y5_28 : Int32).toNatClampNeg) fun x18 => post x18 u_28)))) ∧ (¬ y4_28 = f2_28 → (nm (y4_28 + 1) fun x15 => nm (y5_28 + 1) fun x16 => L_X5_row_28 f1_28 f2_28 f3_28 post K n_28 x15 x16 u_28)))) ∧ (¬ x11 = f1_28 → (nm (y5_28 + 1) fun x13 => L_X5_row_28 f1_28 f2_28 f3_28 post K n_28 y4_28 x13 u_28)))) ∧ (¬ x8 = 0 → (nm (y5_28 + 1) fun x10 => L_X5_row_28 f1_28 f2_28 f3_28 post K n_28 y4_28 x10 u_28))))
def w_X5_row (xp1 : Int32) (xp2 : Int32) (xp3 : Int32) (u : Mem) (post : Int32 → Mem → Prop) : Prop := w_X5_isLeaf xp1 u (fun x2 u1 => (x2 = 0 → (post (-101) u1)) ∧ (¬ x2 = 0 → (w_X5_in xp3 0 1 u1 (fun x5 u4 => (x5 = 0 → (post (-102) u4)) ∧ (¬ x5 = 0 → (∃ n_28, L_X5_row_28 xp1 xp2 xp3 post (fun w4_28 w5_28 v_28 => post (-1) v_28) n_28 0 0 u4))))))
abbrev rm_X5_row : Room := { frames := 2, cells := 0, slots := 0, locals := 42 }
theorem hd_X5_row : yX5_row.cls ≠ "java/lang/invoke/MethodHandle" ∧ yX5_row.cls ≠ "java/lang/invoke/VarHandle" ∧ (parseMethodDescriptor yX5_row.desc).map (fun d => d.parameters.length) = some 3 := by decide +kernel
set_option maxHeartbeats 4000000 in
set_option maxRecDepth 100000 in
theorem c_X5_row (l : Launch) (D : va_G) (cA : ClassId) (b : Nat → Nat) (u : Mem) (xp1 xp2 xp3 : Int32) (post : Int32 → Mem → Prop) (h : w_X5_row xp1 xp2 xp3 u post) : g_Mi l yX5_row (Cond.code yX5_row cX5_row 6 (some .int) :: tT) rm_X5_row D cA (Yw cA b) u [.ref (b 0), .int xp1, .int xp2, .int xp3] post := by
  refine g_enter_i (by decide) (Yw_adr cA b) (Nat.le_of_ble_eq_true rfl) ?_
  intro p e s m args below meth c A Q S hml hK hA hret ls hl hW
  have hx := S.1
  have hb := S.2.1
  have hl : lv_has ls 6 [(0, .ref (b 0)), (1, .int xp1), (2, .int xp2), (3, .int xp3)] := hl
  skip
  refine lv_iload_n hx hb dX5_row_0 rfl (lv_at hl 1 rfl) ?_
  refine g_cali (g_runS S hml hK hW (c_X5_isLeaf l D cA b u xp1 _ h _) kw_484 kw_485 kw_25 kw_486 hd_X5_isLeaf ⟨rfl, rfl, Nat.le_of_ble_eq_true rfl, Nat.le_of_ble_eq_true rfl⟩ (As := [.int xp1]) (rest := []) rfl rfl hl.1 (Nat.le_of_ble_eq_true rfl) dX5_row_1 ⟨Nat.zero_le _, Nat.zero_le _⟩) (Yw_adr cA b) hA hW (fun x2 u1 H locs h hW => ?_)
  refine lv_if_ne (tgt := 10) hx hb dX5_row_4 (by decide) (fun c3 => ?_) (fun c3 => ?_)
  · have h := h.2 c3
    refine lv_iload_n hx hb dX5_row_10 rfl (lv_at hl 3 rfl) ?_
    refine lv_iconst (v := 0) hx hb dX5_row_11 (by decide) ?_
    refine lv_iconst (v := 1) hx hb dX5_row_12 (by decide) ?_
    refine g_cali (g_runS S hml hK hW (c_X5_in l D cA b u1 xp3 0 1 _ h _) kw_487 kw_488 kw_25 kw_489 hd_X5_in ⟨rfl, rfl, Nat.le_of_ble_eq_true rfl, Nat.le_of_ble_eq_true rfl⟩ (As := [.int xp3, .int 0, .int 1]) (rest := []) rfl rfl hl.1 (Nat.le_of_ble_eq_true rfl) dX5_row_13 ⟨Nat.zero_le _, Nat.zero_le _⟩) (Yw_adr cA b) hA hW (fun x5 u4 H locs h hW => ?_)
    refine lv_if_ne (tgt := 22) hx hb dX5_row_16 (by decide) (fun c6 => ?_) (fun c6 => ?_)
    · have h := h.2 c6
      refine lv_iconst (v := 0) hx hb dX5_row_22 (by decide) ?_
      refine lv_istore (lv' := [(4, .int 0), (0, .ref (b 0)), (1, .int xp1), (2, .int xp2), (3, .int xp3)]) hx hb dX5_row_23 hl (by decide) rfl (fun ls hl => ?_)
      refine lv_iconst (v := 0) hx hb dX5_row_25 (by decide) ?_
      refine lv_istore (lv' := [(5, .int 0), (4, .int 0), (0, .ref (b 0)), (1, .int xp1), (2, .int xp2), (3, .int xp3)]) hx hb dX5_row_26 hl (by decide) rfl (fun ls hl => ?_)
      have loop_28 : ∀ (K : Int32 → Int32 → Mem → Prop), (∀ (w4_28 w5_28 : Int32) (v_28 : Mem) (H : Heap) (locs : List Loc) (ls : Array Slot), K w4_28 w5_28 v_28 → g_W D (Yw cA b) A s.heap v_28 H locs → lv_has ls 6 [(0, .ref (b 0)), (1, .int xp1), (2, .int xp2), (3, .int xp3), (4, .int w4_28), (5, .int w5_28)] → W p l e rm_X5_row s m args below meth c H locs 0 0 Q (F0 m 95 ls [])) → ∀ (n : Nat) (y4_28 y5_28 : Int32) (u_28 : Mem) (H : Heap) (locs : List Loc) (ls : Array Slot), L_X5_row_28 xp1 xp2 xp3 post K n y4_28 y5_28 u_28 → g_W D (Yw cA b) A s.heap u_28 H locs → lv_has ls 6 [(0, .ref (b 0)), (1, .int xp1), (2, .int xp2), (3, .int xp3), (4, .int y4_28), (5, .int y5_28)] → W p l e rm_X5_row s m args below meth c H locs 0 0 Q (F0 m 28 ls []) := by
        intro K hE n
        induction n with
        | zero => intro y4_28 y5_28 u_28 H locs ls h; exact False.elim h
        | succ n ih =>
          intro y4_28 y5_28 u_28 H locs ls h hW hl
          refine lv_iload hx hb dX5_row_28 (lv_at hl 5 rfl) ?_
          refine lv_aload_n hx hb dX5_row_30 rfl (lv_at hl 0 rfl) ?_
          refine yg_0_8 S hK hW kw_433 dX5_row_31 ?_
          refine lv_icmp_ge (tgt := 95) hx hb dX5_row_34 (by decide) (fun c20 => ?_) (fun c20 => ?_)
          · have h := h.1 c20
            exact hE y4_28 y5_28 u_28 _ _ _ h hW (lv_sub hl [0, 1, 2, 3, 4, 5] rfl)
          · have h := h.2 c20
            refine lv_aload_n hx hb dX5_row_37 rfl (lv_at hl 0 rfl) ?_
            refine yg_0_13 S hK hW kw_438 dX5_row_38 ?_
            refine lv_iload hx hb dX5_row_41 (lv_at hl 5 rfl) ?_
            obtain ⟨hin, h⟩ := h
            refine yl_10 S hK hW hin dX5_row_43 (fun x21 ex21 => ?_)
            have h := nm_use ex21 h
            refine lv_if_ne (tgt := 89) hx hb dX5_row_44 (by decide) (fun c22 => ?_) (fun c22 => ?_)
            · have h := h.2 c22
              obtain ⟨x23, ex23⟩ : ∃ z : Int32, z = y5_28 + 1 := ⟨_, rfl⟩
              have h := nm_use ex23 h
              refine lv_iinc (v := x23) (lv' := [(5, .int x23), (0, .ref (b 0)), (1, .int xp1), (2, .int xp2), (3, .int xp3), (4, .int y4_28)]) hx hb dX5_row_89 hl (k := 5) rfl (by rw [ex23]; rfl) (by decide) rfl (fun ls hl => ?_)
              refine lv_goto (tgt := 28) hx hb dX5_row_92 (by decide) ?_
              exact ih y4_28 x23 u_28 _ _ _ h hW (lv_sub hl [1, 2, 3, 4, 5, 0] rfl)
            · have h := h.1 c22
              refine lv_aload_n hx hb dX5_row_47 rfl (lv_at hl 0 rfl) ?_
              refine yg_0_9 S hK hW kw_434 dX5_row_48 ?_
              refine lv_iload hx hb dX5_row_51 (lv_at hl 5 rfl) ?_
              obtain ⟨hin, h⟩ := h
              refine yl_6 S hK hW hin dX5_row_53 (fun x24 ex24 => ?_)
              have h := nm_use ex24 h
              refine lv_iload_n hx hb dX5_row_54 rfl (lv_at hl 1 rfl) ?_
              refine lv_icmp_ne (tgt := 89) hx hb dX5_row_55 (by decide) (fun c25 => ?_) (fun c25 => ?_)
              · have h := h.2 c25
                obtain ⟨x26, ex26⟩ : ∃ z : Int32, z = y5_28 + 1 := ⟨_, rfl⟩
                have h := nm_use ex26 h
                refine lv_iinc (v := x26) (lv' := [(5, .int x26), (0, .ref (b 0)), (1, .int xp1), (2, .int xp2), (3, .int xp3), (4, .int y4_28)]) hx hb dX5_row_89 hl (k := 5) rfl (by rw [ex26]; rfl) (by decide) rfl (fun ls hl => ?_)
                refine lv_goto (tgt := 28) hx hb dX5_row_92 (by decide) ?_
                exact ih y4_28 x26 u_28 _ _ _ h hW (lv_sub hl [1, 2, 3, 4, 5, 0] rfl)
              · have h := h.1 c25
                refine lv_iload hx hb dX5_row_58 (lv_at hl 4 rfl) ?_
                refine lv_iload_n hx hb dX5_row_60 rfl (lv_at hl 2 rfl) ?_
                refine lv_icmp_ne (tgt := 86) hx hb dX5_row_61 (by decide) (fun c27 => ?_) (fun c27 => ?_)
                · have h := h.2 c27
                  obtain ⟨x28, ex28⟩ : ∃ z : Int32, z = y4_28 + 1 := ⟨_, rfl⟩
                  have h := nm_use ex28 h
                  refine lv_iinc (v := x28) (lv' := [(4, .int x28), (0, .ref (b 0)), (1, .int xp1), (2, .int xp2), (3, .int xp3), (5, .int y5_28)]) hx hb dX5_row_86 hl (k := 4) rfl (by rw [ex28]; rfl) (by decide) rfl (fun ls hl => ?_)
                  obtain ⟨x29, ex29⟩ : ∃ z : Int32, z = y5_28 + 1 := ⟨_, rfl⟩
                  have h := nm_use ex29 h
                  refine lv_iinc (v := x29) (lv' := [(5, .int x29), (4, .int x28), (0, .ref (b 0)), (1, .int xp1), (2, .int xp2), (3, .int xp3)]) hx hb dX5_row_89 hl (k := 5) rfl (by rw [ex29]; rfl) (by decide) rfl (fun ls hl => ?_)
                  refine lv_goto (tgt := 28) hx hb dX5_row_92 (by decide) ?_
                  exact ih x28 x29 u_28 _ _ _ h hW (lv_sub hl [2, 3, 4, 5, 1, 0] rfl)
                · have h := h.1 c27
                  refine lv_iload_n hx hb dX5_row_64 rfl (lv_at hl 3 rfl) ?_
                  refine lv_if_ne (tgt := 78) hx hb dX5_row_65 (by decide) (fun c30 => ?_) (fun c30 => ?_)
                  · have h := h.2 c30
                    refine lv_aload_n hx hb dX5_row_78 rfl (lv_at hl 0 rfl) ?_
                    refine yg_0_12 S hK hW kw_437 dX5_row_79 ?_
                    refine lv_iload hx hb dX5_row_82 (lv_at hl 5 rfl) ?_
                    obtain ⟨hin, h⟩ := h
                    refine yl_9 S hK hW hin dX5_row_84 (fun x31 ex31 => ?_)
                    have h := nm_use ex31 h
                    exact hret _ _ _ _ _ _ dX5_row_85 hW h
                  · have h := h.1 c30
                    refine lv_aload_n hx hb dX5_row_68 rfl (lv_at hl 0 rfl) ?_
                    refine yg_0_10 S hK hW kw_435 dX5_row_69 ?_
                    refine lv_iload hx hb dX5_row_72 (lv_at hl 5 rfl) ?_
                    obtain ⟨hin, h⟩ := h
                    refine yl_7 S hK hW hin dX5_row_74 (fun x32 ex32 => ?_)
                    have h := nm_use ex32 h
                    refine lv_goto (tgt := 85) hx hb dX5_row_75 (by decide) ?_
                    exact hret _ _ _ _ _ _ dX5_row_85 hW h
      obtain ⟨n_28, h⟩ := h
      refine loop_28 _ ?_ n_28 0 0 u4 _ _ _ h hW (lv_sub hl [2, 3, 4, 5, 1, 0] rfl)
      intro w4_28 w5_28 v_28 H locs ls h hW hl
      refine lv_iconst (v := (-1)) hx hb dX5_row_95 (by decide) ?_
      exact hret _ _ _ _ _ _ dX5_row_96 hW h
    · have h := h.1 c6
      refine lv_bipush (v := (-102)) hx hb dX5_row_19 (by decide) ?_
      exact hret _ _ _ _ _ _ dX5_row_21 hW h
  · have h := h.1 c3
    refine lv_bipush (v := (-101)) hx hb dX5_row_7 (by decide) ?_
    exact hret _ _ _ _ _ _ dX5_row_9 hW h
def w_X5_count (xp1 : Int32) (u : Mem) (post : Int32 → Mem → Prop) : Prop := (xp1 = 0 → (post (u 13 0) u)) ∧ (xp1 = 1 → (post (u 14 0) u)) ∧ (xp1 = 2 → (w_X5_rowsIn 0 u (fun x2 u1 => post x2 u1))) ∧ (xp1 = 3 → (w_X5_rowsIn 0 u (fun x4 u3 => nm ((u 15 0) - x4 : Int32) fun x5 => post x5 u3))) ∧ (xp1 = 4 → (post (u 16 0) u)) ∧ (xp1 = 5 → (nm ((u 13 0) + (1 : Int32) : Int32) fun x6 => w_X5_heightsBy 0 u (fun x8 u7 => nm (x6 - x8 : Int32) fun x9 => post x9 u7))) ∧ ((xp1.toInt < 0 ∨ 5 < xp1.toInt) → (post (-102) u))
abbrev rm_X5_count : Room := { frames := 1, cells := 0, slots := 0, locals := 23 }
theorem hd_X5_count : yX5_count.cls ≠ "java/lang/invoke/MethodHandle" ∧ yX5_count.cls ≠ "java/lang/invoke/VarHandle" ∧ (parseMethodDescriptor yX5_count.desc).map (fun d => d.parameters.length) = some 1 := by decide +kernel
set_option maxHeartbeats 4000000 in
set_option maxRecDepth 100000 in
theorem c_X5_count (l : Launch) (D : va_G) (cA : ClassId) (b : Nat → Nat) (u : Mem) (xp1 : Int32) (post : Int32 → Mem → Prop) (h : w_X5_count xp1 u post) : g_Mi l yX5_count (Cond.code yX5_count cX5_count 2 (some .int) :: tT) rm_X5_count D cA (Yw cA b) u [.ref (b 0), .int xp1] post := by
  refine g_enter_i (by decide) (Yw_adr cA b) (Nat.le_of_ble_eq_true rfl) ?_
  intro p e s m args below meth c A Q S hml hK hA hret ls hl hW
  have hx := S.1
  have hb := S.2.1
  have hl : lv_has ls 2 [(0, .ref (b 0)), (1, .int xp1)] := hl
  skip
  refine lv_iload_n hx hb dX5_count_0 rfl (lv_at hl 1 rfl) ?_
  rcases g_sw6 xp1 with hs | hs | hs | hs | hs | hs | hs
  · have h := h.1 hs
    refine lv_tableIn (tgt := 40) hx hb dX5_count_1 (by rw [hs]; decide) (by rw [hs]; decide) (by rw [hs]; rfl) (by decide) ?_
    refine lv_aload_n hx hb dX5_count_40 rfl (lv_at hl 0 rfl) ?_
    refine yg_0_0 S hK hW kw_425 dX5_count_41 ?_
    exact hret _ _ _ _ _ _ dX5_count_44 hW h
  · have h := h.2.1 hs
    refine lv_tableIn (tgt := 45) hx hb dX5_count_1 (by rw [hs]; decide) (by rw [hs]; decide) (by rw [hs]; rfl) (by decide) ?_
    refine lv_aload_n hx hb dX5_count_45 rfl (lv_at hl 0 rfl) ?_
    refine yg_0_4 S hK hW kw_429 dX5_count_46 ?_
    exact hret _ _ _ _ _ _ dX5_count_49 hW h
  · have h := h.2.2.1 hs
    refine lv_tableIn (tgt := 50) hx hb dX5_count_1 (by rw [hs]; decide) (by rw [hs]; decide) (by rw [hs]; rfl) (by decide) ?_
    refine lv_aload_n hx hb dX5_count_50 rfl (lv_at hl 0 rfl) ?_
    refine lv_iconst (v := 0) hx hb dX5_count_51 (by decide) ?_
    refine g_cali (g_runV S hml hK hW (c_X5_rowsIn l D cA b u 0 _ h _) kw_580 kw_582 kw_15 kw_25 kw_583 hd_X5_rowsIn ⟨rfl, rfl, Nat.le_of_ble_eq_true rfl, Nat.le_of_ble_eq_true rfl⟩ (q0 := 0) rfl rfl (As := [.int 0]) (rest := []) rfl rfl hl.1 (Nat.le_of_ble_eq_true rfl) dX5_count_52 ⟨Nat.zero_le _, Nat.zero_le _⟩) (Yw_adr cA b) hA hW (fun x2 u1 H locs h hW => ?_)
    exact hret _ _ _ _ _ _ dX5_count_55 hW h
  · have h := h.2.2.2.1 hs
    refine lv_tableIn (tgt := 56) hx hb dX5_count_1 (by rw [hs]; decide) (by rw [hs]; decide) (by rw [hs]; rfl) (by decide) ?_
    refine lv_aload_n hx hb dX5_count_56 rfl (lv_at hl 0 rfl) ?_
    refine yg_0_8 S hK hW kw_433 dX5_count_57 ?_
    refine lv_aload_n hx hb dX5_count_60 rfl (lv_at hl 0 rfl) ?_
    refine lv_iconst (v := 0) hx hb dX5_count_61 (by decide) ?_
    refine g_cali (g_runV S hml hK hW (c_X5_rowsIn l D cA b u 0 _ h _) kw_580 kw_582 kw_15 kw_25 kw_583 hd_X5_rowsIn ⟨rfl, rfl, Nat.le_of_ble_eq_true rfl, Nat.le_of_ble_eq_true rfl⟩ (q0 := 0) rfl rfl (As := [.int 0]) (rest := [.int (u 15 0)]) rfl rfl hl.1 (Nat.le_of_ble_eq_true rfl) dX5_count_62 ⟨Nat.zero_le _, Nat.zero_le _⟩) (Yw_adr cA b) hA hW (fun x4 u3 H locs h hW => ?_)
    refine lv_isub hx hb dX5_count_65 ?_
    refine lv_topi (fun x5 ex5 => ?_)
    have h := nm_use ex5 h
    exact hret _ _ _ _ _ _ dX5_count_66 hW h
  · have h := h.2.2.2.2.1 hs
    refine lv_tableIn (tgt := 67) hx hb dX5_count_1 (by rw [hs]; decide) (by rw [hs]; decide) (by rw [hs]; rfl) (by decide) ?_
    refine lv_aload_n hx hb dX5_count_67 rfl (lv_at hl 0 rfl) ?_
    refine yg_0_14 S hK hW kw_439 dX5_count_68 ?_
    exact hret _ _ _ _ _ _ dX5_count_71 hW h
  · have h := h.2.2.2.2.2.1 hs
    refine lv_tableIn (tgt := 72) hx hb dX5_count_1 (by rw [hs]; decide) (by rw [hs]; decide) (by rw [hs]; rfl) (by decide) ?_
    refine lv_aload_n hx hb dX5_count_72 rfl (lv_at hl 0 rfl) ?_
    refine yg_0_0 S hK hW kw_425 dX5_count_73 ?_
    refine lv_iconst (v := 1) hx hb dX5_count_76 (by decide) ?_
    refine lv_iadd hx hb dX5_count_77 ?_
    refine lv_topi (fun x6 ex6 => ?_)
    have h := nm_use ex6 h
    refine lv_aload_n hx hb dX5_count_78 rfl (lv_at hl 0 rfl) ?_
    refine lv_iconst (v := 0) hx hb dX5_count_79 (by decide) ?_
    refine g_cali (g_runV S hml hK hW (c_X5_heightsBy l D cA b u 0 _ h _) kw_584 kw_586 kw_16 kw_25 kw_587 hd_X5_heightsBy ⟨rfl, rfl, Nat.le_of_ble_eq_true rfl, Nat.le_of_ble_eq_true rfl⟩ (q0 := 0) rfl rfl (As := [.int 0]) (rest := [.int x6]) rfl rfl hl.1 (Nat.le_of_ble_eq_true rfl) dX5_count_80 ⟨Nat.zero_le _, Nat.zero_le _⟩) (Yw_adr cA b) hA hW (fun x8 u7 H locs h hW => ?_)
    refine lv_isub hx hb dX5_count_83 ?_
    refine lv_topi (fun x9 ex9 => ?_)
    have h := nm_use ex9 h
    exact hret _ _ _ _ _ _ dX5_count_84 hW h
  · have h := h.2.2.2.2.2.2 hs
    refine lv_tableOut (tgt := 85) hx hb dX5_count_1 hs (by decide) ?_
    refine lv_bipush (v := (-102)) hx hb dX5_count_85 (by decide) ?_
    exact hret _ _ _ _ _ _ dX5_count_87 hW h
def L_X5_begin_27  (post : Mem → Prop) (K : Int32 → Mem → Prop) : Nat → Int32 → Mem → Prop
  | 0, _, _ => False
  | n_27 + 1, y1_27, u_27 => (32 ≤ y1_27 → (K y1_27 u_27)) ∧ (¬ 32 ≤ y1_27 → (vp_in y1_27 6432 ∧ nm (g_ms u_27 0 (y1_27 : Int32).toNatClampNeg 0) fun u7 => nm (y1_27 + 1) fun x8 => L_X5_begin_27  post K n_27 x8 u7))
def L_X5_begin_55  (post : Mem → Prop) (K : Int32 → Mem → Prop) : Nat → Int32 → Mem → Prop
  | 0, _, _ => False
  | n_55 + 1, y1_55, u_55 => (5 ≤ y1_55 → (K y1_55 u_55)) ∧ (¬ 5 ≤ y1_55 → (vp_in y1_55 5 ∧ nm (g_ms u_55 11 (y1_55 : Int32).toNatClampNeg 0) fun u11 => nm (y1_55 + 1) fun x12 => L_X5_begin_55  post K n_55 x12 u11))
def w_X5_begin  (u : Mem) (post : Mem → Prop) : Prop := nm (g_ms u 13 0 0) fun u1 => nm (g_ms u1 14 0 0) fun u2 => nm (g_ms u2 15 0 0) fun u3 => nm (g_ms u3 16 0 0) fun u4 => nm (g_ms u4 17 0 0) fun u5 => ∃ n_27, L_X5_begin_27  post (fun w1_27 v_27 => vp_in 0 201 ∧ nm (g_ms v_27 2 (0 : Int32).toNatClampNeg 0) fun u9 => ∃ n_55, L_X5_begin_55  post (fun w1_55 v_55 => w_X5_digestOf 0 v_55 (fun x14 u13 => vp_in 0 201 ∧ nm (g_ms u13 1 (0 : Int32).toNatClampNeg x14) fun u15 => post u15)) n_55 0 u9) n_27 0 u5
abbrev rm_X5_begin : Room := { frames := 2, cells := 0, slots := 0, locals := 44 }
theorem hd_X5_begin : yX5_begin.cls ≠ "java/lang/invoke/MethodHandle" ∧ yX5_begin.cls ≠ "java/lang/invoke/VarHandle" ∧ (parseMethodDescriptor yX5_begin.desc).map (fun d => d.parameters.length) = some 0 := by decide +kernel
set_option maxHeartbeats 4000000 in
set_option maxRecDepth 100000 in
theorem c_X5_begin (l : Launch) (D : va_G) (cA : ClassId) (b : Nat → Nat) (u : Mem) (post : Mem → Prop) (h : w_X5_begin  u post) : g_Mv l yX5_begin (Cond.code yX5_begin cX5_begin 2 none :: tT) rm_X5_begin D cA (Yw cA b) u [.ref (b 0)] post := by
  refine g_enter_v (by decide) (Yw_adr cA b) (Nat.le_of_ble_eq_true rfl) ?_
  intro p e s m args below meth c A Q S hml hK hA hret ls hl hW
  have hx := S.1
  have hb := S.2.1
  have hl : lv_has ls 2 [(0, .ref (b 0))] := hl
  skip
  refine lv_aload_n hx hb dX5_begin_0 rfl (lv_at hl 0 rfl) ?_
  refine lv_iconst (v := 0) hx hb dX5_begin_1 (by decide) ?_
  refine yp_13 S hK hW kw_425 dX5_begin_2 (fun u1 H locs eu1 hW => ?_)
  have h := nm_use eu1 h
  refine lv_aload_n hx hb dX5_begin_5 rfl (lv_at hl 0 rfl) ?_
  refine lv_iconst (v := 0) hx hb dX5_begin_6 (by decide) ?_
  refine yp_14 S hK hW kw_429 dX5_begin_7 (fun u2 H locs eu2 hW => ?_)
  have h := nm_use eu2 h
  refine lv_aload_n hx hb dX5_begin_10 rfl (lv_at hl 0 rfl) ?_
  refine lv_iconst (v := 0) hx hb dX5_begin_11 (by decide) ?_
  refine yp_15 S hK hW kw_433 dX5_begin_12 (fun u3 H locs eu3 hW => ?_)
  have h := nm_use eu3 h
  refine lv_aload_n hx hb dX5_begin_15 rfl (lv_at hl 0 rfl) ?_
  refine lv_iconst (v := 0) hx hb dX5_begin_16 (by decide) ?_
  refine yp_16 S hK hW kw_439 dX5_begin_17 (fun u4 H locs eu4 hW => ?_)
  have h := nm_use eu4 h
  refine lv_aload_n hx hb dX5_begin_20 rfl (lv_at hl 0 rfl) ?_
  refine lv_iconst (v := 0) hx hb dX5_begin_21 (by decide) ?_
  refine yp_17 S hK hW kw_440 dX5_begin_22 (fun u5 H locs eu5 hW => ?_)
  have h := nm_use eu5 h
  refine lv_iconst (v := 0) hx hb dX5_begin_25 (by decide) ?_
  refine lv_istore_n (lv' := [(1, .int 0), (0, .ref (b 0))]) hx hb dX5_begin_26 rfl hl (by decide) rfl (fun ls hl => ?_)
  have loop_27 : ∀ (K : Int32 → Mem → Prop), (∀ (w1_27 : Int32) (v_27 : Mem) (H : Heap) (locs : List Loc) (ls : Array Slot), K w1_27 v_27 → g_W D (Yw cA b) A s.heap v_27 H locs → lv_has ls 2 [(0, .ref (b 0)), (1, .int w1_27)] → W p l e rm_X5_begin s m args below meth c H locs 0 0 Q (F0 m 46 ls [])) → ∀ (n : Nat) (y1_27 : Int32) (u_27 : Mem) (H : Heap) (locs : List Loc) (ls : Array Slot), L_X5_begin_27  post K n y1_27 u_27 → g_W D (Yw cA b) A s.heap u_27 H locs → lv_has ls 2 [(0, .ref (b 0)), (1, .int y1_27)] → W p l e rm_X5_begin s m args below meth c H locs 0 0 Q (F0 m 27 ls []) := by
    intro K hE n
    induction n with
    | zero => intro y1_27 u_27 H locs ls h; exact False.elim h
    | succ n ih =>
      intro y1_27 u_27 H locs ls h hW hl
      refine lv_iload_n hx hb dX5_begin_27 rfl (lv_at hl 1 rfl) ?_
      refine lv_bipush (v := 32) hx hb dX5_begin_28 (by decide) ?_
      refine lv_icmp_ge (tgt := 46) hx hb dX5_begin_30 (by decide) (fun c19 => ?_) (fun c19 => ?_)
      · have h := h.1 c19
        exact hE y1_27 u_27 _ _ _ h hW (lv_sub hl [0, 1] rfl)
      · have h := h.2 c19
        refine lv_aload_n hx hb dX5_begin_33 rfl (lv_at hl 0 rfl) ?_
        refine yg_0_1 S hK hW kw_426 dX5_begin_34 ?_
        refine lv_iload_n hx hb dX5_begin_37 rfl (lv_at hl 1 rfl) ?_
        refine lv_iconst (v := 0) hx hb dX5_begin_38 (by decide) ?_
        obtain ⟨hin, h⟩ := h
        refine ys_0 S hK hW hin dX5_begin_39 (fun u20 H locs eu20 hW => ?_)
        have h := nm_use eu20 h
        obtain ⟨x21, ex21⟩ : ∃ z : Int32, z = y1_27 + 1 := ⟨_, rfl⟩
        have h := nm_use ex21 h
        refine lv_iinc (v := x21) (lv' := [(1, .int x21), (0, .ref (b 0))]) hx hb dX5_begin_40 hl (k := 1) rfl (by rw [ex21]; rfl) (by decide) rfl (fun ls hl => ?_)
        refine lv_goto (tgt := 27) hx hb dX5_begin_43 (by decide) ?_
        exact ih x21 u20 _ _ _ h hW (lv_sub hl [1, 0] rfl)
  obtain ⟨n_27, h⟩ := h
  refine loop_27 _ ?_ n_27 0 u5 _ _ _ h hW (lv_sub hl [1, 0] rfl)
  intro w1_27 v_27 H locs ls h hW hl
  refine lv_aload_n hx hb dX5_begin_46 rfl (lv_at hl 0 rfl) ?_
  refine yg_0_3 S hK hW kw_428 dX5_begin_47 ?_
  refine lv_iconst (v := 0) hx hb dX5_begin_50 (by decide) ?_
  refine lv_iconst (v := 0) hx hb dX5_begin_51 (by decide) ?_
  obtain ⟨hin, h⟩ := h
  refine ys_2 S hK hW hin dX5_begin_52 (fun u9 H locs eu9 hW => ?_)
  have h := nm_use eu9 h
  refine lv_iconst (v := 0) hx hb dX5_begin_53 (by decide) ?_
  refine lv_istore_n (lv' := [(1, .int 0), (0, .ref (b 0))]) hx hb dX5_begin_54 rfl hl (by decide) rfl (fun ls hl => ?_)
  have loop_55 : ∀ (K : Int32 → Mem → Prop), (∀ (w1_55 : Int32) (v_55 : Mem) (H : Heap) (locs : List Loc) (ls : Array Slot), K w1_55 v_55 → g_W D (Yw cA b) A s.heap v_55 H locs → lv_has ls 2 [(0, .ref (b 0)), (1, .int w1_55)] → W p l e rm_X5_begin s m args below meth c H locs 0 0 Q (F0 m 73 ls [])) → ∀ (n : Nat) (y1_55 : Int32) (u_55 : Mem) (H : Heap) (locs : List Loc) (ls : Array Slot), L_X5_begin_55  post K n y1_55 u_55 → g_W D (Yw cA b) A s.heap u_55 H locs → lv_has ls 2 [(0, .ref (b 0)), (1, .int y1_55)] → W p l e rm_X5_begin s m args below meth c H locs 0 0 Q (F0 m 55 ls []) := by
    intro K hE n
    induction n with
    | zero => intro y1_55 u_55 H locs ls h; exact False.elim h
    | succ n ih =>
      intro y1_55 u_55 H locs ls h hW hl
      refine lv_iload_n hx hb dX5_begin_55 rfl (lv_at hl 1 rfl) ?_
      refine lv_iconst (v := 5) hx hb dX5_begin_56 (by decide) ?_
      refine lv_icmp_ge (tgt := 73) hx hb dX5_begin_57 (by decide) (fun c16 => ?_) (fun c16 => ?_)
      · have h := h.1 c16
        exact hE y1_55 u_55 _ _ _ h hW (lv_sub hl [0, 1] rfl)
      · have h := h.2 c16
        refine lv_aload_n hx hb dX5_begin_60 rfl (lv_at hl 0 rfl) ?_
        refine yg_0_16 S hK hW kw_441 dX5_begin_61 ?_
        refine lv_iload_n hx hb dX5_begin_64 rfl (lv_at hl 1 rfl) ?_
        refine lv_iconst (v := 0) hx hb dX5_begin_65 (by decide) ?_
        obtain ⟨hin, h⟩ := h
        refine ys_11 S hK hW hin dX5_begin_66 (fun u17 H locs eu17 hW => ?_)
        have h := nm_use eu17 h
        obtain ⟨x18, ex18⟩ : ∃ z : Int32, z = y1_55 + 1 := ⟨_, rfl⟩
        have h := nm_use ex18 h
        refine lv_iinc (v := x18) (lv' := [(1, .int x18), (0, .ref (b 0))]) hx hb dX5_begin_67 hl (k := 1) rfl (by rw [ex18]; rfl) (by decide) rfl (fun ls hl => ?_)
        refine lv_goto (tgt := 55) hx hb dX5_begin_70 (by decide) ?_
        exact ih x18 u17 _ _ _ h hW (lv_sub hl [1, 0] rfl)
  obtain ⟨n_55, h⟩ := h
  refine loop_55 _ ?_ n_55 0 u9 _ _ _ h hW (lv_sub hl [1, 0] rfl)
  intro w1_55 v_55 H locs ls h hW hl
  refine lv_aload_n hx hb dX5_begin_73 rfl (lv_at hl 0 rfl) ?_
  refine yg_0_2 S hK hW kw_427 dX5_begin_74 ?_
  refine lv_iconst (v := 0) hx hb dX5_begin_77 (by decide) ?_
  refine lv_aload_n hx hb dX5_begin_78 rfl (lv_at hl 0 rfl) ?_
  refine lv_iconst (v := 0) hx hb dX5_begin_79 (by decide) ?_
  refine g_cali (g_runV S hml hK hW (c_X5_digestOf l D cA b v_55 0 _ h _) kw_414 kw_416 kw_7 kw_25 kw_417 hd_X5_digestOf ⟨rfl, rfl, Nat.le_of_ble_eq_true rfl, Nat.le_of_ble_eq_true rfl⟩ (q0 := 0) rfl rfl (As := [.int 0]) (rest := [.int 0, .ref (b 2)]) rfl rfl hl.1 (Nat.le_of_ble_eq_true rfl) dX5_begin_80 ⟨Nat.zero_le _, Nat.zero_le _⟩) (Yw_adr cA b) hA hW (fun x14 u13 H locs h hW => ?_)
  obtain ⟨hin, h⟩ := h
  refine ys_1 S hK hW hin dX5_begin_83 (fun u15 H locs eu15 hW => ?_)
  have h := nm_use eu15 h
  exact hret _ _ _ _ _ dX5_begin_84 hW h
def w_X5_clear  (u : Mem) (post : Int32 → Mem → Prop) : Prop := w_X5_begin  u (fun u1 => post (u 13 0) u1)
abbrev rm_X5_clear : Room := { frames := 3, cells := 0, slots := 0, locals := 65 }
theorem hd_X5_clear : yX5_clear.cls ≠ "java/lang/invoke/MethodHandle" ∧ yX5_clear.cls ≠ "java/lang/invoke/VarHandle" ∧ (parseMethodDescriptor yX5_clear.desc).map (fun d => d.parameters.length) = some 0 := by decide +kernel
set_option maxHeartbeats 4000000 in
set_option maxRecDepth 100000 in
theorem c_X5_clear (l : Launch) (D : va_G) (cA : ClassId) (b : Nat → Nat) (u : Mem) (post : Int32 → Mem → Prop) (h : w_X5_clear  u post) : g_Mi l yX5_clear (Cond.code yX5_clear cX5_clear 2 (some .int) :: tT) rm_X5_clear D cA (Yw cA b) u [.ref (b 0)] post := by
  refine g_enter_i (by decide) (Yw_adr cA b) (Nat.le_of_ble_eq_true rfl) ?_
  intro p e s m args below meth c A Q S hml hK hA hret ls hl hW
  have hx := S.1
  have hb := S.2.1
  have hl : lv_has ls 2 [(0, .ref (b 0))] := hl
  skip
  refine lv_aload_n hx hb dX5_clear_0 rfl (lv_at hl 0 rfl) ?_
  refine yg_0_0 S hK hW kw_425 dX5_clear_1 ?_
  refine lv_istore_n (lv' := [(1, .int (u 13 0)), (0, .ref (b 0))]) hx hb dX5_clear_4 rfl hl (by decide) rfl (fun ls hl => ?_)
  refine lv_aload_n hx hb dX5_clear_5 rfl (lv_at hl 1 rfl) ?_
  refine g_calv (g_runV S hml hK hW (c_X5_begin l D cA b u  _ h _) kw_410 kw_412 kw_6 kw_25 kw_413 hd_X5_begin ⟨rfl, rfl, Nat.le_of_ble_eq_true rfl, Nat.le_of_ble_eq_true rfl⟩ (q0 := 0) rfl rfl (As := []) (rest := []) rfl rfl hl.1 (Nat.le_of_ble_eq_true rfl) dX5_clear_6 ⟨Nat.zero_le _, Nat.zero_le _⟩) (Yw_adr cA b) hA hW (fun u1 H locs h hW => ?_)
  refine lv_iload_n hx hb dX5_clear_9 rfl (lv_at hl 0 rfl) ?_
  exact hret _ _ _ _ _ _ dX5_clear_10 hW h
