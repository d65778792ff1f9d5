/-! making objects -/
theorem i_arr {args : Array Value} {s : State} (h : (Cond.arrayClass .int).before args s = true) : ∃ cA : ClassId, ArrOfT s cA .int ∧ va_RA s cA .int := by
  obtain ⟨cA, kA, comp, h1, h2, h3⟩ := Cond.arrayClass_spec h
  exact ⟨cA, fun n z => ⟨fun k h => (by cases h), kA, h2, comp, h3⟩, h1⟩
def i_Pc (D : va_G) (cA : ClassId) (h0 : Nat) (e0 : va_E) (Z : State → Prop) (sz : Nat) (U : State) : Prop := U.heap.size = sz ∧ va_P D classes [(h0, e0)] U.heap ∧ va_K D classes [(cA, .int)] U ∧ Z U
section IN
variable {p : Program} {l : Launch} {e : Env} {R : Room} {s : State} {m : MethodId} {args : Array Value} {below : List Frame} {meth : Method} {c : Code} {H : Heap} {locs : List Loc} {cells slots : Nat} {Q : State → Prop}
variable {cc : ByteArray} {pc : Nat} {ls : Array Slot} {rest : List Value} {D : va_G} {cA : ClassId} {A : Nat → Prop} {a : Nat} {own : String} {ws : va_W}
theorem i_newa (S : g_S p m c cc s args own) (kA : Cond.arrayClass .int ∈ tT) (hK : va_K D classes [(cA, .int)] s) (hP : va_P D classes ws H) (hD : va_D A ws) (hS : va_S A s.heap H locs) (hA : ∀ q, s.heap.size ≤ q → A q) {n : Int32} (N' : Nat) (hn : ¬ n < 0) (hN : n.toNatClampNeg = N') (hN2 : N' ≤ 100000) (hcells : cells + 1 ≤ R.cells) (hslots : slots + N' ≤ R.slots) (hdg : decode cc pc = .ok (.newarray .int, 2))
    (kk : ∀ (q : Nat) (H1 : Heap), va_P D classes (ws ++ [(q, .inl (cA, N', .inl (fun _ => 0)))]) H1 → va_D A (ws ++ [(q, .inl (cA, N', .inl (fun _ => 0)))]) → va_S A s.heap H1 locs → W p l e R s m args below meth c H1 locs (cells + 1) (slots + N') Q (F0 m (pc + 2) ls (.ref q :: rest))) : W p l e R s m args below meth c H locs cells slots Q (F0 m pc ls (.int n :: rest)) := by
  refine va_newa (atype := .int) S.1 S.2.1 (S.2.2.2 _ kA) (ty := .int) rfl hK hP hD hS hA (a0 := (N', .inl (fun _ => 0))) (fun _ => rfl) hn hN (by show N' * 4 ≤ 536870912; omega) hcells hslots hdg (fun q cB H1 hK1 hP1 hD1 hS1 => ?_)
  have e1 := va_nm_int (hK.2 0 (cA, .int) rfl).2
  have e2 := va_nm_int (hK1.2 1 (cB, .int) rfl).2
  have e3 : cB = cA := Option.some.inj (e2.symm.trans e1)
  rw [e3] at hP1 hD1
  exact kk q H1 hP1 hD1 hS1
theorem i_putF (S : g_S p m c cc s args own) (hnm2 : meth.name = "<init>") (hK : va_K D classes [(cA, .int)] s) (hP : va_P D classes ws H) (hD : va_D A ws) (hS : va_S A s.heap H locs) {ci : Nat} {C : String} {T : u_T} {N : Nat} (hin : ∀ w ∈ u_ws C T N, w ∈ tT) (ty0 : Nat → FieldType) (hty : ∀ k, k < N → parseFieldDescriptor (T k).2.2.1 = some (ty0 k)) (hnm : ∀ a, a < N → ∀ b, b < N → a ≠ b → (T a).2.1 ≠ (T b).2.1) (q0 : Nat) {fs : List Value} (he : ws[q0]? = some (a, .inr (ci, fs))) (hc : classes[ci]? = some (C, T, N)) (k : Nat) (hk : k < N) {idx : Nat} (kL : Cond.fieldLink own idx (T k).1 (T k).2.1 (T k).2.2.1 ∈ tT) (hfin : (T k).2.2.2 = true) (hdecl : (T k).1 = own) {ty : FieldType} {v : Value} (hd : parseFieldDescriptor (T k).2.2.1 = some ty) (hn : narrow ty v = v) (hfit : fits ty v = true) (hl : k < fs.length) (hdg : decode cc pc = .ok (.putfield idx, 3))
    (kk : ∀ (H1 : Heap) (locs1 : List Loc), va_P D classes (ws.set q0 (a, .inr (ci, fs.set k v))) H1 → va_D A (ws.set q0 (a, .inr (ci, fs.set k v))) → va_S A s.heap H1 locs1 → W p l e R s m args below meth c H1 locs1 cells slots Q (F0 m (pc + 3) ls rest)) : W p l e R s m args below meth c H locs cells slots Q (F0 m pc ls (v :: .ref a :: rest)) :=
  va_putF S.1 S.2.1 S.2.2.2 hin ty0 hty hnm S.2.2.1 hK hP hD hS q0 he hc k hk (S.2.2.2 _ kL) (fun _ h => h) hfin hnm2 hdecl hd hn hfit hl hdg kk
def i_R (p : Program) (l : Launch) (e : Env) (R : Room) (s : State) (m : MethodId) (args : Array Value) (below : List Frame) (meth : Method) (c : Code) (cc : ByteArray) (A : Nat → Prop) (Q : State → Prop) {S : Type} (post : S → Prop) (B : S → State → Prop) (mc ms : Nat) : Prop :=
  ∀ (u : S) (H : Heap) (locs : List Loc) (pc : Nat) (ls : Array Slot), decode cc pc = .ok (.return_, 1) → va_S A s.heap H locs → post u → (∀ t : State, t.heap = H → B u t) → W p l e R s m args below meth c H locs mc ms Q (F0 m pc ls [])
theorem i_enter {y : MethodName} {maxL : Nat} {rm : Room} {h0 sz : Nat} {e0 : va_E} {Z : State → Prop} {S : Type} {post : S → Prop} {B : S → State → Prop} {mc ms : Nat} (hy : plainName y.cls = true) (hlen : 1 ≤ maxL) (hyn : y.name = "<init>")
    (body : ∀ (p : Program) (e : Env) (s : State) (m : MethodId) (args : Array Value) (below : List Frame) (meth : Method) (c : Code) (Q : State → Prop), g_S p m c cc s args y.cls → c.maxLocals = maxL → meth.name = "<init>" → va_K D classes [(cA, .int)] s → Z s → s.heap.size = sz → i_R p l e rm s m args below meth c cc (va_A [(h0, e0)] sz) Q post B mc ms → ∀ ls : Array Slot, lv_has ls maxL [(0, .ref h0)] → va_P D classes [(h0, e0)] s.heap → W p l e rm s m args below meth c s.heap [] 0 0 Q (F0 m 0 ls [])) :
    Met l y (Cond.code y cc maxL none :: tT) rm (va_Pc [.ref h0] (i_Pc D cA h0 e0 Z sz)) (va_Qv post B (va_A [(h0, e0)] sz)) mc ms (va_A [(h0, e0)] sz) := by
  refine Met.ofW (cc := cc) (maxL := maxL) (ret := none) hy rfl ?_
  intro p e s m args below meth c s₁ B0 hml hv
  obtain ⟨rfl, hsz, hP, hK, hZ⟩ := hv
  have hts := atoms_spec (ws := Cond.code y cc maxL none :: tT) B0.pre
  have hown : s.vm.findClass y.cls = some m.cls := findClass_of_methodNamed B0.named
  have hr := B0.returns
  have hlocks := B0.notSynchronized
  have hnm : meth.name = "<init>" := (name_of_methodNamed B0.named B0.method).1.trans hyn
  have hl := lv_entry ([.ref h0]) (n := maxL) hlen
  rw [lg_entry_eq]
  generalize (lg_sl ([.ref h0] : List Value) ++ List.replicate (maxL - (lg_sl ([.ref h0] : List Value)).length) Slot.unset).toArray = ls at hl ⊢
  have hx := B0.exec
  have hb := B0.bytes
  refine body p e s m _ below meth c _ ⟨hx, hb, hown, fun w h => hts w (List.mem_cons_of_mem _ h)⟩ hml hnm hK hZ hsz ?_ ls hl hP
  intro u H locs pc ls hdg hS hp hB
  exact W.vret hx hb hr (fun t ht _ => ⟨⟨u, rfl, hp, hB t ht⟩, hS.F ht⟩) hS.2.2 hdg
theorem i_obj (S : g_S p m c cc s args own) {nL : Nat} (hml : c.maxLocals = nL) (hl : ls.size = nL) {idx : Nat} (k1 : Cond.methodLink own idx objectInit ∈ tT) (k2 : Cond.instanceMethod objectInit ∈ tT) (k3 : Cond.code objectInit ⟨#[0xb1]⟩ 1 none ∈ tT) (hdg : decode cc pc = .ok (.invokespecial idx, 3)) (hf : 1 ≤ R.frames) (hlo : (rest.map fun v => v.category).sum + 12 ≤ R.locals)
    (kk : W p l e R s m args below meth c H locs cells slots Q (F0 m (pc + 3) ls rest)) : W p l e R s m args below meth c H locs cells slots Q (F0 m pc ls (.ref a :: rest)) :=
  W.objInit S.1 S.2.1 S.2.2.1 (S.2.2.2 _ k1) (S.2.2.2 _ k2) (S.2.2.2 _ k3) rfl (by rw [hml]; exact hl) rfl hdg hf (by show 2 * 0 + _ + 12 ≤ _; omega) kk
theorem i_dself {h0 sz : Nat} {e0 : va_E} : va_D (va_A [(h0, e0)] sz) [(h0, e0)] := by
  refine ⟨fun i j x y hi hj _ => ?_, fun k q h => va_A.in h⟩
  have h1 := (List.getElem?_eq_some_iff.mp hi).1
  have h2 := (List.getElem?_eq_some_iff.mp hj).1
  simp at h1 h2
  omega
end IN

abbrev rm_X0_init : Room := { frames := 1, cells := 3, slots := 96, locals := 12 }
set_option maxHeartbeats 4000000 in
set_option maxRecDepth 100000 in
theorem c_X0_init (l : Launch) (D : va_G) (cA : ClassId) (h0 sz : Nat) : Met l yX0_init (Cond.code yX0_init cX0_init 1 none :: tT) rm_X0_init (va_Pc [.ref h0] (i_Pc D cA h0 (.inr (0, [.null, .null, .null, .int 0, .int 0])) (fun _ => True) sz)) (va_Qv (fun _ : Unit => True) (fun (_ : Unit) (t : State) => ∃ (q1 q2 q3 : Nat), va_P D classes [(h0, .inr (0, [.ref q1, .ref q2, .ref q3, .int 0, .int 0])), (q1, .inl (cA, 32, .inl (fun _ => 0))), (q2, .inl (cA, 32, .inl (fun _ => 0))), (q3, .inl (cA, 32, .inl (fun _ => 0)))] t.heap ∧ va_D (va_A [(h0, .inr (0, [.null, .null, .null, .int 0, .int 0]))] sz) [(h0, .inr (0, [.ref q1, .ref q2, .ref q3, .int 0, .int 0])), (q1, .inl (cA, 32, .inl (fun _ => 0))), (q2, .inl (cA, 32, .inl (fun _ => 0))), (q3, .inl (cA, 32, .inl (fun _ => 0)))]) (va_A [(h0, .inr (0, [.null, .null, .null, .int 0, .int 0]))] sz)) 3 96 (va_A [(h0, .inr (0, [.null, .null, .null, .int 0, .int 0]))] sz) := by
  refine i_enter (by decide) (by decide) rfl ?_
  intro p e s m args below meth c Q S hml hnm2 hK _ hsz hret ls hl hP
  have hx := S.1
  have hb := S.2.1
  have hD : va_D (va_A [(h0, .inr (0, [.null, .null, .null, .int 0, .int 0]))] sz) [(h0, .inr (0, [.null, .null, .null, .int 0, .int 0]))] := i_dself
  generalize hAe : va_A [(h0, .inr (0, [.null, .null, .null, .int 0, .int 0]))] sz = A at hD hret
  have hA : ∀ q : Nat, s.heap.size ≤ q → A q := fun q h => by rw [← hAe]; exact Or.inr (by omega)
  have hS : va_S A s.heap s.heap [] := va_S.rf
  refine lv_aload_n hx hb dX0_init_0 rfl (lv_at hl 0 rfl) ?_
  refine i_obj S hml hl.1 kw_91 kw_32 kw_33 dX0_init_1 (Nat.le_of_ble_eq_true rfl) (Nat.le_of_ble_eq_true rfl) ?_
  refine lv_aload_n hx hb dX0_init_4 rfl (lv_at hl 0 rfl) ?_
  refine lv_bipush (v := 32) hx hb dX0_init_5 (by decide) ?_
  refine i_newa S kw_66 hK hP hD hS hA 32 (by decide) (by decide) (by decide) (Nat.le_of_ble_eq_true rfl) (Nat.le_of_ble_eq_true rfl) dX0_init_7 (fun q1 H hP hD hS => ?_)
  have hP : va_P D classes [(h0, .inr (0, [.null, .null, .null, .int 0, .int 0])), (q1, .inl (cA, 32, .inl (fun _ => 0)))] H := hP
  have hD : va_D A [(h0, .inr (0, [.null, .null, .null, .int 0, .int 0])), (q1, .inl (cA, 32, .inl (fun _ => 0)))] := hD
  refine i_putF S hnm2 hK hP hD hS iX0 tyX0 tyX0_ok nmX0 0 rfl rfl 0 (by decide) kw_92 rfl rfl (ty := .array .int) (by decide +kernel) rfl rfl (Nat.le_of_ble_eq_true rfl) dX0_init_9 (fun H locs hP hD hS => ?_)
  have hP : va_P D classes [(h0, .inr (0, [.ref q1, .null, .null, .int 0, .int 0])), (q1, .inl (cA, 32, .inl (fun _ => 0)))] H := hP
  have hD : va_D A [(h0, .inr (0, [.ref q1, .null, .null, .int 0, .int 0])), (q1, .inl (cA, 32, .inl (fun _ => 0)))] := hD
  refine lv_aload_n hx hb dX0_init_12 rfl (lv_at hl 0 rfl) ?_
  refine lv_bipush (v := 32) hx hb dX0_init_13 (by decide) ?_
  refine i_newa S kw_66 hK hP hD hS hA 32 (by decide) (by decide) (by decide) (Nat.le_of_ble_eq_true rfl) (Nat.le_of_ble_eq_true rfl) dX0_init_15 (fun q2 H hP hD hS => ?_)
  have hP : va_P D classes [(h0, .inr (0, [.ref q1, .null, .null, .int 0, .int 0])), (q1, .inl (cA, 32, .inl (fun _ => 0))), (q2, .inl (cA, 32, .inl (fun _ => 0)))] H := hP
  have hD : va_D A [(h0, .inr (0, [.ref q1, .null, .null, .int 0, .int 0])), (q1, .inl (cA, 32, .inl (fun _ => 0))), (q2, .inl (cA, 32, .inl (fun _ => 0)))] := hD
  refine i_putF S hnm2 hK hP hD hS iX0 tyX0 tyX0_ok nmX0 0 rfl rfl 1 (by decide) kw_94 rfl rfl (ty := .array .int) (by decide +kernel) rfl rfl (Nat.le_of_ble_eq_true rfl) dX0_init_17 (fun H locs hP hD hS => ?_)
  have hP : va_P D classes [(h0, .inr (0, [.ref q1, .ref q2, .null, .int 0, .int 0])), (q1, .inl (cA, 32, .inl (fun _ => 0))), (q2, .inl (cA, 32, .inl (fun _ => 0)))] H := hP
  have hD : va_D A [(h0, .inr (0, [.ref q1, .ref q2, .null, .int 0, .int 0])), (q1, .inl (cA, 32, .inl (fun _ => 0))), (q2, .inl (cA, 32, .inl (fun _ => 0)))] := hD
  refine lv_aload_n hx hb dX0_init_20 rfl (lv_at hl 0 rfl) ?_
  refine lv_bipush (v := 32) hx hb dX0_init_21 (by decide) ?_
  refine i_newa S kw_66 hK hP hD hS hA 32 (by decide) (by decide) (by decide) (Nat.le_of_ble_eq_true rfl) (Nat.le_of_ble_eq_true rfl) dX0_init_23 (fun q3 H hP hD hS => ?_)
  have hP : va_P D classes [(h0, .inr (0, [.ref q1, .ref q2, .null, .int 0, .int 0])), (q1, .inl (cA, 32, .inl (fun _ => 0))), (q2, .inl (cA, 32, .inl (fun _ => 0))), (q3, .inl (cA, 32, .inl (fun _ => 0)))] H := hP
  have hD : va_D A [(h0, .inr (0, [.ref q1, .ref q2, .null, .int 0, .int 0])), (q1, .inl (cA, 32, .inl (fun _ => 0))), (q2, .inl (cA, 32, .inl (fun _ => 0))), (q3, .inl (cA, 32, .inl (fun _ => 0)))] := hD
  refine i_putF S hnm2 hK hP hD hS iX0 tyX0 tyX0_ok nmX0 0 rfl rfl 2 (by decide) kw_96 rfl rfl (ty := .array .int) (by decide +kernel) rfl rfl (Nat.le_of_ble_eq_true rfl) dX0_init_25 (fun H locs hP hD hS => ?_)
  have hP : va_P D classes [(h0, .inr (0, [.ref q1, .ref q2, .ref q3, .int 0, .int 0])), (q1, .inl (cA, 32, .inl (fun _ => 0))), (q2, .inl (cA, 32, .inl (fun _ => 0))), (q3, .inl (cA, 32, .inl (fun _ => 0)))] H := hP
  have hD : va_D A [(h0, .inr (0, [.ref q1, .ref q2, .ref q3, .int 0, .int 0])), (q1, .inl (cA, 32, .inl (fun _ => 0))), (q2, .inl (cA, 32, .inl (fun _ => 0))), (q3, .inl (cA, 32, .inl (fun _ => 0)))] := hD
  exact hret () H locs 28 ls dX0_init_28 hS trivial (fun t ht => ⟨q1, q2, q3, by rw [ht]; exact hP, hD⟩)
abbrev rm_X1_init : Room := { frames := 1, cells := 2, slots := 402, locals := 12 }
set_option maxHeartbeats 4000000 in
set_option maxRecDepth 100000 in
theorem c_X1_init (l : Launch) (D : va_G) (cA : ClassId) (h0 sz : Nat) : Met l yX1_init (Cond.code yX1_init cX1_init 1 none :: tT) rm_X1_init (va_Pc [.ref h0] (i_Pc D cA h0 (.inr (1, [.null, .null, .int 0])) (fun _ => True) sz)) (va_Qv (fun _ : Unit => True) (fun (_ : Unit) (t : State) => ∃ (q1 q2 : Nat), va_P D classes [(h0, .inr (1, [.ref q1, .ref q2, .int 0])), (q1, .inl (cA, 201, .inl (fun _ => 0))), (q2, .inl (cA, 201, .inl (fun _ => 0)))] t.heap ∧ va_D (va_A [(h0, .inr (1, [.null, .null, .int 0]))] sz) [(h0, .inr (1, [.ref q1, .ref q2, .int 0])), (q1, .inl (cA, 201, .inl (fun _ => 0))), (q2, .inl (cA, 201, .inl (fun _ => 0)))]) (va_A [(h0, .inr (1, [.null, .null, .int 0]))] sz)) 2 402 (va_A [(h0, .inr (1, [.null, .null, .int 0]))] sz) := by
  refine i_enter (by decide) (by decide) rfl ?_
  intro p e s m args below meth c Q S hml hnm2 hK _ hsz hret ls hl hP
  have hx := S.1
  have hb := S.2.1
  have hD : va_D (va_A [(h0, .inr (1, [.null, .null, .int 0]))] sz) [(h0, .inr (1, [.null, .null, .int 0]))] := i_dself
  generalize hAe : va_A [(h0, .inr (1, [.null, .null, .int 0]))] sz = A at hD hret
  have hA : ∀ q : Nat, s.heap.size ≤ q → A q := fun q h => by rw [← hAe]; exact Or.inr (by omega)
  have hS : va_S A s.heap s.heap [] := va_S.rf
  refine lv_aload_n hx hb dX1_init_0 rfl (lv_at hl 0 rfl) ?_
  refine i_obj S hml hl.1 kw_72 kw_32 kw_33 dX1_init_1 (Nat.le_of_ble_eq_true rfl) (Nat.le_of_ble_eq_true rfl) ?_
  refine lv_aload_n hx hb dX1_init_4 rfl (lv_at hl 0 rfl) ?_
  refine lv_sipush (v := 201) hx hb dX1_init_5 (by decide) ?_
  refine i_newa S kw_66 hK hP hD hS hA 201 (by decide) (by decide) (by decide) (Nat.le_of_ble_eq_true rfl) (Nat.le_of_ble_eq_true rfl) dX1_init_8 (fun q1 H hP hD hS => ?_)
  have hP : va_P D classes [(h0, .inr (1, [.null, .null, .int 0])), (q1, .inl (cA, 201, .inl (fun _ => 0)))] H := hP
  have hD : va_D A [(h0, .inr (1, [.null, .null, .int 0])), (q1, .inl (cA, 201, .inl (fun _ => 0)))] := hD
  refine i_putF S hnm2 hK hP hD hS iX1 tyX1 tyX1_ok nmX1 0 rfl rfl 0 (by decide) kw_73 rfl rfl (ty := .array .int) (by decide +kernel) rfl rfl (Nat.le_of_ble_eq_true rfl) dX1_init_10 (fun H locs hP hD hS => ?_)
  have hP : va_P D classes [(h0, .inr (1, [.ref q1, .null, .int 0])), (q1, .inl (cA, 201, .inl (fun _ => 0)))] H := hP
  have hD : va_D A [(h0, .inr (1, [.ref q1, .null, .int 0])), (q1, .inl (cA, 201, .inl (fun _ => 0)))] := hD
  refine lv_aload_n hx hb dX1_init_13 rfl (lv_at hl 0 rfl) ?_
  refine lv_sipush (v := 201) hx hb dX1_init_14 (by decide) ?_
  refine i_newa S kw_66 hK hP hD hS hA 201 (by decide) (by decide) (by decide) (Nat.le_of_ble_eq_true rfl) (Nat.le_of_ble_eq_true rfl) dX1_init_17 (fun q2 H hP hD hS => ?_)
  have hP : va_P D classes [(h0, .inr (1, [.ref q1, .null, .int 0])), (q1, .inl (cA, 201, .inl (fun _ => 0))), (q2, .inl (cA, 201, .inl (fun _ => 0)))] H := hP
  have hD : va_D A [(h0, .inr (1, [.ref q1, .null, .int 0])), (q1, .inl (cA, 201, .inl (fun _ => 0))), (q2, .inl (cA, 201, .inl (fun _ => 0)))] := hD
  refine i_putF S hnm2 hK hP hD hS iX1 tyX1 tyX1_ok nmX1 0 rfl rfl 1 (by decide) kw_75 rfl rfl (ty := .array .int) (by decide +kernel) rfl rfl (Nat.le_of_ble_eq_true rfl) dX1_init_19 (fun H locs hP hD hS => ?_)
  have hP : va_P D classes [(h0, .inr (1, [.ref q1, .ref q2, .int 0])), (q1, .inl (cA, 201, .inl (fun _ => 0))), (q2, .inl (cA, 201, .inl (fun _ => 0)))] H := hP
  have hD : va_D A [(h0, .inr (1, [.ref q1, .ref q2, .int 0])), (q1, .inl (cA, 201, .inl (fun _ => 0))), (q2, .inl (cA, 201, .inl (fun _ => 0)))] := hD
  exact hret () H locs 22 ls dX1_init_22 hS trivial (fun t ht => ⟨q1, q2, by rw [ht]; exact hP, hD⟩)
abbrev rm_X2_init : Room := { frames := 1, cells := 6, slots := 2032, locals := 12 }
set_option maxHeartbeats 4000000 in
set_option maxRecDepth 100000 in
theorem c_X2_init (l : Launch) (D : va_G) (cA : ClassId) (h0 sz : Nat) : Met l yX2_init (Cond.code yX2_init cX2_init 1 none :: tT) rm_X2_init (va_Pc [.ref h0] (i_Pc D cA h0 (.inr (2, [.null, .null, .null, .null, .null, .null, .int 0])) (fun _ => True) sz)) (va_Qv (fun _ : Unit => True) (fun (_ : Unit) (t : State) => ∃ (q1 q2 q3 q4 q5 q6 : Nat), va_P D classes [(h0, .inr (2, [.ref q1, .ref q2, .ref q3, .ref q4, .ref q5, .ref q6, .int 0])), (q1, .inl (cA, 400, .inl (fun _ => 0))), (q2, .inl (cA, 400, .inl (fun _ => 0))), (q3, .inl (cA, 400, .inl (fun _ => 0))), (q4, .inl (cA, 400, .inl (fun _ => 0))), (q5, .inl (cA, 400, .inl (fun _ => 0))), (q6, .inl (cA, 32, .inl (fun _ => 0)))] t.heap ∧ va_D (va_A [(h0, .inr (2, [.null, .null, .null, .null, .null, .null, .int 0]))] sz) [(h0, .inr (2, [.ref q1, .ref q2, .ref q3, .ref q4, .ref q5, .ref q6, .int 0])), (q1, .inl (cA, 400, .inl (fun _ => 0))), (q2, .inl (cA, 400, .inl (fun _ => 0))), (q3, .inl (cA, 400, .inl (fun _ => 0))), (q4, .inl (cA, 400, .inl (fun _ => 0))), (q5, .inl (cA, 400, .inl (fun _ => 0))), (q6, .inl (cA, 32, .inl (fun _ => 0)))]) (va_A [(h0, .inr (2, [.null, .null, .null, .null, .null, .null, .int 0]))] sz)) 6 2032 (va_A [(h0, .inr (2, [.null, .null, .null, .null, .null, .null, .int 0]))] sz) := by
  refine i_enter (by decide) (by decide) rfl ?_
  intro p e s m args below meth c Q S hml hnm2 hK _ hsz hret ls hl hP
  have hx := S.1
  have hb := S.2.1
  have hD : va_D (va_A [(h0, .inr (2, [.null, .null, .null, .null, .null, .null, .int 0]))] sz) [(h0, .inr (2, [.null, .null, .null, .null, .null, .null, .int 0]))] := i_dself
  generalize hAe : va_A [(h0, .inr (2, [.null, .null, .null, .null, .null, .null, .int 0]))] sz = A at hD hret
  have hA : ∀ q : Nat, s.heap.size ≤ q → A q := fun q h => by rw [← hAe]; exact Or.inr (by omega)
  have hS : va_S A s.heap s.heap [] := va_S.rf
  refine lv_aload_n hx hb dX2_init_0 rfl (lv_at hl 0 rfl) ?_
  refine i_obj S hml hl.1 kw_39 kw_32 kw_33 dX2_init_1 (Nat.le_of_ble_eq_true rfl) (Nat.le_of_ble_eq_true rfl) ?_
  refine lv_aload_n hx hb dX2_init_4 rfl (lv_at hl 0 rfl) ?_
  refine lv_sipush (v := 400) hx hb dX2_init_5 (by decide) ?_
  refine i_newa S kw_66 hK hP hD hS hA 400 (by decide) (by decide) (by decide) (Nat.le_of_ble_eq_true rfl) (Nat.le_of_ble_eq_true rfl) dX2_init_8 (fun q1 H hP hD hS => ?_)
  have hP : va_P D classes [(h0, .inr (2, [.null, .null, .null, .null, .null, .null, .int 0])), (q1, .inl (cA, 400, .inl (fun _ => 0)))] H := hP
  have hD : va_D A [(h0, .inr (2, [.null, .null, .null, .null, .null, .null, .int 0])), (q1, .inl (cA, 400, .inl (fun _ => 0)))] := hD
  refine i_putF S hnm2 hK hP hD hS iX2 tyX2 tyX2_ok nmX2 0 rfl rfl 0 (by decide) kw_40 rfl rfl (ty := .array .int) (by decide +kernel) rfl rfl (Nat.le_of_ble_eq_true rfl) dX2_init_10 (fun H locs hP hD hS => ?_)
  have hP : va_P D classes [(h0, .inr (2, [.ref q1, .null, .null, .null, .null, .null, .int 0])), (q1, .inl (cA, 400, .inl (fun _ => 0)))] H := hP
  have hD : va_D A [(h0, .inr (2, [.ref q1, .null, .null, .null, .null, .null, .int 0])), (q1, .inl (cA, 400, .inl (fun _ => 0)))] := hD
  refine lv_aload_n hx hb dX2_init_13 rfl (lv_at hl 0 rfl) ?_
  refine lv_sipush (v := 400) hx hb dX2_init_14 (by decide) ?_
  refine i_newa S kw_66 hK hP hD hS hA 400 (by decide) (by decide) (by decide) (Nat.le_of_ble_eq_true rfl) (Nat.le_of_ble_eq_true rfl) dX2_init_17 (fun q2 H hP hD hS => ?_)
  have hP : va_P D classes [(h0, .inr (2, [.ref q1, .null, .null, .null, .null, .null, .int 0])), (q1, .inl (cA, 400, .inl (fun _ => 0))), (q2, .inl (cA, 400, .inl (fun _ => 0)))] H := hP
  have hD : va_D A [(h0, .inr (2, [.ref q1, .null, .null, .null, .null, .null, .int 0])), (q1, .inl (cA, 400, .inl (fun _ => 0))), (q2, .inl (cA, 400, .inl (fun _ => 0)))] := hD
  refine i_putF S hnm2 hK hP hD hS iX2 tyX2 tyX2_ok nmX2 0 rfl rfl 1 (by decide) kw_42 rfl rfl (ty := .array .int) (by decide +kernel) rfl rfl (Nat.le_of_ble_eq_true rfl) dX2_init_19 (fun H locs hP hD hS => ?_)
  have hP : va_P D classes [(h0, .inr (2, [.ref q1, .ref q2, .null, .null, .null, .null, .int 0])), (q1, .inl (cA, 400, .inl (fun _ => 0))), (q2, .inl (cA, 400, .inl (fun _ => 0)))] H := hP
  have hD : va_D A [(h0, .inr (2, [.ref q1, .ref q2, .null, .null, .null, .null, .int 0])), (q1, .inl (cA, 400, .inl (fun _ => 0))), (q2, .inl (cA, 400, .inl (fun _ => 0)))] := hD
  refine lv_aload_n hx hb dX2_init_22 rfl (lv_at hl 0 rfl) ?_
  refine lv_sipush (v := 400) hx hb dX2_init_23 (by decide) ?_
  refine i_newa S kw_66 hK hP hD hS hA 400 (by decide) (by decide) (by decide) (Nat.le_of_ble_eq_true rfl) (Nat.le_of_ble_eq_true rfl) dX2_init_26 (fun q3 H hP hD hS => ?_)
  have hP : va_P D classes [(h0, .inr (2, [.ref q1, .ref q2, .null, .null, .null, .null, .int 0])), (q1, .inl (cA, 400, .inl (fun _ => 0))), (q2, .inl (cA, 400, .inl (fun _ => 0))), (q3, .inl (cA, 400, .inl (fun _ => 0)))] H := hP
  have hD : va_D A [(h0, .inr (2, [.ref q1, .ref q2, .null, .null, .null, .null, .int 0])), (q1, .inl (cA, 400, .inl (fun _ => 0))), (q2, .inl (cA, 400, .inl (fun _ => 0))), (q3, .inl (cA, 400, .inl (fun _ => 0)))] := hD
  refine i_putF S hnm2 hK hP hD hS iX2 tyX2 tyX2_ok nmX2 0 rfl rfl 2 (by decide) kw_43 rfl rfl (ty := .array .int) (by decide +kernel) rfl rfl (Nat.le_of_ble_eq_true rfl) dX2_init_28 (fun H locs hP hD hS => ?_)
  have hP : va_P D classes [(h0, .inr (2, [.ref q1, .ref q2, .ref q3, .null, .null, .null, .int 0])), (q1, .inl (cA, 400, .inl (fun _ => 0))), (q2, .inl (cA, 400, .inl (fun _ => 0))), (q3, .inl (cA, 400, .inl (fun _ => 0)))] H := hP
  have hD : va_D A [(h0, .inr (2, [.ref q1, .ref q2, .ref q3, .null, .null, .null, .int 0])), (q1, .inl (cA, 400, .inl (fun _ => 0))), (q2, .inl (cA, 400, .inl (fun _ => 0))), (q3, .inl (cA, 400, .inl (fun _ => 0)))] := hD
  refine lv_aload_n hx hb dX2_init_31 rfl (lv_at hl 0 rfl) ?_
  refine lv_sipush (v := 400) hx hb dX2_init_32 (by decide) ?_
  refine i_newa S kw_66 hK hP hD hS hA 400 (by decide) (by decide) (by decide) (Nat.le_of_ble_eq_true rfl) (Nat.le_of_ble_eq_true rfl) dX2_init_35 (fun q4 H hP hD hS => ?_)
  have hP : va_P D classes [(h0, .inr (2, [.ref q1, .ref q2, .ref q3, .null, .null, .null, .int 0])), (q1, .inl (cA, 400, .inl (fun _ => 0))), (q2, .inl (cA, 400, .inl (fun _ => 0))), (q3, .inl (cA, 400, .inl (fun _ => 0))), (q4, .inl (cA, 400, .inl (fun _ => 0)))] H := hP
  have hD : va_D A [(h0, .inr (2, [.ref q1, .ref q2, .ref q3, .null, .null, .null, .int 0])), (q1, .inl (cA, 400, .inl (fun _ => 0))), (q2, .inl (cA, 400, .inl (fun _ => 0))), (q3, .inl (cA, 400, .inl (fun _ => 0))), (q4, .inl (cA, 400, .inl (fun _ => 0)))] := hD
  refine i_putF S hnm2 hK hP hD hS iX2 tyX2 tyX2_ok nmX2 0 rfl rfl 3 (by decide) kw_45 rfl rfl (ty := .array .int) (by decide +kernel) rfl rfl (Nat.le_of_ble_eq_true rfl) dX2_init_37 (fun H locs hP hD hS => ?_)
  have hP : va_P D classes [(h0, .inr (2, [.ref q1, .ref q2, .ref q3, .ref q4, .null, .null, .int 0])), (q1, .inl (cA, 400, .inl (fun _ => 0))), (q2, .inl (cA, 400, .inl (fun _ => 0))), (q3, .inl (cA, 400, .inl (fun _ => 0))), (q4, .inl (cA, 400, .inl (fun _ => 0)))] H := hP
  have hD : va_D A [(h0, .inr (2, [.ref q1, .ref q2, .ref q3, .ref q4, .null, .null, .int 0])), (q1, .inl (cA, 400, .inl (fun _ => 0))), (q2, .inl (cA, 400, .inl (fun _ => 0))), (q3, .inl (cA, 400, .inl (fun _ => 0))), (q4, .inl (cA, 400, .inl (fun _ => 0)))] := hD
  refine lv_aload_n hx hb dX2_init_40 rfl (lv_at hl 0 rfl) ?_
  refine lv_sipush (v := 400) hx hb dX2_init_41 (by decide) ?_
  refine i_newa S kw_66 hK hP hD hS hA 400 (by decide) (by decide) (by decide) (Nat.le_of_ble_eq_true rfl) (Nat.le_of_ble_eq_true rfl) dX2_init_44 (fun q5 H hP hD hS => ?_)
  have hP : va_P D classes [(h0, .inr (2, [.ref q1, .ref q2, .ref q3, .ref q4, .null, .null, .int 0])), (q1, .inl (cA, 400, .inl (fun _ => 0))), (q2, .inl (cA, 400, .inl (fun _ => 0))), (q3, .inl (cA, 400, .inl (fun _ => 0))), (q4, .inl (cA, 400, .inl (fun _ => 0))), (q5, .inl (cA, 400, .inl (fun _ => 0)))] H := hP
  have hD : va_D A [(h0, .inr (2, [.ref q1, .ref q2, .ref q3, .ref q4, .null, .null, .int 0])), (q1, .inl (cA, 400, .inl (fun _ => 0))), (q2, .inl (cA, 400, .inl (fun _ => 0))), (q3, .inl (cA, 400, .inl (fun _ => 0))), (q4, .inl (cA, 400, .inl (fun _ => 0))), (q5, .inl (cA, 400, .inl (fun _ => 0)))] := hD
  refine i_putF S hnm2 hK hP hD hS iX2 tyX2 tyX2_ok nmX2 0 rfl rfl 4 (by decide) kw_47 rfl rfl (ty := .array .int) (by decide +kernel) rfl rfl (Nat.le_of_ble_eq_true rfl) dX2_init_46 (fun H locs hP hD hS => ?_)
  have hP : va_P D classes [(h0, .inr (2, [.ref q1, .ref q2, .ref q3, .ref q4, .ref q5, .null, .int 0])), (q1, .inl (cA, 400, .inl (fun _ => 0))), (q2, .inl (cA, 400, .inl (fun _ => 0))), (q3, .inl (cA, 400, .inl (fun _ => 0))), (q4, .inl (cA, 400, .inl (fun _ => 0))), (q5, .inl (cA, 400, .inl (fun _ => 0)))] H := hP
  have hD : va_D A [(h0, .inr (2, [.ref q1, .ref q2, .ref q3, .ref q4, .ref q5, .null, .int 0])), (q1, .inl (cA, 400, .inl (fun _ => 0))), (q2, .inl (cA, 400, .inl (fun _ => 0))), (q3, .inl (cA, 400, .inl (fun _ => 0))), (q4, .inl (cA, 400, .inl (fun _ => 0))), (q5, .inl (cA, 400, .inl (fun _ => 0)))] := hD
  refine lv_aload_n hx hb dX2_init_49 rfl (lv_at hl 0 rfl) ?_
  refine lv_bipush (v := 32) hx hb dX2_init_50 (by decide) ?_
  refine i_newa S kw_66 hK hP hD hS hA 32 (by decide) (by decide) (by decide) (Nat.le_of_ble_eq_true rfl) (Nat.le_of_ble_eq_true rfl) dX2_init_52 (fun q6 H hP hD hS => ?_)
  have hP : va_P D classes [(h0, .inr (2, [.ref q1, .ref q2, .ref q3, .ref q4, .ref q5, .null, .int 0])), (q1, .inl (cA, 400, .inl (fun _ => 0))), (q2, .inl (cA, 400, .inl (fun _ => 0))), (q3, .inl (cA, 400, .inl (fun _ => 0))), (q4, .inl (cA, 400, .inl (fun _ => 0))), (q5, .inl (cA, 400, .inl (fun _ => 0))), (q6, .inl (cA, 32, .inl (fun _ => 0)))] H := hP
  have hD : va_D A [(h0, .inr (2, [.ref q1, .ref q2, .ref q3, .ref q4, .ref q5, .null, .int 0])), (q1, .inl (cA, 400, .inl (fun _ => 0))), (q2, .inl (cA, 400, .inl (fun _ => 0))), (q3, .inl (cA, 400, .inl (fun _ => 0))), (q4, .inl (cA, 400, .inl (fun _ => 0))), (q5, .inl (cA, 400, .inl (fun _ => 0))), (q6, .inl (cA, 32, .inl (fun _ => 0)))] := hD
  refine i_putF S hnm2 hK hP hD hS iX2 tyX2 tyX2_ok nmX2 0 rfl rfl 5 (by decide) kw_48 rfl rfl (ty := .array .int) (by decide +kernel) rfl rfl (Nat.le_of_ble_eq_true rfl) dX2_init_54 (fun H locs hP hD hS => ?_)
  have hP : va_P D classes [(h0, .inr (2, [.ref q1, .ref q2, .ref q3, .ref q4, .ref q5, .ref q6, .int 0])), (q1, .inl (cA, 400, .inl (fun _ => 0))), (q2, .inl (cA, 400, .inl (fun _ => 0))), (q3, .inl (cA, 400, .inl (fun _ => 0))), (q4, .inl (cA, 400, .inl (fun _ => 0))), (q5, .inl (cA, 400, .inl (fun _ => 0))), (q6, .inl (cA, 32, .inl (fun _ => 0)))] H := hP
  have hD : va_D A [(h0, .inr (2, [.ref q1, .ref q2, .ref q3, .ref q4, .ref q5, .ref q6, .int 0])), (q1, .inl (cA, 400, .inl (fun _ => 0))), (q2, .inl (cA, 400, .inl (fun _ => 0))), (q3, .inl (cA, 400, .inl (fun _ => 0))), (q4, .inl (cA, 400, .inl (fun _ => 0))), (q5, .inl (cA, 400, .inl (fun _ => 0))), (q6, .inl (cA, 32, .inl (fun _ => 0)))] := hD
  exact hret () H locs 57 ls dX2_init_57 hS trivial (fun t ht => ⟨q1, q2, q3, q4, q5, q6, by rw [ht]; exact hP, hD⟩)
abbrev rm_X3_init : Room := { frames := 1, cells := 1, slots := 64, locals := 12 }
set_option maxHeartbeats 4000000 in
set_option maxRecDepth 100000 in
theorem c_X3_init (l : Launch) (D : va_G) (cA : ClassId) (h0 sz : Nat) : Met l yX3_init (Cond.code yX3_init cX3_init 1 none :: tT) rm_X3_init (va_Pc [.ref h0] (i_Pc D cA h0 (.inr (3, [.null])) (fun _ => True) sz)) (va_Qv (fun _ : Unit => True) (fun (_ : Unit) (t : State) => ∃ (q1 : Nat), va_P D classes [(h0, .inr (3, [.ref q1])), (q1, .inl (cA, 64, .inl (fun _ => 0)))] t.heap ∧ va_D (va_A [(h0, .inr (3, [.null]))] sz) [(h0, .inr (3, [.ref q1])), (q1, .inl (cA, 64, .inl (fun _ => 0)))]) (va_A [(h0, .inr (3, [.null]))] sz)) 1 64 (va_A [(h0, .inr (3, [.null]))] sz) := by
  refine i_enter (by decide) (by decide) rfl ?_
  intro p e s m args below meth c Q S hml hnm2 hK _ hsz hret ls hl hP
  have hx := S.1
  have hb := S.2.1
  have hD : va_D (va_A [(h0, .inr (3, [.null]))] sz) [(h0, .inr (3, [.null]))] := i_dself
  generalize hAe : va_A [(h0, .inr (3, [.null]))] sz = A at hD hret
  have hA : ∀ q : Nat, s.heap.size ≤ q → A q := fun q h => by rw [← hAe]; exact Or.inr (by omega)
  have hS : va_S A s.heap s.heap [] := va_S.rf
  refine lv_aload_n hx hb dX3_init_0 rfl (lv_at hl 0 rfl) ?_
  refine i_obj S hml hl.1 kw_118 kw_32 kw_33 dX3_init_1 (Nat.le_of_ble_eq_true rfl) (Nat.le_of_ble_eq_true rfl) ?_
  refine lv_aload_n hx hb dX3_init_4 rfl (lv_at hl 0 rfl) ?_
  refine lv_bipush (v := 64) hx hb dX3_init_5 (by decide) ?_
  refine i_newa S kw_66 hK hP hD hS hA 64 (by decide) (by decide) (by decide) (Nat.le_of_ble_eq_true rfl) (Nat.le_of_ble_eq_true rfl) dX3_init_7 (fun q1 H hP hD hS => ?_)
  have hP : va_P D classes [(h0, .inr (3, [.null])), (q1, .inl (cA, 64, .inl (fun _ => 0)))] H := hP
  have hD : va_D A [(h0, .inr (3, [.null])), (q1, .inl (cA, 64, .inl (fun _ => 0)))] := hD
  refine i_putF S hnm2 hK hP hD hS iX3 tyX3 tyX3_ok nmX3 0 rfl rfl 0 (by decide) kw_119 rfl rfl (ty := .array .int) (by decide +kernel) rfl rfl (Nat.le_of_ble_eq_true rfl) dX3_init_9 (fun H locs hP hD hS => ?_)
  have hP : va_P D classes [(h0, .inr (3, [.ref q1])), (q1, .inl (cA, 64, .inl (fun _ => 0)))] H := hP
  have hD : va_D A [(h0, .inr (3, [.ref q1])), (q1, .inl (cA, 64, .inl (fun _ => 0)))] := hD
  exact hret () H locs 12 ls dX3_init_12 hS trivial (fun t ht => ⟨q1, by rw [ht]; exact hP, hD⟩)
