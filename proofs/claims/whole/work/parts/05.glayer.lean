/-! memories, worlds over a memory, and the kit's rows over them -/
abbrev Mem : Type := Nat → Nat → Int32
def g_ms (u : Mem) (j i : Nat) (x : Int32) : Mem := va_up u j (upd (u j) i x)
def nm {α : Type} (v : α) (k : α → Prop) : Prop := k v
theorem nm_use {α : Type} {v x : α} {k : α → Prop} (e : x = v) (h : nm v k) : k x := by subst e; exact h
def bz (r : Int32) : Prop := r = 0 ∨ r = 1
theorem bz_narrow {r : Int32} (h : bz r) : narrow .boolean (.int r) = .int r := by rcases h with rfl | rfl <;> rfl
abbrev classes : List vw_C := [(RX0, TX0, 5), (RX1, TX1, 3), (RX2, TX2, 7), (RX3, TX3, 1), (RX4, TX4, 9), (RX5, TX5, 18)]
def g_W (D : va_G) (ww : Mem → va_W) (A : Nat → Prop) (H0 : Heap) (u : Mem) (H : Heap) (locs : List Loc) : Prop := va_P D classes (ww u) H ∧ va_D A (ww u) ∧ va_S A H0 H locs
def g_S (p : Program) (m : MethodId) (c : Code) (cc : ByteArray) (s : State) (args : Array Value) (own : String) : Prop := p.tables.exec = Jvm.exec ∧ c.code = cc ∧ s.vm.findClass own = some m.cls ∧ ∀ w ∈ tT, w.before args s = true
def g_adr (ww : Mem → va_W) : Prop := ∀ u u' : Mem, (ww u).map (fun q => q.1) = (ww u').map (fun q => q.1)
def g_A (ww : Mem → va_W) (sz : Nat) : Nat → Prop := va_A (ww (fun _ _ => 0)) sz
def g_Pc (D : va_G) (cA : ClassId) (ww : Mem → va_W) (u : Mem) (sz : Nat) (U : State) : Prop := U.heap.size = sz ∧ va_P D classes (ww u) U.heap ∧ va_K D classes [(cA, .int)] U ∧ va_D (fun _ => True) (ww u)
def g_B (D : va_G) (ww : Mem → va_W) : Mem → State → Prop := fun u t => va_P D classes (ww u) t.heap
def g_Mi (l : Launch) (y : MethodName) (ws : List Cond) (rm : Room) (D : va_G) (cA : ClassId) (ww : Mem → va_W) (u : Mem) (av : List Value) (post : Int32 → Mem → Prop) : Prop := ∀ sz, Met l y ws rm (va_Pc av (g_Pc D cA ww u sz)) (va_Qi post (g_B D ww) (g_A ww sz)) 0 0 (g_A ww sz)
def g_Ml (l : Launch) (y : MethodName) (ws : List Cond) (rm : Room) (D : va_G) (cA : ClassId) (ww : Mem → va_W) (u : Mem) (av : List Value) (post : Int64 → Mem → Prop) : Prop := ∀ sz, Met l y ws rm (va_Pc av (g_Pc D cA ww u sz)) (va_Ql post (g_B D ww) (g_A ww sz)) 0 0 (g_A ww sz)
def g_Mv (l : Launch) (y : MethodName) (ws : List Cond) (rm : Room) (D : va_G) (cA : ClassId) (ww : Mem → va_W) (u : Mem) (av : List Value) (post : Mem → Prop) : Prop := ∀ sz, Met l y ws rm (va_Pc av (g_Pc D cA ww u sz)) (va_Qv post (g_B D ww) (g_A ww sz)) 0 0 (g_A ww sz)
theorem g_at {w w' : va_W} (h : w.map (fun q => q.1) = w'.map (fun q => q.1)) {i : Nat} {x : Nat × va_E} (hp : w'[i]? = some x) : ∃ x0, w[i]? = some x0 ∧ x0.1 = x.1 := by
  have h1 : (w.map (fun q => q.1))[i]? = some x.1 := by rw [h, List.getElem?_map, hp]; rfl
  rw [List.getElem?_map] at h1
  cases hw : w[i]? with
  | none => rw [hw] at h1; cases h1
  | some x0 => rw [hw] at h1; exact ⟨x0, rfl, Option.some.inj h1⟩
theorem g_adr.D {ww : Mem → va_W} (h : g_adr ww) {A B : Nat → Prop} {u u' : Mem} (hD : va_D A (ww u)) (hAB : ∀ q, A q → B q) : va_D B (ww u') := by
  refine ⟨fun i j x z hi hj hxz => ?_, fun k q hk => ?_⟩
  · obtain ⟨x0, a1, a2⟩ := g_at (h u u') hi
    obtain ⟨z0, b1, b2⟩ := g_at (h u u') hj
    exact hD.1 i j x0 z0 a1 b1 (a2.trans (hxz.trans b2.symm))
  · obtain ⟨x0, a1, a2⟩ := g_at (h u u') hk
    rw [← a2]
    exact hAB _ (hD.2 k x0 a1)
theorem g_A_in {ww : Mem → va_W} (h : g_adr ww) {u : Mem} {sz k : Nat} {q : Nat × va_E} (hk : (ww u)[k]? = some q) : g_A ww sz q.1 := by
  obtain ⟨x0, h1, h2⟩ := g_at (h (fun _ _ => 0) u) hk
  rw [← h2]
  exact va_A.in h1
theorem g_A_sub {ww : Mem → va_W} (h : g_adr ww) {A : Nat → Prop} {u : Mem} {sz : Nat} (hD : va_D A (ww u)) (hA : ∀ q, sz ≤ q → A q) : ∀ q, g_A ww sz q → A q := by
  intro q hq
  rcases hq with ⟨k, e, hk⟩ | hq
  · obtain ⟨x0, h1, h2⟩ := g_at (h u (fun _ _ => 0)) hk
    have h3 := hD.2 k x0 h1
    rw [h2] at h3
    exact h3
  · exact hA q hq
theorem tT_in {y : MethodName} {bytes : ByteArray} {maxL : Nat} {ret : Option FieldType} (kC : Cond.code y bytes maxL ret ∈ tT) : GoodIn tT (Cond.code y bytes maxL ret :: tT) := fun w hw => by
  rcases List.mem_cons.mp hw with rfl | h
  · exact ⟨kC, good_of_word (tT_good _ kC)⟩
  · exact ⟨h, good_of_word (tT_good _ h)⟩
theorem g_blind {D : va_G} {cA : ClassId} {ww : Mem → va_W} {u : Mem} {sz : Nat} {av : List Value} : FrameBlind (va_Pc av (g_Pc D cA ww u sz)) := fun a U g mk q => by
  obtain ⟨q0, q1, qP, qK, qD⟩ := q
  exact ⟨q0, q1, qP, va_K.moved (u := U) (U := U.calling g mk a) (Vm.Alike.refl U.vm) qK, qD⟩
section GL
variable {p : Program} {l : Launch} {e : Env} {R : Room} {s : State} {m : MethodId} {args : Array Value} {below : List Frame} {meth : Method} {c : Code} {H : Heap} {locs : List Loc} {cells slots : Nat} {Q : State → Prop}
variable {cc : ByteArray} {pc : Nat} {ls : Array Slot} {rest : List Value} {D : va_G} {cA : ClassId} {A : Nat → Prop} {a : Nat} {ww : Mem → va_W} {u : Mem} {own : String}
def g_Ri (p : Program) (l : Launch) (e : Env) (R : Room) (s : State) (m : MethodId) (args : Array Value) (below : List Frame) (meth : Method) (c : Code) (cc : ByteArray) (D : va_G) (ww : Mem → va_W) (A : Nat → Prop) (Q : State → Prop) (post : Int32 → Mem → Prop) : Prop :=
  ∀ (v : Int32) (u : Mem) (H : Heap) (locs : List Loc) (pc : Nat) (ls : Array Slot), decode cc pc = .ok (.ireturn, 1) → g_W D ww A s.heap u H locs → post v u → W p l e R s m args below meth c H locs 0 0 Q (F0 m pc ls [.int v])
def g_Rz (p : Program) (l : Launch) (e : Env) (R : Room) (s : State) (m : MethodId) (args : Array Value) (below : List Frame) (meth : Method) (c : Code) (cc : ByteArray) (D : va_G) (ww : Mem → va_W) (A : Nat → Prop) (Q : State → Prop) (post : Int32 → Mem → Prop) : Prop :=
  ∀ (v : Int32) (u : Mem) (H : Heap) (locs : List Loc) (pc : Nat) (ls : Array Slot), decode cc pc = .ok (.ireturn, 1) → g_W D ww A s.heap u H locs → bz v → post v u → W p l e R s m args below meth c H locs 0 0 Q (F0 m pc ls [.int v])
def g_Rl (p : Program) (l : Launch) (e : Env) (R : Room) (s : State) (m : MethodId) (args : Array Value) (below : List Frame) (meth : Method) (c : Code) (cc : ByteArray) (D : va_G) (ww : Mem → va_W) (A : Nat → Prop) (Q : State → Prop) (post : Int64 → Mem → Prop) : Prop :=
  ∀ (v : Int64) (u : Mem) (H : Heap) (locs : List Loc) (pc : Nat) (ls : Array Slot), decode cc pc = .ok (.lreturn, 1) → g_W D ww A s.heap u H locs → post v u → W p l e R s m args below meth c H locs 0 0 Q (F0 m pc ls [.long v])
def g_Rv (p : Program) (l : Launch) (e : Env) (R : Room) (s : State) (m : MethodId) (args : Array Value) (below : List Frame) (meth : Method) (c : Code) (cc : ByteArray) (D : va_G) (ww : Mem → va_W) (A : Nat → Prop) (Q : State → Prop) (post : Mem → Prop) : Prop :=
  ∀ (u : Mem) (H : Heap) (locs : List Loc) (pc : Nat) (ls : Array Slot), decode cc pc = .ok (.return_, 1) → g_W D ww A s.heap u H locs → post u → W p l e R s m args below meth c H locs 0 0 Q (F0 m pc ls [])
/-- a method's body, and the way out of it -/
theorem g_enter_i {y : MethodName} {maxL : Nat} {rm : Room} {av : List Value} {post : Int32 → Mem → Prop} (hy : plainName y.cls = true) (hadr : g_adr ww) (hlen : (lg_sl av).length ≤ maxL)
    (body : ∀ (p : Program) (e : Env) (s : State) (m : MethodId) (args : Array Value) (below : List Frame) (meth : Method) (c : Code) (A : Nat → Prop) (Q : State → Prop), g_S p m c cc s args y.cls → c.maxLocals = maxL → va_K D classes [(cA, .int)] s → (∀ q, s.heap.size ≤ q → A q) → g_Ri p l e rm s m args below meth c cc D ww A Q post → ∀ ls : Array Slot, lv_has ls maxL (lv_args 0 av) → g_W D ww A s.heap u s.heap [] → W p l e rm s m args below meth c s.heap [] 0 0 Q (F0 m 0 ls [])) :
    g_Mi l y (Cond.code y cc maxL (some .int) :: tT) rm D cA ww u av post := by
  intro sz
  refine Met.ofW (cc := cc) (maxL := maxL) (ret := some .int) hy rfl ?_
  intro p e s m args below meth c s₁ B hml hv
  obtain ⟨rfl, hsz, hP, hK, hD0⟩ := hv
  subst hsz
  have hts := atoms_spec (ws := Cond.code y cc maxL (some .int) :: tT) B.pre
  have hown : s.vm.findClass y.cls = some m.cls := findClass_of_methodNamed B.named
  have hr := B.returns
  have hlocks := B.notSynchronized
  have hl := lv_entry av (n := maxL) hlen
  rw [lg_entry_eq]
  generalize (lg_sl av ++ List.replicate (maxL - (lg_sl av).length) Slot.unset).toArray = ls at hl ⊢
  have hx := B.exec
  have hb := B.bytes
  refine body p e s m _ below meth c (g_A ww s.heap.size) _ ⟨hx, hb, hown, fun w h => hts w (List.mem_cons_of_mem _ h)⟩ hml hK (fun q h => Or.inr h) ?_ ls hl ⟨hP, ⟨hD0.1, fun k q h => g_A_in hadr h⟩, va_S.rf⟩
  intro v u H locs pc ls hdg hW hp
  exact W.iret hx hb hr (fun t ht _ => ⟨⟨v, u, rfl, hp, by show va_P D classes (ww u) t.heap; rw [ht]; exact hW.1⟩, hW.2.2.F ht⟩) hW.2.2.2.2 hdg
theorem g_enter_z {y : MethodName} {maxL : Nat} {rm : Room} {av : List Value} {post : Int32 → Mem → Prop} (hy : plainName y.cls = true) (hadr : g_adr ww) (hlen : (lg_sl av).length ≤ maxL)
    (body : ∀ (p : Program) (e : Env) (s : State) (m : MethodId) (args : Array Value) (below : List Frame) (meth : Method) (c : Code) (A : Nat → Prop) (Q : State → Prop), g_S p m c cc s args y.cls → c.maxLocals = maxL → va_K D classes [(cA, .int)] s → (∀ q, s.heap.size ≤ q → A q) → g_Rz p l e rm s m args below meth c cc D ww A Q post → ∀ ls : Array Slot, lv_has ls maxL (lv_args 0 av) → g_W D ww A s.heap u s.heap [] → W p l e rm s m args below meth c s.heap [] 0 0 Q (F0 m 0 ls [])) :
    g_Mi l y (Cond.code y cc maxL (some .boolean) :: tT) rm D cA ww u av post := by
  intro sz
  refine Met.ofW (cc := cc) (maxL := maxL) (ret := some .boolean) hy rfl ?_
  intro p e s m args below meth c s₁ B hml hv
  obtain ⟨rfl, hsz, hP, hK, hD0⟩ := hv
  subst hsz
  have hts := atoms_spec (ws := Cond.code y cc maxL (some .boolean) :: tT) B.pre
  have hown : s.vm.findClass y.cls = some m.cls := findClass_of_methodNamed B.named
  have hr := B.returns
  have hlocks := B.notSynchronized
  have hl := lv_entry av (n := maxL) hlen
  rw [lg_entry_eq]
  generalize (lg_sl av ++ List.replicate (maxL - (lg_sl av).length) Slot.unset).toArray = ls at hl ⊢
  have hx := B.exec
  have hb := B.bytes
  refine body p e s m _ below meth c (g_A ww s.heap.size) _ ⟨hx, hb, hown, fun w h => hts w (List.mem_cons_of_mem _ h)⟩ hml hK (fun q h => Or.inr h) ?_ ls hl ⟨hP, ⟨hD0.1, fun k q h => g_A_in hadr h⟩, va_S.rf⟩
  intro v u H locs pc ls hdg hW hz hp
  exact W.zret hx hb hr (bz_narrow hz) (fun t ht _ => ⟨⟨v, u, rfl, hp, by show va_P D classes (ww u) t.heap; rw [ht]; exact hW.1⟩, hW.2.2.F ht⟩) hW.2.2.2.2 hdg
theorem g_enter_l {y : MethodName} {maxL : Nat} {rm : Room} {av : List Value} {post : Int64 → Mem → Prop} (hy : plainName y.cls = true) (hadr : g_adr ww) (hlen : (lg_sl av).length ≤ maxL)
    (body : ∀ (p : Program) (e : Env) (s : State) (m : MethodId) (args : Array Value) (below : List Frame) (meth : Method) (c : Code) (A : Nat → Prop) (Q : State → Prop), g_S p m c cc s args y.cls → c.maxLocals = maxL → va_K D classes [(cA, .int)] s → (∀ q, s.heap.size ≤ q → A q) → g_Rl p l e rm s m args below meth c cc D ww A Q post → ∀ ls : Array Slot, lv_has ls maxL (lv_args 0 av) → g_W D ww A s.heap u s.heap [] → W p l e rm s m args below meth c s.heap [] 0 0 Q (F0 m 0 ls [])) :
    g_Ml l y (Cond.code y cc maxL (some .long) :: tT) rm D cA ww u av post := by
  intro sz
  refine Met.ofW (cc := cc) (maxL := maxL) (ret := some .long) hy rfl ?_
  intro p e s m args below meth c s₁ B hml hv
  obtain ⟨rfl, hsz, hP, hK, hD0⟩ := hv
  subst hsz
  have hts := atoms_spec (ws := Cond.code y cc maxL (some .long) :: tT) B.pre
  have hown : s.vm.findClass y.cls = some m.cls := findClass_of_methodNamed B.named
  have hr := B.returns
  have hlocks := B.notSynchronized
  have hl := lv_entry av (n := maxL) hlen
  rw [lg_entry_eq]
  generalize (lg_sl av ++ List.replicate (maxL - (lg_sl av).length) Slot.unset).toArray = ls at hl ⊢
  have hx := B.exec
  have hb := B.bytes
  refine body p e s m _ below meth c (g_A ww s.heap.size) _ ⟨hx, hb, hown, fun w h => hts w (List.mem_cons_of_mem _ h)⟩ hml hK (fun q h => Or.inr h) ?_ ls hl ⟨hP, ⟨hD0.1, fun k q h => g_A_in hadr h⟩, va_S.rf⟩
  intro v u H locs pc ls hdg hW hp
  exact W.lret hx hb hr (fun t ht _ => ⟨⟨v, u, rfl, hp, by show va_P D classes (ww u) t.heap; rw [ht]; exact hW.1⟩, hW.2.2.F ht⟩) hW.2.2.2.2 hdg
theorem g_enter_v {y : MethodName} {maxL : Nat} {rm : Room} {av : List Value} {post : Mem → Prop} (hy : plainName y.cls = true) (hadr : g_adr ww) (hlen : (lg_sl av).length ≤ maxL)
    (body : ∀ (p : Program) (e : Env) (s : State) (m : MethodId) (args : Array Value) (below : List Frame) (meth : Method) (c : Code) (A : Nat → Prop) (Q : State → Prop), g_S p m c cc s args y.cls → c.maxLocals = maxL → va_K D classes [(cA, .int)] s → (∀ q, s.heap.size ≤ q → A q) → g_Rv p l e rm s m args below meth c cc D ww A Q post → ∀ ls : Array Slot, lv_has ls maxL (lv_args 0 av) → g_W D ww A s.heap u s.heap [] → W p l e rm s m args below meth c s.heap [] 0 0 Q (F0 m 0 ls [])) :
    g_Mv l y (Cond.code y cc maxL none :: tT) rm D cA ww u av post := by
  intro sz
  refine Met.ofW (cc := cc) (maxL := maxL) (ret := none) hy rfl ?_
  intro p e s m args below meth c s₁ B hml hv
  obtain ⟨rfl, hsz, hP, hK, hD0⟩ := hv
  subst hsz
  have hts := atoms_spec (ws := Cond.code y cc maxL none :: tT) B.pre
  have hown : s.vm.findClass y.cls = some m.cls := findClass_of_methodNamed B.named
  have hr := B.returns
  have hlocks := B.notSynchronized
  have hl := lv_entry av (n := maxL) hlen
  rw [lg_entry_eq]
  generalize (lg_sl av ++ List.replicate (maxL - (lg_sl av).length) Slot.unset).toArray = ls at hl ⊢
  have hx := B.exec
  have hb := B.bytes
  refine body p e s m _ below meth c (g_A ww s.heap.size) _ ⟨hx, hb, hown, fun w h => hts w (List.mem_cons_of_mem _ h)⟩ hml hK (fun q h => Or.inr h) ?_ ls hl ⟨hP, ⟨hD0.1, fun k q h => g_A_in hadr h⟩, va_S.rf⟩
  intro u H locs pc ls hdg hW hp
  exact W.vret hx hb hr (fun t ht _ => ⟨⟨u, rfl, hp, by show va_P D classes (ww u) t.heap; rw [ht]; exact hW.1⟩, hW.2.2.F ht⟩) hW.2.2.2.2 hdg
/-- fields and arrays -/
theorem g_get (S : g_S p m c cc s args own) (hK : va_K D classes [(cA, .int)] s) (hW : g_W D ww A s.heap u H locs) {ci : Nat} {C : String} {T : u_T} {N : Nat} (hin : ∀ w ∈ u_ws C T N, w ∈ tT) {q0 : Nat} {fs : List Value} (he : (ww u)[q0]? = some (a, .inr (ci, fs))) (hc : classes[ci]? = some (C, T, N)) (k : Nat) (hk : k < N) {idx : Nat} (kL : Cond.fieldLink own idx (T k).1 (T k).2.1 (T k).2.2.1 ∈ tT) {v : Value} (hv : fs[k]? = some v) (hdg : decode cc pc = .ok (.getfield idx, 3))
    (kk : W p l e R s m args below meth c H locs cells slots Q (F0 m (pc + 3) ls (v :: rest))) : W p l e R s m args below meth c H locs cells slots Q (F0 m pc ls (.ref a :: rest)) :=
  va_get S.1 S.2.1 S.2.2.2 hin S.2.2.1 hK hW.1 q0 he hc k hk (S.2.2.2 _ kL) (fun _ h => h) hv hdg kk
theorem g_put (S : g_S p m c cc s args own) (hK : va_K D classes [(cA, .int)] s) (hW : g_W D ww A s.heap u H locs) {ci : Nat} {C : String} {T : u_T} {N : Nat} (hin : ∀ w ∈ u_ws C T N, w ∈ tT) (ty0 : Nat → FieldType) (hty : ∀ k, k < N → parseFieldDescriptor (T k).2.2.1 = some (ty0 k)) (hnm : ∀ a, a < N → ∀ b, b < N → a ≠ b → (T a).2.1 ≠ (T b).2.1) {q0 : Nat} {fs : List Value} (he : (ww u)[q0]? = some (a, .inr (ci, fs))) (hc : classes[ci]? = some (C, T, N)) (k : Nat) (hk : k < N) {idx : Nat} (kL : Cond.fieldLink own idx (T k).1 (T k).2.1 (T k).2.2.1 ∈ tT) (hfin : (T k).2.2.2 = false) (hd : parseFieldDescriptor (T k).2.2.1 = some .int) (hl : k < fs.length) {j : Nat} {x : Int32} (hset : (ww u).set q0 (a, .inr (ci, fs.set k (.int x))) = ww (g_ms u j 0 x)) (hdg : decode cc pc = .ok (.putfield idx, 3))
    (kk : ∀ (u1 : Mem) (H1 : Heap) (locs1 : List Loc), u1 = g_ms u j 0 x → g_W D ww A s.heap u1 H1 locs1 → W p l e R s m args below meth c H1 locs1 cells slots Q (F0 m (pc + 3) ls rest)) : W p l e R s m args below meth c H locs cells slots Q (F0 m pc ls (.int x :: .ref a :: rest)) := by
  refine va_put S.1 S.2.1 S.2.2.2 hin ty0 hty hnm S.2.2.1 hK hW.1 hW.2.1 hW.2.2 q0 he hc k hk (S.2.2.2 _ kL) (fun _ h => h) hfin hd rfl rfl hl hdg (fun H1 locs1 hP hD hS => ?_)
  rw [hset] at hP hD
  exact kk _ H1 locs1 rfl ⟨hP, hD, hS⟩
theorem g_iald (S : g_S p m c cc s args own) (hK : va_K D classes [(cA, .int)] s) (hW : g_W D ww A s.heap u H locs) {q0 n j : Nat} (ha : (ww u)[q0]? = some (a, .inl (cA, n, .inl (u j)))) {i : Int32} (hin : vp_in i n) (hdg : decode cc pc = .ok (.iaload, 1))
    (kk : ∀ x : Int32, x = u j i.toNatClampNeg → W p l e R s m args below meth c H locs cells slots Q (F0 m (pc + 1) ls (.int x :: rest))) : W p l e R s m args below meth c H locs cells slots Q (F0 m pc ls (.int i :: .ref a :: rest)) :=
  va_iald S.1 S.2.1 hK hW.1 q0 0 ha rfl hin hdg (kk _ rfl)
theorem g_iast (S : g_S p m c cc s args own) (hK : va_K D classes [(cA, .int)] s) (hW : g_W D ww A s.heap u H locs) {q0 n j : Nat} (ha : (ww u)[q0]? = some (a, .inl (cA, n, .inl (u j)))) (hset : ∀ g, (ww u).set q0 (a, .inl (cA, n, .inl g)) = ww (va_up u j g)) {i x : Int32} (hin : vp_in i n) (hdg : decode cc pc = .ok (.iastore, 1))
    (kk : ∀ (u1 : Mem) (H1 : Heap) (locs1 : List Loc), u1 = g_ms u j i.toNatClampNeg x → g_W D ww A s.heap u1 H1 locs1 → W p l e R s m args below meth c H1 locs1 cells slots Q (F0 m (pc + 1) ls rest)) : W p l e R s m args below meth c H locs cells slots Q (F0 m pc ls (.int x :: .int i :: .ref a :: rest)) := by
  refine va_iast S.1 S.2.1 hK hW.1 hW.2.1 hW.2.2 q0 0 ha rfl hin hdg (fun H1 locs1 hP hD hS => ?_)
  rw [hset] at hP hD
  exact kk _ H1 locs1 rfl ⟨hP, hD, hS⟩
theorem g_alen (S : g_S p m c cc s args own) (hK : va_K D classes [(cA, .int)] s) (hW : g_W D ww A s.heap u H locs) {q0 n j : Nat} (ha : (ww u)[q0]? = some (a, .inl (cA, n, .inl (u j)))) (hdg : decode cc pc = .ok (.arraylength, 1))
    (kk : W p l e R s m args below meth c H locs cells slots Q (F0 m (pc + 1) ls (.int (nI n) :: rest))) : W p l e R s m args below meth c H locs cells slots Q (F0 m pc ls (.ref a :: rest)) :=
  va_alen S.1 S.2.1 hK hW.1 q0 0 ha rfl rfl hdg kk
/-- calls -/
theorem g_runV (S : g_S p m c cc s args own) {nL : Nat} (hml : c.maxLocals = nL) (hK : va_K D classes [(cA, .int)] s) (hW : g_W D ww A s.heap u H locs) {y : MethodName} {bytes : ByteArray} {maxL n idx : Nat} {ret : Option FieldType} {rm : Room} {Qc : Array Value → State → Outcome → State → Prop} {free : Addr → Prop} {b : Addr} {As st : List Value}
    (hM : Met l y (Cond.code y bytes maxL ret :: tT) rm (va_Pc (.ref b :: As) (g_Pc D cA ww u H.size)) Qc 0 0 free) (kL : Cond.methodLink own idx y ∈ tT) (kI : Cond.instanceMethod y ∈ tT) (kS : Cond.selects y.cls y y ∈ tT) (kN : Cond.initialized y.cls ∈ tT) (kC : Cond.code y bytes maxL ret ∈ tT)
    (hd : y.cls ≠ "java/lang/invoke/MethodHandle" ∧ y.cls ≠ "java/lang/invoke/VarHandle" ∧ (parseMethodDescriptor y.desc).map (fun d => d.parameters.length) = some n) (hR : rm.cells = 0 ∧ rm.slots = 0 ∧ rm.frames + 1 ≤ R.frames ∧ 8 + (maxL + 11) + rm.locals ≤ R.locals)
    {q0 ci N : Nat} {T : u_T} {fs : List Value} (hrec : (ww u)[q0]? = some (b, .inr (ci, fs))) (hc : classes[ci]? = some (y.cls, T, N)) (hst : st = As.reverse ++ .ref b :: rest) (hn : As.length = n) (hsize : ls.size = nL) (hroom : (rest.map fun v => v.category).sum ≤ 8) (hdg : decode cc pc = .ok (.invokevirtual idx, 3)) (hf : cells ≤ R.cells ∧ slots ≤ R.slots) :
    va_Run p l e R s m args below meth c H locs cells slots 0 0 (F0 m pc ls st) rest (Qc (Value.ref b :: As).toArray) free :=
  va_runV (C := y.cls) ⟨S.1, S.2.1, hml, S.2.2.1, S.2.2.2⟩ hM ⟨callB_of n S.2.2.2 (tT_in kC) rfl hR.1 hR.2.1 (S.2.2.2 _ kN) (S.2.2.2 _ kL) hd hR.2.2, S.2.2.2 _ kI, S.2.2.2 _ kS⟩ ⟨g_blind, va_recv hK hW.1 hc hrec, fun U hU hw => ⟨rfl, by rw [hU], by rw [hU]; exact hW.1, va_K.moved hw.alike hK, hW.2.1.weaken (fun _ _ _ _ => trivial)⟩⟩ rfl hn hsize hst (lv_room hroom) hdg hf
theorem g_runS (S : g_S p m c cc s args own) {nL : Nat} (hml : c.maxLocals = nL) (hK : va_K D classes [(cA, .int)] s) (hW : g_W D ww A s.heap u H locs) {y : MethodName} {bytes : ByteArray} {maxL n idx : Nat} {ret : Option FieldType} {rm : Room} {Qc : Array Value → State → Outcome → State → Prop} {free : Addr → Prop} {As st : List Value}
    (hM : Met l y (Cond.code y bytes maxL ret :: tT) rm (va_Pc As (g_Pc D cA ww u H.size)) Qc 0 0 free) (kL : Cond.methodLink own idx y ∈ tT) (kT : Cond.static y ∈ tT) (kN : Cond.initialized y.cls ∈ tT) (kC : Cond.code y bytes maxL ret ∈ tT)
    (hd : y.cls ≠ "java/lang/invoke/MethodHandle" ∧ y.cls ≠ "java/lang/invoke/VarHandle" ∧ (parseMethodDescriptor y.desc).map (fun d => d.parameters.length) = some n) (hR : rm.cells = 0 ∧ rm.slots = 0 ∧ rm.frames + 1 ≤ R.frames ∧ 8 + (maxL + 11) + rm.locals ≤ R.locals)
    (hst : st = As.reverse ++ rest) (hn : As.length = n) (hsize : ls.size = nL) (hroom : (rest.map fun v => v.category).sum ≤ 8) (hdg : decode cc pc = .ok (.invokestatic idx, 3)) (hf : cells ≤ R.cells ∧ slots ≤ R.slots) :
    va_Run p l e R s m args below meth c H locs cells slots 0 0 (F0 m pc ls st) rest (Qc As.toArray) free :=
  va_runS ⟨S.1, S.2.1, hml, S.2.2.1, S.2.2.2⟩ hM ⟨callB_of n S.2.2.2 (tT_in kC) rfl hR.1 hR.2.1 (S.2.2.2 _ kN) (S.2.2.2 _ kL) hd hR.2.2, S.2.2.2 _ kT⟩ ⟨g_blind, fun U hU hw => ⟨rfl, by rw [hU], by rw [hU]; exact hW.1, va_K.moved hw.alike hK, hW.2.1.weaken (fun _ _ _ _ => trivial)⟩⟩ rfl hn hsize hst (lv_room hroom) hdg hf
theorem g_cali {st : List Value} {aa : Array Value} {post : Int32 → Mem → Prop} (hr : va_Run p l e R s m args below meth c H locs cells slots 0 0 (F0 m pc ls st) rest (va_Qi post (g_B D ww) (g_A ww H.size) aa) (g_A ww H.size)) (hadr : g_adr ww) (hA : ∀ q, s.heap.size ≤ q → A q) (hW : g_W D ww A s.heap u H locs)
    (kk : ∀ (r : Int32) (u1 : Mem) (H1 : Heap) (locs1 : List Loc), post r u1 → g_W D ww A s.heap u1 H1 locs1 → W p l e R s m args below meth c H1 locs1 cells slots Q (F0 m (pc + 3) ls (.int r :: rest))) : W p l e R s m args below meth c H locs cells slots Q (F0 m pc ls st) := by
  have hsub := g_A_sub hadr hW.2.1 (fun q h => hA q (Nat.le_trans hW.2.2.1 h))
  refine va_calli hr hW.2.2 (fun q _ h => hsub q h) hsub (fun r u1 t H1 locs1 ht hvm hw hB hz hk hS => ?_)
  exact kk r u1 H1 locs1 hw ⟨by rw [← ht]; exact hB, hadr.D hW.2.1 (fun _ h => h), hS⟩
theorem g_call {st : List Value} {aa : Array Value} {post : Int64 → Mem → Prop} (hr : va_Run p l e R s m args below meth c H locs cells slots 0 0 (F0 m pc ls st) rest (va_Ql post (g_B D ww) (g_A ww H.size) aa) (g_A ww H.size)) (hadr : g_adr ww) (hA : ∀ q, s.heap.size ≤ q → A q) (hW : g_W D ww A s.heap u H locs)
    (kk : ∀ (r : Int64) (u1 : Mem) (H1 : Heap) (locs1 : List Loc), post r u1 → g_W D ww A s.heap u1 H1 locs1 → W p l e R s m args below meth c H1 locs1 cells slots Q (F0 m (pc + 3) ls (.long r :: rest))) : W p l e R s m args below meth c H locs cells slots Q (F0 m pc ls st) := by
  have hsub := g_A_sub hadr hW.2.1 (fun q h => hA q (Nat.le_trans hW.2.2.1 h))
  refine va_calll hr hW.2.2 (fun q _ h => hsub q h) hsub (fun r u1 t H1 locs1 ht hvm hw hB hz hk hS => ?_)
  exact kk r u1 H1 locs1 hw ⟨by rw [← ht]; exact hB, hadr.D hW.2.1 (fun _ h => h), hS⟩
theorem g_calv {st : List Value} {aa : Array Value} {post : Mem → Prop} (hr : va_Run p l e R s m args below meth c H locs cells slots 0 0 (F0 m pc ls st) rest (va_Qv post (g_B D ww) (g_A ww H.size) aa) (g_A ww H.size)) (hadr : g_adr ww) (hA : ∀ q, s.heap.size ≤ q → A q) (hW : g_W D ww A s.heap u H locs)
    (kk : ∀ (u1 : Mem) (H1 : Heap) (locs1 : List Loc), post u1 → g_W D ww A s.heap u1 H1 locs1 → W p l e R s m args below meth c H1 locs1 cells slots Q (F0 m (pc + 3) ls rest)) : W p l e R s m args below meth c H locs cells slots Q (F0 m pc ls st) := by
  have hsub := g_A_sub hadr hW.2.1 (fun q h => hA q (Nat.le_trans hW.2.2.1 h))
  refine va_callv hr hW.2.2 (fun q _ h => hsub q h) hsub (fun u1 t H1 locs1 ht hvm hw hB hz hk hS => ?_)
  exact kk u1 H1 locs1 hw ⟨by rw [← ht]; exact hB, hadr.D hW.2.1 (fun _ h => h), hS⟩
end GL
