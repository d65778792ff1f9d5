/-! the law: two worlds in one heap -/
theorem va_D_fst {A : Nat → Prop} {w w' : va_W} (h : w.map (fun q => q.1) = w'.map (fun q => q.1)) (hD : va_D A w) : va_D A w' := by
  refine ⟨fun i j x z hi hj hxz => ?_, fun k q hk => ?_⟩
  · obtain ⟨x0, a1, a2⟩ := g_at h hi
    obtain ⟨z0, b1, b2⟩ := g_at h hj
    exact hD.1 i j x0 z0 a1 b1 (a2.trans (hxz.trans b2.symm))
  · obtain ⟨x0, a1, a2⟩ := g_at h hk
    rw [← a2]
    exact hD.2 k x0 a1
def l_W (D : va_G) (w1 w2 : Mem → va_W) (A : Nat → Prop) (H0 : Heap) (u v : Mem) (H : Heap) (locs : List Loc) : Prop := va_P D classes (w1 u) H ∧ va_P D classes (w2 v) H ∧ va_D A (w1 u ++ w2 v) ∧ va_S A H0 H locs
theorem va_D_left {A : Nat → Prop} {w1 w2 : va_W} (h : va_D A (w1 ++ w2)) : va_D A w1 := by
  refine ⟨fun i j x z hi hj q => h.1 i j x z ?_ ?_ q, fun k q hk => h.2 k q ?_⟩
  · rw [List.getElem?_append_left (List.getElem?_eq_some_iff.mp hi).1]; exact hi
  · rw [List.getElem?_append_left (List.getElem?_eq_some_iff.mp hj).1]; exact hj
  · rw [List.getElem?_append_left (List.getElem?_eq_some_iff.mp hk).1]; exact hk
theorem va_D_at {w1 w2 : va_W} {k : Nat} {q : Nat × va_E} (hk : w2[k]? = some q) : (w1 ++ w2)[w1.length + k]? = some q := by
  rw [List.getElem?_append_right (by omega), Nat.add_sub_cancel_left]; exact hk
theorem va_D_right {A : Nat → Prop} {w1 w2 : va_W} (h : va_D A (w1 ++ w2)) : va_D A w2 := by
  refine ⟨fun i j x z hi hj q => ?_, fun k q hk => h.2 _ q (va_D_at hk)⟩
  have := h.1 _ _ x z (va_D_at hi) (va_D_at hj) q
  omega
theorem va_D_ne {A : Nat → Prop} {w1 w2 : va_W} (h : va_D A (w1 ++ w2)) {i j : Nat} {x z : Nat × va_E} (hi : w1[i]? = some x) (hj : w2[j]? = some z) : x.1 ≠ z.1 := fun q => by
  have hl := (List.getElem?_eq_some_iff.mp hi).1
  have := h.1 i (w1.length + j) x z (by rw [List.getElem?_append_left hl]; exact hi) (va_D_at hj) q
  omega
theorem map_app {w1 w2 w1' w2' : va_W} (h1 : w1.map (fun q => q.1) = w1'.map (fun q => q.1)) (h2 : w2.map (fun q => q.1) = w2'.map (fun q => q.1)) : (w1 ++ w2).map (fun q => q.1) = (w1' ++ w2').map (fun q => q.1) := by
  rw [List.map_append, List.map_append, h1, h2]
theorem lc_eq0 {x y : Int64} (h : x = y) : lg_cmp x y = 0 := by subst h; simp [lg_cmp]
section LL
variable {p : Program} {l : Launch} {e : Env} {R : Room} {s : State} {m : MethodId} {args : Array Value} {below : List Frame} {meth : Method} {c : Code} {H : Heap} {locs : List Loc} {cells slots : Nat} {Q : State → Prop}
variable {pc : Nat} {ls : Array Slot} {rest st : List Value} {D : va_G} {A : Nat → Prop} {w1 w2 : Mem → va_W} {u v : Mem} {aa : Array Value}
theorem l_g1 (h : l_W D w1 w2 A s.heap u v H locs) : g_W D w1 A s.heap u H locs := ⟨h.1, va_D_left h.2.2.1, h.2.2.2⟩
theorem l_g2 (h : l_W D w1 w2 A s.heap u v H locs) : g_W D w2 A s.heap v H locs := ⟨h.2.1, va_D_right h.2.2.1, h.2.2.2⟩
theorem l_kept1 {H1 : Heap} {locs1 : List Loc} {u1 : Mem} (h1 : g_adr w1) (hW : l_W D w1 w2 A s.heap u v H locs) (hB : va_P D classes (w1 u1) H1) (hk : ∀ q : Nat, q < H.size → ¬ g_A w1 H.size q → H1[q]? = H[q]?) (hS : va_S A s.heap H1 locs1) : l_W D w1 w2 A s.heap u1 v H1 locs1 := by
  refine ⟨hB, hW.2.1.kept (fun k q hq => hk q.1 ((hW.2.1 k q hq).lt) (fun z => ?_)), va_D_fst (map_app (h1 u u1) rfl) hW.2.2.1, hS⟩
  rcases z with ⟨i, e', hi⟩ | z
  · obtain ⟨x0, a1, a2⟩ := g_at (h1 u (fun _ _ => 0)) hi
    exact va_D_ne hW.2.2.1 a1 hq a2
  · have := (hW.2.1 k q hq).lt; omega
theorem l_kept2 {H1 : Heap} {locs1 : List Loc} {v1 : Mem} (h2 : g_adr w2) (hW : l_W D w1 w2 A s.heap u v H locs) (hB : va_P D classes (w2 v1) H1) (hk : ∀ q : Nat, q < H.size → ¬ g_A w2 H.size q → H1[q]? = H[q]?) (hS : va_S A s.heap H1 locs1) : l_W D w1 w2 A s.heap u v1 H1 locs1 := by
  refine ⟨hW.1.kept (fun k q hq => hk q.1 ((hW.1 k q hq).lt) (fun z => ?_)), hB, va_D_fst (map_app rfl (h2 v v1)) hW.2.2.1, hS⟩
  rcases z with ⟨i, e', hi⟩ | z
  · obtain ⟨x0, a1, a2⟩ := g_at (h2 v (fun _ _ => 0)) hi
    exact va_D_ne hW.2.2.1 hq a1 a2.symm
  · have := (hW.1 k q hq).lt; omega
theorem l_cal1i {post : Int32 → Mem → Prop} (hr : va_Run p l e R s m args below meth c H locs cells slots 0 0 (F0 m pc ls st) rest (va_Qi post (g_B D w1) (g_A w1 H.size) aa) (g_A w1 H.size)) (hadr : g_adr w1) (hA : ∀ q, s.heap.size ≤ q → A q) (hW : l_W D w1 w2 A s.heap u v H locs)
    (kk : ∀ (r : Int32) (u1 : Mem) (H1 : Heap) (locs1 : List Loc), post r u1 → l_W D w1 w2 A s.heap u1 v H1 locs1 → W p l e R s m args below meth c H1 locs1 cells slots Q (F0 m (pc + 3) ls (.int r :: rest))) : W p l e R s m args below meth c H locs cells slots Q (F0 m pc ls st) := by
  have hsub := g_A_sub hadr (l_g1 hW).2.1 (fun q h => hA q (Nat.le_trans hW.2.2.2.1 h))
  refine va_calli hr hW.2.2.2 (fun q _ h => hsub q h) hsub (fun r u1 t H1 locs1 ht hvm hw hB hz hk hS => ?_)
  exact kk r u1 H1 locs1 hw (l_kept1 hadr hW (by rw [← ht]; exact hB) hk hS)
theorem l_cal1l {post : Int64 → Mem → Prop} (hr : va_Run p l e R s m args below meth c H locs cells slots 0 0 (F0 m pc ls st) rest (va_Ql post (g_B D w1) (g_A w1 H.size) aa) (g_A w1 H.size)) (hadr : g_adr w1) (hA : ∀ q, s.heap.size ≤ q → A q) (hW : l_W D w1 w2 A s.heap u v H locs)
    (kk : ∀ (r : Int64) (u1 : Mem) (H1 : Heap) (locs1 : List Loc), post r u1 → l_W D w1 w2 A s.heap u1 v H1 locs1 → W p l e R s m args below meth c H1 locs1 cells slots Q (F0 m (pc + 3) ls (.long r :: rest))) : W p l e R s m args below meth c H locs cells slots Q (F0 m pc ls st) := by
  have hsub := g_A_sub hadr (l_g1 hW).2.1 (fun q h => hA q (Nat.le_trans hW.2.2.2.1 h))
  refine va_calll hr hW.2.2.2 (fun q _ h => hsub q h) hsub (fun r u1 t H1 locs1 ht hvm hw hB hz hk hS => ?_)
  exact kk r u1 H1 locs1 hw (l_kept1 hadr hW (by rw [← ht]; exact hB) hk hS)
theorem l_cal2i {post : Int32 → Mem → Prop} (hr : va_Run p l e R s m args below meth c H locs cells slots 0 0 (F0 m pc ls st) rest (va_Qi post (g_B D w2) (g_A w2 H.size) aa) (g_A w2 H.size)) (hadr : g_adr w2) (hA : ∀ q, s.heap.size ≤ q → A q) (hW : l_W D w1 w2 A s.heap u v H locs)
    (kk : ∀ (r : Int32) (u1 : Mem) (H1 : Heap) (locs1 : List Loc), post r u1 → l_W D w1 w2 A s.heap u u1 H1 locs1 → W p l e R s m args below meth c H1 locs1 cells slots Q (F0 m (pc + 3) ls (.int r :: rest))) : W p l e R s m args below meth c H locs cells slots Q (F0 m pc ls st) := by
  have hsub := g_A_sub hadr (l_g2 hW).2.1 (fun q h => hA q (Nat.le_trans hW.2.2.2.1 h))
  refine va_calli hr hW.2.2.2 (fun q _ h => hsub q h) hsub (fun r u1 t H1 locs1 ht hvm hw hB hz hk hS => ?_)
  exact kk r u1 H1 locs1 hw (l_kept2 hadr hW (by rw [← ht]; exact hB) hk hS)
theorem l_cal2l {post : Int64 → Mem → Prop} (hr : va_Run p l e R s m args below meth c H locs cells slots 0 0 (F0 m pc ls st) rest (va_Ql post (g_B D w2) (g_A w2 H.size) aa) (g_A w2 H.size)) (hadr : g_adr w2) (hA : ∀ q, s.heap.size ≤ q → A q) (hW : l_W D w1 w2 A s.heap u v H locs)
    (kk : ∀ (r : Int64) (u1 : Mem) (H1 : Heap) (locs1 : List Loc), post r u1 → l_W D w1 w2 A s.heap u u1 H1 locs1 → W p l e R s m args below meth c H1 locs1 cells slots Q (F0 m (pc + 3) ls (.long r :: rest))) : W p l e R s m args below meth c H locs cells slots Q (F0 m pc ls st) := by
  have hsub := g_A_sub hadr (l_g2 hW).2.1 (fun q h => hA q (Nat.le_trans hW.2.2.2.1 h))
  refine va_calll hr hW.2.2.2 (fun q _ h => hsub q h) hsub (fun r u1 t H1 locs1 ht hvm hw hB hz hk hS => ?_)
  exact kk r u1 H1 locs1 hw (l_kept2 hadr hW (by rw [← ht]; exact hB) hk hS)
end LL
def l_C (p : Program) (s : State) (m : MethodId) (c : Code) (b L : Nat) (xs : Nat → Int32) (D : va_G) (cA : ClassId) : Prop := g_S p m c cL_law s #[Value.ref b] RL ∧ c.maxLocals = 4 ∧ va_K D classes [(cA, .int)] s ∧ va_X b L xs s s.heap ∧ b < s.heap.size
theorem l_in {y : Int32} {i L : Nat} (hy : y.toInt = (i : Int)) (hi : i + 3 < L) (hL : L ≤ 2048) : vp_in y L ∧ vp_in (y + 1) L ∧ vp_in (y + 2) L ∧ vp_in (y + 3) L := by
  have e1 : (y + 1).toInt = ((i + 1 : Nat) : Int) := inc hy (by omega)
  have e2 : (y + 2).toInt = ((i + 2 : Nat) : Int) := by rw [i_add (by rw [l_2]; omega) (by rw [l_2]; omega), l_2]; omega
  have e3 : (y + 3).toInt = ((i + 3 : Nat) : Int) := by rw [i_add (by rw [show (3 : Int32).toInt = 3 from rfl]; omega) (by rw [show (3 : Int32).toInt = 3 from rfl]; omega), show (3 : Int32).toInt = 3 from rfl]; omega
  exact ⟨vin hy (by omega), vin e1 (by omega), vin e2 (by omega), vin e3 (by omega)⟩

set_option maxHeartbeats 4000000 in
set_option maxRecDepth 100000 in
theorem law_case_0 {p : Program} {l : Launch} {e : Env} {s : State} {m : MethodId} {below : List Frame} {meth : Method} {c : Code} {b L : Nat} {xs : Nat → Int32} {D : va_G} {cA : ClassId} (C : l_C p s m c b L xs D cA) {a bb : Nat → Nat} {y : Int32} {i : Nat} (hy : y.toInt = (i : Int)) (hiL : i + 3 < L) (hL : L ≤ 2048) {ls : Array Slot} (hl : lv_has ls 4 [(0, .ref b), (1, .ref (a 0)), (2, .ref (bb 0)), (3, .int y)]) {Q : State → Prop} (next : ∀ (u v : Mem) (H : Heap) (locs : List Loc), Inv u v → l_W D (Xw cA a) (Yw cA bb) (fun q : Nat => s.heap.size ≤ q) s.heap u v H locs → W p l e room_1 s m #[Value.ref b] below meth c H locs 34 11789 Q (F0 m 868 ls [])) {u v : Mem} {H : Heap} {locs : List Loc} (hI : Inv u v) (hW : l_W D (Xw cA a) (Yw cA bb) (fun q : Nat => s.heap.size ≤ q) s.heap u v H locs) : W p l e room_1 s m #[Value.ref b] below meth c H locs 34 11789 Q (F0 m 148 ls []) := by
  have hx := C.1.1
  have hb := C.1.2.1
  have hX := C.2.2.2.1
  have hbl := C.2.2.2.2
  have hin := l_in hy hiL hL
  have hA : ∀ q : Nat, s.heap.size ≤ q → (fun q : Nat => s.heap.size ≤ q) q := fun _ h => h
  have hbA : ¬ (fun q : Nat => s.heap.size ≤ q) b := Nat.not_le.mpr hbl
  refine lv_aload_n hx hb dL_law_148 rfl (lv_at hl 1 rfl) ?_
  refine lv_aload_n hx hb dL_law_149 rfl (lv_at hl 0 rfl) ?_
  refine lv_iload_n hx hb dL_law_150 rfl (lv_at hl 3 rfl) ?_
  refine lv_iconst (v := 1) hx hb dL_law_151 (by decide) ?_
  refine lv_iadd hx hb dL_law_152 ?_
  refine va_sld hx hb hX hbl hbA hW.2.2.2 hin.2.1 dL_law_153 ?_
  refine lv_aload_n hx hb dL_law_154 rfl (lv_at hl 0 rfl) ?_
  refine lv_iload_n hx hb dL_law_155 rfl (lv_at hl 3 rfl) ?_
  refine lv_iconst (v := 2) hx hb dL_law_156 (by decide) ?_
  refine lv_iadd hx hb dL_law_157 ?_
  refine va_sld hx hb hX hbl hbA hW.2.2.2 hin.2.2.1 dL_law_158 ?_
  refine lv_aload_n hx hb dL_law_159 rfl (lv_at hl 0 rfl) ?_
  refine lv_iload_n hx hb dL_law_160 rfl (lv_at hl 3 rfl) ?_
  refine lv_iconst (v := 3) hx hb dL_law_161 (by decide) ?_
  refine lv_iadd hx hb dL_law_162 ?_
  refine va_sld hx hb hX hbl hbA hW.2.2.2 hin.2.2.2 dL_law_163 ?_
  refine l_cal1i (g_runV C.1 C.2.1 C.2.2.1 (l_g1 hW) (c_X4_write l D cA a u (xs (y + 1).toNatClampNeg) (xs (y + 2).toNatClampNeg) (xs (y + 3).toNatClampNeg) _ (q_write hI) _) kw_177 kw_178 kw_179 kw_19 kw_180 hd_X4_write ⟨rfl, rfl, Nat.le_of_ble_eq_true rfl, Nat.le_of_ble_eq_true rfl⟩ (q0 := 0) rfl rfl (As := [.int (xs (y + 1).toNatClampNeg), .int (xs (y + 2).toNatClampNeg), .int (xs (y + 3).toNatClampNeg)]) (rest := []) rfl rfl hl.1 (Nat.le_of_ble_eq_true rfl) dL_law_164 ⟨Nat.le_of_ble_eq_true rfl, Nat.le_of_ble_eq_true rfl⟩) (Xw_adr cA a) hA hW (fun r1 u1 H locs h hW => ?_)
  refine lv_aload_n hx hb dL_law_167 rfl (lv_at hl 2 rfl) ?_
  refine lv_aload_n hx hb dL_law_168 rfl (lv_at hl 0 rfl) ?_
  refine lv_iload_n hx hb dL_law_169 rfl (lv_at hl 3 rfl) ?_
  refine lv_iconst (v := 1) hx hb dL_law_170 (by decide) ?_
  refine lv_iadd hx hb dL_law_171 ?_
  refine va_sld hx hb hX hbl hbA hW.2.2.2 hin.2.1 dL_law_172 ?_
  refine lv_aload_n hx hb dL_law_173 rfl (lv_at hl 0 rfl) ?_
  refine lv_iload_n hx hb dL_law_174 rfl (lv_at hl 3 rfl) ?_
  refine lv_iconst (v := 2) hx hb dL_law_175 (by decide) ?_
  refine lv_iadd hx hb dL_law_176 ?_
  refine va_sld hx hb hX hbl hbA hW.2.2.2 hin.2.2.1 dL_law_177 ?_
  refine lv_aload_n hx hb dL_law_178 rfl (lv_at hl 0 rfl) ?_
  refine lv_iload_n hx hb dL_law_179 rfl (lv_at hl 3 rfl) ?_
  refine lv_iconst (v := 3) hx hb dL_law_180 (by decide) ?_
  refine lv_iadd hx hb dL_law_181 ?_
  refine va_sld hx hb hX hbl hbA hW.2.2.2 hin.2.2.2 dL_law_182 ?_
  refine l_cal2i (g_runV C.1 C.2.1 C.2.2.1 (l_g2 hW) (c_X5_write l D cA bb v (xs (y + 1).toNatClampNeg) (xs (y + 2).toNatClampNeg) (xs (y + 3).toNatClampNeg) _ h _) kw_480 kw_481 kw_482 kw_25 kw_483 hd_X5_write ⟨rfl, rfl, Nat.le_of_ble_eq_true rfl, Nat.le_of_ble_eq_true rfl⟩ (q0 := 0) rfl rfl (As := [.int (xs (y + 1).toNatClampNeg), .int (xs (y + 2).toNatClampNeg), .int (xs (y + 3).toNatClampNeg)]) (rest := [.int r1]) rfl rfl hl.1 (Nat.le_of_ble_eq_true rfl) dL_law_183 ⟨Nat.le_of_ble_eq_true rfl, Nat.le_of_ble_eq_true rfl⟩) (Yw_adr cA bb) hA hW (fun r2 v1 H locs h hW => ?_)
  exact lv_icmp_eq (tgt := 868) hx hb dL_law_186 (by decide) (fun _ => next _ _ _ _ h.2 hW) (fun cn => absurd h.1 cn)
set_option maxHeartbeats 4000000 in
set_option maxRecDepth 100000 in
theorem law_case_1 {p : Program} {l : Launch} {e : Env} {s : State} {m : MethodId} {below : List Frame} {meth : Method} {c : Code} {b L : Nat} {xs : Nat → Int32} {D : va_G} {cA : ClassId} (C : l_C p s m c b L xs D cA) {a bb : Nat → Nat} {y : Int32} {i : Nat} (hy : y.toInt = (i : Int)) (hiL : i + 3 < L) (hL : L ≤ 2048) {ls : Array Slot} (hl : lv_has ls 4 [(0, .ref b), (1, .ref (a 0)), (2, .ref (bb 0)), (3, .int y)]) {Q : State → Prop} (next : ∀ (u v : Mem) (H : Heap) (locs : List Loc), Inv u v → l_W D (Xw cA a) (Yw cA bb) (fun q : Nat => s.heap.size ≤ q) s.heap u v H locs → W p l e room_1 s m #[Value.ref b] below meth c H locs 34 11789 Q (F0 m 868 ls [])) {u v : Mem} {H : Heap} {locs : List Loc} (hI : Inv u v) (hW : l_W D (Xw cA a) (Yw cA bb) (fun q : Nat => s.heap.size ≤ q) s.heap u v H locs) : W p l e room_1 s m #[Value.ref b] below meth c H locs 34 11789 Q (F0 m 191 ls []) := by
  have hx := C.1.1
  have hb := C.1.2.1
  have hX := C.2.2.2.1
  have hbl := C.2.2.2.2
  have hin := l_in hy hiL hL
  have hA : ∀ q : Nat, s.heap.size ≤ q → (fun q : Nat => s.heap.size ≤ q) q := fun _ h => h
  have hbA : ¬ (fun q : Nat => s.heap.size ≤ q) b := Nat.not_le.mpr hbl
  refine lv_aload_n hx hb dL_law_191 rfl (lv_at hl 1 rfl) ?_
  refine l_cal1i (g_runV C.1 C.2.1 C.2.2.1 (l_g1 hW) (c_X4_seal l D cA a u  _ (q_seal hI) _) kw_188 kw_189 kw_190 kw_19 kw_191 hd_X4_seal ⟨rfl, rfl, Nat.le_of_ble_eq_true rfl, Nat.le_of_ble_eq_true rfl⟩ (q0 := 0) rfl rfl (As := []) (rest := []) rfl rfl hl.1 (Nat.le_of_ble_eq_true rfl) dL_law_192 ⟨Nat.le_of_ble_eq_true rfl, Nat.le_of_ble_eq_true rfl⟩) (Xw_adr cA a) hA hW (fun r1 u1 H locs h hW => ?_)
  refine lv_aload_n hx hb dL_law_195 rfl (lv_at hl 2 rfl) ?_
  refine l_cal2i (g_runV C.1 C.2.1 C.2.2.1 (l_g2 hW) (c_X5_seal l D cA bb v  _ h _) kw_490 kw_491 kw_492 kw_25 kw_493 hd_X5_seal ⟨rfl, rfl, Nat.le_of_ble_eq_true rfl, Nat.le_of_ble_eq_true rfl⟩ (q0 := 0) rfl rfl (As := []) (rest := [.int r1]) rfl rfl hl.1 (Nat.le_of_ble_eq_true rfl) dL_law_196 ⟨Nat.le_of_ble_eq_true rfl, Nat.le_of_ble_eq_true rfl⟩) (Yw_adr cA bb) hA hW (fun r2 v1 H locs h hW => ?_)
  exact lv_icmp_eq (tgt := 868) hx hb dL_law_199 (by decide) (fun _ => next _ _ _ _ h.2 hW) (fun cn => absurd h.1 cn)
set_option maxHeartbeats 4000000 in
set_option maxRecDepth 100000 in
theorem law_case_2 {p : Program} {l : Launch} {e : Env} {s : State} {m : MethodId} {below : List Frame} {meth : Method} {c : Code} {b L : Nat} {xs : Nat → Int32} {D : va_G} {cA : ClassId} (C : l_C p s m c b L xs D cA) {a bb : Nat → Nat} {y : Int32} {i : Nat} (hy : y.toInt = (i : Int)) (hiL : i + 3 < L) (hL : L ≤ 2048) {ls : Array Slot} (hl : lv_has ls 4 [(0, .ref b), (1, .ref (a 0)), (2, .ref (bb 0)), (3, .int y)]) {Q : State → Prop} (next : ∀ (u v : Mem) (H : Heap) (locs : List Loc), Inv u v → l_W D (Xw cA a) (Yw cA bb) (fun q : Nat => s.heap.size ≤ q) s.heap u v H locs → W p l e room_1 s m #[Value.ref b] below meth c H locs 34 11789 Q (F0 m 868 ls [])) {u v : Mem} {H : Heap} {locs : List Loc} (hI : Inv u v) (hW : l_W D (Xw cA a) (Yw cA bb) (fun q : Nat => s.heap.size ≤ q) s.heap u v H locs) : W p l e room_1 s m #[Value.ref b] below meth c H locs 34 11789 Q (F0 m 204 ls []) := by
  have hx := C.1.1
  have hb := C.1.2.1
  have hX := C.2.2.2.1
  have hbl := C.2.2.2.2
  have hin := l_in hy hiL hL
  have hA : ∀ q : Nat, s.heap.size ≤ q → (fun q : Nat => s.heap.size ≤ q) q := fun _ h => h
  have hbA : ¬ (fun q : Nat => s.heap.size ≤ q) b := Nat.not_le.mpr hbl
  refine lv_aload_n hx hb dL_law_204 rfl (lv_at hl 1 rfl) ?_
  refine l_cal1i (g_runV C.1 C.2.1 C.2.2.1 (l_g1 hW) (c_X4_drop l D cA a u  _ (q_drop hI) _) kw_205 kw_206 kw_207 kw_19 kw_208 hd_X4_drop ⟨rfl, rfl, Nat.le_of_ble_eq_true rfl, Nat.le_of_ble_eq_true rfl⟩ (q0 := 0) rfl rfl (As := []) (rest := []) rfl rfl hl.1 (Nat.le_of_ble_eq_true rfl) dL_law_205 ⟨Nat.le_of_ble_eq_true rfl, Nat.le_of_ble_eq_true rfl⟩) (Xw_adr cA a) hA hW (fun r1 u1 H locs h hW => ?_)
  refine lv_aload_n hx hb dL_law_208 rfl (lv_at hl 2 rfl) ?_
  refine l_cal2i (g_runV C.1 C.2.1 C.2.2.1 (l_g2 hW) (c_X5_drop l D cA bb v  _ h _) kw_502 kw_503 kw_504 kw_25 kw_505 hd_X5_drop ⟨rfl, rfl, Nat.le_of_ble_eq_true rfl, Nat.le_of_ble_eq_true rfl⟩ (q0 := 0) rfl rfl (As := []) (rest := [.int r1]) rfl rfl hl.1 (Nat.le_of_ble_eq_true rfl) dL_law_209 ⟨Nat.le_of_ble_eq_true rfl, Nat.le_of_ble_eq_true rfl⟩) (Yw_adr cA bb) hA hW (fun r2 v1 H locs h hW => ?_)
  exact lv_icmp_eq (tgt := 868) hx hb dL_law_212 (by decide) (fun _ => next _ _ _ _ h.2 hW) (fun cn => absurd h.1 cn)
set_option maxHeartbeats 4000000 in
set_option maxRecDepth 100000 in
theorem law_case_3 {p : Program} {l : Launch} {e : Env} {s : State} {m : MethodId} {below : List Frame} {meth : Method} {c : Code} {b L : Nat} {xs : Nat → Int32} {D : va_G} {cA : ClassId} (C : l_C p s m c b L xs D cA) {a bb : Nat → Nat} {y : Int32} {i : Nat} (hy : y.toInt = (i : Int)) (hiL : i + 3 < L) (hL : L ≤ 2048) {ls : Array Slot} (hl : lv_has ls 4 [(0, .ref b), (1, .ref (a 0)), (2, .ref (bb 0)), (3, .int y)]) {Q : State → Prop} (next : ∀ (u v : Mem) (H : Heap) (locs : List Loc), Inv u v → l_W D (Xw cA a) (Yw cA bb) (fun q : Nat => s.heap.size ≤ q) s.heap u v H locs → W p l e room_1 s m #[Value.ref b] below meth c H locs 34 11789 Q (F0 m 868 ls [])) {u v : Mem} {H : Heap} {locs : List Loc} (hI : Inv u v) (hW : l_W D (Xw cA a) (Yw cA bb) (fun q : Nat => s.heap.size ≤ q) s.heap u v H locs) : W p l e room_1 s m #[Value.ref b] below meth c H locs 34 11789 Q (F0 m 217 ls []) := by
  have hx := C.1.1
  have hb := C.1.2.1
  have hX := C.2.2.2.1
  have hbl := C.2.2.2.2
  have hin := l_in hy hiL hL
  have hA : ∀ q : Nat, s.heap.size ≤ q → (fun q : Nat => s.heap.size ≤ q) q := fun _ h => h
  have hbA : ¬ (fun q : Nat => s.heap.size ≤ q) b := Nat.not_le.mpr hbl
  refine lv_aload_n hx hb dL_law_217 rfl (lv_at hl 1 rfl) ?_
  refine lv_aload_n hx hb dL_law_218 rfl (lv_at hl 0 rfl) ?_
  refine lv_iload_n hx hb dL_law_219 rfl (lv_at hl 3 rfl) ?_
  refine lv_iconst (v := 1) hx hb dL_law_220 (by decide) ?_
  refine lv_iadd hx hb dL_law_221 ?_
  refine va_sld hx hb hX hbl hbA hW.2.2.2 hin.2.1 dL_law_222 ?_
  refine lv_aload_n hx hb dL_law_223 rfl (lv_at hl 0 rfl) ?_
  refine lv_iload_n hx hb dL_law_224 rfl (lv_at hl 3 rfl) ?_
  refine lv_iconst (v := 2) hx hb dL_law_225 (by decide) ?_
  refine lv_iadd hx hb dL_law_226 ?_
  refine va_sld hx hb hX hbl hbA hW.2.2.2 hin.2.2.1 dL_law_227 ?_
  refine l_cal1l (g_runV C.1 C.2.1 C.2.2.1 (l_g1 hW) (c_X4_at l D cA a u (xs (y + 1).toNatClampNeg) (xs (y + 2).toNatClampNeg) _ (q_at hI) _) kw_209 kw_210 kw_211 kw_19 kw_212 hd_X4_at ⟨rfl, rfl, Nat.le_of_ble_eq_true rfl, Nat.le_of_ble_eq_true rfl⟩ (q0 := 0) rfl rfl (As := [.int (xs (y + 1).toNatClampNeg), .int (xs (y + 2).toNatClampNeg)]) (rest := []) rfl rfl hl.1 (Nat.le_of_ble_eq_true rfl) dL_law_228 ⟨Nat.le_of_ble_eq_true rfl, Nat.le_of_ble_eq_true rfl⟩) (Xw_adr cA a) hA hW (fun r1 u1 H locs h hW => ?_)
  refine lv_aload_n hx hb dL_law_231 rfl (lv_at hl 2 rfl) ?_
  refine lv_aload_n hx hb dL_law_232 rfl (lv_at hl 0 rfl) ?_
  refine lv_iload_n hx hb dL_law_233 rfl (lv_at hl 3 rfl) ?_
  refine lv_iconst (v := 1) hx hb dL_law_234 (by decide) ?_
  refine lv_iadd hx hb dL_law_235 ?_
  refine va_sld hx hb hX hbl hbA hW.2.2.2 hin.2.1 dL_law_236 ?_
  refine lv_aload_n hx hb dL_law_237 rfl (lv_at hl 0 rfl) ?_
  refine lv_iload_n hx hb dL_law_238 rfl (lv_at hl 3 rfl) ?_
  refine lv_iconst (v := 2) hx hb dL_law_239 (by decide) ?_
  refine lv_iadd hx hb dL_law_240 ?_
  refine va_sld hx hb hX hbl hbA hW.2.2.2 hin.2.2.1 dL_law_241 ?_
  refine l_cal2l (g_runV C.1 C.2.1 C.2.2.1 (l_g2 hW) (c_X5_at l D cA bb v (xs (y + 1).toNatClampNeg) (xs (y + 2).toNatClampNeg) _ h _) kw_506 kw_507 kw_508 kw_25 kw_509 hd_X5_at ⟨rfl, rfl, Nat.le_of_ble_eq_true rfl, Nat.le_of_ble_eq_true rfl⟩ (q0 := 0) rfl rfl (As := [.int (xs (y + 1).toNatClampNeg), .int (xs (y + 2).toNatClampNeg)]) (rest := [.long r1]) rfl rfl hl.1 (Nat.le_of_ble_eq_true rfl) dL_law_242 ⟨Nat.le_of_ble_eq_true rfl, Nat.le_of_ble_eq_true rfl⟩) (Yw_adr cA bb) hA hW (fun r2 v1 H locs h hW => ?_)
  refine W.lcmp hx hb dL_law_245 ?_
  exact lv_if_eq (tgt := 868) hx hb dL_law_246 (by decide) (fun _ => next _ _ _ _ h.2 hW) (fun cn => absurd (lc_eq0 h.1) cn)
set_option maxHeartbeats 4000000 in
set_option maxRecDepth 100000 in
theorem law_case_4 {p : Program} {l : Launch} {e : Env} {s : State} {m : MethodId} {below : List Frame} {meth : Method} {c : Code} {b L : Nat} {xs : Nat → Int32} {D : va_G} {cA : ClassId} (C : l_C p s m c b L xs D cA) {a bb : Nat → Nat} {y : Int32} {i : Nat} (hy : y.toInt = (i : Int)) (hiL : i + 3 < L) (hL : L ≤ 2048) {ls : Array Slot} (hl : lv_has ls 4 [(0, .ref b), (1, .ref (a 0)), (2, .ref (bb 0)), (3, .int y)]) {Q : State → Prop} (next : ∀ (u v : Mem) (H : Heap) (locs : List Loc), Inv u v → l_W D (Xw cA a) (Yw cA bb) (fun q : Nat => s.heap.size ≤ q) s.heap u v H locs → W p l e room_1 s m #[Value.ref b] below meth c H locs 34 11789 Q (F0 m 868 ls [])) {u v : Mem} {H : Heap} {locs : List Loc} (hI : Inv u v) (hW : l_W D (Xw cA a) (Yw cA bb) (fun q : Nat => s.heap.size ≤ q) s.heap u v H locs) : W p l e room_1 s m #[Value.ref b] below meth c H locs 34 11789 Q (F0 m 251 ls []) := by
  have hx := C.1.1
  have hb := C.1.2.1
  have hX := C.2.2.2.1
  have hbl := C.2.2.2.2
  have hin := l_in hy hiL hL
  have hA : ∀ q : Nat, s.heap.size ≤ q → (fun q : Nat => s.heap.size ≤ q) q := fun _ h => h
  have hbA : ¬ (fun q : Nat => s.heap.size ≤ q) b := Nat.not_le.mpr hbl
  refine lv_aload_n hx hb dL_law_251 rfl (lv_at hl 1 rfl) ?_
  refine lv_aload_n hx hb dL_law_252 rfl (lv_at hl 0 rfl) ?_
  refine lv_iload_n hx hb dL_law_253 rfl (lv_at hl 3 rfl) ?_
  refine lv_iconst (v := 1) hx hb dL_law_254 (by decide) ?_
  refine lv_iadd hx hb dL_law_255 ?_
  refine va_sld hx hb hX hbl hbA hW.2.2.2 hin.2.1 dL_law_256 ?_
  refine l_cal1l (g_runV C.1 C.2.1 C.2.2.1 (l_g1 hW) (c_X4_now l D cA a u (xs (y + 1).toNatClampNeg) _ (q_now hI) _) kw_233 kw_234 kw_235 kw_19 kw_236 hd_X4_now ⟨rfl, rfl, Nat.le_of_ble_eq_true rfl, Nat.le_of_ble_eq_true rfl⟩ (q0 := 0) rfl rfl (As := [.int (xs (y + 1).toNatClampNeg)]) (rest := []) rfl rfl hl.1 (Nat.le_of_ble_eq_true rfl) dL_law_257 ⟨Nat.le_of_ble_eq_true rfl, Nat.le_of_ble_eq_true rfl⟩) (Xw_adr cA a) hA hW (fun r1 u1 H locs h hW => ?_)
  refine lv_aload_n hx hb dL_law_260 rfl (lv_at hl 2 rfl) ?_
  refine lv_aload_n hx hb dL_law_261 rfl (lv_at hl 0 rfl) ?_
  refine lv_iload_n hx hb dL_law_262 rfl (lv_at hl 3 rfl) ?_
  refine lv_iconst (v := 1) hx hb dL_law_263 (by decide) ?_
  refine lv_iadd hx hb dL_law_264 ?_
  refine va_sld hx hb hX hbl hbA hW.2.2.2 hin.2.1 dL_law_265 ?_
  refine l_cal2l (g_runV C.1 C.2.1 C.2.2.1 (l_g2 hW) (c_X5_now l D cA bb v (xs (y + 1).toNatClampNeg) _ h _) kw_516 kw_517 kw_518 kw_25 kw_519 hd_X5_now ⟨rfl, rfl, Nat.le_of_ble_eq_true rfl, Nat.le_of_ble_eq_true rfl⟩ (q0 := 0) rfl rfl (As := [.int (xs (y + 1).toNatClampNeg)]) (rest := [.long r1]) rfl rfl hl.1 (Nat.le_of_ble_eq_true rfl) dL_law_266 ⟨Nat.le_of_ble_eq_true rfl, Nat.le_of_ble_eq_true rfl⟩) (Yw_adr cA bb) hA hW (fun r2 v1 H locs h hW => ?_)
  refine W.lcmp hx hb dL_law_269 ?_
  exact lv_if_eq (tgt := 868) hx hb dL_law_270 (by decide) (fun _ => next _ _ _ _ h.2 hW) (fun cn => absurd (lc_eq0 h.1) cn)
set_option maxHeartbeats 4000000 in
set_option maxRecDepth 100000 in
theorem law_case_5 {p : Program} {l : Launch} {e : Env} {s : State} {m : MethodId} {below : List Frame} {meth : Method} {c : Code} {b L : Nat} {xs : Nat → Int32} {D : va_G} {cA : ClassId} (C : l_C p s m c b L xs D cA) {a bb : Nat → Nat} {y : Int32} {i : Nat} (hy : y.toInt = (i : Int)) (hiL : i + 3 < L) (hL : L ≤ 2048) {ls : Array Slot} (hl : lv_has ls 4 [(0, .ref b), (1, .ref (a 0)), (2, .ref (bb 0)), (3, .int y)]) {Q : State → Prop} (next : ∀ (u v : Mem) (H : Heap) (locs : List Loc), Inv u v → l_W D (Xw cA a) (Yw cA bb) (fun q : Nat => s.heap.size ≤ q) s.heap u v H locs → W p l e room_1 s m #[Value.ref b] below meth c H locs 34 11789 Q (F0 m 868 ls [])) {u v : Mem} {H : Heap} {locs : List Loc} (hI : Inv u v) (hW : l_W D (Xw cA a) (Yw cA bb) (fun q : Nat => s.heap.size ≤ q) s.heap u v H locs) : W p l e room_1 s m #[Value.ref b] below meth c H locs 34 11789 Q (F0 m 275 ls []) := by
  have hx := C.1.1
  have hb := C.1.2.1
  have hX := C.2.2.2.1
  have hbl := C.2.2.2.2
  have hin := l_in hy hiL hL
  have hA : ∀ q : Nat, s.heap.size ≤ q → (fun q : Nat => s.heap.size ≤ q) q := fun _ h => h
  have hbA : ¬ (fun q : Nat => s.heap.size ≤ q) b := Nat.not_le.mpr hbl
  refine lv_aload_n hx hb dL_law_275 rfl (lv_at hl 1 rfl) ?_
  refine lv_aload_n hx hb dL_law_276 rfl (lv_at hl 0 rfl) ?_
  refine lv_iload_n hx hb dL_law_277 rfl (lv_at hl 3 rfl) ?_
  refine lv_iconst (v := 1) hx hb dL_law_278 (by decide) ?_
  refine lv_iadd hx hb dL_law_279 ?_
  refine va_sld hx hb hX hbl hbA hW.2.2.2 hin.2.1 dL_law_280 ?_
  refine l_cal1l (g_runV C.1 C.2.1 C.2.2.1 (l_g1 hW) (c_X4_digest l D cA a u (xs (y + 1).toNatClampNeg) _ (q_digest hI) _) kw_237 kw_238 kw_239 kw_19 kw_240 hd_X4_digest ⟨rfl, rfl, Nat.le_of_ble_eq_true rfl, Nat.le_of_ble_eq_true rfl⟩ (q0 := 0) rfl rfl (As := [.int (xs (y + 1).toNatClampNeg)]) (rest := []) rfl rfl hl.1 (Nat.le_of_ble_eq_true rfl) dL_law_281 ⟨Nat.le_of_ble_eq_true rfl, Nat.le_of_ble_eq_true rfl⟩) (Xw_adr cA a) hA hW (fun r1 u1 H locs h hW => ?_)
  refine lv_aload_n hx hb dL_law_284 rfl (lv_at hl 2 rfl) ?_
  refine lv_aload_n hx hb dL_law_285 rfl (lv_at hl 0 rfl) ?_
  refine lv_iload_n hx hb dL_law_286 rfl (lv_at hl 3 rfl) ?_
  refine lv_iconst (v := 1) hx hb dL_law_287 (by decide) ?_
  refine lv_iadd hx hb dL_law_288 ?_
  refine va_sld hx hb hX hbl hbA hW.2.2.2 hin.2.1 dL_law_289 ?_
  refine l_cal2l (g_runV C.1 C.2.1 C.2.2.1 (l_g2 hW) (c_X5_digest l D cA bb v (xs (y + 1).toNatClampNeg) _ h _) kw_520 kw_521 kw_522 kw_25 kw_523 hd_X5_digest ⟨rfl, rfl, Nat.le_of_ble_eq_true rfl, Nat.le_of_ble_eq_true rfl⟩ (q0 := 0) rfl rfl (As := [.int (xs (y + 1).toNatClampNeg)]) (rest := [.long r1]) rfl rfl hl.1 (Nat.le_of_ble_eq_true rfl) dL_law_290 ⟨Nat.le_of_ble_eq_true rfl, Nat.le_of_ble_eq_true rfl⟩) (Yw_adr cA bb) hA hW (fun r2 v1 H locs h hW => ?_)
  refine W.lcmp hx hb dL_law_293 ?_
  exact lv_if_eq (tgt := 868) hx hb dL_law_294 (by decide) (fun _ => next _ _ _ _ h.2 hW) (fun cn => absurd (lc_eq0 h.1) cn)
set_option maxHeartbeats 4000000 in
set_option maxRecDepth 100000 in
theorem law_case_6 {p : Program} {l : Launch} {e : Env} {s : State} {m : MethodId} {below : List Frame} {meth : Method} {c : Code} {b L : Nat} {xs : Nat → Int32} {D : va_G} {cA : ClassId} (C : l_C p s m c b L xs D cA) {a bb : Nat → Nat} {y : Int32} {i : Nat} (hy : y.toInt = (i : Int)) (hiL : i + 3 < L) (hL : L ≤ 2048) {ls : Array Slot} (hl : lv_has ls 4 [(0, .ref b), (1, .ref (a 0)), (2, .ref (bb 0)), (3, .int y)]) {Q : State → Prop} (next : ∀ (u v : Mem) (H : Heap) (locs : List Loc), Inv u v → l_W D (Xw cA a) (Yw cA bb) (fun q : Nat => s.heap.size ≤ q) s.heap u v H locs → W p l e room_1 s m #[Value.ref b] below meth c H locs 34 11789 Q (F0 m 868 ls [])) {u v : Mem} {H : Heap} {locs : List Loc} (hI : Inv u v) (hW : l_W D (Xw cA a) (Yw cA bb) (fun q : Nat => s.heap.size ≤ q) s.heap u v H locs) : W p l e room_1 s m #[Value.ref b] below meth c H locs 34 11789 Q (F0 m 299 ls []) := by
  have hx := C.1.1
  have hb := C.1.2.1
  have hX := C.2.2.2.1
  have hbl := C.2.2.2.2
  have hin := l_in hy hiL hL
  have hA : ∀ q : Nat, s.heap.size ≤ q → (fun q : Nat => s.heap.size ≤ q) q := fun _ h => h
  have hbA : ¬ (fun q : Nat => s.heap.size ≤ q) b := Nat.not_le.mpr hbl
  refine lv_aload_n hx hb dL_law_299 rfl (lv_at hl 1 rfl) ?_
  refine lv_aload_n hx hb dL_law_300 rfl (lv_at hl 0 rfl) ?_
  refine lv_iload_n hx hb dL_law_301 rfl (lv_at hl 3 rfl) ?_
  refine lv_iconst (v := 1) hx hb dL_law_302 (by decide) ?_
  refine lv_iadd hx hb dL_law_303 ?_
  refine va_sld hx hb hX hbl hbA hW.2.2.2 hin.2.1 dL_law_304 ?_
  refine lv_aload_n hx hb dL_law_305 rfl (lv_at hl 0 rfl) ?_
  refine lv_iload_n hx hb dL_law_306 rfl (lv_at hl 3 rfl) ?_
  refine lv_iconst (v := 2) hx hb dL_law_307 (by decide) ?_
  refine lv_iadd hx hb dL_law_308 ?_
  refine va_sld hx hb hX hbl hbA hW.2.2.2 hin.2.2.1 dL_law_309 ?_
  refine lv_aload_n hx hb dL_law_310 rfl (lv_at hl 0 rfl) ?_
  refine lv_iload_n hx hb dL_law_311 rfl (lv_at hl 3 rfl) ?_
  refine lv_iconst (v := 3) hx hb dL_law_312 (by decide) ?_
  refine lv_iadd hx hb dL_law_313 ?_
  refine va_sld hx hb hX hbl hbA hW.2.2.2 hin.2.2.2 dL_law_314 ?_
  refine l_cal1i (g_runV C.1 C.2.1 C.2.2.1 (l_g1 hW) (c_X4_blame l D cA a u (xs (y + 1).toNatClampNeg) (xs (y + 2).toNatClampNeg) (xs (y + 3).toNatClampNeg) _ (q_blame hI) _) kw_241 kw_242 kw_243 kw_19 kw_244 hd_X4_blame ⟨rfl, rfl, Nat.le_of_ble_eq_true rfl, Nat.le_of_ble_eq_true rfl⟩ (q0 := 0) rfl rfl (As := [.int (xs (y + 1).toNatClampNeg), .int (xs (y + 2).toNatClampNeg), .int (xs (y + 3).toNatClampNeg)]) (rest := []) rfl rfl hl.1 (Nat.le_of_ble_eq_true rfl) dL_law_315 ⟨Nat.le_of_ble_eq_true rfl, Nat.le_of_ble_eq_true rfl⟩) (Xw_adr cA a) hA hW (fun r1 u1 H locs h hW => ?_)
  refine lv_aload_n hx hb dL_law_318 rfl (lv_at hl 2 rfl) ?_
  refine lv_aload_n hx hb dL_law_319 rfl (lv_at hl 0 rfl) ?_
  refine lv_iload_n hx hb dL_law_320 rfl (lv_at hl 3 rfl) ?_
  refine lv_iconst (v := 1) hx hb dL_law_321 (by decide) ?_
  refine lv_iadd hx hb dL_law_322 ?_
  refine va_sld hx hb hX hbl hbA hW.2.2.2 hin.2.1 dL_law_323 ?_
  refine lv_aload_n hx hb dL_law_324 rfl (lv_at hl 0 rfl) ?_
  refine lv_iload_n hx hb dL_law_325 rfl (lv_at hl 3 rfl) ?_
  refine lv_iconst (v := 2) hx hb dL_law_326 (by decide) ?_
  refine lv_iadd hx hb dL_law_327 ?_
  refine va_sld hx hb hX hbl hbA hW.2.2.2 hin.2.2.1 dL_law_328 ?_
  refine lv_aload_n hx hb dL_law_329 rfl (lv_at hl 0 rfl) ?_
  refine lv_iload_n hx hb dL_law_330 rfl (lv_at hl 3 rfl) ?_
  refine lv_iconst (v := 3) hx hb dL_law_331 (by decide) ?_
  refine lv_iadd hx hb dL_law_332 ?_
  refine va_sld hx hb hX hbl hbA hW.2.2.2 hin.2.2.2 dL_law_333 ?_
  refine l_cal2i (g_runV C.1 C.2.1 C.2.2.1 (l_g2 hW) (c_X5_blame l D cA bb v (xs (y + 1).toNatClampNeg) (xs (y + 2).toNatClampNeg) (xs (y + 3).toNatClampNeg) _ h _) kw_524 kw_525 kw_526 kw_25 kw_527 hd_X5_blame ⟨rfl, rfl, Nat.le_of_ble_eq_true rfl, Nat.le_of_ble_eq_true rfl⟩ (q0 := 0) rfl rfl (As := [.int (xs (y + 1).toNatClampNeg), .int (xs (y + 2).toNatClampNeg), .int (xs (y + 3).toNatClampNeg)]) (rest := [.int r1]) rfl rfl hl.1 (Nat.le_of_ble_eq_true rfl) dL_law_334 ⟨Nat.le_of_ble_eq_true rfl, Nat.le_of_ble_eq_true rfl⟩) (Yw_adr cA bb) hA hW (fun r2 v1 H locs h hW => ?_)
  exact lv_icmp_eq (tgt := 868) hx hb dL_law_337 (by decide) (fun _ => next _ _ _ _ h.2 hW) (fun cn => absurd h.1 cn)
set_option maxHeartbeats 4000000 in
set_option maxRecDepth 100000 in
theorem law_case_7 {p : Program} {l : Launch} {e : Env} {s : State} {m : MethodId} {below : List Frame} {meth : Method} {c : Code} {b L : Nat} {xs : Nat → Int32} {D : va_G} {cA : ClassId} (C : l_C p s m c b L xs D cA) {a bb : Nat → Nat} {y : Int32} {i : Nat} (hy : y.toInt = (i : Int)) (hiL : i + 3 < L) (hL : L ≤ 2048) {ls : Array Slot} (hl : lv_has ls 4 [(0, .ref b), (1, .ref (a 0)), (2, .ref (bb 0)), (3, .int y)]) {Q : State → Prop} (next : ∀ (u v : Mem) (H : Heap) (locs : List Loc), Inv u v → l_W D (Xw cA a) (Yw cA bb) (fun q : Nat => s.heap.size ≤ q) s.heap u v H locs → W p l e room_1 s m #[Value.ref b] below meth c H locs 34 11789 Q (F0 m 868 ls [])) {u v : Mem} {H : Heap} {locs : List Loc} (hI : Inv u v) (hW : l_W D (Xw cA a) (Yw cA bb) (fun q : Nat => s.heap.size ≤ q) s.heap u v H locs) : W p l e room_1 s m #[Value.ref b] below meth c H locs 34 11789 Q (F0 m 342 ls []) := by
  have hx := C.1.1
  have hb := C.1.2.1
  have hX := C.2.2.2.1
  have hbl := C.2.2.2.2
  have hin := l_in hy hiL hL
  have hA : ∀ q : Nat, s.heap.size ≤ q → (fun q : Nat => s.heap.size ≤ q) q := fun _ h => h
  have hbA : ¬ (fun q : Nat => s.heap.size ≤ q) b := Nat.not_le.mpr hbl
  refine lv_aload_n hx hb dL_law_342 rfl (lv_at hl 1 rfl) ?_
  refine lv_aload_n hx hb dL_law_343 rfl (lv_at hl 0 rfl) ?_
  refine lv_iload_n hx hb dL_law_344 rfl (lv_at hl 3 rfl) ?_
  refine lv_iconst (v := 1) hx hb dL_law_345 (by decide) ?_
  refine lv_iadd hx hb dL_law_346 ?_
  refine va_sld hx hb hX hbl hbA hW.2.2.2 hin.2.1 dL_law_347 ?_
  refine lv_aload_n hx hb dL_law_348 rfl (lv_at hl 0 rfl) ?_
  refine lv_iload_n hx hb dL_law_349 rfl (lv_at hl 3 rfl) ?_
  refine lv_iconst (v := 2) hx hb dL_law_350 (by decide) ?_
  refine lv_iadd hx hb dL_law_351 ?_
  refine va_sld hx hb hX hbl hbA hW.2.2.2 hin.2.2.1 dL_law_352 ?_
  refine l_cal1i (g_runV C.1 C.2.1 C.2.2.1 (l_g1 hW) (c_X4_first l D cA a u (xs (y + 1).toNatClampNeg) (xs (y + 2).toNatClampNeg) _ (q_first hI) _) kw_245 kw_246 kw_247 kw_19 kw_248 hd_X4_first ⟨rfl, rfl, Nat.le_of_ble_eq_true rfl, Nat.le_of_ble_eq_true rfl⟩ (q0 := 0) rfl rfl (As := [.int (xs (y + 1).toNatClampNeg), .int (xs (y + 2).toNatClampNeg)]) (rest := []) rfl rfl hl.1 (Nat.le_of_ble_eq_true rfl) dL_law_353 ⟨Nat.le_of_ble_eq_true rfl, Nat.le_of_ble_eq_true rfl⟩) (Xw_adr cA a) hA hW (fun r1 u1 H locs h hW => ?_)
  refine lv_aload_n hx hb dL_law_356 rfl (lv_at hl 2 rfl) ?_
  refine lv_aload_n hx hb dL_law_357 rfl (lv_at hl 0 rfl) ?_
  refine lv_iload_n hx hb dL_law_358 rfl (lv_at hl 3 rfl) ?_
  refine lv_iconst (v := 1) hx hb dL_law_359 (by decide) ?_
  refine lv_iadd hx hb dL_law_360 ?_
  refine va_sld hx hb hX hbl hbA hW.2.2.2 hin.2.1 dL_law_361 ?_
  refine lv_aload_n hx hb dL_law_362 rfl (lv_at hl 0 rfl) ?_
  refine lv_iload_n hx hb dL_law_363 rfl (lv_at hl 3 rfl) ?_
  refine lv_iconst (v := 2) hx hb dL_law_364 (by decide) ?_
  refine lv_iadd hx hb dL_law_365 ?_
  refine va_sld hx hb hX hbl hbA hW.2.2.2 hin.2.2.1 dL_law_366 ?_
  refine l_cal2i (g_runV C.1 C.2.1 C.2.2.1 (l_g2 hW) (c_X5_first l D cA bb v (xs (y + 1).toNatClampNeg) (xs (y + 2).toNatClampNeg) _ h _) kw_528 kw_529 kw_530 kw_25 kw_531 hd_X5_first ⟨rfl, rfl, Nat.le_of_ble_eq_true rfl, Nat.le_of_ble_eq_true rfl⟩ (q0 := 0) rfl rfl (As := [.int (xs (y + 1).toNatClampNeg), .int (xs (y + 2).toNatClampNeg)]) (rest := [.int r1]) rfl rfl hl.1 (Nat.le_of_ble_eq_true rfl) dL_law_367 ⟨Nat.le_of_ble_eq_true rfl, Nat.le_of_ble_eq_true rfl⟩) (Yw_adr cA bb) hA hW (fun r2 v1 H locs h hW => ?_)
  exact lv_icmp_eq (tgt := 868) hx hb dL_law_370 (by decide) (fun _ => next _ _ _ _ h.2 hW) (fun cn => absurd h.1 cn)
set_option maxHeartbeats 4000000 in
set_option maxRecDepth 100000 in
theorem law_case_8 {p : Program} {l : Launch} {e : Env} {s : State} {m : MethodId} {below : List Frame} {meth : Method} {c : Code} {b L : Nat} {xs : Nat → Int32} {D : va_G} {cA : ClassId} (C : l_C p s m c b L xs D cA) {a bb : Nat → Nat} {y : Int32} {i : Nat} (hy : y.toInt = (i : Int)) (hiL : i + 3 < L) (hL : L ≤ 2048) {ls : Array Slot} (hl : lv_has ls 4 [(0, .ref b), (1, .ref (a 0)), (2, .ref (bb 0)), (3, .int y)]) {Q : State → Prop} (next : ∀ (u v : Mem) (H : Heap) (locs : List Loc), Inv u v → l_W D (Xw cA a) (Yw cA bb) (fun q : Nat => s.heap.size ≤ q) s.heap u v H locs → W p l e room_1 s m #[Value.ref b] below meth c H locs 34 11789 Q (F0 m 868 ls [])) {u v : Mem} {H : Heap} {locs : List Loc} (hI : Inv u v) (hW : l_W D (Xw cA a) (Yw cA bb) (fun q : Nat => s.heap.size ≤ q) s.heap u v H locs) : W p l e room_1 s m #[Value.ref b] below meth c H locs 34 11789 Q (F0 m 375 ls []) := by
  have hx := C.1.1
  have hb := C.1.2.1
  have hX := C.2.2.2.1
  have hbl := C.2.2.2.2
  have hin := l_in hy hiL hL
  have hA : ∀ q : Nat, s.heap.size ≤ q → (fun q : Nat => s.heap.size ≤ q) q := fun _ h => h
  have hbA : ¬ (fun q : Nat => s.heap.size ≤ q) b := Nat.not_le.mpr hbl
  refine lv_aload_n hx hb dL_law_375 rfl (lv_at hl 1 rfl) ?_
  refine lv_aload_n hx hb dL_law_376 rfl (lv_at hl 0 rfl) ?_
  refine lv_iload_n hx hb dL_law_377 rfl (lv_at hl 3 rfl) ?_
  refine lv_iconst (v := 1) hx hb dL_law_378 (by decide) ?_
  refine lv_iadd hx hb dL_law_379 ?_
  refine va_sld hx hb hX hbl hbA hW.2.2.2 hin.2.1 dL_law_380 ?_
  refine lv_aload_n hx hb dL_law_381 rfl (lv_at hl 0 rfl) ?_
  refine lv_iload_n hx hb dL_law_382 rfl (lv_at hl 3 rfl) ?_
  refine lv_iconst (v := 2) hx hb dL_law_383 (by decide) ?_
  refine lv_iadd hx hb dL_law_384 ?_
  refine va_sld hx hb hX hbl hbA hW.2.2.2 hin.2.2.1 dL_law_385 ?_
  refine l_cal1i (g_runV C.1 C.2.1 C.2.2.1 (l_g1 hW) (c_X4_differs l D cA a u (xs (y + 1).toNatClampNeg) (xs (y + 2).toNatClampNeg) _ (q_differs hI) _) kw_250 kw_251 kw_252 kw_19 kw_253 hd_X4_differs ⟨rfl, rfl, Nat.le_of_ble_eq_true rfl, Nat.le_of_ble_eq_true rfl⟩ (q0 := 0) rfl rfl (As := [.int (xs (y + 1).toNatClampNeg), .int (xs (y + 2).toNatClampNeg)]) (rest := []) rfl rfl hl.1 (Nat.le_of_ble_eq_true rfl) dL_law_386 ⟨Nat.le_of_ble_eq_true rfl, Nat.le_of_ble_eq_true rfl⟩) (Xw_adr cA a) hA hW (fun r1 u1 H locs h hW => ?_)
  refine lv_aload_n hx hb dL_law_389 rfl (lv_at hl 2 rfl) ?_
  refine lv_aload_n hx hb dL_law_390 rfl (lv_at hl 0 rfl) ?_
  refine lv_iload_n hx hb dL_law_391 rfl (lv_at hl 3 rfl) ?_
  refine lv_iconst (v := 1) hx hb dL_law_392 (by decide) ?_
  refine lv_iadd hx hb dL_law_393 ?_
  refine va_sld hx hb hX hbl hbA hW.2.2.2 hin.2.1 dL_law_394 ?_
  refine lv_aload_n hx hb dL_law_395 rfl (lv_at hl 0 rfl) ?_
  refine lv_iload_n hx hb dL_law_396 rfl (lv_at hl 3 rfl) ?_
  refine lv_iconst (v := 2) hx hb dL_law_397 (by decide) ?_
  refine lv_iadd hx hb dL_law_398 ?_
  refine va_sld hx hb hX hbl hbA hW.2.2.2 hin.2.2.1 dL_law_399 ?_
  refine l_cal2i (g_runV C.1 C.2.1 C.2.2.1 (l_g2 hW) (c_X5_differs l D cA bb v (xs (y + 1).toNatClampNeg) (xs (y + 2).toNatClampNeg) _ h _) kw_532 kw_533 kw_534 kw_25 kw_535 hd_X5_differs ⟨rfl, rfl, Nat.le_of_ble_eq_true rfl, Nat.le_of_ble_eq_true rfl⟩ (q0 := 0) rfl rfl (As := [.int (xs (y + 1).toNatClampNeg), .int (xs (y + 2).toNatClampNeg)]) (rest := [.int r1]) rfl rfl hl.1 (Nat.le_of_ble_eq_true rfl) dL_law_400 ⟨Nat.le_of_ble_eq_true rfl, Nat.le_of_ble_eq_true rfl⟩) (Yw_adr cA bb) hA hW (fun r2 v1 H locs h hW => ?_)
  exact lv_icmp_eq (tgt := 868) hx hb dL_law_403 (by decide) (fun _ => next _ _ _ _ h.2 hW) (fun cn => absurd h.1 cn)
set_option maxHeartbeats 4000000 in
set_option maxRecDepth 100000 in
theorem law_case_9 {p : Program} {l : Launch} {e : Env} {s : State} {m : MethodId} {below : List Frame} {meth : Method} {c : Code} {b L : Nat} {xs : Nat → Int32} {D : va_G} {cA : ClassId} (C : l_C p s m c b L xs D cA) {a bb : Nat → Nat} {y : Int32} {i : Nat} (hy : y.toInt = (i : Int)) (hiL : i + 3 < L) (hL : L ≤ 2048) {ls : Array Slot} (hl : lv_has ls 4 [(0, .ref b), (1, .ref (a 0)), (2, .ref (bb 0)), (3, .int y)]) {Q : State → Prop} (next : ∀ (u v : Mem) (H : Heap) (locs : List Loc), Inv u v → l_W D (Xw cA a) (Yw cA bb) (fun q : Nat => s.heap.size ≤ q) s.heap u v H locs → W p l e room_1 s m #[Value.ref b] below meth c H locs 34 11789 Q (F0 m 868 ls [])) {u v : Mem} {H : Heap} {locs : List Loc} (hI : Inv u v) (hW : l_W D (Xw cA a) (Yw cA bb) (fun q : Nat => s.heap.size ≤ q) s.heap u v H locs) : W p l e room_1 s m #[Value.ref b] below meth c H locs 34 11789 Q (F0 m 408 ls []) := by
  have hx := C.1.1
  have hb := C.1.2.1
  have hX := C.2.2.2.1
  have hbl := C.2.2.2.2
  have hin := l_in hy hiL hL
  have hA : ∀ q : Nat, s.heap.size ≤ q → (fun q : Nat => s.heap.size ≤ q) q := fun _ h => h
  have hbA : ¬ (fun q : Nat => s.heap.size ≤ q) b := Nat.not_le.mpr hbl
  refine lv_aload_n hx hb dL_law_408 rfl (lv_at hl 1 rfl) ?_
  refine lv_aload_n hx hb dL_law_409 rfl (lv_at hl 0 rfl) ?_
  refine lv_iload_n hx hb dL_law_410 rfl (lv_at hl 3 rfl) ?_
  refine lv_iconst (v := 1) hx hb dL_law_411 (by decide) ?_
  refine lv_iadd hx hb dL_law_412 ?_
  refine va_sld hx hb hX hbl hbA hW.2.2.2 hin.2.1 dL_law_413 ?_
  refine lv_aload_n hx hb dL_law_414 rfl (lv_at hl 0 rfl) ?_
  refine lv_iload_n hx hb dL_law_415 rfl (lv_at hl 3 rfl) ?_
  refine lv_iconst (v := 2) hx hb dL_law_416 (by decide) ?_
  refine lv_iadd hx hb dL_law_417 ?_
  refine va_sld hx hb hX hbl hbA hW.2.2.2 hin.2.2.1 dL_law_418 ?_
  refine lv_aload_n hx hb dL_law_419 rfl (lv_at hl 0 rfl) ?_
  refine lv_iload_n hx hb dL_law_420 rfl (lv_at hl 3 rfl) ?_
  refine lv_iconst (v := 3) hx hb dL_law_421 (by decide) ?_
  refine lv_iadd hx hb dL_law_422 ?_
  refine va_sld hx hb hX hbl hbA hW.2.2.2 hin.2.2.2 dL_law_423 ?_
  refine l_cal1i (g_runV C.1 C.2.1 C.2.2.1 (l_g1 hW) (c_X4_difference l D cA a u (xs (y + 1).toNatClampNeg) (xs (y + 2).toNatClampNeg) (xs (y + 3).toNatClampNeg) _ (q_difference hI) _) kw_271 kw_272 kw_273 kw_19 kw_274 hd_X4_difference ⟨rfl, rfl, Nat.le_of_ble_eq_true rfl, Nat.le_of_ble_eq_true rfl⟩ (q0 := 0) rfl rfl (As := [.int (xs (y + 1).toNatClampNeg), .int (xs (y + 2).toNatClampNeg), .int (xs (y + 3).toNatClampNeg)]) (rest := []) rfl rfl hl.1 (Nat.le_of_ble_eq_true rfl) dL_law_424 ⟨Nat.le_of_ble_eq_true rfl, Nat.le_of_ble_eq_true rfl⟩) (Xw_adr cA a) hA hW (fun r1 u1 H locs h hW => ?_)
  refine lv_aload_n hx hb dL_law_427 rfl (lv_at hl 2 rfl) ?_
  refine lv_aload_n hx hb dL_law_428 rfl (lv_at hl 0 rfl) ?_
  refine lv_iload_n hx hb dL_law_429 rfl (lv_at hl 3 rfl) ?_
  refine lv_iconst (v := 1) hx hb dL_law_430 (by decide) ?_
  refine lv_iadd hx hb dL_law_431 ?_
  refine va_sld hx hb hX hbl hbA hW.2.2.2 hin.2.1 dL_law_432 ?_
  refine lv_aload_n hx hb dL_law_433 rfl (lv_at hl 0 rfl) ?_
  refine lv_iload_n hx hb dL_law_434 rfl (lv_at hl 3 rfl) ?_
  refine lv_iconst (v := 2) hx hb dL_law_435 (by decide) ?_
  refine lv_iadd hx hb dL_law_436 ?_
  refine va_sld hx hb hX hbl hbA hW.2.2.2 hin.2.2.1 dL_law_437 ?_
  refine lv_aload_n hx hb dL_law_438 rfl (lv_at hl 0 rfl) ?_
  refine lv_iload_n hx hb dL_law_439 rfl (lv_at hl 3 rfl) ?_
  refine lv_iconst (v := 3) hx hb dL_law_440 (by decide) ?_
  refine lv_iadd hx hb dL_law_441 ?_
  refine va_sld hx hb hX hbl hbA hW.2.2.2 hin.2.2.2 dL_law_442 ?_
  refine l_cal2i (g_runV C.1 C.2.1 C.2.2.1 (l_g2 hW) (c_X5_difference l D cA bb v (xs (y + 1).toNatClampNeg) (xs (y + 2).toNatClampNeg) (xs (y + 3).toNatClampNeg) _ h _) kw_540 kw_541 kw_542 kw_25 kw_543 hd_X5_difference ⟨rfl, rfl, Nat.le_of_ble_eq_true rfl, Nat.le_of_ble_eq_true rfl⟩ (q0 := 0) rfl rfl (As := [.int (xs (y + 1).toNatClampNeg), .int (xs (y + 2).toNatClampNeg), .int (xs (y + 3).toNatClampNeg)]) (rest := [.int r1]) rfl rfl hl.1 (Nat.le_of_ble_eq_true rfl) dL_law_443 ⟨Nat.le_of_ble_eq_true rfl, Nat.le_of_ble_eq_true rfl⟩) (Yw_adr cA bb) hA hW (fun r2 v1 H locs h hW => ?_)
  exact lv_icmp_eq (tgt := 868) hx hb dL_law_446 (by decide) (fun _ => next _ _ _ _ h.2 hW) (fun cn => absurd h.1 cn)
set_option maxHeartbeats 4000000 in
set_option maxRecDepth 100000 in
theorem law_case_10 {p : Program} {l : Launch} {e : Env} {s : State} {m : MethodId} {below : List Frame} {meth : Method} {c : Code} {b L : Nat} {xs : Nat → Int32} {D : va_G} {cA : ClassId} (C : l_C p s m c b L xs D cA) {a bb : Nat → Nat} {y : Int32} {i : Nat} (hy : y.toInt = (i : Int)) (hiL : i + 3 < L) (hL : L ≤ 2048) {ls : Array Slot} (hl : lv_has ls 4 [(0, .ref b), (1, .ref (a 0)), (2, .ref (bb 0)), (3, .int y)]) {Q : State → Prop} (next : ∀ (u v : Mem) (H : Heap) (locs : List Loc), Inv u v → l_W D (Xw cA a) (Yw cA bb) (fun q : Nat => s.heap.size ≤ q) s.heap u v H locs → W p l e room_1 s m #[Value.ref b] below meth c H locs 34 11789 Q (F0 m 868 ls [])) {u v : Mem} {H : Heap} {locs : List Loc} (hI : Inv u v) (hW : l_W D (Xw cA a) (Yw cA bb) (fun q : Nat => s.heap.size ≤ q) s.heap u v H locs) : W p l e room_1 s m #[Value.ref b] below meth c H locs 34 11789 Q (F0 m 451 ls []) := by
  have hx := C.1.1
  have hb := C.1.2.1
  have hX := C.2.2.2.1
  have hbl := C.2.2.2.2
  have hin := l_in hy hiL hL
  have hA : ∀ q : Nat, s.heap.size ≤ q → (fun q : Nat => s.heap.size ≤ q) q := fun _ h => h
  have hbA : ¬ (fun q : Nat => s.heap.size ≤ q) b := Nat.not_le.mpr hbl
  refine lv_aload_n hx hb dL_law_451 rfl (lv_at hl 1 rfl) ?_
  refine lv_aload_n hx hb dL_law_452 rfl (lv_at hl 0 rfl) ?_
  refine lv_iload_n hx hb dL_law_453 rfl (lv_at hl 3 rfl) ?_
  refine lv_iconst (v := 1) hx hb dL_law_454 (by decide) ?_
  refine lv_iadd hx hb dL_law_455 ?_
  refine va_sld hx hb hX hbl hbA hW.2.2.2 hin.2.1 dL_law_456 ?_
  refine l_cal1i (g_runV C.1 C.2.1 C.2.2.1 (l_g1 hW) (c_X4_rule l D cA a u (xs (y + 1).toNatClampNeg) _ (q_rule hI) _) kw_275 kw_276 kw_277 kw_19 kw_278 hd_X4_rule ⟨rfl, rfl, Nat.le_of_ble_eq_true rfl, Nat.le_of_ble_eq_true rfl⟩ (q0 := 0) rfl rfl (As := [.int (xs (y + 1).toNatClampNeg)]) (rest := []) rfl rfl hl.1 (Nat.le_of_ble_eq_true rfl) dL_law_457 ⟨Nat.le_of_ble_eq_true rfl, Nat.le_of_ble_eq_true rfl⟩) (Xw_adr cA a) hA hW (fun r1 u1 H locs h hW => ?_)
  refine lv_aload_n hx hb dL_law_460 rfl (lv_at hl 2 rfl) ?_
  refine lv_aload_n hx hb dL_law_461 rfl (lv_at hl 0 rfl) ?_
  refine lv_iload_n hx hb dL_law_462 rfl (lv_at hl 3 rfl) ?_
  refine lv_iconst (v := 1) hx hb dL_law_463 (by decide) ?_
  refine lv_iadd hx hb dL_law_464 ?_
  refine va_sld hx hb hX hbl hbA hW.2.2.2 hin.2.1 dL_law_465 ?_
  refine l_cal2i (g_runV C.1 C.2.1 C.2.2.1 (l_g2 hW) (c_X5_rule l D cA bb v (xs (y + 1).toNatClampNeg) _ h _) kw_544 kw_545 kw_546 kw_25 kw_547 hd_X5_rule ⟨rfl, rfl, Nat.le_of_ble_eq_true rfl, Nat.le_of_ble_eq_true rfl⟩ (q0 := 0) rfl rfl (As := [.int (xs (y + 1).toNatClampNeg)]) (rest := [.int r1]) rfl rfl hl.1 (Nat.le_of_ble_eq_true rfl) dL_law_466 ⟨Nat.le_of_ble_eq_true rfl, Nat.le_of_ble_eq_true rfl⟩) (Yw_adr cA bb) hA hW (fun r2 v1 H locs h hW => ?_)
  exact lv_icmp_eq (tgt := 868) hx hb dL_law_469 (by decide) (fun _ => next _ _ _ _ h.2 hW) (fun cn => absurd h.1 cn)
set_option maxHeartbeats 4000000 in
set_option maxRecDepth 100000 in
theorem law_case_11 {p : Program} {l : Launch} {e : Env} {s : State} {m : MethodId} {below : List Frame} {meth : Method} {c : Code} {b L : Nat} {xs : Nat → Int32} {D : va_G} {cA : ClassId} (C : l_C p s m c b L xs D cA) {a bb : Nat → Nat} {y : Int32} {i : Nat} (hy : y.toInt = (i : Int)) (hiL : i + 3 < L) (hL : L ≤ 2048) {ls : Array Slot} (hl : lv_has ls 4 [(0, .ref b), (1, .ref (a 0)), (2, .ref (bb 0)), (3, .int y)]) {Q : State → Prop} (next : ∀ (u v : Mem) (H : Heap) (locs : List Loc), Inv u v → l_W D (Xw cA a) (Yw cA bb) (fun q : Nat => s.heap.size ≤ q) s.heap u v H locs → W p l e room_1 s m #[Value.ref b] below meth c H locs 34 11789 Q (F0 m 868 ls [])) {u v : Mem} {H : Heap} {locs : List Loc} (hI : Inv u v) (hW : l_W D (Xw cA a) (Yw cA bb) (fun q : Nat => s.heap.size ≤ q) s.heap u v H locs) : W p l e room_1 s m #[Value.ref b] below meth c H locs 34 11789 Q (F0 m 474 ls []) := by
  have hx := C.1.1
  have hb := C.1.2.1
  have hX := C.2.2.2.1
  have hbl := C.2.2.2.2
  have hin := l_in hy hiL hL
  have hA : ∀ q : Nat, s.heap.size ≤ q → (fun q : Nat => s.heap.size ≤ q) q := fun _ h => h
  have hbA : ¬ (fun q : Nat => s.heap.size ≤ q) b := Nat.not_le.mpr hbl
  refine lv_aload_n hx hb dL_law_474 rfl (lv_at hl 1 rfl) ?_
  refine lv_aload_n hx hb dL_law_475 rfl (lv_at hl 0 rfl) ?_
  refine lv_iload_n hx hb dL_law_476 rfl (lv_at hl 3 rfl) ?_
  refine lv_iconst (v := 1) hx hb dL_law_477 (by decide) ?_
  refine lv_iadd hx hb dL_law_478 ?_
  refine va_sld hx hb hX hbl hbA hW.2.2.2 hin.2.1 dL_law_479 ?_
  refine l_cal1i (g_runV C.1 C.2.1 C.2.2.1 (l_g1 hW) (c_X4_prune l D cA a u (xs (y + 1).toNatClampNeg) _ (q_prune hI) _) kw_279 kw_280 kw_281 kw_19 kw_282 hd_X4_prune ⟨rfl, rfl, Nat.le_of_ble_eq_true rfl, Nat.le_of_ble_eq_true rfl⟩ (q0 := 0) rfl rfl (As := [.int (xs (y + 1).toNatClampNeg)]) (rest := []) rfl rfl hl.1 (Nat.le_of_ble_eq_true rfl) dL_law_480 ⟨Nat.le_of_ble_eq_true rfl, Nat.le_of_ble_eq_true rfl⟩) (Xw_adr cA a) hA hW (fun r1 u1 H locs h hW => ?_)
  refine lv_aload_n hx hb dL_law_483 rfl (lv_at hl 2 rfl) ?_
  refine lv_aload_n hx hb dL_law_484 rfl (lv_at hl 0 rfl) ?_
  refine lv_iload_n hx hb dL_law_485 rfl (lv_at hl 3 rfl) ?_
  refine lv_iconst (v := 1) hx hb dL_law_486 (by decide) ?_
  refine lv_iadd hx hb dL_law_487 ?_
  refine va_sld hx hb hX hbl hbA hW.2.2.2 hin.2.1 dL_law_488 ?_
  refine l_cal2i (g_runV C.1 C.2.1 C.2.2.1 (l_g2 hW) (c_X5_prune l D cA bb v (xs (y + 1).toNatClampNeg) _ h _) kw_548 kw_549 kw_550 kw_25 kw_551 hd_X5_prune ⟨rfl, rfl, Nat.le_of_ble_eq_true rfl, Nat.le_of_ble_eq_true rfl⟩ (q0 := 0) rfl rfl (As := [.int (xs (y + 1).toNatClampNeg)]) (rest := [.int r1]) rfl rfl hl.1 (Nat.le_of_ble_eq_true rfl) dL_law_489 ⟨Nat.le_of_ble_eq_true rfl, Nat.le_of_ble_eq_true rfl⟩) (Yw_adr cA bb) hA hW (fun r2 v1 H locs h hW => ?_)
  exact lv_icmp_eq (tgt := 868) hx hb dL_law_492 (by decide) (fun _ => next _ _ _ _ h.2 hW) (fun cn => absurd h.1 cn)
set_option maxHeartbeats 4000000 in
set_option maxRecDepth 100000 in
theorem law_case_12 {p : Program} {l : Launch} {e : Env} {s : State} {m : MethodId} {below : List Frame} {meth : Method} {c : Code} {b L : Nat} {xs : Nat → Int32} {D : va_G} {cA : ClassId} (C : l_C p s m c b L xs D cA) {a bb : Nat → Nat} {y : Int32} {i : Nat} (hy : y.toInt = (i : Int)) (hiL : i + 3 < L) (hL : L ≤ 2048) {ls : Array Slot} (hl : lv_has ls 4 [(0, .ref b), (1, .ref (a 0)), (2, .ref (bb 0)), (3, .int y)]) {Q : State → Prop} (next : ∀ (u v : Mem) (H : Heap) (locs : List Loc), Inv u v → l_W D (Xw cA a) (Yw cA bb) (fun q : Nat => s.heap.size ≤ q) s.heap u v H locs → W p l e room_1 s m #[Value.ref b] below meth c H locs 34 11789 Q (F0 m 868 ls [])) {u v : Mem} {H : Heap} {locs : List Loc} (hI : Inv u v) (hW : l_W D (Xw cA a) (Yw cA bb) (fun q : Nat => s.heap.size ≤ q) s.heap u v H locs) : W p l e room_1 s m #[Value.ref b] below meth c H locs 34 11789 Q (F0 m 497 ls []) := by
  have hx := C.1.1
  have hb := C.1.2.1
  have hX := C.2.2.2.1
  have hbl := C.2.2.2.2
  have hin := l_in hy hiL hL
  have hA : ∀ q : Nat, s.heap.size ≤ q → (fun q : Nat => s.heap.size ≤ q) q := fun _ h => h
  have hbA : ¬ (fun q : Nat => s.heap.size ≤ q) b := Nat.not_le.mpr hbl
  refine lv_aload_n hx hb dL_law_497 rfl (lv_at hl 1 rfl) ?_
  refine lv_aload_n hx hb dL_law_498 rfl (lv_at hl 0 rfl) ?_
  refine lv_iload_n hx hb dL_law_499 rfl (lv_at hl 3 rfl) ?_
  refine lv_iconst (v := 1) hx hb dL_law_500 (by decide) ?_
  refine lv_iadd hx hb dL_law_501 ?_
  refine va_sld hx hb hX hbl hbA hW.2.2.2 hin.2.1 dL_law_502 ?_
  refine l_cal1i (g_runV C.1 C.2.1 C.2.2.1 (l_g1 hW) (c_X4_pruned l D cA a u (xs (y + 1).toNatClampNeg) _ (q_pruned hI) _) kw_304 kw_305 kw_306 kw_19 kw_307 hd_X4_pruned ⟨rfl, rfl, Nat.le_of_ble_eq_true rfl, Nat.le_of_ble_eq_true rfl⟩ (q0 := 0) rfl rfl (As := [.int (xs (y + 1).toNatClampNeg)]) (rest := []) rfl rfl hl.1 (Nat.le_of_ble_eq_true rfl) dL_law_503 ⟨Nat.le_of_ble_eq_true rfl, Nat.le_of_ble_eq_true rfl⟩) (Xw_adr cA a) hA hW (fun r1 u1 H locs h hW => ?_)
  refine lv_aload_n hx hb dL_law_506 rfl (lv_at hl 2 rfl) ?_
  refine lv_aload_n hx hb dL_law_507 rfl (lv_at hl 0 rfl) ?_
  refine lv_iload_n hx hb dL_law_508 rfl (lv_at hl 3 rfl) ?_
  refine lv_iconst (v := 1) hx hb dL_law_509 (by decide) ?_
  refine lv_iadd hx hb dL_law_510 ?_
  refine va_sld hx hb hX hbl hbA hW.2.2.2 hin.2.1 dL_law_511 ?_
  refine l_cal2i (g_runV C.1 C.2.1 C.2.2.1 (l_g2 hW) (c_X5_pruned l D cA bb v (xs (y + 1).toNatClampNeg) _ h _) kw_560 kw_561 kw_562 kw_25 kw_563 hd_X5_pruned ⟨rfl, rfl, Nat.le_of_ble_eq_true rfl, Nat.le_of_ble_eq_true rfl⟩ (q0 := 0) rfl rfl (As := [.int (xs (y + 1).toNatClampNeg)]) (rest := [.int r1]) rfl rfl hl.1 (Nat.le_of_ble_eq_true rfl) dL_law_512 ⟨Nat.le_of_ble_eq_true rfl, Nat.le_of_ble_eq_true rfl⟩) (Yw_adr cA bb) hA hW (fun r2 v1 H locs h hW => ?_)
  exact lv_icmp_eq (tgt := 868) hx hb dL_law_515 (by decide) (fun _ => next _ _ _ _ h.2 hW) (fun cn => absurd h.1 cn)
set_option maxHeartbeats 4000000 in
set_option maxRecDepth 100000 in
theorem law_case_13 {p : Program} {l : Launch} {e : Env} {s : State} {m : MethodId} {below : List Frame} {meth : Method} {c : Code} {b L : Nat} {xs : Nat → Int32} {D : va_G} {cA : ClassId} (C : l_C p s m c b L xs D cA) {a bb : Nat → Nat} {y : Int32} {i : Nat} (hy : y.toInt = (i : Int)) (hiL : i + 3 < L) (hL : L ≤ 2048) {ls : Array Slot} (hl : lv_has ls 4 [(0, .ref b), (1, .ref (a 0)), (2, .ref (bb 0)), (3, .int y)]) {Q : State → Prop} (next : ∀ (u v : Mem) (H : Heap) (locs : List Loc), Inv u v → l_W D (Xw cA a) (Yw cA bb) (fun q : Nat => s.heap.size ≤ q) s.heap u v H locs → W p l e room_1 s m #[Value.ref b] below meth c H locs 34 11789 Q (F0 m 868 ls [])) {u v : Mem} {H : Heap} {locs : List Loc} (hI : Inv u v) (hW : l_W D (Xw cA a) (Yw cA bb) (fun q : Nat => s.heap.size ≤ q) s.heap u v H locs) : W p l e room_1 s m #[Value.ref b] below meth c H locs 34 11789 Q (F0 m 520 ls []) := by
  have hx := C.1.1
  have hb := C.1.2.1
  have hX := C.2.2.2.1
  have hbl := C.2.2.2.2
  have hin := l_in hy hiL hL
  have hA : ∀ q : Nat, s.heap.size ≤ q → (fun q : Nat => s.heap.size ≤ q) q := fun _ h => h
  have hbA : ¬ (fun q : Nat => s.heap.size ≤ q) b := Nat.not_le.mpr hbl
  refine lv_aload_n hx hb dL_law_520 rfl (lv_at hl 1 rfl) ?_
  refine l_cal1i (g_runV C.1 C.2.1 C.2.2.1 (l_g1 hW) (c_X4_bring l D cA a u  _ (q_bring hI) _) kw_308 kw_309 kw_310 kw_19 kw_311 hd_X4_bring ⟨rfl, rfl, Nat.le_of_ble_eq_true rfl, Nat.le_of_ble_eq_true rfl⟩ (q0 := 0) rfl rfl (As := []) (rest := []) rfl rfl hl.1 (Nat.le_of_ble_eq_true rfl) dL_law_521 ⟨Nat.le_of_ble_eq_true rfl, Nat.le_of_ble_eq_true rfl⟩) (Xw_adr cA a) hA hW (fun r1 u1 H locs h hW => ?_)
  refine lv_aload_n hx hb dL_law_524 rfl (lv_at hl 2 rfl) ?_
  refine l_cal2i (g_runV C.1 C.2.1 C.2.2.1 (l_g2 hW) (c_X5_bring l D cA bb v  _ h _) kw_564 kw_565 kw_566 kw_25 kw_567 hd_X5_bring ⟨rfl, rfl, Nat.le_of_ble_eq_true rfl, Nat.le_of_ble_eq_true rfl⟩ (q0 := 0) rfl rfl (As := []) (rest := [.int r1]) rfl rfl hl.1 (Nat.le_of_ble_eq_true rfl) dL_law_525 ⟨Nat.le_of_ble_eq_true rfl, Nat.le_of_ble_eq_true rfl⟩) (Yw_adr cA bb) hA hW (fun r2 v1 H locs h hW => ?_)
  exact lv_icmp_eq (tgt := 868) hx hb dL_law_528 (by decide) (fun _ => next _ _ _ _ h.2 hW) (fun cn => absurd h.1 cn)
set_option maxHeartbeats 4000000 in
set_option maxRecDepth 100000 in
theorem law_case_14 {p : Program} {l : Launch} {e : Env} {s : State} {m : MethodId} {below : List Frame} {meth : Method} {c : Code} {b L : Nat} {xs : Nat → Int32} {D : va_G} {cA : ClassId} (C : l_C p s m c b L xs D cA) {a bb : Nat → Nat} {y : Int32} {i : Nat} (hy : y.toInt = (i : Int)) (hiL : i + 3 < L) (hL : L ≤ 2048) {ls : Array Slot} (hl : lv_has ls 4 [(0, .ref b), (1, .ref (a 0)), (2, .ref (bb 0)), (3, .int y)]) {Q : State → Prop} (next : ∀ (u v : Mem) (H : Heap) (locs : List Loc), Inv u v → l_W D (Xw cA a) (Yw cA bb) (fun q : Nat => s.heap.size ≤ q) s.heap u v H locs → W p l e room_1 s m #[Value.ref b] below meth c H locs 34 11789 Q (F0 m 868 ls [])) {u v : Mem} {H : Heap} {locs : List Loc} (hI : Inv u v) (hW : l_W D (Xw cA a) (Yw cA bb) (fun q : Nat => s.heap.size ≤ q) s.heap u v H locs) : W p l e room_1 s m #[Value.ref b] below meth c H locs 34 11789 Q (F0 m 533 ls []) := by
  have hx := C.1.1
  have hb := C.1.2.1
  have hX := C.2.2.2.1
  have hbl := C.2.2.2.2
  have hin := l_in hy hiL hL
  have hA : ∀ q : Nat, s.heap.size ≤ q → (fun q : Nat => s.heap.size ≤ q) q := fun _ h => h
  have hbA : ¬ (fun q : Nat => s.heap.size ≤ q) b := Nat.not_le.mpr hbl
  refine lv_aload_n hx hb dL_law_533 rfl (lv_at hl 1 rfl) ?_
  refine l_cal1i (g_runV C.1 C.2.1 C.2.2.1 (l_g1 hW) (c_X4_forget l D cA a u  _ (q_forget hI) _) kw_320 kw_321 kw_322 kw_19 kw_323 hd_X4_forget ⟨rfl, rfl, Nat.le_of_ble_eq_true rfl, Nat.le_of_ble_eq_true rfl⟩ (q0 := 0) rfl rfl (As := []) (rest := []) rfl rfl hl.1 (Nat.le_of_ble_eq_true rfl) dL_law_534 ⟨Nat.le_of_ble_eq_true rfl, Nat.le_of_ble_eq_true rfl⟩) (Xw_adr cA a) hA hW (fun r1 u1 H locs h hW => ?_)
  refine lv_aload_n hx hb dL_law_537 rfl (lv_at hl 2 rfl) ?_
  refine l_cal2i (g_runV C.1 C.2.1 C.2.2.1 (l_g2 hW) (c_X5_forget l D cA bb v  _ h _) kw_568 kw_569 kw_570 kw_25 kw_571 hd_X5_forget ⟨rfl, rfl, Nat.le_of_ble_eq_true rfl, Nat.le_of_ble_eq_true rfl⟩ (q0 := 0) rfl rfl (As := []) (rest := [.int r1]) rfl rfl hl.1 (Nat.le_of_ble_eq_true rfl) dL_law_538 ⟨Nat.le_of_ble_eq_true rfl, Nat.le_of_ble_eq_true rfl⟩) (Yw_adr cA bb) hA hW (fun r2 v1 H locs h hW => ?_)
  exact lv_icmp_eq (tgt := 868) hx hb dL_law_541 (by decide) (fun _ => next _ _ _ _ h.2 hW) (fun cn => absurd h.1 cn)
set_option maxHeartbeats 4000000 in
set_option maxRecDepth 100000 in
theorem law_case_15 {p : Program} {l : Launch} {e : Env} {s : State} {m : MethodId} {below : List Frame} {meth : Method} {c : Code} {b L : Nat} {xs : Nat → Int32} {D : va_G} {cA : ClassId} (C : l_C p s m c b L xs D cA) {a bb : Nat → Nat} {y : Int32} {i : Nat} (hy : y.toInt = (i : Int)) (hiL : i + 3 < L) (hL : L ≤ 2048) {ls : Array Slot} (hl : lv_has ls 4 [(0, .ref b), (1, .ref (a 0)), (2, .ref (bb 0)), (3, .int y)]) {Q : State → Prop} (next : ∀ (u v : Mem) (H : Heap) (locs : List Loc), Inv u v → l_W D (Xw cA a) (Yw cA bb) (fun q : Nat => s.heap.size ≤ q) s.heap u v H locs → W p l e room_1 s m #[Value.ref b] below meth c H locs 34 11789 Q (F0 m 868 ls [])) {u v : Mem} {H : Heap} {locs : List Loc} (hI : Inv u v) (hW : l_W D (Xw cA a) (Yw cA bb) (fun q : Nat => s.heap.size ≤ q) s.heap u v H locs) : W p l e room_1 s m #[Value.ref b] below meth c H locs 34 11789 Q (F0 m 546 ls []) := by
  have hx := C.1.1
  have hb := C.1.2.1
  have hX := C.2.2.2.1
  have hbl := C.2.2.2.2
  have hin := l_in hy hiL hL
  have hA : ∀ q : Nat, s.heap.size ≤ q → (fun q : Nat => s.heap.size ≤ q) q := fun _ h => h
  have hbA : ¬ (fun q : Nat => s.heap.size ≤ q) b := Nat.not_le.mpr hbl
  refine lv_aload_n hx hb dL_law_546 rfl (lv_at hl 1 rfl) ?_
  refine lv_aload_n hx hb dL_law_547 rfl (lv_at hl 0 rfl) ?_
  refine lv_iload_n hx hb dL_law_548 rfl (lv_at hl 3 rfl) ?_
  refine lv_iconst (v := 1) hx hb dL_law_549 (by decide) ?_
  refine lv_iadd hx hb dL_law_550 ?_
  refine va_sld hx hb hX hbl hbA hW.2.2.2 hin.2.1 dL_law_551 ?_
  refine lv_aload_n hx hb dL_law_552 rfl (lv_at hl 0 rfl) ?_
  refine lv_iload_n hx hb dL_law_553 rfl (lv_at hl 3 rfl) ?_
  refine lv_iconst (v := 2) hx hb dL_law_554 (by decide) ?_
  refine lv_iadd hx hb dL_law_555 ?_
  refine va_sld hx hb hX hbl hbA hW.2.2.2 hin.2.2.1 dL_law_556 ?_
  refine l_cal1i (g_runV C.1 C.2.1 C.2.2.1 (l_g1 hW) (c_X4_archive l D cA a u (xs (y + 1).toNatClampNeg) (xs (y + 2).toNatClampNeg) _ (q_archive hI) _) kw_332 kw_333 kw_334 kw_19 kw_335 hd_X4_archive ⟨rfl, rfl, Nat.le_of_ble_eq_true rfl, Nat.le_of_ble_eq_true rfl⟩ (q0 := 0) rfl rfl (As := [.int (xs (y + 1).toNatClampNeg), .int (xs (y + 2).toNatClampNeg)]) (rest := []) rfl rfl hl.1 (Nat.le_of_ble_eq_true rfl) dL_law_557 ⟨Nat.le_of_ble_eq_true rfl, Nat.le_of_ble_eq_true rfl⟩) (Xw_adr cA a) hA hW (fun r1 u1 H locs h hW => ?_)
  refine lv_aload_n hx hb dL_law_560 rfl (lv_at hl 2 rfl) ?_
  refine lv_aload_n hx hb dL_law_561 rfl (lv_at hl 0 rfl) ?_
  refine lv_iload_n hx hb dL_law_562 rfl (lv_at hl 3 rfl) ?_
  refine lv_iconst (v := 1) hx hb dL_law_563 (by decide) ?_
  refine lv_iadd hx hb dL_law_564 ?_
  refine va_sld hx hb hX hbl hbA hW.2.2.2 hin.2.1 dL_law_565 ?_
  refine lv_aload_n hx hb dL_law_566 rfl (lv_at hl 0 rfl) ?_
  refine lv_iload_n hx hb dL_law_567 rfl (lv_at hl 3 rfl) ?_
  refine lv_iconst (v := 2) hx hb dL_law_568 (by decide) ?_
  refine lv_iadd hx hb dL_law_569 ?_
  refine va_sld hx hb hX hbl hbA hW.2.2.2 hin.2.2.1 dL_law_570 ?_
  refine l_cal2i (g_runV C.1 C.2.1 C.2.2.1 (l_g2 hW) (c_X5_archive l D cA bb v (xs (y + 1).toNatClampNeg) (xs (y + 2).toNatClampNeg) _ h _) kw_576 kw_577 kw_578 kw_25 kw_579 hd_X5_archive ⟨rfl, rfl, Nat.le_of_ble_eq_true rfl, Nat.le_of_ble_eq_true rfl⟩ (q0 := 0) rfl rfl (As := [.int (xs (y + 1).toNatClampNeg), .int (xs (y + 2).toNatClampNeg)]) (rest := [.int r1]) rfl rfl hl.1 (Nat.le_of_ble_eq_true rfl) dL_law_571 ⟨Nat.le_of_ble_eq_true rfl, Nat.le_of_ble_eq_true rfl⟩) (Yw_adr cA bb) hA hW (fun r2 v1 H locs h hW => ?_)
  exact lv_icmp_eq (tgt := 868) hx hb dL_law_574 (by decide) (fun _ => next _ _ _ _ h.2 hW) (fun cn => absurd h.1 cn)
set_option maxHeartbeats 4000000 in
set_option maxRecDepth 100000 in
theorem law_case_16 {p : Program} {l : Launch} {e : Env} {s : State} {m : MethodId} {below : List Frame} {meth : Method} {c : Code} {b L : Nat} {xs : Nat → Int32} {D : va_G} {cA : ClassId} (C : l_C p s m c b L xs D cA) {a bb : Nat → Nat} {y : Int32} {i : Nat} (hy : y.toInt = (i : Int)) (hiL : i + 3 < L) (hL : L ≤ 2048) {ls : Array Slot} (hl : lv_has ls 4 [(0, .ref b), (1, .ref (a 0)), (2, .ref (bb 0)), (3, .int y)]) {Q : State → Prop} (next : ∀ (u v : Mem) (H : Heap) (locs : List Loc), Inv u v → l_W D (Xw cA a) (Yw cA bb) (fun q : Nat => s.heap.size ≤ q) s.heap u v H locs → W p l e room_1 s m #[Value.ref b] below meth c H locs 34 11789 Q (F0 m 868 ls [])) {u v : Mem} {H : Heap} {locs : List Loc} (hI : Inv u v) (hW : l_W D (Xw cA a) (Yw cA bb) (fun q : Nat => s.heap.size ≤ q) s.heap u v H locs) : W p l e room_1 s m #[Value.ref b] below meth c H locs 34 11789 Q (F0 m 579 ls []) := by
  have hx := C.1.1
  have hb := C.1.2.1
  have hX := C.2.2.2.1
  have hbl := C.2.2.2.2
  have hin := l_in hy hiL hL
  have hA : ∀ q : Nat, s.heap.size ≤ q → (fun q : Nat => s.heap.size ≤ q) q := fun _ h => h
  have hbA : ¬ (fun q : Nat => s.heap.size ≤ q) b := Nat.not_le.mpr hbl
  refine lv_aload_n hx hb dL_law_579 rfl (lv_at hl 1 rfl) ?_
  refine lv_aload_n hx hb dL_law_580 rfl (lv_at hl 0 rfl) ?_
  refine lv_iload_n hx hb dL_law_581 rfl (lv_at hl 3 rfl) ?_
  refine lv_iconst (v := 1) hx hb dL_law_582 (by decide) ?_
  refine lv_iadd hx hb dL_law_583 ?_
  refine va_sld hx hb hX hbl hbA hW.2.2.2 hin.2.1 dL_law_584 ?_
  refine lv_aload_n hx hb dL_law_585 rfl (lv_at hl 0 rfl) ?_
  refine lv_iload_n hx hb dL_law_586 rfl (lv_at hl 3 rfl) ?_
  refine lv_iconst (v := 2) hx hb dL_law_587 (by decide) ?_
  refine lv_iadd hx hb dL_law_588 ?_
  refine va_sld hx hb hX hbl hbA hW.2.2.2 hin.2.2.1 dL_law_589 ?_
  refine l_cal1l (g_runV C.1 C.2.1 C.2.2.1 (l_g1 hW) (c_X4_replay l D cA a u (xs (y + 1).toNatClampNeg) (xs (y + 2).toNatClampNeg) _ (q_replay hI) _) kw_344 kw_345 kw_346 kw_19 kw_347 hd_X4_replay ⟨rfl, rfl, Nat.le_of_ble_eq_true rfl, Nat.le_of_ble_eq_true rfl⟩ (q0 := 0) rfl rfl (As := [.int (xs (y + 1).toNatClampNeg), .int (xs (y + 2).toNatClampNeg)]) (rest := []) rfl rfl hl.1 (Nat.le_of_ble_eq_true rfl) dL_law_590 ⟨Nat.le_of_ble_eq_true rfl, Nat.le_of_ble_eq_true rfl⟩) (Xw_adr cA a) hA hW (fun r1 u1 H locs h hW => ?_)
  refine lv_aload_n hx hb dL_law_593 rfl (lv_at hl 2 rfl) ?_
  refine lv_aload_n hx hb dL_law_594 rfl (lv_at hl 0 rfl) ?_
  refine lv_iload_n hx hb dL_law_595 rfl (lv_at hl 3 rfl) ?_
  refine lv_iconst (v := 1) hx hb dL_law_596 (by decide) ?_
  refine lv_iadd hx hb dL_law_597 ?_
  refine va_sld hx hb hX hbl hbA hW.2.2.2 hin.2.1 dL_law_598 ?_
  refine lv_aload_n hx hb dL_law_599 rfl (lv_at hl 0 rfl) ?_
  refine lv_iload_n hx hb dL_law_600 rfl (lv_at hl 3 rfl) ?_
  refine lv_iconst (v := 2) hx hb dL_law_601 (by decide) ?_
  refine lv_iadd hx hb dL_law_602 ?_
  refine va_sld hx hb hX hbl hbA hW.2.2.2 hin.2.2.1 dL_law_603 ?_
  refine l_cal2l (g_runV C.1 C.2.1 C.2.2.1 (l_g2 hW) (c_X5_replay l D cA bb v (xs (y + 1).toNatClampNeg) (xs (y + 2).toNatClampNeg) _ h _) kw_588 kw_589 kw_590 kw_25 kw_591 hd_X5_replay ⟨rfl, rfl, Nat.le_of_ble_eq_true rfl, Nat.le_of_ble_eq_true rfl⟩ (q0 := 0) rfl rfl (As := [.int (xs (y + 1).toNatClampNeg), .int (xs (y + 2).toNatClampNeg)]) (rest := [.long r1]) rfl rfl hl.1 (Nat.le_of_ble_eq_true rfl) dL_law_604 ⟨Nat.le_of_ble_eq_true rfl, Nat.le_of_ble_eq_true rfl⟩) (Yw_adr cA bb) hA hW (fun r2 v1 H locs h hW => ?_)
  refine W.lcmp hx hb dL_law_607 ?_
  exact lv_if_eq (tgt := 868) hx hb dL_law_608 (by decide) (fun _ => next _ _ _ _ h.2 hW) (fun cn => absurd (lc_eq0 h.1) cn)
set_option maxHeartbeats 4000000 in
set_option maxRecDepth 100000 in
theorem law_case_17 {p : Program} {l : Launch} {e : Env} {s : State} {m : MethodId} {below : List Frame} {meth : Method} {c : Code} {b L : Nat} {xs : Nat → Int32} {D : va_G} {cA : ClassId} (C : l_C p s m c b L xs D cA) {a bb : Nat → Nat} {y : Int32} {i : Nat} (hy : y.toInt = (i : Int)) (hiL : i + 3 < L) (hL : L ≤ 2048) {ls : Array Slot} (hl : lv_has ls 4 [(0, .ref b), (1, .ref (a 0)), (2, .ref (bb 0)), (3, .int y)]) {Q : State → Prop} (next : ∀ (u v : Mem) (H : Heap) (locs : List Loc), Inv u v → l_W D (Xw cA a) (Yw cA bb) (fun q : Nat => s.heap.size ≤ q) s.heap u v H locs → W p l e room_1 s m #[Value.ref b] below meth c H locs 34 11789 Q (F0 m 868 ls [])) {u v : Mem} {H : Heap} {locs : List Loc} (hI : Inv u v) (hW : l_W D (Xw cA a) (Yw cA bb) (fun q : Nat => s.heap.size ≤ q) s.heap u v H locs) : W p l e room_1 s m #[Value.ref b] below meth c H locs 34 11789 Q (F0 m 613 ls []) := by
  have hx := C.1.1
  have hb := C.1.2.1
  have hX := C.2.2.2.1
  have hbl := C.2.2.2.2
  have hin := l_in hy hiL hL
  have hA : ∀ q : Nat, s.heap.size ≤ q → (fun q : Nat => s.heap.size ≤ q) q := fun _ h => h
  have hbA : ¬ (fun q : Nat => s.heap.size ≤ q) b := Nat.not_le.mpr hbl
  refine lv_aload_n hx hb dL_law_613 rfl (lv_at hl 1 rfl) ?_
  refine lv_aload_n hx hb dL_law_614 rfl (lv_at hl 0 rfl) ?_
  refine lv_iload_n hx hb dL_law_615 rfl (lv_at hl 3 rfl) ?_
  refine lv_iconst (v := 1) hx hb dL_law_616 (by decide) ?_
  refine lv_iadd hx hb dL_law_617 ?_
  refine va_sld hx hb hX hbl hbA hW.2.2.2 hin.2.1 dL_law_618 ?_
  refine lv_aload_n hx hb dL_law_619 rfl (lv_at hl 0 rfl) ?_
  refine lv_iload_n hx hb dL_law_620 rfl (lv_at hl 3 rfl) ?_
  refine lv_iconst (v := 2) hx hb dL_law_621 (by decide) ?_
  refine lv_iadd hx hb dL_law_622 ?_
  refine va_sld hx hb hX hbl hbA hW.2.2.2 hin.2.2.1 dL_law_623 ?_
  refine l_cal1i (g_runV C.1 C.2.1 C.2.2.1 (l_g1 hW) (c_X4_replayed l D cA a u (xs (y + 1).toNatClampNeg) (xs (y + 2).toNatClampNeg) _ (q_replayed hI) _) kw_353 kw_354 kw_355 kw_19 kw_356 hd_X4_replayed ⟨rfl, rfl, Nat.le_of_ble_eq_true rfl, Nat.le_of_ble_eq_true rfl⟩ (q0 := 0) rfl rfl (As := [.int (xs (y + 1).toNatClampNeg), .int (xs (y + 2).toNatClampNeg)]) (rest := []) rfl rfl hl.1 (Nat.le_of_ble_eq_true rfl) dL_law_624 ⟨Nat.le_of_ble_eq_true rfl, Nat.le_of_ble_eq_true rfl⟩) (Xw_adr cA a) hA hW (fun r1 u1 H locs h hW => ?_)
  refine lv_aload_n hx hb dL_law_627 rfl (lv_at hl 2 rfl) ?_
  refine lv_aload_n hx hb dL_law_628 rfl (lv_at hl 0 rfl) ?_
  refine lv_iload_n hx hb dL_law_629 rfl (lv_at hl 3 rfl) ?_
  refine lv_iconst (v := 1) hx hb dL_law_630 (by decide) ?_
  refine lv_iadd hx hb dL_law_631 ?_
  refine va_sld hx hb hX hbl hbA hW.2.2.2 hin.2.1 dL_law_632 ?_
  refine lv_aload_n hx hb dL_law_633 rfl (lv_at hl 0 rfl) ?_
  refine lv_iload_n hx hb dL_law_634 rfl (lv_at hl 3 rfl) ?_
  refine lv_iconst (v := 2) hx hb dL_law_635 (by decide) ?_
  refine lv_iadd hx hb dL_law_636 ?_
  refine va_sld hx hb hX hbl hbA hW.2.2.2 hin.2.2.1 dL_law_637 ?_
  refine l_cal2i (g_runV C.1 C.2.1 C.2.2.1 (l_g2 hW) (c_X5_replayed l D cA bb v (xs (y + 1).toNatClampNeg) (xs (y + 2).toNatClampNeg) _ h _) kw_597 kw_598 kw_599 kw_25 kw_600 hd_X5_replayed ⟨rfl, rfl, Nat.le_of_ble_eq_true rfl, Nat.le_of_ble_eq_true rfl⟩ (q0 := 0) rfl rfl (As := [.int (xs (y + 1).toNatClampNeg), .int (xs (y + 2).toNatClampNeg)]) (rest := [.int r1]) rfl rfl hl.1 (Nat.le_of_ble_eq_true rfl) dL_law_638 ⟨Nat.le_of_ble_eq_true rfl, Nat.le_of_ble_eq_true rfl⟩) (Yw_adr cA bb) hA hW (fun r2 v1 H locs h hW => ?_)
  exact lv_icmp_eq (tgt := 868) hx hb dL_law_641 (by decide) (fun _ => next _ _ _ _ h.2 hW) (fun cn => absurd h.1 cn)
set_option maxHeartbeats 4000000 in
set_option maxRecDepth 100000 in
theorem law_case_18 {p : Program} {l : Launch} {e : Env} {s : State} {m : MethodId} {below : List Frame} {meth : Method} {c : Code} {b L : Nat} {xs : Nat → Int32} {D : va_G} {cA : ClassId} (C : l_C p s m c b L xs D cA) {a bb : Nat → Nat} {y : Int32} {i : Nat} (hy : y.toInt = (i : Int)) (hiL : i + 3 < L) (hL : L ≤ 2048) {ls : Array Slot} (hl : lv_has ls 4 [(0, .ref b), (1, .ref (a 0)), (2, .ref (bb 0)), (3, .int y)]) {Q : State → Prop} (next : ∀ (u v : Mem) (H : Heap) (locs : List Loc), Inv u v → l_W D (Xw cA a) (Yw cA bb) (fun q : Nat => s.heap.size ≤ q) s.heap u v H locs → W p l e room_1 s m #[Value.ref b] below meth c H locs 34 11789 Q (F0 m 868 ls [])) {u v : Mem} {H : Heap} {locs : List Loc} (hI : Inv u v) (hW : l_W D (Xw cA a) (Yw cA bb) (fun q : Nat => s.heap.size ≤ q) s.heap u v H locs) : W p l e room_1 s m #[Value.ref b] below meth c H locs 34 11789 Q (F0 m 646 ls []) := by
  have hx := C.1.1
  have hb := C.1.2.1
  have hX := C.2.2.2.1
  have hbl := C.2.2.2.2
  have hin := l_in hy hiL hL
  have hA : ∀ q : Nat, s.heap.size ≤ q → (fun q : Nat => s.heap.size ≤ q) q := fun _ h => h
  have hbA : ¬ (fun q : Nat => s.heap.size ≤ q) b := Nat.not_le.mpr hbl
  refine lv_aload_n hx hb dL_law_646 rfl (lv_at hl 1 rfl) ?_
  refine lv_aload_n hx hb dL_law_647 rfl (lv_at hl 0 rfl) ?_
  refine lv_iload_n hx hb dL_law_648 rfl (lv_at hl 3 rfl) ?_
  refine lv_iconst (v := 1) hx hb dL_law_649 (by decide) ?_
  refine lv_iadd hx hb dL_law_650 ?_
  refine va_sld hx hb hX hbl hbA hW.2.2.2 hin.2.1 dL_law_651 ?_
  refine lv_aload_n hx hb dL_law_652 rfl (lv_at hl 0 rfl) ?_
  refine lv_iload_n hx hb dL_law_653 rfl (lv_at hl 3 rfl) ?_
  refine lv_iconst (v := 2) hx hb dL_law_654 (by decide) ?_
  refine lv_iadd hx hb dL_law_655 ?_
  refine va_sld hx hb hX hbl hbA hW.2.2.2 hin.2.2.1 dL_law_656 ?_
  refine lv_aload_n hx hb dL_law_657 rfl (lv_at hl 0 rfl) ?_
  refine lv_iload_n hx hb dL_law_658 rfl (lv_at hl 3 rfl) ?_
  refine lv_iconst (v := 3) hx hb dL_law_659 (by decide) ?_
  refine lv_iadd hx hb dL_law_660 ?_
  refine va_sld hx hb hX hbl hbA hW.2.2.2 hin.2.2.2 dL_law_661 ?_
  refine l_cal1l (g_runV C.1 C.2.1 C.2.2.1 (l_g1 hW) (c_X4_proof l D cA a u (xs (y + 1).toNatClampNeg) (xs (y + 2).toNatClampNeg) (xs (y + 3).toNatClampNeg) _ (q_proof hI) _) kw_357 kw_358 kw_359 kw_19 kw_360 hd_X4_proof ⟨rfl, rfl, Nat.le_of_ble_eq_true rfl, Nat.le_of_ble_eq_true rfl⟩ (q0 := 0) rfl rfl (As := [.int (xs (y + 1).toNatClampNeg), .int (xs (y + 2).toNatClampNeg), .int (xs (y + 3).toNatClampNeg)]) (rest := []) rfl rfl hl.1 (Nat.le_of_ble_eq_true rfl) dL_law_662 ⟨Nat.le_of_ble_eq_true rfl, Nat.le_of_ble_eq_true rfl⟩) (Xw_adr cA a) hA hW (fun r1 u1 H locs h hW => ?_)
  refine lv_aload_n hx hb dL_law_665 rfl (lv_at hl 2 rfl) ?_
  refine lv_aload_n hx hb dL_law_666 rfl (lv_at hl 0 rfl) ?_
  refine lv_iload_n hx hb dL_law_667 rfl (lv_at hl 3 rfl) ?_
  refine lv_iconst (v := 1) hx hb dL_law_668 (by decide) ?_
  refine lv_iadd hx hb dL_law_669 ?_
  refine va_sld hx hb hX hbl hbA hW.2.2.2 hin.2.1 dL_law_670 ?_
  refine lv_aload_n hx hb dL_law_671 rfl (lv_at hl 0 rfl) ?_
  refine lv_iload_n hx hb dL_law_672 rfl (lv_at hl 3 rfl) ?_
  refine lv_iconst (v := 2) hx hb dL_law_673 (by decide) ?_
  refine lv_iadd hx hb dL_law_674 ?_
  refine va_sld hx hb hX hbl hbA hW.2.2.2 hin.2.2.1 dL_law_675 ?_
  refine lv_aload_n hx hb dL_law_676 rfl (lv_at hl 0 rfl) ?_
  refine lv_iload_n hx hb dL_law_677 rfl (lv_at hl 3 rfl) ?_
  refine lv_iconst (v := 3) hx hb dL_law_678 (by decide) ?_
  refine lv_iadd hx hb dL_law_679 ?_
  refine va_sld hx hb hX hbl hbA hW.2.2.2 hin.2.2.2 dL_law_680 ?_
  refine l_cal2l (g_runV C.1 C.2.1 C.2.2.1 (l_g2 hW) (c_X5_proof l D cA bb v (xs (y + 1).toNatClampNeg) (xs (y + 2).toNatClampNeg) (xs (y + 3).toNatClampNeg) _ h _) kw_601 kw_602 kw_603 kw_25 kw_604 hd_X5_proof ⟨rfl, rfl, Nat.le_of_ble_eq_true rfl, Nat.le_of_ble_eq_true rfl⟩ (q0 := 0) rfl rfl (As := [.int (xs (y + 1).toNatClampNeg), .int (xs (y + 2).toNatClampNeg), .int (xs (y + 3).toNatClampNeg)]) (rest := [.long r1]) rfl rfl hl.1 (Nat.le_of_ble_eq_true rfl) dL_law_681 ⟨Nat.le_of_ble_eq_true rfl, Nat.le_of_ble_eq_true rfl⟩) (Yw_adr cA bb) hA hW (fun r2 v1 H locs h hW => ?_)
  refine W.lcmp hx hb dL_law_684 ?_
  exact lv_if_eq (tgt := 868) hx hb dL_law_685 (by decide) (fun _ => next _ _ _ _ h.2 hW) (fun cn => absurd (lc_eq0 h.1) cn)
set_option maxHeartbeats 4000000 in
set_option maxRecDepth 100000 in
theorem law_case_19 {p : Program} {l : Launch} {e : Env} {s : State} {m : MethodId} {below : List Frame} {meth : Method} {c : Code} {b L : Nat} {xs : Nat → Int32} {D : va_G} {cA : ClassId} (C : l_C p s m c b L xs D cA) {a bb : Nat → Nat} {y : Int32} {i : Nat} (hy : y.toInt = (i : Int)) (hiL : i + 3 < L) (hL : L ≤ 2048) {ls : Array Slot} (hl : lv_has ls 4 [(0, .ref b), (1, .ref (a 0)), (2, .ref (bb 0)), (3, .int y)]) {Q : State → Prop} (next : ∀ (u v : Mem) (H : Heap) (locs : List Loc), Inv u v → l_W D (Xw cA a) (Yw cA bb) (fun q : Nat => s.heap.size ≤ q) s.heap u v H locs → W p l e room_1 s m #[Value.ref b] below meth c H locs 34 11789 Q (F0 m 868 ls [])) {u v : Mem} {H : Heap} {locs : List Loc} (hI : Inv u v) (hW : l_W D (Xw cA a) (Yw cA bb) (fun q : Nat => s.heap.size ≤ q) s.heap u v H locs) : W p l e room_1 s m #[Value.ref b] below meth c H locs 34 11789 Q (F0 m 690 ls []) := by
  have hx := C.1.1
  have hb := C.1.2.1
  have hX := C.2.2.2.1
  have hbl := C.2.2.2.2
  have hin := l_in hy hiL hL
  have hA : ∀ q : Nat, s.heap.size ≤ q → (fun q : Nat => s.heap.size ≤ q) q := fun _ h => h
  have hbA : ¬ (fun q : Nat => s.heap.size ≤ q) b := Nat.not_le.mpr hbl
  refine lv_aload_n hx hb dL_law_690 rfl (lv_at hl 1 rfl) ?_
  refine lv_aload_n hx hb dL_law_691 rfl (lv_at hl 0 rfl) ?_
  refine lv_iload_n hx hb dL_law_692 rfl (lv_at hl 3 rfl) ?_
  refine lv_iconst (v := 1) hx hb dL_law_693 (by decide) ?_
  refine lv_iadd hx hb dL_law_694 ?_
  refine va_sld hx hb hX hbl hbA hW.2.2.2 hin.2.1 dL_law_695 ?_
  refine lv_aload_n hx hb dL_law_696 rfl (lv_at hl 0 rfl) ?_
  refine lv_iload_n hx hb dL_law_697 rfl (lv_at hl 3 rfl) ?_
  refine lv_iconst (v := 2) hx hb dL_law_698 (by decide) ?_
  refine lv_iadd hx hb dL_law_699 ?_
  refine va_sld hx hb hX hbl hbA hW.2.2.2 hin.2.2.1 dL_law_700 ?_
  refine l_cal1i (g_runV C.1 C.2.1 C.2.2.1 (l_g1 hW) (c_X4_lay l D cA a u (xs (y + 1).toNatClampNeg) (xs (y + 2).toNatClampNeg) _ (q_lay hI) _) kw_365 kw_366 kw_367 kw_19 kw_368 hd_X4_lay ⟨rfl, rfl, Nat.le_of_ble_eq_true rfl, Nat.le_of_ble_eq_true rfl⟩ (q0 := 0) rfl rfl (As := [.int (xs (y + 1).toNatClampNeg), .int (xs (y + 2).toNatClampNeg)]) (rest := []) rfl rfl hl.1 (Nat.le_of_ble_eq_true rfl) dL_law_701 ⟨Nat.le_of_ble_eq_true rfl, Nat.le_of_ble_eq_true rfl⟩) (Xw_adr cA a) hA hW (fun r1 u1 H locs h hW => ?_)
  refine lv_aload_n hx hb dL_law_704 rfl (lv_at hl 2 rfl) ?_
  refine lv_aload_n hx hb dL_law_705 rfl (lv_at hl 0 rfl) ?_
  refine lv_iload_n hx hb dL_law_706 rfl (lv_at hl 3 rfl) ?_
  refine lv_iconst (v := 1) hx hb dL_law_707 (by decide) ?_
  refine lv_iadd hx hb dL_law_708 ?_
  refine va_sld hx hb hX hbl hbA hW.2.2.2 hin.2.1 dL_law_709 ?_
  refine lv_aload_n hx hb dL_law_710 rfl (lv_at hl 0 rfl) ?_
  refine lv_iload_n hx hb dL_law_711 rfl (lv_at hl 3 rfl) ?_
  refine lv_iconst (v := 2) hx hb dL_law_712 (by decide) ?_
  refine lv_iadd hx hb dL_law_713 ?_
  refine va_sld hx hb hX hbl hbA hW.2.2.2 hin.2.2.1 dL_law_714 ?_
  refine l_cal2i (g_runV C.1 C.2.1 C.2.2.1 (l_g2 hW) (c_X5_lay l D cA bb v (xs (y + 1).toNatClampNeg) (xs (y + 2).toNatClampNeg) _ h _) kw_606 kw_607 kw_608 kw_25 kw_609 hd_X5_lay ⟨rfl, rfl, Nat.le_of_ble_eq_true rfl, Nat.le_of_ble_eq_true rfl⟩ (q0 := 0) rfl rfl (As := [.int (xs (y + 1).toNatClampNeg), .int (xs (y + 2).toNatClampNeg)]) (rest := [.int r1]) rfl rfl hl.1 (Nat.le_of_ble_eq_true rfl) dL_law_715 ⟨Nat.le_of_ble_eq_true rfl, Nat.le_of_ble_eq_true rfl⟩) (Yw_adr cA bb) hA hW (fun r2 v1 H locs h hW => ?_)
  exact lv_icmp_eq (tgt := 868) hx hb dL_law_718 (by decide) (fun _ => next _ _ _ _ h.2 hW) (fun cn => absurd h.1 cn)
set_option maxHeartbeats 4000000 in
set_option maxRecDepth 100000 in
theorem law_case_20 {p : Program} {l : Launch} {e : Env} {s : State} {m : MethodId} {below : List Frame} {meth : Method} {c : Code} {b L : Nat} {xs : Nat → Int32} {D : va_G} {cA : ClassId} (C : l_C p s m c b L xs D cA) {a bb : Nat → Nat} {y : Int32} {i : Nat} (hy : y.toInt = (i : Int)) (hiL : i + 3 < L) (hL : L ≤ 2048) {ls : Array Slot} (hl : lv_has ls 4 [(0, .ref b), (1, .ref (a 0)), (2, .ref (bb 0)), (3, .int y)]) {Q : State → Prop} (next : ∀ (u v : Mem) (H : Heap) (locs : List Loc), Inv u v → l_W D (Xw cA a) (Yw cA bb) (fun q : Nat => s.heap.size ≤ q) s.heap u v H locs → W p l e room_1 s m #[Value.ref b] below meth c H locs 34 11789 Q (F0 m 868 ls [])) {u v : Mem} {H : Heap} {locs : List Loc} (hI : Inv u v) (hW : l_W D (Xw cA a) (Yw cA bb) (fun q : Nat => s.heap.size ≤ q) s.heap u v H locs) : W p l e room_1 s m #[Value.ref b] below meth c H locs 34 11789 Q (F0 m 723 ls []) := by
  have hx := C.1.1
  have hb := C.1.2.1
  have hX := C.2.2.2.1
  have hbl := C.2.2.2.2
  have hin := l_in hy hiL hL
  have hA : ∀ q : Nat, s.heap.size ≤ q → (fun q : Nat => s.heap.size ≤ q) q := fun _ h => h
  have hbA : ¬ (fun q : Nat => s.heap.size ≤ q) b := Nat.not_le.mpr hbl
  refine lv_aload_n hx hb dL_law_723 rfl (lv_at hl 1 rfl) ?_
  refine lv_aload_n hx hb dL_law_724 rfl (lv_at hl 0 rfl) ?_
  refine lv_iload_n hx hb dL_law_725 rfl (lv_at hl 3 rfl) ?_
  refine lv_iconst (v := 1) hx hb dL_law_726 (by decide) ?_
  refine lv_iadd hx hb dL_law_727 ?_
  refine va_sld hx hb hX hbl hbA hW.2.2.2 hin.2.1 dL_law_728 ?_
  refine lv_aload_n hx hb dL_law_729 rfl (lv_at hl 0 rfl) ?_
  refine lv_iload_n hx hb dL_law_730 rfl (lv_at hl 3 rfl) ?_
  refine lv_iconst (v := 2) hx hb dL_law_731 (by decide) ?_
  refine lv_iadd hx hb dL_law_732 ?_
  refine va_sld hx hb hX hbl hbA hW.2.2.2 hin.2.2.1 dL_law_733 ?_
  refine lv_aload_n hx hb dL_law_734 rfl (lv_at hl 0 rfl) ?_
  refine lv_iload_n hx hb dL_law_735 rfl (lv_at hl 3 rfl) ?_
  refine lv_iconst (v := 3) hx hb dL_law_736 (by decide) ?_
  refine lv_iadd hx hb dL_law_737 ?_
  refine va_sld hx hb hX hbl hbA hW.2.2.2 hin.2.2.2 dL_law_738 ?_
  refine l_cal1i (g_runV C.1 C.2.1 C.2.2.1 (l_g1 hW) (c_X4_proves l D cA a u (xs (y + 1).toNatClampNeg) (xs (y + 2).toNatClampNeg) (xs (y + 3).toNatClampNeg) _ (q_proves hI) _) kw_369 kw_370 kw_371 kw_19 kw_372 hd_X4_proves ⟨rfl, rfl, Nat.le_of_ble_eq_true rfl, Nat.le_of_ble_eq_true rfl⟩ (q0 := 0) rfl rfl (As := [.int (xs (y + 1).toNatClampNeg), .int (xs (y + 2).toNatClampNeg), .int (xs (y + 3).toNatClampNeg)]) (rest := []) rfl rfl hl.1 (Nat.le_of_ble_eq_true rfl) dL_law_739 ⟨Nat.le_of_ble_eq_true rfl, Nat.le_of_ble_eq_true rfl⟩) (Xw_adr cA a) hA hW (fun r1 u1 H locs h hW => ?_)
  refine lv_aload_n hx hb dL_law_742 rfl (lv_at hl 2 rfl) ?_
  refine lv_aload_n hx hb dL_law_743 rfl (lv_at hl 0 rfl) ?_
  refine lv_iload_n hx hb dL_law_744 rfl (lv_at hl 3 rfl) ?_
  refine lv_iconst (v := 1) hx hb dL_law_745 (by decide) ?_
  refine lv_iadd hx hb dL_law_746 ?_
  refine va_sld hx hb hX hbl hbA hW.2.2.2 hin.2.1 dL_law_747 ?_
  refine lv_aload_n hx hb dL_law_748 rfl (lv_at hl 0 rfl) ?_
  refine lv_iload_n hx hb dL_law_749 rfl (lv_at hl 3 rfl) ?_
  refine lv_iconst (v := 2) hx hb dL_law_750 (by decide) ?_
  refine lv_iadd hx hb dL_law_751 ?_
  refine va_sld hx hb hX hbl hbA hW.2.2.2 hin.2.2.1 dL_law_752 ?_
  refine lv_aload_n hx hb dL_law_753 rfl (lv_at hl 0 rfl) ?_
  refine lv_iload_n hx hb dL_law_754 rfl (lv_at hl 3 rfl) ?_
  refine lv_iconst (v := 3) hx hb dL_law_755 (by decide) ?_
  refine lv_iadd hx hb dL_law_756 ?_
  refine va_sld hx hb hX hbl hbA hW.2.2.2 hin.2.2.2 dL_law_757 ?_
  refine l_cal2i (g_runV C.1 C.2.1 C.2.2.1 (l_g2 hW) (c_X5_proves l D cA bb v (xs (y + 1).toNatClampNeg) (xs (y + 2).toNatClampNeg) (xs (y + 3).toNatClampNeg) _ h _) kw_610 kw_611 kw_612 kw_25 kw_613 hd_X5_proves ⟨rfl, rfl, Nat.le_of_ble_eq_true rfl, Nat.le_of_ble_eq_true rfl⟩ (q0 := 0) rfl rfl (As := [.int (xs (y + 1).toNatClampNeg), .int (xs (y + 2).toNatClampNeg), .int (xs (y + 3).toNatClampNeg)]) (rest := [.int r1]) rfl rfl hl.1 (Nat.le_of_ble_eq_true rfl) dL_law_758 ⟨Nat.le_of_ble_eq_true rfl, Nat.le_of_ble_eq_true rfl⟩) (Yw_adr cA bb) hA hW (fun r2 v1 H locs h hW => ?_)
  exact lv_icmp_eq (tgt := 868) hx hb dL_law_761 (by decide) (fun _ => next _ _ _ _ h.2 hW) (fun cn => absurd h.1 cn)
set_option maxHeartbeats 4000000 in
set_option maxRecDepth 100000 in
theorem law_case_21 {p : Program} {l : Launch} {e : Env} {s : State} {m : MethodId} {below : List Frame} {meth : Method} {c : Code} {b L : Nat} {xs : Nat → Int32} {D : va_G} {cA : ClassId} (C : l_C p s m c b L xs D cA) {a bb : Nat → Nat} {y : Int32} {i : Nat} (hy : y.toInt = (i : Int)) (hiL : i + 3 < L) (hL : L ≤ 2048) {ls : Array Slot} (hl : lv_has ls 4 [(0, .ref b), (1, .ref (a 0)), (2, .ref (bb 0)), (3, .int y)]) {Q : State → Prop} (next : ∀ (u v : Mem) (H : Heap) (locs : List Loc), Inv u v → l_W D (Xw cA a) (Yw cA bb) (fun q : Nat => s.heap.size ≤ q) s.heap u v H locs → W p l e room_1 s m #[Value.ref b] below meth c H locs 34 11789 Q (F0 m 868 ls [])) {u v : Mem} {H : Heap} {locs : List Loc} (hI : Inv u v) (hW : l_W D (Xw cA a) (Yw cA bb) (fun q : Nat => s.heap.size ≤ q) s.heap u v H locs) : W p l e room_1 s m #[Value.ref b] below meth c H locs 34 11789 Q (F0 m 766 ls []) := by
  have hx := C.1.1
  have hb := C.1.2.1
  have hX := C.2.2.2.1
  have hbl := C.2.2.2.2
  have hin := l_in hy hiL hL
  have hA : ∀ q : Nat, s.heap.size ≤ q → (fun q : Nat => s.heap.size ≤ q) q := fun _ h => h
  have hbA : ¬ (fun q : Nat => s.heap.size ≤ q) b := Nat.not_le.mpr hbl
  refine lv_aload_n hx hb dL_law_766 rfl (lv_at hl 1 rfl) ?_
  refine lv_aload_n hx hb dL_law_767 rfl (lv_at hl 0 rfl) ?_
  refine lv_iload_n hx hb dL_law_768 rfl (lv_at hl 3 rfl) ?_
  refine lv_iconst (v := 1) hx hb dL_law_769 (by decide) ?_
  refine lv_iadd hx hb dL_law_770 ?_
  refine va_sld hx hb hX hbl hbA hW.2.2.2 hin.2.1 dL_law_771 ?_
  refine l_cal1i (g_runV C.1 C.2.1 C.2.2.1 (l_g1 hW) (c_X4_back l D cA a u (xs (y + 1).toNatClampNeg) _ (q_back hI) _) kw_376 kw_377 kw_378 kw_19 kw_379 hd_X4_back ⟨rfl, rfl, Nat.le_of_ble_eq_true rfl, Nat.le_of_ble_eq_true rfl⟩ (q0 := 0) rfl rfl (As := [.int (xs (y + 1).toNatClampNeg)]) (rest := []) rfl rfl hl.1 (Nat.le_of_ble_eq_true rfl) dL_law_772 ⟨Nat.le_of_ble_eq_true rfl, Nat.le_of_ble_eq_true rfl⟩) (Xw_adr cA a) hA hW (fun r1 u1 H locs h hW => ?_)
  refine lv_aload_n hx hb dL_law_775 rfl (lv_at hl 2 rfl) ?_
  refine lv_aload_n hx hb dL_law_776 rfl (lv_at hl 0 rfl) ?_
  refine lv_iload_n hx hb dL_law_777 rfl (lv_at hl 3 rfl) ?_
  refine lv_iconst (v := 1) hx hb dL_law_778 (by decide) ?_
  refine lv_iadd hx hb dL_law_779 ?_
  refine va_sld hx hb hX hbl hbA hW.2.2.2 hin.2.1 dL_law_780 ?_
  refine l_cal2i (g_runV C.1 C.2.1 C.2.2.1 (l_g2 hW) (c_X5_back l D cA bb v (xs (y + 1).toNatClampNeg) _ h _) kw_614 kw_615 kw_616 kw_25 kw_617 hd_X5_back ⟨rfl, rfl, Nat.le_of_ble_eq_true rfl, Nat.le_of_ble_eq_true rfl⟩ (q0 := 0) rfl rfl (As := [.int (xs (y + 1).toNatClampNeg)]) (rest := [.int r1]) rfl rfl hl.1 (Nat.le_of_ble_eq_true rfl) dL_law_781 ⟨Nat.le_of_ble_eq_true rfl, Nat.le_of_ble_eq_true rfl⟩) (Yw_adr cA bb) hA hW (fun r2 v1 H locs h hW => ?_)
  exact lv_icmp_eq (tgt := 868) hx hb dL_law_784 (by decide) (fun _ => next _ _ _ _ h.2 hW) (fun cn => absurd h.1 cn)
set_option maxHeartbeats 4000000 in
set_option maxRecDepth 100000 in
theorem law_case_22 {p : Program} {l : Launch} {e : Env} {s : State} {m : MethodId} {below : List Frame} {meth : Method} {c : Code} {b L : Nat} {xs : Nat → Int32} {D : va_G} {cA : ClassId} (C : l_C p s m c b L xs D cA) {a bb : Nat → Nat} {y : Int32} {i : Nat} (hy : y.toInt = (i : Int)) (hiL : i + 3 < L) (hL : L ≤ 2048) {ls : Array Slot} (hl : lv_has ls 4 [(0, .ref b), (1, .ref (a 0)), (2, .ref (bb 0)), (3, .int y)]) {Q : State → Prop} (next : ∀ (u v : Mem) (H : Heap) (locs : List Loc), Inv u v → l_W D (Xw cA a) (Yw cA bb) (fun q : Nat => s.heap.size ≤ q) s.heap u v H locs → W p l e room_1 s m #[Value.ref b] below meth c H locs 34 11789 Q (F0 m 868 ls [])) {u v : Mem} {H : Heap} {locs : List Loc} (hI : Inv u v) (hW : l_W D (Xw cA a) (Yw cA bb) (fun q : Nat => s.heap.size ≤ q) s.heap u v H locs) : W p l e room_1 s m #[Value.ref b] below meth c H locs 34 11789 Q (F0 m 789 ls []) := by
  have hx := C.1.1
  have hb := C.1.2.1
  have hX := C.2.2.2.1
  have hbl := C.2.2.2.2
  have hin := l_in hy hiL hL
  have hA : ∀ q : Nat, s.heap.size ≤ q → (fun q : Nat => s.heap.size ≤ q) q := fun _ h => h
  have hbA : ¬ (fun q : Nat => s.heap.size ≤ q) b := Nat.not_le.mpr hbl
  refine lv_aload_n hx hb dL_law_789 rfl (lv_at hl 1 rfl) ?_
  refine lv_aload_n hx hb dL_law_790 rfl (lv_at hl 0 rfl) ?_
  refine lv_iload_n hx hb dL_law_791 rfl (lv_at hl 3 rfl) ?_
  refine lv_iconst (v := 1) hx hb dL_law_792 (by decide) ?_
  refine lv_iadd hx hb dL_law_793 ?_
  refine va_sld hx hb hX hbl hbA hW.2.2.2 hin.2.1 dL_law_794 ?_
  refine lv_aload_n hx hb dL_law_795 rfl (lv_at hl 0 rfl) ?_
  refine lv_iload_n hx hb dL_law_796 rfl (lv_at hl 3 rfl) ?_
  refine lv_iconst (v := 2) hx hb dL_law_797 (by decide) ?_
  refine lv_iadd hx hb dL_law_798 ?_
  refine va_sld hx hb hX hbl hbA hW.2.2.2 hin.2.2.1 dL_law_799 ?_
  refine lv_aload_n hx hb dL_law_800 rfl (lv_at hl 0 rfl) ?_
  refine lv_iload_n hx hb dL_law_801 rfl (lv_at hl 3 rfl) ?_
  refine lv_iconst (v := 3) hx hb dL_law_802 (by decide) ?_
  refine lv_iadd hx hb dL_law_803 ?_
  refine va_sld hx hb hX hbl hbA hW.2.2.2 hin.2.2.2 dL_law_804 ?_
  refine l_cal1i (g_runV C.1 C.2.1 C.2.2.1 (l_g1 hW) (c_X4_row l D cA a u (xs (y + 1).toNatClampNeg) (xs (y + 2).toNatClampNeg) (xs (y + 3).toNatClampNeg) _ (q_row hI) _) kw_388 kw_389 kw_390 kw_19 kw_391 hd_X4_row ⟨rfl, rfl, Nat.le_of_ble_eq_true rfl, Nat.le_of_ble_eq_true rfl⟩ (q0 := 0) rfl rfl (As := [.int (xs (y + 1).toNatClampNeg), .int (xs (y + 2).toNatClampNeg), .int (xs (y + 3).toNatClampNeg)]) (rest := []) rfl rfl hl.1 (Nat.le_of_ble_eq_true rfl) dL_law_805 ⟨Nat.le_of_ble_eq_true rfl, Nat.le_of_ble_eq_true rfl⟩) (Xw_adr cA a) hA hW (fun r1 u1 H locs h hW => ?_)
  refine lv_aload_n hx hb dL_law_808 rfl (lv_at hl 2 rfl) ?_
  refine lv_aload_n hx hb dL_law_809 rfl (lv_at hl 0 rfl) ?_
  refine lv_iload_n hx hb dL_law_810 rfl (lv_at hl 3 rfl) ?_
  refine lv_iconst (v := 1) hx hb dL_law_811 (by decide) ?_
  refine lv_iadd hx hb dL_law_812 ?_
  refine va_sld hx hb hX hbl hbA hW.2.2.2 hin.2.1 dL_law_813 ?_
  refine lv_aload_n hx hb dL_law_814 rfl (lv_at hl 0 rfl) ?_
  refine lv_iload_n hx hb dL_law_815 rfl (lv_at hl 3 rfl) ?_
  refine lv_iconst (v := 2) hx hb dL_law_816 (by decide) ?_
  refine lv_iadd hx hb dL_law_817 ?_
  refine va_sld hx hb hX hbl hbA hW.2.2.2 hin.2.2.1 dL_law_818 ?_
  refine lv_aload_n hx hb dL_law_819 rfl (lv_at hl 0 rfl) ?_
  refine lv_iload_n hx hb dL_law_820 rfl (lv_at hl 3 rfl) ?_
  refine lv_iconst (v := 3) hx hb dL_law_821 (by decide) ?_
  refine lv_iadd hx hb dL_law_822 ?_
  refine va_sld hx hb hX hbl hbA hW.2.2.2 hin.2.2.2 dL_law_823 ?_
  refine l_cal2i (g_runV C.1 C.2.1 C.2.2.1 (l_g2 hW) (c_X5_row l D cA bb v (xs (y + 1).toNatClampNeg) (xs (y + 2).toNatClampNeg) (xs (y + 3).toNatClampNeg) _ h _) kw_618 kw_619 kw_620 kw_25 kw_621 hd_X5_row ⟨rfl, rfl, Nat.le_of_ble_eq_true rfl, Nat.le_of_ble_eq_true rfl⟩ (q0 := 0) rfl rfl (As := [.int (xs (y + 1).toNatClampNeg), .int (xs (y + 2).toNatClampNeg), .int (xs (y + 3).toNatClampNeg)]) (rest := [.int r1]) rfl rfl hl.1 (Nat.le_of_ble_eq_true rfl) dL_law_824 ⟨Nat.le_of_ble_eq_true rfl, Nat.le_of_ble_eq_true rfl⟩) (Yw_adr cA bb) hA hW (fun r2 v1 H locs h hW => ?_)
  exact lv_icmp_eq (tgt := 868) hx hb dL_law_827 (by decide) (fun _ => next _ _ _ _ h.2 hW) (fun cn => absurd h.1 cn)
set_option maxHeartbeats 4000000 in
set_option maxRecDepth 100000 in
theorem law_case_23 {p : Program} {l : Launch} {e : Env} {s : State} {m : MethodId} {below : List Frame} {meth : Method} {c : Code} {b L : Nat} {xs : Nat → Int32} {D : va_G} {cA : ClassId} (C : l_C p s m c b L xs D cA) {a bb : Nat → Nat} {y : Int32} {i : Nat} (hy : y.toInt = (i : Int)) (hiL : i + 3 < L) (hL : L ≤ 2048) {ls : Array Slot} (hl : lv_has ls 4 [(0, .ref b), (1, .ref (a 0)), (2, .ref (bb 0)), (3, .int y)]) {Q : State → Prop} (next : ∀ (u v : Mem) (H : Heap) (locs : List Loc), Inv u v → l_W D (Xw cA a) (Yw cA bb) (fun q : Nat => s.heap.size ≤ q) s.heap u v H locs → W p l e room_1 s m #[Value.ref b] below meth c H locs 34 11789 Q (F0 m 868 ls [])) {u v : Mem} {H : Heap} {locs : List Loc} (hI : Inv u v) (hW : l_W D (Xw cA a) (Yw cA bb) (fun q : Nat => s.heap.size ≤ q) s.heap u v H locs) : W p l e room_1 s m #[Value.ref b] below meth c H locs 34 11789 Q (F0 m 832 ls []) := by
  have hx := C.1.1
  have hb := C.1.2.1
  have hX := C.2.2.2.1
  have hbl := C.2.2.2.2
  have hin := l_in hy hiL hL
  have hA : ∀ q : Nat, s.heap.size ≤ q → (fun q : Nat => s.heap.size ≤ q) q := fun _ h => h
  have hbA : ¬ (fun q : Nat => s.heap.size ≤ q) b := Nat.not_le.mpr hbl
  refine lv_aload_n hx hb dL_law_832 rfl (lv_at hl 1 rfl) ?_
  refine lv_aload_n hx hb dL_law_833 rfl (lv_at hl 0 rfl) ?_
  refine lv_iload_n hx hb dL_law_834 rfl (lv_at hl 3 rfl) ?_
  refine lv_iconst (v := 1) hx hb dL_law_835 (by decide) ?_
  refine lv_iadd hx hb dL_law_836 ?_
  refine va_sld hx hb hX hbl hbA hW.2.2.2 hin.2.1 dL_law_837 ?_
  refine l_cal1i (g_runV C.1 C.2.1 C.2.2.1 (l_g1 hW) (c_X4_count l D cA a u (xs (y + 1).toNatClampNeg) _ (q_count hI) _) kw_396 kw_397 kw_398 kw_19 kw_399 hd_X4_count ⟨rfl, rfl, Nat.le_of_ble_eq_true rfl, Nat.le_of_ble_eq_true rfl⟩ (q0 := 0) rfl rfl (As := [.int (xs (y + 1).toNatClampNeg)]) (rest := []) rfl rfl hl.1 (Nat.le_of_ble_eq_true rfl) dL_law_838 ⟨Nat.le_of_ble_eq_true rfl, Nat.le_of_ble_eq_true rfl⟩) (Xw_adr cA a) hA hW (fun r1 u1 H locs h hW => ?_)
  refine lv_aload_n hx hb dL_law_841 rfl (lv_at hl 2 rfl) ?_
  refine lv_aload_n hx hb dL_law_842 rfl (lv_at hl 0 rfl) ?_
  refine lv_iload_n hx hb dL_law_843 rfl (lv_at hl 3 rfl) ?_
  refine lv_iconst (v := 1) hx hb dL_law_844 (by decide) ?_
  refine lv_iadd hx hb dL_law_845 ?_
  refine va_sld hx hb hX hbl hbA hW.2.2.2 hin.2.1 dL_law_846 ?_
  refine l_cal2i (g_runV C.1 C.2.1 C.2.2.1 (l_g2 hW) (c_X5_count l D cA bb v (xs (y + 1).toNatClampNeg) _ h _) kw_622 kw_623 kw_624 kw_25 kw_625 hd_X5_count ⟨rfl, rfl, Nat.le_of_ble_eq_true rfl, Nat.le_of_ble_eq_true rfl⟩ (q0 := 0) rfl rfl (As := [.int (xs (y + 1).toNatClampNeg)]) (rest := [.int r1]) rfl rfl hl.1 (Nat.le_of_ble_eq_true rfl) dL_law_847 ⟨Nat.le_of_ble_eq_true rfl, Nat.le_of_ble_eq_true rfl⟩) (Yw_adr cA bb) hA hW (fun r2 v1 H locs h hW => ?_)
  exact lv_icmp_eq (tgt := 868) hx hb dL_law_850 (by decide) (fun _ => next _ _ _ _ h.2 hW) (fun cn => absurd h.1 cn)
set_option maxHeartbeats 4000000 in
set_option maxRecDepth 100000 in
theorem law_case_24 {p : Program} {l : Launch} {e : Env} {s : State} {m : MethodId} {below : List Frame} {meth : Method} {c : Code} {b L : Nat} {xs : Nat → Int32} {D : va_G} {cA : ClassId} (C : l_C p s m c b L xs D cA) {a bb : Nat → Nat} {y : Int32} {i : Nat} (hy : y.toInt = (i : Int)) (hiL : i + 3 < L) (hL : L ≤ 2048) {ls : Array Slot} (hl : lv_has ls 4 [(0, .ref b), (1, .ref (a 0)), (2, .ref (bb 0)), (3, .int y)]) {Q : State → Prop} (next : ∀ (u v : Mem) (H : Heap) (locs : List Loc), Inv u v → l_W D (Xw cA a) (Yw cA bb) (fun q : Nat => s.heap.size ≤ q) s.heap u v H locs → W p l e room_1 s m #[Value.ref b] below meth c H locs 34 11789 Q (F0 m 868 ls [])) {u v : Mem} {H : Heap} {locs : List Loc} (hI : Inv u v) (hW : l_W D (Xw cA a) (Yw cA bb) (fun q : Nat => s.heap.size ≤ q) s.heap u v H locs) : W p l e room_1 s m #[Value.ref b] below meth c H locs 34 11789 Q (F0 m 855 ls []) := by
  have hx := C.1.1
  have hb := C.1.2.1
  have hX := C.2.2.2.1
  have hbl := C.2.2.2.2
  have hin := l_in hy hiL hL
  have hA : ∀ q : Nat, s.heap.size ≤ q → (fun q : Nat => s.heap.size ≤ q) q := fun _ h => h
  have hbA : ¬ (fun q : Nat => s.heap.size ≤ q) b := Nat.not_le.mpr hbl
  refine lv_aload_n hx hb dL_law_855 rfl (lv_at hl 1 rfl) ?_
  refine l_cal1i (g_runV C.1 C.2.1 C.2.2.1 (l_g1 hW) (c_X4_clear l D cA a u  _ (q_clear hI) _) kw_400 kw_401 kw_402 kw_19 kw_403 hd_X4_clear ⟨rfl, rfl, Nat.le_of_ble_eq_true rfl, Nat.le_of_ble_eq_true rfl⟩ (q0 := 0) rfl rfl (As := []) (rest := []) rfl rfl hl.1 (Nat.le_of_ble_eq_true rfl) dL_law_856 ⟨Nat.le_of_ble_eq_true rfl, Nat.le_of_ble_eq_true rfl⟩) (Xw_adr cA a) hA hW (fun r1 u1 H locs h hW => ?_)
  refine lv_aload_n hx hb dL_law_859 rfl (lv_at hl 2 rfl) ?_
  refine l_cal2i (g_runV C.1 C.2.1 C.2.2.1 (l_g2 hW) (c_X5_clear l D cA bb v  _ h _) kw_626 kw_627 kw_628 kw_25 kw_629 hd_X5_clear ⟨rfl, rfl, Nat.le_of_ble_eq_true rfl, Nat.le_of_ble_eq_true rfl⟩ (q0 := 0) rfl rfl (As := []) (rest := [.int r1]) rfl rfl hl.1 (Nat.le_of_ble_eq_true rfl) dL_law_860 ⟨Nat.le_of_ble_eq_true rfl, Nat.le_of_ble_eq_true rfl⟩) (Yw_adr cA bb) hA hW (fun r2 v1 H locs h hW => ?_)
  exact lv_icmp_eq (tgt := 868) hx hb dL_law_863 (by decide) (fun _ => next _ _ _ _ h.2 hW) (fun cn => absurd h.1 cn)
