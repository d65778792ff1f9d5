/-! THE CLAIM OUT OF ONE WALK OF THE LAW'S BODY. Your part is whole_start (and what it stands on); all else here is the same for every law, but numbers. -/
def R_law : String := "HistoryRowsLaw"
def lw_P (b : Addr) (xs : List Int32) (args : Array Value) (s : State) : Prop := args = #[.ref b] ∧ s.IntsAt b xs ∧ xs.length ≤ 2048 ∧ (Jvm.Cond.and given_1 narrow_1).before args s = true
def lw_Q (_ : Array Value) (s : State) (o : Outcome) (t : State) : Prop := o = .returned (some (.int 1)) ∧ Framed s o t [] 34 11789
def lw_Z (below : List Frame) (a : Array Value) (s : State) : State → Prop := fun t => ∃ o, t.status = .running ∧ Ended t below o ∧ lw_Q a s o t
/-- the law's own end, with 1 on the stack, nothing written that was there before, its room as the claim has it -/
theorem lw_ret {p : Program} {l : Launch} {e : Env} {s : State} {m : MethodId} {below : List Frame} {meth : Method} {c : Code} {b : Nat} (hx : p.tables.exec = Jvm.exec) (hb : c.code = code) (hr : meth.sig.returnType = ret) (hlocks : meth.locks = false) {pc : Nat} {H : Heap} {ls : Array Slot} (hdg : decode code pc = .ok (.ireturn, 1)) : W p l e room_1 s m #[Value.ref b] below meth c H [] 34 11789 (lw_Z below #[Value.ref b] s) (F0 m pc ls [.int 1]) := by
  intro T hT X
  obtain ⟨fs, hret, hrun, hended, hW, hframe⟩ := X.leave (v := some (.int 1)) (hlocks := hlocks) (fun h => by rw [hr] at h; cases h)
  have hmeth' : T.vm.method? m = some meth := X.method'
  refine ⟨T.setFrames fs, ?_, .returned (some (.int 1)), hrun, hended, rfl, ⟨_, rfl⟩, hW, hframe⟩
  jvm_step X.here [X.here.top, hx, hb, hdg, hmeth', hr, ret, narrow_b1]
  (try refine ⟨rfl, ?_⟩); (try refine ⟨rfl, ?_⟩)
  first | (intro acts; rw [hret _ acts rfl rfl rfl]) | rw [hret _ _ rfl rfl rfl]
  exact Steps.refl _
/-- what holds at the law's entry: the machine, the code, the tables' words (any of lw_tbl by 'hts w (by decide +kernel)'), the script of L ints xs at the cell b, what the Statement gives of the start (any of its parts by flat_of_before) -/
def lw_At (p : Program) (s : State) (m : MethodId) (meth : Method) (c : Code) (b L : Nat) (xs : Nat → Int32) : Prop :=
  p.tables.exec = Jvm.exec ∧ c.code = code ∧ meth.sig.returnType = ret ∧ c.maxLocals = 4 ∧ s.vm.findClass R_law = some m.cls ∧ (∀ w ∈ lw_tbl, w.before #[Value.ref b] s = true) ∧ va_X b L xs s s.heap ∧ b < s.heap.size ∧ meth.locks = false ∧ (Jvm.Cond.and given_1 narrow_1).before #[Value.ref b] s = true
theorem g_sw25 (x : Int32) : x = 0 ∨ x = 1 ∨ x = 2 ∨ x = 3 ∨ x = 4 ∨ x = 5 ∨ x = 6 ∨ x = 7 ∨ x = 8 ∨ x = 9 ∨ x = 10 ∨ x = 11 ∨ x = 12 ∨ x = 13 ∨ x = 14 ∨ x = 15 ∨ x = 16 ∨ x = 17 ∨ x = 18 ∨ x = 19 ∨ x = 20 ∨ x = 21 ∨ x = 22 ∨ x = 23 ∨ x = 24 ∨ (x.toInt < 0 ∨ 24 < x.toInt) := by
  by_cases h0 : x.toInt = 0
  · exact Or.inl (g_swk (k := 0) (by decide) h0)
  by_cases h1 : x.toInt = 1
  · exact Or.inr (Or.inl (g_swk (k := 1) (by decide) h1))
  by_cases h2 : x.toInt = 2
  · exact Or.inr (Or.inr (Or.inl (g_swk (k := 2) (by decide) h2)))
  by_cases h3 : x.toInt = 3
  · exact Or.inr (Or.inr (Or.inr (Or.inl (g_swk (k := 3) (by decide) h3))))
  by_cases h4 : x.toInt = 4
  · exact Or.inr (Or.inr (Or.inr (Or.inr (Or.inl (g_swk (k := 4) (by decide) h4)))))
  by_cases h5 : x.toInt = 5
  · exact Or.inr (Or.inr (Or.inr (Or.inr (Or.inr (Or.inl (g_swk (k := 5) (by decide) h5))))))
  by_cases h6 : x.toInt = 6
  · exact Or.inr (Or.inr (Or.inr (Or.inr (Or.inr (Or.inr (Or.inl (g_swk (k := 6) (by decide) h6)))))))
  by_cases h7 : x.toInt = 7
  · exact Or.inr (Or.inr (Or.inr (Or.inr (Or.inr (Or.inr (Or.inr (Or.inl (g_swk (k := 7) (by decide) h7))))))))
  by_cases h8 : x.toInt = 8
  · exact Or.inr (Or.inr (Or.inr (Or.inr (Or.inr (Or.inr (Or.inr (Or.inr (Or.inl (g_swk (k := 8) (by decide) h8)))))))))
  by_cases h9 : x.toInt = 9
  · exact Or.inr (Or.inr (Or.inr (Or.inr (Or.inr (Or.inr (Or.inr (Or.inr (Or.inr (Or.inl (g_swk (k := 9) (by decide) h9))))))))))
  by_cases h10 : x.toInt = 10
  · exact Or.inr (Or.inr (Or.inr (Or.inr (Or.inr (Or.inr (Or.inr (Or.inr (Or.inr (Or.inr (Or.inl (g_swk (k := 10) (by decide) h10)))))))))))
  by_cases h11 : x.toInt = 11
  · exact Or.inr (Or.inr (Or.inr (Or.inr (Or.inr (Or.inr (Or.inr (Or.inr (Or.inr (Or.inr (Or.inr (Or.inl (g_swk (k := 11) (by decide) h11))))))))))))
  by_cases h12 : x.toInt = 12
  · exact Or.inr (Or.inr (Or.inr (Or.inr (Or.inr (Or.inr (Or.inr (Or.inr (Or.inr (Or.inr (Or.inr (Or.inr (Or.inl (g_swk (k := 12) (by decide) h12)))))))))))))
  by_cases h13 : x.toInt = 13
  · exact Or.inr (Or.inr (Or.inr (Or.inr (Or.inr (Or.inr (Or.inr (Or.inr (Or.inr (Or.inr (Or.inr (Or.inr (Or.inr (Or.inl (g_swk (k := 13) (by decide) h13))))))))))))))
  by_cases h14 : x.toInt = 14
  · exact Or.inr (Or.inr (Or.inr (Or.inr (Or.inr (Or.inr (Or.inr (Or.inr (Or.inr (Or.inr (Or.inr (Or.inr (Or.inr (Or.inr (Or.inl (g_swk (k := 14) (by decide) h14)))))))))))))))
  by_cases h15 : x.toInt = 15
  · exact Or.inr (Or.inr (Or.inr (Or.inr (Or.inr (Or.inr (Or.inr (Or.inr (Or.inr (Or.inr (Or.inr (Or.inr (Or.inr (Or.inr (Or.inr (Or.inl (g_swk (k := 15) (by decide) h15))))))))))))))))
  by_cases h16 : x.toInt = 16
  · exact Or.inr (Or.inr (Or.inr (Or.inr (Or.inr (Or.inr (Or.inr (Or.inr (Or.inr (Or.inr (Or.inr (Or.inr (Or.inr (Or.inr (Or.inr (Or.inr (Or.inl (g_swk (k := 16) (by decide) h16)))))))))))))))))
  by_cases h17 : x.toInt = 17
  · exact Or.inr (Or.inr (Or.inr (Or.inr (Or.inr (Or.inr (Or.inr (Or.inr (Or.inr (Or.inr (Or.inr (Or.inr (Or.inr (Or.inr (Or.inr (Or.inr (Or.inr (Or.inl (g_swk (k := 17) (by decide) h17))))))))))))))))))
  by_cases h18 : x.toInt = 18
  · exact Or.inr (Or.inr (Or.inr (Or.inr (Or.inr (Or.inr (Or.inr (Or.inr (Or.inr (Or.inr (Or.inr (Or.inr (Or.inr (Or.inr (Or.inr (Or.inr (Or.inr (Or.inr (Or.inl (g_swk (k := 18) (by decide) h18)))))))))))))))))))
  by_cases h19 : x.toInt = 19
  · exact Or.inr (Or.inr (Or.inr (Or.inr (Or.inr (Or.inr (Or.inr (Or.inr (Or.inr (Or.inr (Or.inr (Or.inr (Or.inr (Or.inr (Or.inr (Or.inr (Or.inr (Or.inr (Or.inr (Or.inl (g_swk (k := 19) (by decide) h19))))))))))))))))))))
  by_cases h20 : x.toInt = 20
  · exact Or.inr (Or.inr (Or.inr (Or.inr (Or.inr (Or.inr (Or.inr (Or.inr (Or.inr (Or.inr (Or.inr (Or.inr (Or.inr (Or.inr (Or.inr (Or.inr (Or.inr (Or.inr (Or.inr (Or.inr (Or.inl (g_swk (k := 20) (by decide) h20)))))))))))))))))))))
  by_cases h21 : x.toInt = 21
  · exact Or.inr (Or.inr (Or.inr (Or.inr (Or.inr (Or.inr (Or.inr (Or.inr (Or.inr (Or.inr (Or.inr (Or.inr (Or.inr (Or.inr (Or.inr (Or.inr (Or.inr (Or.inr (Or.inr (Or.inr (Or.inr (Or.inl (g_swk (k := 21) (by decide) h21))))))))))))))))))))))
  by_cases h22 : x.toInt = 22
  · exact Or.inr (Or.inr (Or.inr (Or.inr (Or.inr (Or.inr (Or.inr (Or.inr (Or.inr (Or.inr (Or.inr (Or.inr (Or.inr (Or.inr (Or.inr (Or.inr (Or.inr (Or.inr (Or.inr (Or.inr (Or.inr (Or.inr (Or.inl (g_swk (k := 22) (by decide) h22)))))))))))))))))))))))
  by_cases h23 : x.toInt = 23
  · exact Or.inr (Or.inr (Or.inr (Or.inr (Or.inr (Or.inr (Or.inr (Or.inr (Or.inr (Or.inr (Or.inr (Or.inr (Or.inr (Or.inr (Or.inr (Or.inr (Or.inr (Or.inr (Or.inr (Or.inr (Or.inr (Or.inr (Or.inr (Or.inl (g_swk (k := 23) (by decide) h23))))))))))))))))))))))))
  by_cases h24 : x.toInt = 24
  · exact Or.inr (Or.inr (Or.inr (Or.inr (Or.inr (Or.inr (Or.inr (Or.inr (Or.inr (Or.inr (Or.inr (Or.inr (Or.inr (Or.inr (Or.inr (Or.inr (Or.inr (Or.inr (Or.inr (Or.inr (Or.inr (Or.inr (Or.inr (Or.inr (Or.inl (g_swk (k := 24) (by decide) h24)))))))))))))))))))))))))
  exact Or.inr (Or.inr (Or.inr (Or.inr (Or.inr (Or.inr (Or.inr (Or.inr (Or.inr (Or.inr (Or.inr (Or.inr (Or.inr (Or.inr (Or.inr (Or.inr (Or.inr (Or.inr (Or.inr (Or.inr (Or.inr (Or.inr (Or.inr (Or.inr (Or.inr ((by omega))))))))))))))))))))))))))
set_option maxHeartbeats 4000000 in
set_option maxRecDepth 100000 in
/-- the law's loop: the class and the reference agree -/
theorem law_loop {p : Program} {l : Launch} {e : Env} {s : State} {m : MethodId} {below : List Frame} {meth : Method} {c : Code} {b L : Nat} {xs : Nat → Int32} {D : va_G} {cA : ClassId} (C : l_C p s m c b L xs D cA) (hr : meth.sig.returnType = ret) (hlocks : meth.locks = false) (hL : L ≤ 2048) {a bb : Nat → Nat} : ∀ (n i : Nat) (y : Int32), L < i + 4 * n → i ≤ 2100 → y.toInt = (i : Int) → ∀ (u v : Mem) (H : Heap) (locs : List Loc), Inv u v → l_W D (Xw cA a) (Yw cA bb) (fun q : Nat => s.heap.size ≤ q) s.heap u v H locs → ∀ (ls : Array Slot), lv_has ls 4 [(0, .ref b), (1, .ref (a 0)), (2, .ref (bb 0)), (3, .int y)] → W p l e room_1 s m #[Value.ref b] below meth c H locs 34 11789 (lw_Z below #[Value.ref b] s) (F0 m 18 ls []) := by
  have hx := C.1.1
  have hb := C.1.2.1
  have hX := C.2.2.2.1
  have hbl := C.2.2.2.2
  have hbA : ¬ (fun q : Nat => s.heap.size ≤ q) b := Nat.not_le.mpr hbl
  have stop : ∀ (i : Nat) (y : Int32), y.toInt = (i : Int) → ∀ (u v : Mem) (H : Heap) (locs : List Loc), l_W D (Xw cA a) (Yw cA bb) (fun q : Nat => s.heap.size ≤ q) s.heap u v H locs → ∀ (ls : Array Slot), lv_has ls 4 [(0, .ref b), (1, .ref (a 0)), (2, .ref (bb 0)), (3, .int y)] → (¬ (nI L - 4) < y → W p l e room_1 s m #[Value.ref b] below meth c H locs 34 11789 (lw_Z below #[Value.ref b] s) (F0 m 26 ls [])) → W p l e room_1 s m #[Value.ref b] below meth c H locs 34 11789 (lw_Z below #[Value.ref b] s) (F0 m 18 ls []) := by
    intro i y hy u v H locs hW ls hl k
    refine lv_iload_n hx hb dL_law_18 rfl (lv_at hl 3 rfl) ?_
    refine lv_aload_n hx hb dL_law_19 rfl (lv_at hl 0 rfl) ?_
    refine va_slen hx hb hX hbl hbA hW.2.2.2 dL_law_20 ?_
    refine lv_iconst (v := 4) hx hb dL_law_21 (by decide) ?_
    refine lv_isub hx hb dL_law_22 ?_
    refine lv_icmp_gt (tgt := 874) hx hb dL_law_23 (by decide) (fun _ => ?_) k
    refine lv_iconst (v := 1) hx hb dL_law_874 (by decide) ?_
    refine va_forget (fun q hq => hW.2.2.2.2.2 q hq) ?_
    exact lw_ret hx hb hr hlocks dL_law_875
  have eL : (nI L - 4).toInt = (L : Int) - 4 := by rw [i_sub (by rw [nI_toInt (by omega), l_4]; omega) (by rw [nI_toInt (by omega), l_4]; omega), nI_toInt (by omega), l_4]
  intro n
  induction n with
  | zero =>
    intro i y hn hi hy u v H locs hI hW ls hl
    exact stop i y hy u v H locs hW ls hl (fun q => absurd (i_lt.mpr (by omega)) q)
  | succ n ih =>
    intro i y hn hi hy u v H locs hI hW ls hl
    refine stop i y hy u v H locs hW ls hl (fun q => ?_)
    have hiL : i + 3 < L := by have := mt i_lt.mpr q; omega
    have next : ∀ (u v : Mem) (H : Heap) (locs : List Loc), Inv u v → l_W D (Xw cA a) (Yw cA bb) (fun q : Nat => s.heap.size ≤ q) s.heap u v H locs → W p l e room_1 s m #[Value.ref b] below meth c H locs 34 11789 (lw_Z below #[Value.ref b] s) (F0 m 868 ls []) := by
      intro u v H locs hI hW
      obtain ⟨y2, ey2⟩ : ∃ z : Int32, z = y + 4 := ⟨_, rfl⟩
      refine lv_iinc (v := y2) (lv' := [(3, .int y2), (0, .ref b), (1, .ref (a 0)), (2, .ref (bb 0))]) hx hb dL_law_868 hl (k := 3) rfl (by rw [ey2]; rfl) (by decide) rfl (fun ls hl => ?_)
      refine lv_goto (tgt := 18) hx hb dL_law_871 (by decide) ?_
      exact ih (i + 4) y2 (by omega) (by omega) (by rw [ey2, i_add (by rw [l_4]; omega) (by rw [l_4]; omega), l_4]; omega) u v H locs hI hW ls (lv_sub hl [1, 2, 3, 0] rfl)
    refine lv_aload_n hx hb dL_law_26 rfl (lv_at hl 0 rfl) ?_
    refine lv_iload_n hx hb dL_law_27 rfl (lv_at hl 3 rfl) ?_
    refine va_sld hx hb hX hbl hbA hW.2.2.2 (l_in hy hiL hL).1 dL_law_28 ?_
    refine lv_bipush (v := 31) hx hb dL_law_29 (by decide) ?_
    refine lv_iand hx hb dL_law_31 ?_
    refine lv_topi (fun x ex => ?_)
    rcases g_sw25 x with hs | hs | hs | hs | hs | hs | hs | hs | hs | hs | hs | hs | hs | hs | hs | hs | hs | hs | hs | hs | hs | hs | hs | hs | hs | hs
    · exact lv_tableIn (tgt := 148) hx hb dL_law_32 (by rw [hs]; decide) (by rw [hs]; decide) (by rw [hs]; rfl) (by decide) (law_case_0 C hy hiL hL hl next hI hW)
    · exact lv_tableIn (tgt := 191) hx hb dL_law_32 (by rw [hs]; decide) (by rw [hs]; decide) (by rw [hs]; rfl) (by decide) (law_case_1 C hy hiL hL hl next hI hW)
    · exact lv_tableIn (tgt := 204) hx hb dL_law_32 (by rw [hs]; decide) (by rw [hs]; decide) (by rw [hs]; rfl) (by decide) (law_case_2 C hy hiL hL hl next hI hW)
    · exact lv_tableIn (tgt := 217) hx hb dL_law_32 (by rw [hs]; decide) (by rw [hs]; decide) (by rw [hs]; rfl) (by decide) (law_case_3 C hy hiL hL hl next hI hW)
    · exact lv_tableIn (tgt := 251) hx hb dL_law_32 (by rw [hs]; decide) (by rw [hs]; decide) (by rw [hs]; rfl) (by decide) (law_case_4 C hy hiL hL hl next hI hW)
    · exact lv_tableIn (tgt := 275) hx hb dL_law_32 (by rw [hs]; decide) (by rw [hs]; decide) (by rw [hs]; rfl) (by decide) (law_case_5 C hy hiL hL hl next hI hW)
    · exact lv_tableIn (tgt := 299) hx hb dL_law_32 (by rw [hs]; decide) (by rw [hs]; decide) (by rw [hs]; rfl) (by decide) (law_case_6 C hy hiL hL hl next hI hW)
    · exact lv_tableIn (tgt := 342) hx hb dL_law_32 (by rw [hs]; decide) (by rw [hs]; decide) (by rw [hs]; rfl) (by decide) (law_case_7 C hy hiL hL hl next hI hW)
    · exact lv_tableIn (tgt := 375) hx hb dL_law_32 (by rw [hs]; decide) (by rw [hs]; decide) (by rw [hs]; rfl) (by decide) (law_case_8 C hy hiL hL hl next hI hW)
    · exact lv_tableIn (tgt := 408) hx hb dL_law_32 (by rw [hs]; decide) (by rw [hs]; decide) (by rw [hs]; rfl) (by decide) (law_case_9 C hy hiL hL hl next hI hW)
    · exact lv_tableIn (tgt := 451) hx hb dL_law_32 (by rw [hs]; decide) (by rw [hs]; decide) (by rw [hs]; rfl) (by decide) (law_case_10 C hy hiL hL hl next hI hW)
    · exact lv_tableIn (tgt := 474) hx hb dL_law_32 (by rw [hs]; decide) (by rw [hs]; decide) (by rw [hs]; rfl) (by decide) (law_case_11 C hy hiL hL hl next hI hW)
    · exact lv_tableIn (tgt := 497) hx hb dL_law_32 (by rw [hs]; decide) (by rw [hs]; decide) (by rw [hs]; rfl) (by decide) (law_case_12 C hy hiL hL hl next hI hW)
    · exact lv_tableIn (tgt := 520) hx hb dL_law_32 (by rw [hs]; decide) (by rw [hs]; decide) (by rw [hs]; rfl) (by decide) (law_case_13 C hy hiL hL hl next hI hW)
    · exact lv_tableIn (tgt := 533) hx hb dL_law_32 (by rw [hs]; decide) (by rw [hs]; decide) (by rw [hs]; rfl) (by decide) (law_case_14 C hy hiL hL hl next hI hW)
    · exact lv_tableIn (tgt := 546) hx hb dL_law_32 (by rw [hs]; decide) (by rw [hs]; decide) (by rw [hs]; rfl) (by decide) (law_case_15 C hy hiL hL hl next hI hW)
    · exact lv_tableIn (tgt := 579) hx hb dL_law_32 (by rw [hs]; decide) (by rw [hs]; decide) (by rw [hs]; rfl) (by decide) (law_case_16 C hy hiL hL hl next hI hW)
    · exact lv_tableIn (tgt := 613) hx hb dL_law_32 (by rw [hs]; decide) (by rw [hs]; decide) (by rw [hs]; rfl) (by decide) (law_case_17 C hy hiL hL hl next hI hW)
    · exact lv_tableIn (tgt := 646) hx hb dL_law_32 (by rw [hs]; decide) (by rw [hs]; decide) (by rw [hs]; rfl) (by decide) (law_case_18 C hy hiL hL hl next hI hW)
    · exact lv_tableIn (tgt := 690) hx hb dL_law_32 (by rw [hs]; decide) (by rw [hs]; decide) (by rw [hs]; rfl) (by decide) (law_case_19 C hy hiL hL hl next hI hW)
    · exact lv_tableIn (tgt := 723) hx hb dL_law_32 (by rw [hs]; decide) (by rw [hs]; decide) (by rw [hs]; rfl) (by decide) (law_case_20 C hy hiL hL hl next hI hW)
    · exact lv_tableIn (tgt := 766) hx hb dL_law_32 (by rw [hs]; decide) (by rw [hs]; decide) (by rw [hs]; rfl) (by decide) (law_case_21 C hy hiL hL hl next hI hW)
    · exact lv_tableIn (tgt := 789) hx hb dL_law_32 (by rw [hs]; decide) (by rw [hs]; decide) (by rw [hs]; rfl) (by decide) (law_case_22 C hy hiL hL hl next hI hW)
    · exact lv_tableIn (tgt := 832) hx hb dL_law_32 (by rw [hs]; decide) (by rw [hs]; decide) (by rw [hs]; rfl) (by decide) (law_case_23 C hy hiL hL hl next hI hW)
    · exact lv_tableIn (tgt := 855) hx hb dL_law_32 (by rw [hs]; decide) (by rw [hs]; decide) (by rw [hs]; rfl) (by decide) (law_case_24 C hy hiL hL hl next hI hW)
    · exact lv_tableOut (tgt := 868) hx hb dL_law_32 hs (by decide) (next u v H locs hI hW)
set_option maxHeartbeats 4000000 in
set_option maxRecDepth 100000 in
theorem whole_start {p : Program} {e : Env} {s : State} {m : MethodId} {below : List Frame} {meth : Method} {c : Code} (l : Launch) {b L : Nat} {xs : Nat → Int32} (hL : L ≤ 2048) (C0 : lw_At p s m meth c b L xs) : W p l e room_1 s m #[Value.ref b] below meth c s.heap [] 0 0 (lw_Z below #[Value.ref b] s) (entryFrame m ([Value.ref b] : List Value).toArray 4) := by
  obtain ⟨hx, hb, hr, hml, hown, hts, hX, hbl, hlocks, hgv⟩ := id C0
  have S : g_S p m c cL_law s #[Value.ref b] RL := ⟨hx, hb, hown, fun w h => hts w (tT_sub w h)⟩
  have hA : ∀ q : Nat, s.heap.size ≤ q → (fun q : Nat => s.heap.size ≤ q) q := fun _ h => h
  obtain ⟨c0, iS0, hKn0⟩ := u_known (C := RX0) (T := TX0) (N := 5) (n := 5) S.2.2.2 iX0 (S.2.2.2 _ kw_87)
  obtain ⟨c1, iS1, hKn1⟩ := u_known (C := RX1) (T := TX1) (N := 3) (n := 3) S.2.2.2 iX1 (S.2.2.2 _ kw_68)
  obtain ⟨c2, iS2, hKn2⟩ := u_known (C := RX2) (T := TX2) (N := 7) (n := 7) S.2.2.2 iX2 (S.2.2.2 _ kw_35)
  obtain ⟨c3, iS3, hKn3⟩ := u_known (C := RX3) (T := TX3) (N := 1) (n := 1) S.2.2.2 iX3 (S.2.2.2 _ kw_114)
  obtain ⟨c4, iS4, hKn4⟩ := u_known (C := RX4) (T := TX4) (N := 9) (n := 9) S.2.2.2 iX4 (S.2.2.2 _ kw_27)
  obtain ⟨c5, iS5, hKn5⟩ := u_known (C := RX5) (T := TX5) (N := 18) (n := 18) S.2.2.2 iX5 (S.2.2.2 _ kw_405)
  obtain ⟨dC, dI, hKc⟩ : ∃ (dC : Nat → ClassId) (dI : Nat → Nat → Nat), ∀ (k : Nat) (q : vw_C), classes[k]? = some q → u_Kn s q.1 q.2.1 q.2.2 (dC k) (dI k) := by
    refine ⟨fun k => if k = 0 then c0 else if k = 1 then c1 else if k = 2 then c2 else if k = 3 then c3 else if k = 4 then c4 else c5, fun k => if k = 0 then iS0 else if k = 1 then iS1 else if k = 2 then iS2 else if k = 3 then iS3 else if k = 4 then iS4 else iS5, ?_⟩
    intro k q hq
    match k, hq with
    | 0, hq => cases hq; exact hKn0
    | 1, hq => cases hq; exact hKn1
    | 2, hq => cases hq; exact hKn2
    | 3, hq => cases hq; exact hKn3
    | 4, hq => cases hq; exact hKn4
    | 5, hq => cases hq; exact hKn5
    | k + 6, hq => simp [classes] at hq
  obtain ⟨cA, hA1, hA2⟩ := i_arr (S.2.2.2 _ kw_66)
  obtain ⟨D, hDe⟩ : ∃ D : va_G, D = (dC, dI) := ⟨_, rfl⟩
  have hK : va_K D classes [(cA, .int)] s := by
    rw [hDe]
    refine ⟨hKc, fun k q h => ?_⟩
    match k, h with
    | 0, h => cases h; exact ⟨hA1, hA2⟩
    | k + 1, h => simp at h
  have hS : va_S (fun q : Nat => s.heap.size ≤ q) s.heap s.heap [] := va_S.rf
  have hP : va_P D classes [] s.heap := fun k q h => by simp at h
  have hD : va_D (fun q : Nat => s.heap.size ≤ q) [] := ⟨fun i j p q h => by simp at h, fun k q h => by simp at h⟩
  have hl := lv_entry ([.ref b]) (n := 4) (Nat.le_of_ble_eq_true rfl)
  rw [lg_entry_eq]
  generalize (lg_sl ([.ref b]) ++ List.replicate (4 - (lg_sl ([.ref b])).length) Slot.unset).toArray = ls at hl ⊢
  have hl : lv_has ls 4 [(0, .ref b)] := hl
  have hZ : xZ s := ⟨va_Nw.of rfl (hts _ kn_36), va_Nw.of rfl (hts _ kn_69), va_Nw.of rfl (hts _ kn_88), va_Nw.of rfl (hts _ kn_115)⟩
  refine va_new (ci := 4) (fs := [.null, .null, .null, .null, .null, .null, .null, .int 0, .int 0]) (C := RX4) (T := TX4) (N := 9) hx hb S.2.2.2 iX4 tyX4 tyX4_ok S.2.2.1 (S.2.2.2 _ kw_26) (S.2.2.2 _ kw_27) (S.2.2.2 _ kw_19) hK hP hD hS hA rfl (fun j hj => by rcases (show j = 0 ∨ j = 1 ∨ j = 2 ∨ j = 3 ∨ j = 4 ∨ j = 5 ∨ j = 6 ∨ j = 7 ∨ j = 8 by omega) with rfl | rfl | rfl | rfl | rfl | rfl | rfl | rfl | rfl <;> rfl) (Nat.le_of_ble_eq_true rfl) (Nat.le_of_ble_eq_true rfl) dL_law_0 (fun q0 H hP hD hS => ?_)
  have hP : va_P D classes [(q0, .inr (4, [.null, .null, .null, .null, .null, .null, .null, .int 0, .int 0]))] H := hP
  have hD : va_D (fun q : Nat => s.heap.size ≤ q) [(q0, .inr (4, [.null, .null, .null, .null, .null, .null, .null, .int 0, .int 0]))] := hD
  refine lv_dup hx hb dL_law_3 rfl ?_
  have hFc := va_free (wc := [(q0, .inr (4, [.null, .null, .null, .null, .null, .null, .null, .int 0, .int 0]))]) hD hS hA [0] rfl
  refine va_callv (va_runI (As := []) (rest := [.ref q0]) ⟨hx, hb, hml, S.2.2.1, S.2.2.2⟩ (c_X4_init l D cA q0 H.size _ (q_beginQ (v := fun _ _ => 0) (P := Inv) (fun _ _ q => q))) ⟨callB_of 0 S.2.2.2 (tT_in kw_30) rfl rfl rfl (S.2.2.2 _ kw_19) (S.2.2.2 _ kw_28) hd_X4_init ⟨Nat.le_of_ble_eq_true rfl, Nat.le_of_ble_eq_true rfl⟩, rfl, S.2.2.2 _ kw_29⟩ ⟨i_blind xZ_call, fun U hU hW => ⟨rfl, by rw [hU], by rw [hU]; exact hP, va_K.moved hW.alike hK, xZ_warm hW hZ⟩⟩ rfl rfl hl.1 rfl (lv_room (Nat.le_of_ble_eq_true rfl)) dL_law_4 ⟨Nat.le_of_ble_eq_true rfl, Nat.le_of_ble_eq_true rfl⟩) hS (fun q _ h => hFc q h) hFc (fun u1 t H1 locs ht hvm hw hB hz1 hk1 hS => ?_)
  obtain ⟨a, ha0, hP1, hD1⟩ := hB
  rw [ht] at hP1
  have hP : va_P D classes (Xw cA a u1) H1 := hP1
  have hD : va_D (fun q : Nat => s.heap.size ≤ q) (Xw cA a u1) := hD1.weaken (fun _ _ _ q => hFc _ q)
  generalize H1 = H at hP hS ⊢
  refine lv_astore_n (lv' := [(1, .ref q0), (0, .ref b)]) hx hb dL_law_7 rfl hl (by decide) rfl (fun ls hl => ?_)
  refine va_new (ci := 5) (fs := [.int 0, .null, .null, .null, .int 0, .null, .null, .null, .int 0, .null, .null, .null, .null, .null, .int 0, .int 0, .null, .null]) (C := RX5) (T := TX5) (N := 18) hx hb S.2.2.2 iX5 tyX5 tyX5_ok S.2.2.1 (S.2.2.2 _ kw_404) (S.2.2.2 _ kw_405) (S.2.2.2 _ kw_25) hK hP hD hS hA rfl (fun j hj => by rcases (show j = 0 ∨ j = 1 ∨ j = 2 ∨ j = 3 ∨ j = 4 ∨ j = 5 ∨ j = 6 ∨ j = 7 ∨ j = 8 ∨ j = 9 ∨ j = 10 ∨ j = 11 ∨ j = 12 ∨ j = 13 ∨ j = 14 ∨ j = 15 ∨ j = 16 ∨ j = 17 by omega) with rfl | rfl | rfl | rfl | rfl | rfl | rfl | rfl | rfl | rfl | rfl | rfl | rfl | rfl | rfl | rfl | rfl | rfl <;> rfl) (Nat.le_of_ble_eq_true rfl) (Nat.le_of_ble_eq_true rfl) dL_law_8 (fun q1 H hP hD hS => ?_)
  have hP : va_P D classes (Xw cA a u1 ++ [(q1, .inr (5, [.int 0, .null, .null, .null, .int 0, .null, .null, .null, .int 0, .null, .null, .null, .null, .null, .int 0, .int 0, .null, .null]))]) H := hP
  have hD : va_D (fun q : Nat => s.heap.size ≤ q) (Xw cA a u1 ++ [(q1, .inr (5, [.int 0, .null, .null, .null, .int 0, .null, .null, .null, .int 0, .null, .null, .null, .null, .null, .int 0, .int 0, .null, .null]))]) := hD
  refine lv_dup hx hb dL_law_11 rfl ?_
  have hPc := hP.sub (ws' := [(q1, .inr (5, [.int 0, .null, .null, .null, .int 0, .null, .null, .null, .int 0, .null, .null, .null, .null, .null, .int 0, .int 0, .null, .null]))]) [20] rfl
  have hFc := va_free (wc := [(q1, .inr (5, [.int 0, .null, .null, .null, .int 0, .null, .null, .null, .int 0, .null, .null, .null, .null, .null, .int 0, .int 0, .null, .null]))]) hD hS hA [20] rfl
  refine va_callv (va_runI (As := []) (rest := [.ref q1]) ⟨hx, hb, hml, S.2.2.1, S.2.2.2⟩ (c_X5_init l D cA q1 H.size _ hw) ⟨callB_of 0 S.2.2.2 (tT_in kw_408) rfl rfl rfl (S.2.2.2 _ kw_25) (S.2.2.2 _ kw_406) hd_X5_init ⟨Nat.le_of_ble_eq_true rfl, Nat.le_of_ble_eq_true rfl⟩, rfl, S.2.2.2 _ kw_407⟩ ⟨i_blind (fun _ _ _ _ _ => trivial), fun U hU hW => ⟨rfl, by rw [hU], by rw [hU]; exact hPc, va_K.moved hW.alike hK, trivial⟩⟩ rfl rfl hl.1 rfl (lv_room (Nat.le_of_ble_eq_true rfl)) dL_law_12 ⟨Nat.le_of_ble_eq_true rfl, Nat.le_of_ble_eq_true rfl⟩) hS (fun q _ h => hFc q h) hFc (fun v1 t H1 locs ht hvm hI hB hz1 hk1 hS => ?_)
  obtain ⟨bb, hb0, hP1, hD1⟩ := hB
  rw [ht] at hP1
  obtain ⟨hP2, hD2⟩ := va_join (wr := Xw cA a u1) (w1 := Yw cA bb v1) hP hD [20] [0, 1, 2, 3, 4, 5, 6, 7, 8, 9, 10, 11, 12, 13, 14, 15, 16, 17, 18, 19] rfl rfl (by decide) (by decide) hk1 hFc hP1 hD1
  refine lv_astore_n (lv' := [(2, .ref q1), (1, .ref q0), (0, .ref b)]) hx hb dL_law_15 rfl hl (by decide) rfl (fun ls hl => ?_)
  refine lv_iconst (v := 0) hx hb dL_law_16 (by decide) ?_
  refine lv_istore_n (lv' := [(3, .int 0), (2, .ref q1), (1, .ref q0), (0, .ref b)]) hx hb dL_law_17 rfl hl (by decide) rfl (fun ls hl => ?_)
  rw [← ha0, ← hb0] at hl
  have hPx : va_P D classes (Xw cA a u1) H1 := hP2.sub (ws' := Xw cA a u1) [0, 1, 2, 3, 4, 5, 6, 7, 8, 9, 10, 11, 12, 13, 14, 15, 16, 17, 18, 19] rfl
  exact law_loop ⟨S, hml, hK, hX, hbl⟩ hr hlocks hL 600 0 0 (by omega) (by omega) l_0 u1 v1 H1 locs hI ⟨hPx, hP1, hD2, hS⟩ ls (lv_sub hl [3, 2, 1, 0] rfl)
