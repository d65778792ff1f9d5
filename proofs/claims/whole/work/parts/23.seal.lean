/-- the class's loop of seal -/
theorem lp_sealX (post : Int32 → Mem → Prop) (K : Int32 → Mem → Prop) (u0 : Mem) (N h : Nat) (hN : (u0 17 0).toInt = (N : Int)) (hh : (u0 18 0).toInt = (h : Int)) (hh2 : h < 200) (f : Nat → Bool) (hf : ∀ l, l < 32 → f l = decide (¬ u0 11 l = u0 12 l)) (hroom : N + cntK f 32 ≤ 400)
    (hK : ∀ (y : Int32) (u : Mem), (u 17 0).toInt = ((N + cntK f 32 : Nat) : Int) → (∀ a, a ≠ 3 → a ≠ 4 → a ≠ 5 → a ≠ 6 → a ≠ 7 → a ≠ 17 → u a = u0 a) → (∀ k, k < N → u 3 k = u0 3 k ∧ u 4 k = u0 4 k ∧ u 5 k = u0 5 k ∧ u 6 k = u0 6 k ∧ u 7 k = u0 7 k) → (∀ l, l < 32 → f l = true → (u 3 (N + cntK f l)).toInt = ((h + 1 : Nat) : Int) ∧ (u 4 (N + cntK f l)).toInt = (l : Int) ∧ u 5 (N + cntK f l) = u0 12 l ∧ u 6 (N + cntK f l) = u0 13 l ∧ u 7 (N + cntK f l) = -1) → K y u) :
    ∀ (d i : Nat) (y : Int32) (u : Mem), i + d = 32 → y.toInt = (i : Int) → (u 17 0).toInt = ((N + cntK f i : Nat) : Int) → (∀ a, a ≠ 3 → a ≠ 4 → a ≠ 5 → a ≠ 6 → a ≠ 7 → a ≠ 17 → u a = u0 a) → (∀ k, k < N → u 3 k = u0 3 k ∧ u 4 k = u0 4 k ∧ u 5 k = u0 5 k ∧ u 6 k = u0 6 k ∧ u 7 k = u0 7 k) → (∀ l, l < i → f l = true → (u 3 (N + cntK f l)).toInt = ((h + 1 : Nat) : Int) ∧ (u 4 (N + cntK f l)).toInt = (l : Int) ∧ u 5 (N + cntK f l) = u0 12 l ∧ u 6 (N + cntK f l) = u0 13 l ∧ u 7 (N + cntK f l) = -1) → L_X4_seal_42 post K (d + 1) y u := by
  intro d
  induction d with
  | zero =>
    intro i y u hi hy h17 h1 h2 h3
    have e : i = 32 := by omega
    subst e
    exact And.intro (fun _ => hK y u h17 h1 h2 h3) (fun c => absurd (i_le.mpr (by rw [l_32]; omega)) c)
  | succ d ih =>
    intro i y u hi hy h17 h1 h2 h3
    have e11 : u 11 = u0 11 := h1 11 (by decide) (by decide) (by decide) (by decide) (by decide) (by decide)
    have e12 : u 12 = u0 12 := h1 12 (by decide) (by decide) (by decide) (by decide) (by decide) (by decide)
    have e13 : u 13 = u0 13 := h1 13 (by decide) (by decide) (by decide) (by decide) (by decide) (by decide)
    have e18 : u 18 = u0 18 := h1 18 (by decide) (by decide) (by decide) (by decide) (by decide) (by decide)
    refine And.intro (fun c => absurd (i_le.mp c) (by rw [l_32]; omega)) (fun _ => m_changesLeaf hy (by omega) (fun c => And.intro (fun _ => nm_mk ?_) (fun q => absurd rfl q)) (fun c => And.intro (fun q => absurd q (by decide)) (fun _ => nm_mk (And.intro (vin hy (by omega)) (nm_mk (And.intro (vin hy (by omega)) (nm_mk ?_)))))))
    · rw [e11, e12] at c
      have hfi : f i = false := by rw [hf i (by omega)]; simp [c]
      refine ih (i + 1) _ _ (by omega) (inc hy (by omega)) (by rw [h17]; simp [cntK, hfi]) h1 h2 (fun l hl hfl => ?_)
      by_cases q : l = i
      · rw [q, hfi] at hfl; cases hfl
      · exact h3 l (by omega) hfl
    · rw [e11, e12] at c
      have hfi : f i = true := by rw [hf i (by omega)]; simp [c]
      have hlt : cntK f i < cntK f 32 := cntK_lt (by omega) hfi
      rw [tn hy, e12, e13, e18]
      refine m_add h17 (by omega) (fun u1 b1 b2 b3 c3 c4 c5 c6 c7 => nm_mk ?_)
      refine ih (i + 1) _ _ (by omega) (inc hy (by omega)) (by rw [b2]; simp [cntK, hfi]; omega) (fun a q3 q4 q5 q6 q7 q17 => (b1 a q3 q4 q5 q6 q7 q17).trans (h1 a q3 q4 q5 q6 q7 q17)) (fun k hk => ?_) (fun l hl hfl => ?_)
      · have hb := b3 k (by omega)
        have ha := h2 k hk
        exact ⟨hb.1.trans ha.1, hb.2.1.trans ha.2.1, hb.2.2.1.trans ha.2.2.1, hb.2.2.2.1.trans ha.2.2.2.1, hb.2.2.2.2.trans ha.2.2.2.2⟩
      · by_cases q : l = i
        · subst q
          exact ⟨by rw [c3]; exact inc hh (by omega), by rw [c4]; exact hy, c5, c6, c7⟩
        · have hlt2 : cntK f l < cntK f i := cntK_lt (by omega) hfl
          have hb := b3 (N + cntK f l) (by omega)
          have ha := h3 l (by omega) hfl
          rw [hb.1, hb.2.1, hb.2.2.1, hb.2.2.2.1, hb.2.2.2.2]
          exact ha
theorem lp_seal4 (post : Int32 → Mem → Prop) (K : Int32 → Int32 → Mem → Prop) (v : Mem) (h w : Nat) (hh : (v 13 0).toInt = (h : Int)) (hh2 : h ≤ 200) (hw : (v 14 0).toInt = (w : Int)) (hw6 : w ≤ 60) (hK : ∀ acc y : Int32, acc.toInt = ((cntK (fun l => decide (¬ nowS v h w l = v 0 (32 * h + l))) 32 : Nat) : Int) → K acc y v) : ∀ (d i : Nat) (acc y : Int32), i + d = 32 → y.toInt = (i : Int) → acc.toInt = ((cntK (fun l => decide (¬ nowS v h w l = v 0 (32 * h + l))) i : Nat) : Int) → L_X5_seal_4 post K (d + 1) acc y v := by
  intro d
  induction d with
  | zero =>
    intro i acc y hi hy ha
    have e : i = 32 := by omega
    subst e
    exact And.intro (fun _ => hK acc y ha) (fun c => absurd (i_le.mpr (by rw [l_32]; omega)) c)
  | succ d ih =>
    intro i acc y hi hy ha
    have hc := cntK_le (fun l => decide (¬ nowS v h w l = v 0 (32 * h + l))) i
    have e1 := s32 hh hy (by omega) (by omega)
    refine And.intro (fun c => absurd (i_le.mp c) (by rw [l_32]; omega)) (fun _ => n_nowOf hh hh2 hw hw6 hy (by omega) (nm_mk (nm_mk (And.intro (vin e1 (by omega)) (nm_mk ?_)))))
    rw [tn e1]
    refine And.intro (fun c => nm_mk (nm_mk ?_)) (fun c => nm_mk (nm_mk ?_))
    · exact ih (i + 1) _ _ (by omega) (inc hy (by omega)) (by rw [inc0 ha]; simp [cntK, c])
    · exact ih (i + 1) _ _ (by omega) (inc hy (by omega)) (by rw [inc ha (by omega)]; simp [cntK, c])
theorem nowS_cg {v v0 : Mem} {h w l : Nat} (e4 : v 4 = v0 4) (e5 : v 5 = v0 5) (e0 : v 0 (32 * h + l) = v0 0 (32 * h + l)) : nowS v h w l = nowS v0 h w l := by
  unfold nowS
  rw [e5, e0]
  congr 1
  exact lastK_cg w (fun i _ => by simp only [wl, e4])
/-- the reference's loop of seal -/
theorem lp_seal80 (f1 f2 : Int32) (post : Int32 → Mem → Prop) (K : Int32 → Mem → Prop) (v0 : Mem) (N h w : Nat) (hN : (v0 15 0).toInt = (N : Int)) (hh : (v0 13 0).toInt = (h : Int)) (hh2 : h < 200) (hf2 : f2.toInt = ((h + 1 : Nat) : Int)) (hw : (v0 14 0).toInt = (w : Int)) (hw6 : w ≤ 60) (f : Nat → Bool) (hf : ∀ l, l < 32 → f l = decide (¬ nowS v0 h w l = v0 0 (32 * h + l))) (hroom : N + cntK f 32 ≤ 400)
    (hK : ∀ (y : Int32) (v : Mem), (v 15 0).toInt = ((N + cntK f 32 : Nat) : Int) → (∀ a, a ≠ 0 → a ≠ 6 → a ≠ 7 → a ≠ 8 → a ≠ 9 → a ≠ 10 → a ≠ 15 → v a = v0 a) → (∀ j, j < 32 * (h + 1) → v 0 j = v0 0 j) → (∀ l, l < 32 → v 0 (32 * (h + 1) + l) = nowS v0 h w l) → (∀ k, k < N → v 6 k = v0 6 k ∧ v 7 k = v0 7 k ∧ v 8 k = v0 8 k ∧ v 9 k = v0 9 k ∧ v 10 k = v0 10 k) → (∀ l, l < 32 → f l = true → (v 6 (N + cntK f l)).toInt = (l : Int) ∧ (v 7 (N + cntK f l)).toInt = ((h + 1 : Nat) : Int) ∧ v 8 (N + cntK f l) = nowS v0 h w l ∧ v 9 (N + cntK f l) = v0 3 (lastK (wl v0 (nI l)) w - 1) ∧ v 10 (N + cntK f l) = 0) → K y v) :
    ∀ (d i : Nat) (y : Int32) (v : Mem), i + d = 32 → y.toInt = (i : Int) → (v 15 0).toInt = ((N + cntK f i : Nat) : Int) → (∀ a, a ≠ 0 → a ≠ 6 → a ≠ 7 → a ≠ 8 → a ≠ 9 → a ≠ 10 → a ≠ 15 → v a = v0 a) → (∀ j, j < 32 * (h + 1) → v 0 j = v0 0 j) → (∀ l, l < i → v 0 (32 * (h + 1) + l) = nowS v0 h w l) → (∀ k, k < N → v 6 k = v0 6 k ∧ v 7 k = v0 7 k ∧ v 8 k = v0 8 k ∧ v 9 k = v0 9 k ∧ v 10 k = v0 10 k) → (∀ l, l < i → f l = true → (v 6 (N + cntK f l)).toInt = (l : Int) ∧ (v 7 (N + cntK f l)).toInt = ((h + 1 : Nat) : Int) ∧ v 8 (N + cntK f l) = nowS v0 h w l ∧ v 9 (N + cntK f l) = v0 3 (lastK (wl v0 (nI l)) w - 1) ∧ v 10 (N + cntK f l) = 0) → L_X5_seal_80 f1 f2 post K (d + 1) y v := by
  intro d
  induction d with
  | zero =>
    intro i y v hi hy h15 h1 hs1 hs2 h2 h3
    have e : i = 32 := by omega
    subst e
    exact And.intro (fun _ => hK y v h15 h1 hs1 hs2 h2 h3) (fun c => absurd (i_le.mpr (by rw [l_32]; omega)) c)
  | succ d ih =>
    intro i y v hi hy h15 h1 hs1 hs2 h2 h3
    have e3 : v 3 = v0 3 := h1 3 (by decide) (by decide) (by decide) (by decide) (by decide) (by decide) (by decide)
    have e4 : v 4 = v0 4 := h1 4 (by decide) (by decide) (by decide) (by decide) (by decide) (by decide) (by decide)
    have e5 : v 5 = v0 5 := h1 5 (by decide) (by decide) (by decide) (by decide) (by decide) (by decide) (by decide)
    have e13 : v 13 = v0 13 := h1 13 (by decide) (by decide) (by decide) (by decide) (by decide) (by decide) (by decide)
    have e14 : v 14 = v0 14 := h1 14 (by decide) (by decide) (by decide) (by decide) (by decide) (by decide) (by decide)
    have hnow : nowS v h w i = nowS v0 h w i := nowS_cg e4 e5 (hs1 _ (by omega))
    have ex := s32 hf2 hy (by omega) (by omega)
    have ey := s32 hh hy (by omega) (by omega)
    refine And.intro (fun c => absurd (i_le.mp c) (by rw [l_32]; omega)) (fun _ => n_nowOf (by rw [e13]; exact hh) (by omega) (by rw [e14]; exact hw) hw6 hy (by omega) (nm_mk (nm_mk (And.intro (vin ex (by omega)) (nm_mk ?_)))))
    rw [hnow, tn ex]
    obtain ⟨v1, ev1⟩ : ∃ z : Mem, z = g_ms v 0 (32 * (h + 1) + i) (nowS v0 h w i) := ⟨_, rfl⟩
    rw [← ev1]
    have g0 : ∀ a, a ≠ 0 → v1 a = v a := fun a ha => by rw [ev1, ms_o _ _ _ ha]
    have gj : ∀ j, j ≠ 32 * (h + 1) + i → v1 0 j = v 0 j := fun j hj => by rw [ev1, ms_n _ _ _ hj]
    have gs : v1 0 (32 * (h + 1) + i) = nowS v0 h w i := by rw [ev1, ms_s]
    have gs1 : ∀ j, j < 32 * (h + 1) → v1 0 j = v0 0 j := fun j hj => by rw [gj j (by omega)]; exact hs1 j hj
    have gs2 : ∀ l, l < i + 1 → v1 0 (32 * (h + 1) + l) = nowS v0 h w l := fun l hl => by
      by_cases q : l = i
      · rw [q]; exact gs
      · rw [gj _ (by omega)]; exact hs2 l (by omega)
    refine nm_mk (nm_mk ?_)
    rw [g0 13 (by decide), e13]
    refine And.intro (vin ey (by omega)) (nm_mk ?_)
    rw [tn ey, gs1 (32 * h + i) (by omega)]
    refine And.intro (fun c => nm_mk ?_) (fun c => ?_)
    · have hfi : f i = false := by rw [hf i (by omega)]; simp [c]
      refine ih (i + 1) _ _ (by omega) (inc hy (by omega)) (by rw [g0 15 (by decide), h15]; simp [cntK, hfi]) (fun a q0 q6 q7 q8 q9 q10 q15 => (g0 a q0).trans (h1 a q0 q6 q7 q8 q9 q10 q15)) gs1 gs2 (fun k hk => by rw [g0 6 (by decide), g0 7 (by decide), g0 8 (by decide), g0 9 (by decide), g0 10 (by decide)]; exact h2 k hk) (fun l hl hfl => ?_)
      rw [g0 6 (by decide), g0 7 (by decide), g0 8 (by decide), g0 9 (by decide), g0 10 (by decide)]
      by_cases q : l = i
      · rw [q, hfi] at hfl; cases hfl
      · exact h3 l (by omega) hfl
    · have hfi : f i = true := by rw [hf i (by omega)]; simp [c]
      have hlt : cntK f i < cntK f 32 := cntK_lt (by omega) hfi
      have hlast : lastK (wl v0 (nI i)) w ≠ 0 := fun z => c (by unfold nowS pick; rw [if_pos z])
      have hle := lastK_le (wl v0 (nI i)) w
      have h15' : (v1 15 0).toInt = ((N + cntK f i : Nat) : Int) := by rw [g0 15 (by decide)]; exact h15
      have k15 : N + cntK f i < 400 := by omega
      refine And.intro (vin h15' k15) (nm_mk ?_)
      rw [tn h15']
      refine And.intro (vin (i := N + cntK f i) (by rw [ms_o _ _ _ (by decide)]; exact h15') k15) (nm_mk ?_)
      rw [show (g_ms v1 6 (N + cntK f i) y) 15 = v1 15 from ms_o _ _ _ (by decide), tn h15']
      refine And.intro (vin (i := N + cntK f i) (by rw [ms_o _ _ _ (by decide), ms_o _ _ _ (by decide)]; exact h15') k15) (nm_mk ?_)
      rw [show (g_ms (g_ms v1 6 (N + cntK f i) y) 7 (N + cntK f i) f2) 15 = v1 15 by rw [ms_o _ _ _ (by decide), ms_o _ _ _ (by decide)], tn h15']
      obtain ⟨v2, ev2⟩ : ∃ z : Mem, z = g_ms (g_ms (g_ms v1 6 (N + cntK f i) y) 7 (N + cntK f i) f2) 8 (N + cntK f i) (nowS v0 h w i) := ⟨_, rfl⟩
      rw [← ev2]
      have p1 : ∀ a, a ≠ 6 → a ≠ 7 → a ≠ 8 → v2 a = v1 a := fun a q6 q7 q8 => by rw [ev2, ms_o _ _ _ q8, ms_o _ _ _ q7, ms_o _ _ _ q6]
      have w2 : wl v2 y = wl v0 (nI i) := by funext k; simp only [wl, p1 4 (by decide) (by decide) (by decide), g0 4 (by decide), e4, i_nI hy (by omega)]
      refine n_lastOf (w := w) (by rw [p1 14 (by decide) (by decide) (by decide), g0 14 (by decide), e14]; exact hw) hw6 (fun r hr => ?_)
      rw [w2] at hr
      have er : r.toInt = ((lastK (wl v0 (nI i)) w - 1 : Nat) : Int) := by omega
      refine And.intro (vin er (by omega)) (nm_mk ?_)
      rw [tn er, p1 15 (by decide) (by decide) (by decide), p1 3 (by decide) (by decide) (by decide), g0 3 (by decide), e3, tn h15']
      refine And.intro (vin h15' k15) (nm_mk (And.intro (vin (i := N + cntK f i) (by rw [ms_o _ _ _ (by decide), p1 15 (by decide) (by decide) (by decide)]; exact h15') k15) (nm_mk (nm_mk (nm_mk (nm_mk ?_))))))
      rw [show (g_ms v2 9 (N + cntK f i) (v0 3 (lastK (wl v0 (nI i)) w - 1))) 15 = v1 15 by rw [ms_o _ _ _ (by decide), p1 15 (by decide) (by decide) (by decide)], tn h15']
      obtain ⟨v3, ev3⟩ : ∃ z : Mem, z = g_ms (g_ms (g_ms v2 9 (N + cntK f i) (v0 3 (lastK (wl v0 (nI i)) w - 1))) 10 (N + cntK f i) 0) 15 0 ((g_ms (g_ms v2 9 (N + cntK f i) (v0 3 (lastK (wl v0 (nI i)) w - 1))) 10 (N + cntK f i) 0) 15 0 + 1) := ⟨_, rfl⟩
      rw [← ev3]
      have r1 : ∀ a, a ≠ 6 → a ≠ 7 → a ≠ 8 → a ≠ 9 → a ≠ 10 → a ≠ 15 → v3 a = v1 a := fun a q6 q7 q8 q9 q10 q15 => by rw [ev3, ms_o _ _ _ q15, ms_o _ _ _ q10, ms_o _ _ _ q9]; exact p1 a q6 q7 q8
      have r15 : (v3 15 0).toInt = ((N + cntK f i + 1 : Nat) : Int) := by
        rw [ev3, ms_s, ms_o _ _ _ (by decide), ms_o _ _ _ (by decide), p1 15 (by decide) (by decide) (by decide)]
        exact inc h15' (by omega)
      have ro : ∀ k, k ≠ N + cntK f i → v3 6 k = v 6 k ∧ v3 7 k = v 7 k ∧ v3 8 k = v 8 k ∧ v3 9 k = v 9 k ∧ v3 10 k = v 10 k := fun k hk => by
        rw [ev3, ev2]
        simp [g_ms, va_up, upd, hk, g0]
      have rn : v3 6 (N + cntK f i) = y ∧ v3 7 (N + cntK f i) = f2 ∧ v3 8 (N + cntK f i) = nowS v0 h w i ∧ v3 9 (N + cntK f i) = v0 3 (lastK (wl v0 (nI i)) w - 1) ∧ v3 10 (N + cntK f i) = 0 := by
        rw [ev3, ev2]
        simp [g_ms, va_up, upd]
      have r0 : v3 0 = v1 0 := r1 0 (by decide) (by decide) (by decide) (by decide) (by decide) (by decide)
      refine ih (i + 1) _ _ (by omega) (inc hy (by omega)) (by rw [r15]; simp [cntK, hfi]; omega) (fun a q0 q6 q7 q8 q9 q10 q15 => (r1 a q6 q7 q8 q9 q10 q15).trans ((g0 a q0).trans (h1 a q0 q6 q7 q8 q9 q10 q15))) (by rw [r0]; exact gs1) (by rw [r0]; exact gs2) (fun k hk => ?_) (fun l hl hfl => ?_)
      · obtain ⟨q6, q7, q8, q9, q10⟩ := ro k (by omega)
        rw [q6, q7, q8, q9, q10]
        exact h2 k hk
      · by_cases q : l = i
        · subst q
          obtain ⟨q6, q7, q8, q9, q10⟩ := rn
          rw [q6, q7, q8, q9, q10]
          exact ⟨hy, hf2, rfl, rfl, rfl⟩
        · have hlt2 : cntK f l < cntK f i := cntK_lt (by omega) hfl
          obtain ⟨q6, q7, q8, q9, q10⟩ := ro (N + cntK f l) (by omega)
          rw [q6, q7, q8, q9, q10]
          exact h3 l (by omega) hfl
