/-! the class's own methods, in words of its memory -/
theorem m_isLeaf_t {x : Int32} {u : Mem} {post : Int32 → Mem → Prop} (h0 : 0 ≤ x.toInt) (h1 : x.toInt < 32) (k : post 1 u) : w_X4_isLeaf x u post :=
  And.intro (fun c => absurd (i_lt.mp c) (by rw [l_0]; omega)) (fun _ => And.intro (fun c => absurd (i_le.mp c) (by rw [l_32]; omega)) (fun _ => k))
theorem m_isLeaf_f {x : Int32} {u : Mem} {post : Int32 → Mem → Prop} (h : ¬ (0 ≤ x.toInt ∧ x.toInt < 32)) (k : post 0 u) : w_X4_isLeaf x u post :=
  And.intro (fun _ => k) (fun c => And.intro (fun _ => k) (fun c2 => absurd ⟨by have := mt i_lt.mpr c; rw [l_0] at this; omega, by have := mt i_le.mpr c2; rw [l_32] at this; omega⟩ h))
theorem m_isHeight_t {x : Int32} {u : Mem} {post : Int32 → Mem → Prop} (h0 : 0 ≤ x.toInt) (h1 : x.toInt ≤ (u 18 0).toInt) (k : post 1 u) : w_X4_isHeight x u post :=
  And.intro (fun c => absurd (i_lt.mp c) (by rw [l_0]; omega)) (fun _ => And.intro (fun c => absurd (i_lt.mp c) (by omega)) (fun _ => k))
theorem m_isHeight_f {x : Int32} {u : Mem} {post : Int32 → Mem → Prop} (h : ¬ (0 ≤ x.toInt ∧ x.toInt ≤ (u 18 0).toInt)) (k : post 0 u) : w_X4_isHeight x u post :=
  And.intro (fun _ => k) (fun c => And.intro (fun _ => k) (fun c2 => absurd ⟨by have := mt i_lt.mpr c; rw [l_0] at this; omega, by have := mt i_lt.mpr c2; omega⟩ h))
theorem m_isGone {x : Int32} {t : Nat} {u : Mem} {post : Int32 → Mem → Prop} (hx : x.toInt = (t : Int)) (ht : t < 201) (k0 : u 10 t = -1 → post 0 u) (k1 : ¬ u 10 t = -1 → post 1 u) : w_X1_isGone x u post := by
  refine And.intro (vin hx ht) (nm_mk ?_)
  rw [tn hx]
  exact And.intro k0 k1
theorem m_isOf {x l : Int32} {t : Nat} {u : Mem} {post : Int32 → Mem → Prop} (hx : x.toInt = (t : Int)) (ht : t < 400) (k1 : u 4 t = l → u 7 t = -1 → post 1 u) (k0 : ¬ (u 4 t = l ∧ u 7 t = -1) → post 0 u) : w_X2_isOf x l u post := by
  refine And.intro (vin hx ht) (nm_mk ?_)
  rw [tn hx]
  refine And.intro (fun c => And.intro (vin hx ht) (nm_mk ?_)) (fun c => k0 (fun h => c h.1))
  exact And.intro (fun c2 => k1 c c2) (fun c2 => k0 (fun h => c2 h.2))
theorem m_wide {x : Int32} {u : Mem} {post : Int64 → Mem → Prop} (k : post (x.toInt64 - 4000000000) u) : w_X4_wide x u post := k
/-- Arrays.fill -/
theorem lp_fill (j n : Nat) (x f3 : Int32) (post : Mem → Prop) (K : Int32 → Mem → Prop) (hn : n < 100000) (hf : f3.toInt = (n : Int)) (u0 : Mem) (hK : ∀ y u, (∀ a, a ≠ j → u a = u0 a) → (∀ b, b < n → u j b = x) → K y u) : ∀ (d i : Nat) (y : Int32) (u : Mem), i + d = n → y.toInt = (i : Int) → (∀ a, a ≠ j → u a = u0 a) → (∀ b, b < i → u j b = x) → L_J7_fill_53178_5 j n x f3 post K (d + 1) y u := by
  intro d
  induction d with
  | zero =>
    intro i y u hi hy h1 h2
    exact And.intro (fun _ => hK y u h1 (fun b hb => h2 b (by omega))) (fun c => absurd (i_le.mpr (by omega)) c)
  | succ d ih =>
    intro i y u hi hy h1 h2
    refine And.intro (fun c => absurd (i_le.mp c) (by omega)) (fun _ => And.intro (vin hy (by omega)) (nm_mk (nm_mk ?_)))
    rw [tn hy]
    refine ih (i + 1) _ _ (by omega) (inc hy (by omega)) (fun a ha => by rw [ms_o _ _ _ ha]; exact h1 a ha) (fun b hb => ?_)
    rw [ms_i]
    split
    · rfl
    · exact h2 b (by omega)
theorem m_fill {j n : Nat} {x : Int32} {u : Mem} {post : Mem → Prop} (hn : n < 100000) (k : ∀ u', (∀ a, a ≠ j → u' a = u a) → (∀ b, b < n → u' j b = x) → post u') : w_J7_fill_53178 j n x u post :=
  nm_mk ⟨n + 1, lp_fill j n x (nI n) post _ hn (nI_toInt (by omega)) u (fun _ u' h1 h2 => k u' h1 h2) n 0 0 u (by omega) l_0 (fun _ _ => rfl) (fun b hb => absurd hb (Nat.not_lt_zero b))⟩
/-- Block.startFrom: the array j may be one of the block's own -/
theorem lp_startFrom (j : Nat) (post : Mem → Prop) (K : Int32 → Mem → Prop) (u0 : Mem) (hK : ∀ y u, (∀ a, a ≠ 11 → a ≠ 12 → u a = u0 a) → (∀ b, b < 32 → u 11 b = u0 j b ∧ u 12 b = u0 j b) → K y u) : ∀ (d i : Nat) (y : Int32) (u : Mem), i + d = 32 → y.toInt = (i : Int) → (∀ a, a ≠ 11 → a ≠ 12 → u a = u0 a) → (∀ b, b < i → u 11 b = u0 j b ∧ u 12 b = u0 j b) → (∀ b, i ≤ b → u 11 b = u0 11 b ∧ u 12 b = u0 12 b) → L_X0_startFrom_2 j 32 post K (d + 1) y u := by
  intro d
  induction d with
  | zero =>
    intro i y u hi hy h1 h2 h3
    exact And.intro (fun _ => hK y u h1 (fun b hb => h2 b (by omega))) (fun c => absurd (i_le.mpr (by rw [l_32]; omega)) c)
  | succ d ih =>
    intro i y u hi hy h1 h2 h3
    refine And.intro (fun c => absurd (i_le.mp c) (by rw [l_32]; omega)) (fun _ => And.intro (vin hy (by omega)) (nm_mk (And.intro (vin hy (by omega)) (nm_mk (And.intro (vin hy (by omega)) (nm_mk (And.intro (vin hy (by omega)) (nm_mk (nm_mk ?_)))))))))
    rw [tn hy]
    have hj : u j i = u0 j i := by
      by_cases ha : j = 11
      · rw [ha]; exact (h3 i (Nat.le_refl i)).1
      · by_cases hb : j = 12
        · rw [hb]; exact (h3 i (Nat.le_refl i)).2
        · rw [h1 j ha hb]
    have hj2 : g_ms u 11 i (u j i) j i = u0 j i := by
      by_cases ha : j = 11
      · subst ha; rw [ms_s, hj]
      · rw [ms_o _ _ _ ha, hj]
    rw [hj2, hj]
    refine ih (i + 1) _ _ (by omega) (inc hy (by omega)) (fun a ha hb => by rw [ms_o _ _ _ hb, ms_o _ _ _ ha]; exact h1 a ha hb) (fun b hb => ?_) (fun b hb => ?_)
    · rw [ms_o _ (j := 12) (a := 11) _ _ (by decide), ms_i, ms_i, ms_o _ (j := 11) (a := 12) _ _ (by decide)]
      by_cases hbi : b = i
      · subst hbi; simp
      · rw [if_neg hbi, if_neg hbi]; exact h2 b (by omega)
    · rw [ms_o _ (j := 12) (a := 11) _ _ (by decide), ms_i, ms_i, ms_o _ (j := 11) (a := 12) _ _ (by decide)]
      rw [if_neg (by omega), if_neg (by omega)]; exact h3 b (by omega)
theorem m_startFrom {j : Nat} {u : Mem} {post : Mem → Prop} (k : ∀ u', (∀ a, a ≠ 11 → a ≠ 12 → a ≠ 19 → a ≠ 20 → u' a = u a) → (∀ b, b < 32 → u' 11 b = u j b ∧ u' 12 b = u j b) → u' 19 0 = 0 → u' 20 0 = 0 → post u') : w_X0_startFrom j 32 u post := by
  refine ⟨33, lp_startFrom j post _ u (fun y u' h1 h2 => nm_mk (nm_mk ?_)) 32 0 0 u (by omega) l_0 (fun _ _ _ => rfl) (fun b hb => absurd hb (Nat.not_lt_zero b)) (fun _ _ => ⟨rfl, rfl⟩)⟩
  refine k _ (fun a h11 h12 h19 h20 => ?_) (fun b hb => ?_) ?_ ?_
  · rw [ms_o _ _ _ h20, ms_o _ _ _ h19]; exact h1 a h11 h12
  · rw [ms_o _ (j := 20) _ _ (by decide), ms_o _ (j := 19) _ _ (by decide), ms_o _ (j := 20) _ _ (by decide), ms_o _ (j := 19) _ _ (by decide)]; exact h2 b hb
  · rw [ms_o _ (j := 20) _ _ (by decide), ms_s]
  · rw [ms_s]
theorem m_changesLeaf {x : Int32} {l : Nat} {u : Mem} {post : Int32 → Mem → Prop} (hx : x.toInt = (l : Int)) (hl : l < 32) (k0 : u 11 l = u 12 l → post 0 u) (k1 : ¬ u 11 l = u 12 l → post 1 u) : w_X0_changesLeaf x u post := by
  refine And.intro (vin hx hl) (nm_mk (And.intro (vin hx hl) (nm_mk ?_)))
  rw [tn hx]
  exact And.intro k0 k1
theorem lp_changes (post : Int32 → Mem → Prop) (K : Int32 → Int32 → Mem → Prop) (u : Mem) (hK : ∀ acc y : Int32, acc.toInt = ((cntK (fun l => decide (¬ u 11 l = u 12 l)) 32 : Nat) : Int) → K acc y u) : ∀ (d i : Nat) (acc y : Int32), i + d = 32 → y.toInt = (i : Int) → acc.toInt = ((cntK (fun l => decide (¬ u 11 l = u 12 l)) i : Nat) : Int) → L_X0_changes_4 post K (d + 1) acc y u := by
  intro d
  induction d with
  | zero =>
    intro i acc y hi hy ha
    have e : i = 32 := by omega
    subst e
    exact And.intro (fun _ => hK acc y ha) (fun c => absurd (i_le.mpr (by rw [l_32]; omega)) c)
  | succ d ih =>
    intro i acc y hi hy ha
    have hc := cntK_le (fun l => decide (¬ u 11 l = u 12 l)) i
    refine And.intro (fun c => absurd (i_le.mp c) (by rw [l_32]; omega)) (fun _ => m_changesLeaf hy (by omega) (fun c => ?_) (fun c => ?_))
    · refine And.intro (fun _ => nm_mk ?_) (fun q => absurd rfl q)
      exact ih (i + 1) _ _ (by omega) (inc hy (by omega)) (by rw [ha]; simp [cntK, c])
    · refine And.intro (fun q => absurd q (by decide)) (fun _ => nm_mk (nm_mk ?_))
      exact ih (i + 1) _ _ (by omega) (inc hy (by omega)) (by rw [inc ha (by omega)]; simp [cntK, c])
theorem m_changes {u : Mem} {post : Int32 → Mem → Prop} (k : ∀ r : Int32, r.toInt = ((cntK (fun l => decide (¬ u 11 l = u 12 l)) 32 : Nat) : Int) → post r u) : w_X0_changes u post :=
  ⟨33, lp_changes post _ u (fun acc _ h => k acc h) 32 0 0 0 (by omega) l_0 l_0⟩
theorem m_add {x1 x2 x3 x4 : Int32} {N : Nat} {u : Mem} {post : Mem → Prop} (hN : (u 17 0).toInt = (N : Int)) (hN4 : N < 400) (k : ∀ u', (∀ a, a ≠ 3 → a ≠ 4 → a ≠ 5 → a ≠ 6 → a ≠ 7 → a ≠ 17 → u' a = u a) → (u' 17 0).toInt = ((N + 1 : Nat) : Int) → (∀ b, b ≠ N → u' 3 b = u 3 b ∧ u' 4 b = u 4 b ∧ u' 5 b = u 5 b ∧ u' 6 b = u 6 b ∧ u' 7 b = u 7 b) → u' 3 N = x1 → u' 4 N = x2 → u' 5 N = x3 → u' 6 N = x4 → u' 7 N = -1 → post u') : w_X2_add x1 x2 x3 x4 u post := by
  refine And.intro (fun _ => ?_) (fun c => absurd (i_lt.mpr (by rw [l_400]; omega)) c)
  refine And.intro (vin hN hN4) (nm_mk ?_)
  rw [tn hN]
  refine And.intro (vin (i := N) (by rw [ms_o _ _ _ (by decide)]; exact hN) hN4) (nm_mk ?_)
  rw [show (g_ms u 3 N x1) 17 = u 17 from ms_o _ _ _ (by decide), tn hN]
  refine And.intro (vin (i := N) (by rw [ms_o _ _ _ (by decide), ms_o _ _ _ (by decide)]; exact hN) hN4) (nm_mk ?_)
  rw [show (g_ms (g_ms u 3 N x1) 4 N x2) 17 = u 17 by rw [ms_o _ _ _ (by decide), ms_o _ _ _ (by decide)], tn hN]
  refine And.intro (vin (i := N) (by rw [ms_o _ _ _ (by decide), ms_o _ _ _ (by decide), ms_o _ _ _ (by decide)]; exact hN) hN4) (nm_mk ?_)
  rw [show (g_ms (g_ms (g_ms u 3 N x1) 4 N x2) 5 N x3) 17 = u 17 by rw [ms_o _ _ _ (by decide), ms_o _ _ _ (by decide), ms_o _ _ _ (by decide)], tn hN]
  refine And.intro (vin (i := N) (by rw [ms_o _ _ _ (by decide), ms_o _ _ _ (by decide), ms_o _ _ _ (by decide), ms_o _ _ _ (by decide)]; exact hN) hN4) (nm_mk (nm_mk (nm_mk ?_)))
  rw [show (g_ms (g_ms (g_ms (g_ms u 3 N x1) 4 N x2) 5 N x3) 6 N x4) 17 = u 17 by rw [ms_o _ _ _ (by decide), ms_o _ _ _ (by decide), ms_o _ _ _ (by decide), ms_o _ _ _ (by decide)], tn hN]
  refine k _ (fun a h3 h4 h5 h6 h7 h17 => ?_) ?_ (fun b hb => ?_) ?_ ?_ ?_ ?_ ?_
  · rw [ms_o _ _ _ h17, ms_o _ _ _ h7, ms_o _ _ _ h6, ms_o _ _ _ h5, ms_o _ _ _ h4, ms_o _ _ _ h3]
  · rw [ms_s, ms_o _ _ _ (by decide), ms_o _ _ _ (by decide), ms_o _ _ _ (by decide), ms_o _ _ _ (by decide), ms_o _ _ _ (by decide)]
    exact inc hN (by omega)
  · simp [g_ms, va_up, upd, hb]
  all_goals simp [g_ms, va_up, upd]
