theorem m_copyRow {x1 x2 : Int32} {k i : Nat} {u : Mem} {post : Mem → Prop} (hk : x1.toInt = (k : Int)) (hk4 : k < 400) (hi : x2.toInt = (i : Int)) (hi4 : i < 400) (kk : ∀ u', (∀ a, a ≠ 3 → a ≠ 4 → a ≠ 5 → a ≠ 6 → a ≠ 7 → u' a = u a) → (∀ a, a = 3 ∨ a = 4 ∨ a = 5 ∨ a = 6 ∨ a = 7 → ∀ b, u' a b = if b = i then u a k else u a b) → post u') : w_X2_copyRow x1 x2 u post := by
  refine And.intro (vin hk hk4) (nm_mk (And.intro (vin hi hi4) (nm_mk (And.intro (vin hk hk4) (nm_mk (And.intro (vin hi hi4) (nm_mk (And.intro (vin hk hk4) (nm_mk (And.intro (vin hi hi4) (nm_mk (And.intro (vin hk hk4) (nm_mk (And.intro (vin hi hi4) (nm_mk (And.intro (vin hk hk4) (nm_mk (And.intro (vin hi hi4) (nm_mk ?_)))))))))))))))))))
  rw [tn hk, tn hi]
  refine kk _ (fun a h3 h4 h5 h6 h7 => ?_) (fun a ha b => ?_)
  · rw [ms_o _ _ _ h7, ms_o _ _ _ h6, ms_o _ _ _ h5, ms_o _ _ _ h4, ms_o _ _ _ h3]
  · rcases ha with rfl | rfl | rfl | rfl | rfl <;> simp [g_ms, va_up, upd]
theorem lp_removeArchived (post : Int32 → Mem → Prop) (K : Int32 → Int32 → Mem → Prop) (u0 : Mem) (N : Nat) (hN : (u0 17 0).toInt = (N : Int)) (hN4 : N ≤ 400) (f : Nat → Bool) (hf : ∀ k, k < N → f k = decide (u0 7 k = -1))
    (hK : ∀ (acc y : Int32) (u : Mem), acc.toInt = ((cntK f N : Nat) : Int) → (∀ a, a ≠ 3 → a ≠ 4 → a ≠ 5 → a ≠ 6 → a ≠ 7 → u a = u0 a) → (∀ a, a = 3 ∨ a = 4 ∨ a = 5 ∨ a = 6 ∨ a = 7 → ∀ k, k < N → f k = true → u a (cntK f k) = u0 a k) → K acc y u) :
    ∀ (d i : Nat) (acc y : Int32) (u : Mem), i + d = N → y.toInt = (i : Int) → acc.toInt = ((cntK f i : Nat) : Int) → (∀ a, a ≠ 3 → a ≠ 4 → a ≠ 5 → a ≠ 6 → a ≠ 7 → u a = u0 a) → (∀ a, a = 3 ∨ a = 4 ∨ a = 5 ∨ a = 6 ∨ a = 7 → (∀ k, k < i → f k = true → u a (cntK f k) = u0 a k) ∧ ∀ k, i ≤ k → u a k = u0 a k) → L_X2_removeArchived_4 post K (d + 1) acc y u := by
  intro d
  induction d with
  | zero =>
    intro i acc y u hi hy ha h1 h2
    have e : i = N := by omega
    subst e
    exact And.intro (fun _ => hK acc y u ha h1 (fun a q => (h2 a q).1)) (fun c => absurd (i_le.mpr (by rw [h1 17 (by decide) (by decide) (by decide) (by decide) (by decide)]; omega)) c)
  | succ d ih =>
    intro i acc y u hi hy ha h1 h2
    have hc := cntK_le f i
    refine And.intro (fun c => absurd (i_le.mp c) (by rw [h1 17 (by decide) (by decide) (by decide) (by decide) (by decide)]; omega)) (fun _ => And.intro (vin hy (by omega)) (nm_mk ?_))
    rw [tn hy, (h2 7 (by decide)).2 i (Nat.le_refl i)]
    refine And.intro (fun c => ?_) (fun c => nm_mk ?_)
    · have hfi : f i = true := by rw [hf i (by omega)]; simp [c]
      refine m_copyRow hy (by omega) ha (by omega) (fun u1 b1 b2 => nm_mk (nm_mk ?_))
      refine ih (i + 1) _ _ _ (by omega) (inc hy (by omega)) (by rw [inc ha (by omega)]; simp [cntK, hfi]) (fun a a3 a4 a5 a6 a7 => (b1 a a3 a4 a5 a6 a7).trans (h1 a a3 a4 a5 a6 a7)) (fun a q => ⟨fun k hk hfk => ?_, fun k hk => ?_⟩)
      · rw [b2 a q]
        by_cases hki : k = i
        · subst hki; rw [if_pos rfl]; exact (h2 a q).2 k (Nat.le_refl k)
        · have : cntK f k < cntK f i := cntK_lt (by omega) hfk
          rw [if_neg (by omega)]
          exact (h2 a q).1 k (by omega) hfk
      · rw [b2 a q, if_neg (by omega)]
        exact (h2 a q).2 k (by omega)
    · have hfi : f i = false := by rw [hf i (by omega)]; simp [c]
      refine ih (i + 1) _ _ _ (by omega) (inc hy (by omega)) (by rw [ha]; simp [cntK, hfi]) h1 (fun a q => ⟨fun k hk hfk => ?_, fun k hk => (h2 a q).2 k (by omega)⟩)
      by_cases hki : k = i
      · subst hki; rw [hfi] at hfk; cases hfk
      · exact (h2 a q).1 k (by omega) hfk
theorem m_removeArchived {N : Nat} {u : Mem} {post : Int32 → Mem → Prop} (hN : (u 17 0).toInt = (N : Int)) (hN4 : N ≤ 400) (f : Nat → Bool) (hf : ∀ k, k < N → f k = decide (u 7 k = -1))
    (k : ∀ (r : Int32) (u' : Mem), r.toInt = (N : Int) - ((cntK f N : Nat) : Int) → (u' 17 0).toInt = ((cntK f N : Nat) : Int) → (∀ a, a ≠ 3 → a ≠ 4 → a ≠ 5 → a ≠ 6 → a ≠ 7 → a ≠ 17 → u' a = u a) → (∀ a, a = 3 ∨ a = 4 ∨ a = 5 ∨ a = 6 ∨ a = 7 → ∀ k, k < N → f k = true → u' a (cntK f k) = u a k) → post r u') : w_X2_removeArchived u post := by
  refine ⟨N + 1, lp_removeArchived post _ u N hN hN4 f hf (fun acc y u1 a1 a2 a3 => nm_mk (nm_mk ?_)) N 0 0 0 u (by omega) l_0 l_0 (fun _ _ _ _ _ _ => rfl) (fun a _ => ⟨fun k hk => absurd hk (Nat.not_lt_zero k), fun _ _ => rfl⟩)⟩
  have hc := cntK_le f N
  have e17 : u1 17 = u 17 := a2 17 (by decide) (by decide) (by decide) (by decide) (by decide)
  refine k _ _ ?_ ?_ (fun a h3 h4 h5 h6 h7 h17 => ?_) (fun a ha k hk hfk => ?_)
  · rw [i_sub (by rw [e17]; omega) (by rw [e17]; omega), e17]; omega
  · rw [ms_s]; exact a1
  · rw [ms_o _ _ _ h17]; exact a2 a h3 h4 h5 h6 h7
  · rw [ms_o _ _ _ (by omega)]; exact a3 a ha k hk hfk
theorem lp_countH (f1 : Int32) (post : Int32 → Mem → Prop) (K : Int32 → Int32 → Mem → Prop) (u : Mem) (h : Nat) (hh : (u 18 0).toInt = (h : Int)) (hh2 : h ≤ 200) (hK : ∀ acc y : Int32, acc.toInt = ((cntK (fun k => decide (u 10 k = f1)) (h + 1) : Nat) : Int) → K acc y u) : ∀ (d i : Nat) (acc y : Int32), i + d = h + 1 → y.toInt = (i : Int) → acc.toInt = ((cntK (fun k => decide (u 10 k = f1)) i : Nat) : Int) → L_X1_countIn_4 f1 post K (d + 1) acc y u := by
  intro d
  induction d with
  | zero =>
    intro i acc y hi hy ha
    have e : i = h + 1 := by omega
    subst e
    exact And.intro (fun _ => hK acc y ha) (fun c => absurd (i_lt.mpr (by omega)) c)
  | succ d ih =>
    intro i acc y hi hy ha
    have hc := cntK_le (fun k => decide (u 10 k = f1)) i
    refine And.intro (fun c => absurd (i_lt.mp c) (by omega)) (fun _ => And.intro (vin hy (by omega)) (nm_mk ?_))
    rw [tn hy]
    refine And.intro (fun c => nm_mk (nm_mk ?_)) (fun c => nm_mk ?_)
    · exact ih (i + 1) _ _ (by omega) (inc hy (by omega)) (by rw [inc ha (by omega)]; simp [cntK, c])
    · exact ih (i + 1) _ _ (by omega) (inc hy (by omega)) (by rw [ha]; simp [cntK, c])
theorem m_countH {x : Int32} {h : Nat} {u : Mem} {post : Int32 → Mem → Prop} (hh : (u 18 0).toInt = (h : Int)) (hh2 : h ≤ 200) (k : ∀ r : Int32, r.toInt = ((cntK (fun k => decide (u 10 k = x)) (h + 1) : Nat) : Int) → post r u) : w_X1_countIn x u post :=
  ⟨h + 2, lp_countH x post _ u h hh hh2 (fun acc _ q => k acc q) (h + 1) 0 0 0 (by omega) l_0 l_0⟩
theorem lp_countR (f1 : Int32) (post : Int32 → Mem → Prop) (K : Int32 → Int32 → Mem → Prop) (u : Mem) (N : Nat) (hN : (u 17 0).toInt = (N : Int)) (hN4 : N ≤ 400) (hK : ∀ acc y : Int32, acc.toInt = ((cntK (fun k => decide (u 7 k = f1)) N : Nat) : Int) → K acc y u) : ∀ (d i : Nat) (acc y : Int32), i + d = N → y.toInt = (i : Int) → acc.toInt = ((cntK (fun k => decide (u 7 k = f1)) i : Nat) : Int) → L_X2_countIn_4 f1 post K (d + 1) acc y u := by
  intro d
  induction d with
  | zero =>
    intro i acc y hi hy ha
    have e : i = N := by omega
    subst e
    exact And.intro (fun _ => hK acc y ha) (fun c => absurd (i_le.mpr (by omega)) c)
  | succ d ih =>
    intro i acc y hi hy ha
    have hc := cntK_le (fun k => decide (u 7 k = f1)) i
    refine And.intro (fun c => absurd (i_le.mp c) (by omega)) (fun _ => And.intro (vin hy (by omega)) (nm_mk ?_))
    rw [tn hy]
    refine And.intro (fun c => nm_mk (nm_mk ?_)) (fun c => nm_mk ?_)
    · exact ih (i + 1) _ _ (by omega) (inc hy (by omega)) (by rw [inc ha (by omega)]; simp [cntK, c])
    · exact ih (i + 1) _ _ (by omega) (inc hy (by omega)) (by rw [ha]; simp [cntK, c])
theorem m_countR {x : Int32} {N : Nat} {u : Mem} {post : Int32 → Mem → Prop} (hN : (u 17 0).toInt = (N : Int)) (hN4 : N ≤ 400) (k : ∀ r : Int32, r.toInt = ((cntK (fun k => decide (u 7 k = x)) N : Nat) : Int) → post r u) : w_X2_countIn x u post :=
  ⟨N + 1, lp_countR x post _ u N hN hN4 (fun acc _ q => k acc q) N 0 0 0 (by omega) l_0 l_0⟩
theorem lp_removeAbove (f1 : Int32) (post : Int32 → Mem → Prop) (K : Int32 → Mem → Prop) (u : Mem) (N : Nat) (hN : (u 17 0).toInt = (N : Int)) (hN4 : N ≤ 400) (hK : ∀ y : Int32, y.toInt = ((fstK (fun k => decide (f1.toInt < (u 3 k).toInt)) N 0 : Nat) : Int) → K y u) : ∀ (d i : Nat) (y : Int32), i + d = N → y.toInt = (i : Int) → fstK (fun k => decide (f1.toInt < (u 3 k).toInt)) N 0 = fstK (fun k => decide (f1.toInt < (u 3 k).toInt)) d i → L_X2_removeAbove_2 f1 post K (d + 1) y u := by
  intro d
  induction d with
  | zero =>
    intro i y hi hy hl
    exact And.intro (fun _ => hK y (by rw [hl]; exact hy)) (fun c => absurd (i_le.mpr (by omega)) c)
  | succ d ih =>
    intro i y hi hy hl
    refine And.intro (fun c => absurd (i_le.mp c) (by omega)) (fun _ => And.intro (vin hy (by omega)) (nm_mk ?_))
    rw [tn hy]
    refine And.intro (fun c => hK y ?_) (fun c => nm_mk ?_)
    · rw [hl]; simp [fstK, i_lt.mp c]; exact hy
    · refine ih (i + 1) _ (by omega) (inc hy (by omega)) ?_
      rw [hl]; simp [fstK, mt i_lt.mpr c]
theorem m_removeAbove {x : Int32} {N : Nat} {u : Mem} {post : Int32 → Mem → Prop} (hN : (u 17 0).toInt = (N : Int)) (hN4 : N ≤ 400) (k : ∀ (r : Int32) (u' : Mem), r.toInt = (N : Int) - ((fstK (fun k => decide (x.toInt < (u 3 k).toInt)) N 0 : Nat) : Int) → (u' 17 0).toInt = ((fstK (fun k => decide (x.toInt < (u 3 k).toInt)) N 0 : Nat) : Int) → (∀ a, a ≠ 17 → u' a = u a) → post r u') : w_X2_removeAbove x u post := by
  refine ⟨N + 1, lp_removeAbove x post _ u N hN hN4 (fun y hy => nm_mk (nm_mk ?_)) N 0 0 (by omega) l_0 rfl⟩
  have hb := fstK_ge (fun k => decide (x.toInt < (u 3 k).toInt)) N 0
  refine k _ _ ?_ ?_ (fun a ha => ms_o _ _ _ ha)
  · rw [i_sub (by omega) (by omega)]; omega
  · rw [ms_s]; exact hy
theorem fndK_ge (f : Nat → Bool) (num : Int32) : ∀ d i s, i ≤ fndK f num d i s ∧ fndK f num d i s ≤ i + d
  | 0, i, _ => ⟨Nat.le_refl _, Nat.le_refl _⟩
  | d + 1, i, s => by
    have h1 := fndK_ge f num d (i + 1) s
    have h2 := fndK_ge f num d (i + 1) (s + 1)
    simp only [fndK]
    split
    · split <;> omega
    · omega
theorem lp_find (f1 f2 : Int32) (post : Int32 → Mem → Prop) (K : Int32 → Int32 → Mem → Prop) (u : Mem) (N : Nat) (hN : (u 17 0).toInt = (N : Int)) (hN4 : N ≤ 400) (f : Nat → Bool) (hf : ∀ k, k < N → f k = decide (u 4 k = f1 ∧ u 7 k = -1)) (m : Nat) (hP : ∀ y : Int32, m < N → y.toInt = (m : Int) → post y u) (hK : ∀ s y, m = N → K s y u) : ∀ (d i : Nat) (s y : Int32), i + d = N → y.toInt = (i : Int) → m = fndK f f2 d i s → L_X2_find_5 f1 f2 post K (d + 1) s y u := by
  intro d
  induction d with
  | zero =>
    intro i s y hi hy hl
    exact And.intro (fun _ => hK s y (by rw [hl]; simp [fndK]; omega)) (fun c => absurd (i_le.mpr (by omega)) c)
  | succ d ih =>
    intro i s y hi hy hl
    refine And.intro (fun c => absurd (i_le.mp c) (by omega)) (fun _ => m_isOf hy (by omega) (fun c1 c2 => ?_) (fun c1 => ?_))
    · have hfi : f i = true := by rw [hf i (by omega)]; simp [c1, c2]
      refine And.intro (fun q => absurd q (by decide)) (fun _ => And.intro (fun c3 => ?_) (fun c3 => nm_mk (nm_mk ?_)))
      · have : m = i := by rw [hl]; simp [fndK, hfi, c3]
        exact hP y (by omega) (by rw [this]; exact hy)
      · exact ih (i + 1) _ _ (by omega) (inc hy (by omega)) (by rw [hl]; simp [fndK, hfi, c3])
    · have hfi : f i = false := by rw [hf i (by omega)]; simp only [decide_eq_false_iff_not]; exact c1
      exact And.intro (fun _ => nm_mk (ih (i + 1) _ _ (by omega) (inc hy (by omega)) (by rw [hl]; simp [fndK, hfi]))) (fun q => absurd rfl q)
theorem m_find {x num : Int32} {N : Nat} {u : Mem} {post : Int32 → Mem → Prop} (hN : (u 17 0).toInt = (N : Int)) (hN4 : N ≤ 400) (f : Nat → Bool) (hf : ∀ k, k < N → f k = decide (u 4 k = x ∧ u 7 k = -1)) (k1 : ∀ y : Int32, fndK f num N 0 0 < N → y.toInt = ((fndK f num N 0 0 : Nat) : Int) → post y u) (k0 : fndK f num N 0 0 = N → post (-1) u) : w_X2_find x num u post :=
  ⟨N + 1, lp_find x num post _ u N hN hN4 f hf (fndK f num N 0 0) k1 (fun _ _ h => k0 h) N 0 0 0 (by omega) l_0 rfl⟩
