theorem lp_blameY (f1 f2 f3 : Int32) (post : Int32 → Mem → Prop) (K : Int32 → Int32 → Mem → Prop) (v : Mem) (N : Nat) (hN : (v 15 0).toInt = (N : Int)) (hN4 : N ≤ 400) (f : Nat → Bool) (hf : ∀ k, k < N → f k = decide (v 7 k ≤ f2 ∧ v 6 k = f1 ∧ v 10 k = 0)) (hK : ∀ y : Int32, K (pick (if f3 = 0 then v 9 else v 7) (-1) (lastK f N)) y v) : ∀ (d i : Nat) (y : Int32), i + d = N → y.toInt = (i : Int) → L_X5_blame_48 f1 f2 f3 post K (d + 1) (pick (if f3 = 0 then v 9 else v 7) (-1) (lastK f i)) y v := by
  intro d
  induction d with
  | zero =>
    intro i y hi hy
    have e : i = N := by omega
    subst e
    exact And.intro (fun _ => hK y) (fun c => absurd (i_le.mpr (by omega)) c)
  | succ d ih =>
    intro i y hi hy
    have skip : f i = false → L_X5_blame_48 f1 f2 f3 post K (d + 1) (pick (if f3 = 0 then v 9 else v 7) (-1) (lastK f i)) (y + 1) v := fun hno => by
      have := ih (i + 1) _ (by omega) (inc hy (by omega))
      simp only [lastK, hno] at this
      exact this
    refine And.intro (fun c => absurd (i_le.mp c) (by omega)) (fun _ => And.intro (vin hy (by omega)) (nm_mk ?_))
    rw [tn hy]
    refine And.intro (fun c1 => And.intro (vin hy (by omega)) (nm_mk (And.intro (fun c2 => And.intro (vin hy (by omega)) (nm_mk ?_)) (fun c2 => nm_mk (skip (by rw [hf i (by omega)]; simp [c2])))))) (fun c1 => nm_mk (skip (by rw [hf i (by omega)]; simp [c1])))
    refine And.intro (fun c3 => nm_mk (skip (by rw [hf i (by omega)]; simp only [decide_eq_false_iff_not]; exact fun q => absurd (i_le.mp q.1) (by have := i_lt.mp c3; omega)))) (fun c3 => ?_)
    have hfi : f i = true := by rw [hf i (by omega)]; simp only [decide_eq_true_eq]; exact ⟨i_le.mpr (by have := mt i_lt.mpr c3; omega), c2, c1⟩
    have := ih (i + 1) _ (by omega) (inc hy (by omega))
    simp only [lastK, hfi, if_true, pick] at this
    refine And.intro (fun c4 => And.intro (vin hy (by omega)) (nm_mk (nm_mk ?_))) (fun c4 => And.intro (vin hy (by omega)) (nm_mk (nm_mk ?_)))
    · simp [c4] at this ⊢; exact this
    · simp [c4] at this ⊢; exact this
theorem lp_differsY (f1 f2 f3 : Int32) (a b : Nat) (ha0 : f1.toInt = (a : Int)) (hb0 : f2.toInt = (b : Int)) (ha2 : a ≤ 200) (hb2 : b ≤ 200) (post : Int32 → Mem → Prop) (K : Int32 → Int32 → Mem → Prop) (v : Mem) (hK : ∀ acc y : Int32, acc.toInt = ((cntK (fun l => decide (¬ v 0 (32 * a + l) = v 0 (32 * b + l))) 32 : Nat) : Int) → K acc y v) : ∀ (d i : Nat) (acc y : Int32), i + d = 32 → y.toInt = (i : Int) → acc.toInt = ((cntK (fun l => decide (¬ v 0 (32 * a + l) = v 0 (32 * b + l))) i : Nat) : Int) → L_X5_differs_19 f1 f2 f3 post K (d + 1) acc y v := by
  intro d
  induction d with
  | zero =>
    intro i acc y hi hy ha
    have e : i = 32 := by omega
    subst e
    exact And.intro (fun _ => hK acc y ha) (fun c => absurd (i_le.mpr (by rw [l_32]; omega)) c)
  | succ d ih =>
    intro i acc y hi hy ha
    have hc := cntK_le (fun l => decide (¬ v 0 (32 * a + l) = v 0 (32 * b + l))) i
    have e1 := s32 ha0 hy (by omega) (by omega)
    have e2 := s32 hb0 hy (by omega) (by omega)
    refine And.intro (fun c => absurd (i_le.mp c) (by rw [l_32]; omega)) (fun _ => nm_mk (nm_mk (And.intro (vin e1 (by omega)) (nm_mk (nm_mk (nm_mk (And.intro (vin e2 (by omega)) (nm_mk ?_))))))))
    rw [tn e1, tn e2]
    refine And.intro (fun c => nm_mk (nm_mk ?_)) (fun c => nm_mk (nm_mk ?_))
    · exact ih (i + 1) _ _ (by omega) (inc hy (by omega)) (by rw [inc0 ha]; simp [cntK, c])
    · exact ih (i + 1) _ _ (by omega) (inc hy (by omega)) (by rw [inc ha (by omega)]; simp [cntK, c])
theorem lp_differsX (f1 f2 f3 : Int32) (post : Int32 → Mem → Prop) (K : Int32 → Int32 → Mem → Prop) (u : Mem) (hK : ∀ acc y : Int32, acc.toInt = ((cntK (fun l => decide (¬ u 1 l = u 2 l)) 32 : Nat) : Int) → K acc y u) : ∀ (d i : Nat) (acc y : Int32), i + d = 32 → y.toInt = (i : Int) → acc.toInt = ((cntK (fun l => decide (¬ u 1 l = u 2 l)) i : Nat) : Int) → L_X4_differs_25 f1 f2 f3 post K (d + 1) acc y u := by
  intro d
  induction d with
  | zero =>
    intro i acc y hi hy ha
    have e : i = 32 := by omega
    subst e
    exact And.intro (fun _ => hK acc y ha) (fun c => absurd (i_le.mpr (by rw [l_32]; omega)) c)
  | succ d ih =>
    intro i acc y hi hy ha
    have hc := cntK_le (fun l => decide (¬ u 1 l = u 2 l)) i
    refine And.intro (fun c => absurd (i_le.mp c) (by rw [l_32]; omega)) (fun _ => And.intro (vin hy (by omega)) (nm_mk (And.intro (vin hy (by omega)) (nm_mk ?_))))
    rw [tn hy]
    refine And.intro (fun c => nm_mk ?_) (fun c => nm_mk (nm_mk ?_))
    · exact ih (i + 1) _ _ (by omega) (inc hy (by omega)) (by rw [ha]; simp [cntK, c])
    · exact ih (i + 1) _ _ (by omega) (inc hy (by omega)) (by rw [inc ha (by omega)]; simp [cntK, c])
theorem lp_differenceY (f1 f2 f3 f4 : Int32) (a b : Nat) (ha0 : f1.toInt = (a : Int)) (hb0 : f2.toInt = (b : Int)) (ha2 : a ≤ 200) (hb2 : b ≤ 200) (post : Int32 → Mem → Prop) (K : Int32 → Int32 → Mem → Prop) (v : Mem) (f : Nat → Bool) (hf : ∀ l, l < 32 → f l = decide (¬ v 0 (32 * a + l) = v 0 (32 * b + l))) (m : Nat) (hP : ∀ y : Int32, m < 32 → y.toInt = (m : Int) → post y v) (hK : ∀ s y, m = 32 → K s y v) : ∀ (d i : Nat) (s y : Int32), i + d = 32 → y.toInt = (i : Int) → m = fndK f f3 d i s → L_X5_difference_22 f1 f2 f3 f4 post K (d + 1) s y v := by
  intro d
  induction d with
  | zero =>
    intro i s y hi hy hl
    exact And.intro (fun _ => hK s y (by rw [hl]; simp [fndK]; omega)) (fun c => absurd (i_le.mpr (by rw [l_32]; omega)) c)
  | succ d ih =>
    intro i s y hi hy hl
    have e1 := s32 ha0 hy (by omega) (by omega)
    have e2 := s32 hb0 hy (by omega) (by omega)
    refine And.intro (fun c => absurd (i_le.mp c) (by rw [l_32]; omega)) (fun _ => nm_mk (nm_mk (And.intro (vin e1 (by omega)) (nm_mk (nm_mk (nm_mk (And.intro (vin e2 (by omega)) (nm_mk ?_))))))))
    rw [tn e1, tn e2]
    refine And.intro (fun c => nm_mk ?_) (fun c => And.intro (fun c3 => ?_) (fun c3 => nm_mk (nm_mk ?_)))
    · have hfi : f i = false := by rw [hf i (by omega)]; simp [c]
      exact ih (i + 1) _ _ (by omega) (inc hy (by omega)) (by rw [hl]; simp [fndK, hfi])
    · have hfi : f i = true := by rw [hf i (by omega)]; simp [c]
      have : m = i := by rw [hl]; simp [fndK, hfi, c3]
      exact hP y (by omega) (by rw [this]; exact hy)
    · have hfi : f i = true := by rw [hf i (by omega)]; simp [c]
      exact ih (i + 1) _ _ (by omega) (inc hy (by omega)) (by rw [hl]; simp [fndK, hfi, c3])
theorem lp_differenceX (f1 f2 f3 f4 : Int32) (post : Int32 → Mem → Prop) (K : Int32 → Int32 → Mem → Prop) (u : Mem) (f : Nat → Bool) (hf : ∀ l, l < 32 → f l = decide (¬ u 1 l = u 2 l)) (m : Nat) (hP : ∀ y : Int32, m < 32 → y.toInt = (m : Int) → post y u) (hK : ∀ s y, m = 32 → K s y u) : ∀ (d i : Nat) (s y : Int32), i + d = 32 → y.toInt = (i : Int) → m = fndK f f3 d i s → L_X4_difference_28 f1 f2 f3 f4 post K (d + 1) s y u := by
  intro d
  induction d with
  | zero =>
    intro i s y hi hy hl
    exact And.intro (fun _ => hK s y (by rw [hl]; simp [fndK]; omega)) (fun c => absurd (i_le.mpr (by rw [l_32]; omega)) c)
  | succ d ih =>
    intro i s y hi hy hl
    refine And.intro (fun c => absurd (i_le.mp c) (by rw [l_32]; omega)) (fun _ => And.intro (vin hy (by omega)) (nm_mk (And.intro (vin hy (by omega)) (nm_mk ?_))))
    rw [tn hy]
    refine And.intro (fun c => nm_mk ?_) (fun c => And.intro (fun c3 => ?_) (fun c3 => nm_mk (nm_mk ?_)))
    · have hfi : f i = false := by rw [hf i (by omega)]; simp [c]
      exact ih (i + 1) _ _ (by omega) (inc hy (by omega)) (by rw [hl]; simp [fndK, hfi])
    · have hfi : f i = true := by rw [hf i (by omega)]; simp [c]
      have : m = i := by rw [hl]; simp [fndK, hfi, c3]
      exact hP y (by omega) (by rw [this]; exact hy)
    · have hfi : f i = true := by rw [hf i (by omega)]; simp [c]
      exact ih (i + 1) _ _ (by omega) (inc hy (by omega)) (by rw [hl]; simp [fndK, hfi, c3])
/-- HistoryRows.first: within a height, the rows up to it; then the heights -/
def fst1 (u : Mem) (x : Int32) (k : Nat) : Bool := decide (u 4 k = x ∧ u 7 k = -1)
theorem lp_first30 (f1 f2 f5 : Int32) (post : Int32 → Mem → Prop) (K : Int32 → Int32 → Mem → Prop) (u : Mem) (N : Nat) (hN : (u 17 0).toInt = (N : Int)) (hN4 : N ≤ 400)
    (hK : ∀ (k : Nat) (y : Int32), k ≤ N → y.toInt = (k : Int) → (∀ j, j < k → (u 3 j).toInt ≤ f5.toInt) → (k < N → f5.toInt < (u 3 k).toInt) → K (pick (u 5) 0 (lastK (fst1 u f1) k)) y u) :
    ∀ (d i : Nat) (y : Int32), i + d = N → y.toInt = (i : Int) → (∀ j, j < i → (u 3 j).toInt ≤ f5.toInt) → L_X4_first_30 f1 f2 f5 post K (d + 1) (pick (u 5) 0 (lastK (fst1 u f1) i)) y u := by
  intro d
  induction d with
  | zero =>
    intro i y hi hy hj
    exact And.intro (fun _ => hK i y (by omega) hy hj (by omega)) (fun c => absurd (i_le.mpr (by omega)) c)
  | succ d ih =>
    intro i y hi hy hj
    refine And.intro (fun c => absurd (i_le.mp c) (by omega)) (fun _ => And.intro (vin hy (by omega)) (nm_mk ?_))
    rw [tn hy]
    refine And.intro (fun c => hK i y (by omega) hy hj (fun _ => i_lt.mp c)) (fun c => ?_)
    have c := mt i_lt.mpr c
    have hj' : ∀ j, j < i + 1 → (u 3 j).toInt ≤ f5.toInt := fun j h => by
      by_cases q : j = i
      · rw [q]; omega
      · exact hj j (by omega)
    have := ih (i + 1) _ (by omega) (inc hy (by omega)) hj'
    refine m_isOf hy (by omega) (fun c1 c2 => And.intro (fun q => absurd q (by decide)) (fun _ => And.intro (vin hy (by omega)) (nm_mk (nm_mk ?_)))) (fun c1 => And.intro (fun _ => nm_mk ?_) (fun q => absurd rfl q))
    · simp only [lastK, show fst1 u f1 i = true by simp [fst1, c1, c2], if_true, pick] at this
      simp at this
      exact this
    · simp only [lastK, show fst1 u f1 i = false by simp only [fst1, decide_eq_false_iff_not]; exact c1] at this
      exact this
theorem lp_first18 (f1 f2 : Int32) (post : Int32 → Mem → Prop) (K : Int32 → Int32 → Int32 → Mem → Prop) (u : Mem) (N h : Nat) (hN : (u 17 0).toInt = (N : Int)) (hN4 : N ≤ 400) (hh : (u 18 0).toInt = (h : Int)) (hh2 : h ≤ 200) (f : Nat → Bool)
    (hf : ∀ t, t < h + 1 → ∀ k, k ≤ N → (∀ j, j < k → (u 3 j).toInt ≤ (t : Int)) → (k < N → (t : Int) < (u 3 k).toInt) → f t = decide (u 10 t = -1 ∧ pick (u 5) 0 (lastK (fst1 u f1) k) = f2)) (m : Nat) (hP : ∀ y : Int32, m < h + 1 → y.toInt = (m : Int) → post y u) (hK : ∀ s k y, m = h + 1 → K s k y u) :
    ∀ (d i k : Nat) (yk y : Int32), i + d = h + 1 → y.toInt = (i : Int) → k ≤ N → yk.toInt = (k : Int) → (∀ j, j < k → (u 3 j).toInt ≤ (i : Int)) → m = fstK f d i → L_X4_first_18 f1 f2 post K (d + 1) (pick (u 5) 0 (lastK (fst1 u f1) k)) yk y u := by
  intro d
  induction d with
  | zero =>
    intro i k yk y hi hy hk hyk hj hm
    exact And.intro (fun _ => hK _ _ y (by rw [hm]; simp [fstK]; omega)) (fun c => absurd (i_lt.mpr (by omega)) c)
  | succ d ih =>
    intro i k yk y hi hy hk hyk hj hm
    refine And.intro (fun c => absurd (i_lt.mp c) (by omega)) (fun _ => ⟨(N - k) + 1, lp_first30 f1 f2 y post _ u N hN hN4 (fun k2 y2 a1 a2 a3 a4 => ?_) (N - k) k yk (by omega) hyk (fun j q => by rw [hy]; exact hj j q)⟩)
    have hfi := hf i (by omega) k2 a1 (fun j q => by rw [← hy]; exact a3 j q) (fun q => by rw [← hy]; exact a4 q)
    have next : f i = false → L_X4_first_18 f1 f2 post K (d + 1) (pick (u 5) 0 (lastK (fst1 u f1) k2)) y2 (y + 1) u := fun q => ih (i + 1) k2 _ _ (by omega) (inc hy (by omega)) a1 a2 (fun j z => by have := a3 j z; omega) (by rw [hm]; simp [fstK, q])
    refine And.intro (fun c => m_isGone hy (by omega) (fun c1 => And.intro (fun _ => ?_) (fun q => absurd rfl q)) (fun c1 => And.intro (fun q => absurd q (by decide)) (fun _ => nm_mk (next (by rw [hfi]; simp [c1]))))) (fun c => nm_mk (next (by rw [hfi]; simp [c])))
    have : m = i := by rw [hm]; simp [fstK, hfi, c, c1]
    exact hP y (by omega) (by rw [this]; exact hy)
theorem lp_forgetX (post : Int32 → Mem → Prop) (K : Int32 → Mem → Prop) (u0 : Mem) (h ar : Nat) (hh : (u0 18 0).toInt = (h : Int)) (hh2 : h ≤ 200) (har : (u0 16 0).toInt = (ar : Int)) (har2 : ar ≤ 8) (hK : ∀ (y : Int32) (u : Mem), (∀ a, a ≠ 10 → u a = u0 a) → (∀ t, t < h + 1 → u 10 t = if 0 ≤ (u0 10 t).toInt ∧ (u0 10 t).toInt < (ar : Int) then 8 else u0 10 t) → K y u) :
    ∀ (d i : Nat) (y : Int32) (u : Mem), i + d = ar → y.toInt = (i : Int) → (∀ a, a ≠ 10 → u a = u0 a) → (∀ t, t < h + 1 → u 10 t = if 0 ≤ (u0 10 t).toInt ∧ (u0 10 t).toInt < (i : Int) then 8 else u0 10 t) → L_X4_forget_2 post K (d + 1) y u := by
  intro d
  induction d with
  | zero =>
    intro i y u hi hy h1 h2
    have e : i = ar := by omega
    subst e
    exact And.intro (fun _ => hK y u h1 h2) (fun c => absurd (i_le.mpr (by rw [h1 16 (by decide)]; omega)) c)
  | succ d ih =>
    intro i y u hi hy h1 h2
    refine And.intro (fun c => absurd (i_le.mp c) (by rw [h1 16 (by decide)]; omega)) (fun _ => m_relabel (h := h) (by rw [h1 18 (by decide)]; exact hh) hh2 (fun u1 b1 b2 => nm_mk ?_))
    refine ih (i + 1) _ _ (by omega) (inc hy (by omega)) (fun a ha => (b1 a ha).trans (h1 a ha)) (fun t ht => ?_)
    rw [b2 t, h2 t ht]
    by_cases q : 0 ≤ (u0 10 t).toInt ∧ (u0 10 t).toInt < (i : Int)
    · rw [if_pos q, if_pos (⟨q.1, by omega⟩ : 0 ≤ (u0 10 t).toInt ∧ (u0 10 t).toInt < ((i + 1 : Nat) : Int))]
      rw [if_neg (fun z => absurd (i_eq.mp z.2) (by rw [l_8]; omega))]
    · rw [if_neg q]
      by_cases q2 : (u0 10 t).toInt = (i : Int)
      · rw [if_pos ⟨ht, i_eq.mpr (by omega)⟩, if_pos (⟨by omega, by omega⟩ : 0 ≤ (u0 10 t).toInt ∧ (u0 10 t).toInt < ((i + 1 : Nat) : Int))]
      · rw [if_neg (fun z => q2 (by rw [i_eq.mp z.2]; exact hy)), if_neg (by omega)]
theorem lp_begin27 (post : Mem → Prop) (K : Int32 → Mem → Prop) (v0 : Mem) (hK : ∀ y v, (∀ a, a ≠ 0 → v a = v0 a) → (∀ l, l < 32 → v 0 l = 0) → K y v) : ∀ (d i : Nat) (y : Int32) (v : Mem), i + d = 32 → y.toInt = (i : Int) → (∀ a, a ≠ 0 → v a = v0 a) → (∀ l, l < i → v 0 l = 0) → L_X5_begin_27 post K (d + 1) y v := by
  intro d
  induction d with
  | zero =>
    intro i y v hi hy h1 h2
    exact And.intro (fun _ => hK y v h1 (fun b hb => h2 b (by omega))) (fun c => absurd (i_le.mpr (by rw [l_32]; omega)) c)
  | succ d ih =>
    intro i y v hi hy h1 h2
    refine And.intro (fun c => absurd (i_le.mp c) (by rw [l_32]; omega)) (fun _ => And.intro (vin hy (by omega)) (nm_mk (nm_mk ?_)))
    rw [tn hy]
    refine ih (i + 1) _ _ (by omega) (inc hy (by omega)) (fun a ha => by rw [ms_o _ _ _ ha]; exact h1 a ha) (fun l hl => ?_)
    rw [ms_i]
    split
    · rfl
    · exact h2 l (by omega)
theorem lp_begin55 (post : Mem → Prop) (K : Int32 → Mem → Prop) (v0 : Mem) (hK : ∀ y v, (∀ a, a ≠ 11 → v a = v0 a) → (∀ l, l < 5 → v 11 l = 0) → K y v) : ∀ (d i : Nat) (y : Int32) (v : Mem), i + d = 5 → y.toInt = (i : Int) → (∀ a, a ≠ 11 → v a = v0 a) → (∀ l, l < i → v 11 l = 0) → L_X5_begin_55 post K (d + 1) y v := by
  intro d
  induction d with
  | zero =>
    intro i y v hi hy h1 h2
    exact And.intro (fun _ => hK y v h1 (fun b hb => h2 b (by omega))) (fun c => absurd (i_le.mpr (by rw [l_5]; omega)) c)
  | succ d ih =>
    intro i y v hi hy h1 h2
    refine And.intro (fun c => absurd (i_le.mp c) (by rw [l_5]; omega)) (fun _ => And.intro (vin hy (by omega)) (nm_mk (nm_mk ?_)))
    rw [tn hy]
    refine ih (i + 1) _ _ (by omega) (inc hy (by omega)) (fun a ha => by rw [ms_o _ _ _ ha]; exact h1 a ha) (fun l hl => ?_)
    rw [ms_i]
    split
    · rfl
    · exact h2 l (by omega)
