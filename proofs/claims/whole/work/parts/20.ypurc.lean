theorem lp_bring14 (post : Int32 → Mem → Prop) (K : Int32 → Int32 → Mem → Prop) (v0 : Mem) (N : Nat) (hN : (v0 15 0).toInt = (N : Int)) (hN4 : N ≤ 400) (hK : ∀ (acc y : Int32) (v : Mem), acc.toInt = ((cntK (fun k => decide (v0 10 k = v0 16 0)) N : Nat) : Int) → (∀ a, a ≠ 10 → v a = v0 a) → (∀ t, v 10 t = if t < N ∧ v0 10 t = v0 16 0 then 0 else v0 10 t) → K acc y v) : ∀ (d i : Nat) (acc y : Int32) (v : Mem), i + d = N → y.toInt = (i : Int) → acc.toInt = ((cntK (fun k => decide (v0 10 k = v0 16 0)) i : Nat) : Int) → (∀ a, a ≠ 10 → v a = v0 a) → (∀ t, v 10 t = if t < i ∧ v0 10 t = v0 16 0 then 0 else v0 10 t) → L_X5_bring_14 post K (d + 1) acc y v := by
  intro d
  induction d with
  | zero =>
    intro i acc y v hi hy ha h1 h2
    have e : i = N := by omega
    subst e
    exact And.intro (fun _ => hK acc y v ha h1 h2) (fun c => absurd (i_le.mpr (by rw [h1 15 (by decide)]; omega)) c)
  | succ d ih =>
    intro i acc y v hi hy ha h1 h2
    have hui : v 10 i = v0 10 i := by rw [h2 i, if_neg (by omega)]
    have hc := cntK_le (fun k => decide (v0 10 k = v0 16 0)) i
    refine And.intro (fun c => absurd (i_le.mp c) (by rw [h1 15 (by decide)]; omega)) (fun _ => And.intro (vin hy (by omega)) (nm_mk ?_))
    rw [tn hy, hui, h1 16 (by decide)]
    refine And.intro (fun c => And.intro (vin hy (by omega)) (nm_mk (nm_mk (nm_mk ?_)))) (fun c => nm_mk ?_)
    · refine ih (i + 1) _ _ _ (by omega) (inc hy (by omega)) (by rw [inc ha (by omega)]; simp [cntK, c]) (fun a ha => by rw [ms_o _ _ _ ha]; exact h1 a ha) (fun t => ?_)
      rw [ms_i]
      by_cases ht : t = i
      · subst ht; rw [if_pos rfl, if_pos ⟨by omega, c⟩]
      · rw [if_neg ht, h2 t]
        by_cases hq : t < i ∧ v0 10 t = v0 16 0
        · rw [if_pos hq, if_pos ⟨by omega, hq.2⟩]
        · rw [if_neg hq, if_neg (fun q => hq ⟨by omega, q.2⟩)]
    · refine ih (i + 1) _ _ _ (by omega) (inc hy (by omega)) (by rw [ha]; simp [cntK, c]) h1 (fun t => ?_)
      rw [h2 t]
      by_cases hq : t < i ∧ v0 10 t = v0 16 0
      · rw [if_pos hq, if_pos ⟨by omega, hq.2⟩]
      · rw [if_neg hq]
        by_cases ht : t = i
        · subst ht; rw [if_neg (fun q => c q.2)]
        · rw [if_neg (fun q => hq ⟨by omega, q.2⟩)]
theorem lp_bring53 (f1 : Int32) (post : Int32 → Mem → Prop) (K : Int32 → Mem → Prop) (v0 : Mem) (h : Nat) (hh : (v0 13 0).toInt = (h : Int)) (hh2 : h ≤ 200) (hK : ∀ (y : Int32) (v : Mem), (∀ a, a ≠ 2 → v a = v0 a) → (∀ t, v 2 t = if t < h + 1 ∧ v0 2 t = v0 16 0 then 0 else v0 2 t) → K y v) : ∀ (d i : Nat) (y : Int32) (v : Mem), i + d = h + 1 → y.toInt = (i : Int) → (∀ a, a ≠ 2 → v a = v0 a) → (∀ t, v 2 t = if t < i ∧ v0 2 t = v0 16 0 then 0 else v0 2 t) → L_X5_bring_53 f1 post K (d + 1) y v := by
  intro d
  induction d with
  | zero =>
    intro i y v hi hy h1 h2
    have e : i = h + 1 := by omega
    subst e
    exact And.intro (fun _ => hK y v h1 h2) (fun c => absurd (i_lt.mpr (by rw [h1 13 (by decide)]; omega)) c)
  | succ d ih =>
    intro i y v hi hy h1 h2
    have hui : v 2 i = v0 2 i := by rw [h2 i, if_neg (by omega)]
    refine And.intro (fun c => absurd (i_lt.mp c) (by rw [h1 13 (by decide)]; omega)) (fun _ => And.intro (vin hy (by omega)) (nm_mk ?_))
    rw [tn hy, hui, h1 16 (by decide)]
    have go : ∀ x : Int32, x = (if v0 2 i = v0 16 0 then 0 else v0 2 i) → L_X5_bring_53 f1 post K (d + 1) (y + 1) (g_ms v 2 i x) := fun x hx => by
      refine ih (i + 1) _ _ (by omega) (inc hy (by omega)) (fun a ha => by rw [ms_o _ _ _ ha]; exact h1 a ha) (fun t => ?_)
      rw [ms_i]
      by_cases ht : t = i
      · subst ht; rw [if_pos rfl, hx]
        by_cases hq : v0 2 t = v0 16 0
        · rw [if_pos hq, if_pos ⟨by omega, hq⟩]
        · rw [if_neg hq, if_neg (fun q => hq q.2)]
      · rw [if_neg ht, h2 t]
        by_cases hq : t < i ∧ v0 2 t = v0 16 0
        · rw [if_pos hq, if_pos ⟨by omega, hq.2⟩]
        · rw [if_neg hq, if_neg (fun q => hq ⟨by omega, q.2⟩)]
    refine And.intro (fun c => And.intro (vin hy (by omega)) (nm_mk (nm_mk (go _ (by rw [if_pos c]))))) (fun c => And.intro (vin hy (by omega)) (nm_mk (And.intro (vin hy (by omega)) (nm_mk (nm_mk (go _ (by rw [if_neg c])))))))
theorem lp_squeeze (f1 : Int32) (post : Int32 → Mem → Prop) (K : Int32 → Int32 → Mem → Prop) (v0 : Mem) (N : Nat) (hN : (v0 15 0).toInt = (N : Int)) (hN4 : N ≤ 400) (f : Nat → Bool) (hf : ∀ k, k < N → f k = decide (v0 10 k = 0 ∧ (v0 7 k).toInt ≤ f1.toInt))
    (hK : ∀ (acc y : Int32) (v : Mem), acc.toInt = ((cntK f N : Nat) : Int) → (∀ a, a ≠ 6 → a ≠ 7 → a ≠ 8 → a ≠ 9 → a ≠ 10 → v a = v0 a) → (∀ a, a = 6 ∨ a = 7 ∨ a = 8 ∨ a = 9 ∨ a = 10 → ∀ k, k < N → f k = true → v a (cntK f k) = v0 a k) → K acc y v) :
    ∀ (d i : Nat) (acc y : Int32) (v : Mem), i + d = N → y.toInt = (i : Int) → acc.toInt = ((cntK f i : Nat) : Int) → (∀ a, a ≠ 6 → a ≠ 7 → a ≠ 8 → a ≠ 9 → a ≠ 10 → v a = v0 a) → (∀ a, a = 6 ∨ a = 7 ∨ a = 8 ∨ a = 9 ∨ a = 10 → (∀ k, k < i → f k = true → v a (cntK f k) = v0 a k) ∧ ∀ k, i ≤ k → v a k = v0 a k) → L_X5_squeeze_4 f1 post K (d + 1) acc y v := by
  intro d
  induction d with
  | zero =>
    intro i acc y v hi hy ha h1 h2
    have e : i = N := by omega
    subst e
    exact And.intro (fun _ => hK acc y v ha h1 (fun a q => (h2 a q).1)) (fun c => absurd (i_le.mpr (by rw [h1 15 (by decide) (by decide) (by decide) (by decide) (by decide)]; omega)) c)
  | succ d ih =>
    intro i acc y v hi hy ha h1 h2
    have hc := cntK_le f i
    have e10 : v 10 i = v0 10 i := (h2 10 (by decide)).2 i (Nat.le_refl i)
    have e7 : v 7 i = v0 7 i := (h2 7 (by decide)).2 i (Nat.le_refl i)
    have skip : f i = false → L_X5_squeeze_4 f1 post K (d + 1) acc (y + 1) v := fun hfi => by
      refine ih (i + 1) _ _ _ (by omega) (inc hy (by omega)) (by rw [ha]; simp [cntK, hfi]) h1 (fun a q => ⟨fun k hk hfk => ?_, fun k hk => (h2 a q).2 k (by omega)⟩)
      by_cases hki : k = i
      · subst hki; rw [hfi] at hfk; cases hfk
      · exact (h2 a q).1 k (by omega) hfk
    refine And.intro (fun c => absurd (i_le.mp c) (by rw [h1 15 (by decide) (by decide) (by decide) (by decide) (by decide)]; omega)) (fun _ => And.intro (vin hy (by omega)) (nm_mk ?_))
    rw [tn hy, e10]
    refine And.intro (fun c => And.intro (vin hy (by omega)) (nm_mk ?_)) (fun c => nm_mk (skip (by rw [hf i (by omega)]; simp [c])))
    rw [e7]
    refine And.intro (fun c1 => nm_mk (skip (by rw [hf i (by omega)]; simp only [decide_eq_false_iff_not]; have := i_lt.mp c1; omega))) (fun c1 => ?_)
    have hfi : f i = true := by rw [hf i (by omega)]; simp only [decide_eq_true_eq]; have := mt i_lt.mpr c1; exact ⟨c, by omega⟩
    refine And.intro (vin hy (by omega)) (nm_mk (And.intro (vin ha (by omega)) (nm_mk (And.intro (vin hy (by omega)) (nm_mk (And.intro (vin ha (by omega)) (nm_mk (And.intro (vin hy (by omega)) (nm_mk (And.intro (vin ha (by omega)) (nm_mk (And.intro (vin hy (by omega)) (nm_mk (And.intro (vin ha (by omega)) (nm_mk (And.intro (vin ha (by omega)) (nm_mk (nm_mk (nm_mk ?_)))))))))))))))))))
    rw [tn ha]
    obtain ⟨v1, ev1⟩ : ∃ z : Mem, z = (g_ms (g_ms (g_ms (g_ms (g_ms v 6 (cntK f i) (v 6 i)) 7 (cntK f i) (g_ms v 6 (cntK f i) (v 6 i) 7 i)) 8 (cntK f i) (g_ms (g_ms v 6 (cntK f i) (v 6 i)) 7 (cntK f i) (g_ms v 6 (cntK f i) (v 6 i) 7 i) 8 i)) 9 (cntK f i) (g_ms (g_ms (g_ms v 6 (cntK f i) (v 6 i)) 7 (cntK f i) (g_ms v 6 (cntK f i) (v 6 i) 7 i)) 8 (cntK f i) (g_ms (g_ms v 6 (cntK f i) (v 6 i)) 7 (cntK f i) (g_ms v 6 (cntK f i) (v 6 i) 7 i) 8 i) 9 i)) 10 (cntK f i) 0) := ⟨_, rfl⟩
    rw [← ev1]
    have b1 : ∀ a, a ≠ 6 → a ≠ 7 → a ≠ 8 → a ≠ 9 → a ≠ 10 → v1 a = v a := fun a q6 q7 q8 q9 q10 => by
      rw [ev1, ms_o _ _ _ q10, ms_o _ _ _ q9, ms_o _ _ _ q8, ms_o _ _ _ q7, ms_o _ _ _ q6]
    have b2 : ∀ a, a = 6 ∨ a = 7 ∨ a = 8 ∨ a = 9 ∨ a = 10 → ∀ b, v1 a b = if b = cntK f i then v a i else v a b := fun a q b => by
      rcases q with rfl | rfl | rfl | rfl | rfl <;> rw [ev1] <;> simp [g_ms, va_up, upd]
      rw [e10, c]
    refine ih (i + 1) _ _ _ (by omega) (inc hy (by omega)) (by rw [inc ha (by omega)]; simp [cntK, hfi]) (fun a a3 a4 a5 a6 a7 => (b1 a a3 a4 a5 a6 a7).trans (h1 a a3 a4 a5 a6 a7)) (fun a q => ⟨fun k hk hfk => ?_, fun k hk => ?_⟩)
    · rw [b2 a q]
      by_cases hki : k = i
      · subst hki; rw [if_pos rfl]; exact (h2 a q).2 k (Nat.le_refl k)
      · have : cntK f k < cntK f i := cntK_lt (by omega) hfk
        rw [if_neg (by omega)]
        exact (h2 a q).1 k (by omega) hfk
    · rw [b2 a q, if_neg (by omega)]
      exact (h2 a q).2 k (by omega)
theorem n_squeeze {x : Int32} {N : Nat} {v : Mem} {post : Int32 → Mem → Prop} (hN : (v 15 0).toInt = (N : Int)) (hN4 : N ≤ 400) (f : Nat → Bool) (hf : ∀ k, k < N → f k = decide (v 10 k = 0 ∧ (v 7 k).toInt ≤ x.toInt))
    (k : ∀ (r : Int32) (v' : Mem), r.toInt = (N : Int) - ((cntK f N : Nat) : Int) → (v' 15 0).toInt = ((cntK f N : Nat) : Int) → (∀ a, a ≠ 6 → a ≠ 7 → a ≠ 8 → a ≠ 9 → a ≠ 10 → a ≠ 15 → v' a = v a) → (∀ a, a = 6 ∨ a = 7 ∨ a = 8 ∨ a = 9 ∨ a = 10 → ∀ k, k < N → f k = true → v' a (cntK f k) = v a k) → post r v') : w_X5_squeeze x v post := by
  refine ⟨N + 1, lp_squeeze x post _ v N hN hN4 f hf (fun acc y v1 a1 a2 a3 => nm_mk (nm_mk ?_)) N 0 0 0 v (by omega) l_0 l_0 (fun _ _ _ _ _ _ => rfl) (fun a _ => ⟨fun k hk => absurd hk (Nat.not_lt_zero k), fun _ _ => rfl⟩)⟩
  have hc := cntK_le f N
  have e15 : v1 15 = v 15 := a2 15 (by decide) (by decide) (by decide) (by decide) (by decide)
  refine k _ _ ?_ ?_ (fun a h3 h4 h5 h6 h7 h17 => ?_) (fun a ha k hk hfk => ?_)
  · rw [i_sub (by rw [e15]; omega) (by rw [e15]; omega), e15]; omega
  · rw [ms_s]; exact a1
  · rw [ms_o _ _ _ h17]; exact a2 a h3 h4 h5 h6 h7
  · rw [ms_o _ _ _ (by omega)]; exact a3 a ha k hk hfk
theorem lp_forgetY (post : Int32 → Mem → Prop) (K : Int32 → Mem → Prop) (v0 : Mem) (h : Nat) (hh : (v0 13 0).toInt = (h : Int)) (hh2 : h ≤ 200) (hK : ∀ (y : Int32) (v : Mem), (∀ a, a ≠ 2 → v a = v0 a) → (∀ t, t < h + 1 → v 2 t = if (v0 2 t).toInt ≤ 0 then 0 else 9) → K y v) : ∀ (d i : Nat) (y : Int32) (v : Mem), i + d = h + 1 → y.toInt = (i : Int) → (∀ a, a ≠ 2 → v a = v0 a) → (∀ t, t < i → v 2 t = if (v0 2 t).toInt ≤ 0 then 0 else 9) → (∀ t, i ≤ t → v 2 t = v0 2 t) → L_X5_forget_2 post K (d + 1) y v := by
  intro d
  induction d with
  | zero =>
    intro i y v hi hy h1 h2 h3
    have e : i = h + 1 := by omega
    subst e
    exact And.intro (fun _ => hK y v h1 h2) (fun c => absurd (i_lt.mpr (by rw [h1 13 (by decide)]; omega)) c)
  | succ d ih =>
    intro i y v hi hy h1 h2 h3
    refine And.intro (fun c => absurd (i_lt.mp c) (by rw [h1 13 (by decide)]; omega)) (fun _ => And.intro (vin hy (by omega)) (nm_mk ?_))
    rw [tn hy, h3 i (Nat.le_refl i)]
    have go : ∀ x : Int32, x = (if (v0 2 i).toInt ≤ 0 then 0 else 9) → L_X5_forget_2 post K (d + 1) (y + 1) (g_ms v 2 i x) := fun x hx => by
      refine ih (i + 1) _ _ (by omega) (inc hy (by omega)) (fun a ha => by rw [ms_o _ _ _ ha]; exact h1 a ha) (fun t ht => ?_) (fun t ht => by rw [ms_n _ _ _ (by omega)]; exact h3 t (by omega))
      rw [ms_i]
      by_cases hti : t = i
      · subst hti; rw [if_pos rfl, hx]
      · rw [if_neg hti]; exact h2 t (by omega)
    refine And.intro (fun c => And.intro (vin hy (by omega)) (nm_mk (nm_mk (go _ (by have := i_le.mp c; rw [l_0] at this; rw [if_pos this]))))) (fun c => And.intro (vin hy (by omega)) (nm_mk (nm_mk (go _ (by have := mt i_le.mpr c; rw [l_0] at this; rw [if_neg this])))))
