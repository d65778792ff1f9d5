theorem q_bring {u v : Mem} (hI : Inv u v) : w_X4_bring u (fun r u' => w_X5_bring v (fun r' v' => r = r' ∧ Inv u' v')) := by
  obtain ⟨h, N, w, ar, hV⟩ := id hI
  obtain ⟨⟨⟨h1, h2, h3⟩, ⟨n1, n2, n3⟩, hs3, ⟨r1, r2, r3⟩, hs5, hs6⟩, hL, ⟨hr, hs⟩, ⟨hT, hTh⟩, hB, hG⟩ := id hV
  refine And.intro (fun c => ?_) (fun c => nm_mk (nm_mk ?_))
  · have h0 : ar = 0 := by have := i_eq.mp c; rw [l_0] at this; omega
    exact And.intro (fun _ => ⟨rfl, hI⟩) (fun q => absurd (i_eq.mpr (by rw [l_0]; omega)) q)
  · have h0 : ar ≠ 0 := fun q => c (i_eq.mpr (by rw [l_0]; omega))
    have ea : (u 16 0 - 1).toInt = ((ar - 1 : Nat) : Int) := (sub1 r1 (by omega) (by omega)).trans (by omega)
    obtain ⟨u1, eu1⟩ : ∃ z : Mem, z = g_ms u 16 0 (u 16 0 - 1) := ⟨_, rfl⟩
    rw [← eu1]
    have b1 : ∀ a, a ≠ 16 → u1 a = u a := fun a q => by rw [eu1, ms_o _ _ _ q]
    have b16 : (u1 16 0).toInt = ((ar - 1 : Nat) : Int) := by rw [eu1, ms_s]; exact ea
    refine m_relabel (h := h) (by rw [b1 18 (by decide)]; exact h1) h3 (fun u2 c1 c2 => m_takeFrom (N := N) (by rw [c1 17 (by decide), b1 17 (by decide)]; exact n1) n3 (fun r u3 d0 d1 d2 => ?_))
    have e7 : u2 7 = u 7 := (c1 7 (by decide)).trans (b1 7 (by decide))
    have e16 : u2 16 = u1 16 := c1 16 (by decide)
    have eo : ∀ a, a ≠ 7 → a ≠ 10 → a ≠ 16 → u3 a = u a := fun a q7 q10 q16 => (d1 a q7).trans ((c1 a q10).trans (b1 a q16))
    have e3_16 : (u3 16 0).toInt = ((ar - 1 : Nat) : Int) := by rw [d1 16 (by decide), e16]; exact b16
    have e3_10 : ∀ t, u3 10 t = if t < h + 1 ∧ u 10 t = u1 16 0 then -1 else u 10 t := fun t => by rw [d1 10 (by decide), c2 t, b1 10 (by decide)]
    rw [e7, e16] at d0 d2
    refine And.intro (fun q => absurd (i_eq.mp q) (by rw [l_0]; omega)) (fun _ => ⟨N + 1, lp_bring14 _ _ v N n2 n3 (fun acc y v1 g0 g1 g2 => ?_) N 0 0 0 v (by omega) l_0 l_0 (fun _ _ => rfl) (fun t => by rw [if_neg (by omega)])⟩)
    refine ⟨h + 2, lp_bring53 acc _ _ v1 h (by rw [g1 13 (by decide)]; exact h2) h3 (fun y2 v2 i1 i2 => nm_mk (nm_mk ?_)) (h + 1) 0 0 v1 (by omega) l_0 (fun _ _ => rfl) (fun t => by rw [if_neg (by omega)])⟩
    have f16 : v1 16 = v 16 := g1 16 (by decide)
    have f2 : v1 2 = v 2 := g1 2 (by decide)
    rw [f16, f2] at i2
    obtain ⟨v3, ev3⟩ : ∃ z : Mem, z = g_ms v2 16 0 (v2 16 0 - 1) := ⟨_, rfl⟩
    rw [← ev3]
    have j1 : ∀ a, a ≠ 2 → a ≠ 10 → a ≠ 16 → v3 a = v a := fun a q2 q10 q16 => by rw [ev3, ms_o _ _ _ q16, i1 a q2, g1 a q10]
    have j16 : (v3 16 0).toInt = ((ar - 1 : Nat) : Int) := by rw [ev3, ms_s, i1 16 (by decide), f16]; exact (sub1 r2 (by omega) (by omega)).trans (by omega)
    have j2 : ∀ t, v3 2 t = if t < h + 1 ∧ v 2 t = v 16 0 then 0 else v 2 t := fun t => by rw [ev3, ms_o _ _ _ (by decide), i2 t]
    have j10 : ∀ t, v3 10 t = if t < N ∧ v 10 t = v 16 0 then 0 else v 10 t := fun t => by rw [ev3, ms_o _ _ _ (by decide), i1 10 (by decide), g2 t]
    -- rows and heights, in numbers
    have k10 : ∀ k, k < N → (v3 10 k).toInt = if (v 10 k).toInt = (ar : Int) then 0 else (v 10 k).toInt := fun k hk => by
      rw [j10 k]
      by_cases q : (v 10 k).toInt = (ar : Int)
      · rw [if_pos ⟨hk, i_eq.mpr (by omega)⟩, if_pos q]; exact l_0
      · rw [if_neg (fun z => q (by rw [i_eq.mp z.2]; exact r2)), if_neg q]
    have k2 : ∀ t, t ≤ h → (v3 2 t).toInt = if (v 2 t).toInt = (ar : Int) then 0 else (v 2 t).toInt := fun t ht => by
      rw [j2 t]
      by_cases q : (v 2 t).toInt = (ar : Int)
      · rw [if_pos ⟨by omega, i_eq.mpr (by omega)⟩, if_pos q]; exact l_0
      · rw [if_neg (fun z => q (by rw [i_eq.mp z.2]; exact r2)), if_neg q]
    have x7 : ∀ k, k < N → (u3 7 k).toInt = if (u 7 k).toInt = (ar : Int) - 1 then -1 else (u 7 k).toInt := fun k hk => by
      rw [d2 k]
      by_cases q : (u 7 k).toInt = (ar : Int) - 1
      · rw [if_pos ⟨hk, i_eq.mpr (by omega)⟩, if_pos q]; exact l_m1
      · rw [if_neg (fun z => q (by rw [i_eq.mp z.2]; omega)), if_neg q]
    have x10 : ∀ t, t ≤ h → (u3 10 t).toInt = if (u 10 t).toInt = (ar : Int) - 1 then -1 else (u 10 t).toInt := fun t ht => by
      rw [e3_10 t]
      by_cases q : (u 10 t).toInt = (ar : Int) - 1
      · rw [if_pos ⟨by omega, i_eq.mpr (by omega)⟩, if_pos q]; exact l_m1
      · rw [if_neg (fun z => q (by rw [i_eq.mp z.2]; omega)), if_neg q]
    refine ⟨i_eq.mpr ?_, h, N, w, ar - 1, ?_, ?_, ⟨fun k hk => ?_, ?_⟩, ⟨fun t ht => ?_, ?_⟩, ?_, ?_⟩
    · rw [d0, g0, iv_cntR hV (x := u1 16 0) (y := v 16 0) (by omega)]
    · rw [IS, eo 18 (by decide) (by decide) (by decide), eo 17 (by decide) (by decide) (by decide), eo 19 (by decide) (by decide) (by decide), eo 15 (by decide) (by decide) (by decide), j1 13 (by decide) (by decide) (by decide), j1 14 (by decide) (by decide) (by decide), j1 15 (by decide) (by decide) (by decide), j1 17 (by decide) (by decide) (by decide)]
      exact ⟨⟨h1, h2, h3⟩, ⟨n1, n2, n3⟩, hs3, ⟨e3_16, j16, by omega⟩, hs5, hs6⟩
    · exact IL_cg hL (eo _ (by decide) (by decide) (by decide)) (j1 _ (by decide) (by decide) (by decide))
    · obtain ⟨⟨a1, a2, a3, a4, a5⟩, p1, p2, p3⟩ := hr k hk
      rw [eo 3 (by decide) (by decide) (by decide), eo 4 (by decide) (by decide) (by decide), eo 5 (by decide) (by decide) (by decide), eo 6 (by decide) (by decide) (by decide), j1 6 (by decide) (by decide) (by decide), j1 7 (by decide) (by decide) (by decide), j1 8 (by decide) (by decide) (by decide), j1 9 (by decide) (by decide) (by decide), x7 k hk, k10 k hk]
      refine ⟨⟨a1, a2, a3, a4, ?_⟩, p1, p2, ?_⟩
      · split <;> split <;> omega
      · split <;> omega
    · rw [j1 7 (by decide) (by decide) (by decide)]; exact hs
    · obtain ⟨a1, a2, a3, a4⟩ := hT t ht
      rw [eo 9 (by decide) (by decide) (by decide), j1 1 (by decide) (by decide) (by decide), x10 t ht, k2 t ht]
      refine ⟨a1, ?_, ?_, ?_⟩
      · split <;> split <;> omega
      · split <;> omega
      · split <;> omega
    · rw [k2 h (Nat.le_refl h), hTh]; split <;> rfl
    · exact IB_cg hB (eo _ (by decide) (by decide) (by decide)) (eo _ (by decide) (by decide) (by decide)) (eo _ (by decide) (by decide) (by decide)) (eo _ (by decide) (by decide) (by decide)) (j1 _ (by decide) (by decide) (by decide)) (j1 _ (by decide) (by decide) (by decide)) (j1 _ (by decide) (by decide) (by decide)) (j1 _ (by decide) (by decide) (by decide))
    · intro j hj t ht hk l hl
      have hkk : kpB j (v 2 t) = true := by
        have q := k2 t ht
        simp only [kpB, decide_eq_true_eq] at hk ⊢
        rw [q] at hk
        split at hk <;> omega
      rw [j1 0 (by decide) (by decide) (by decide), j1 8 (by decide) (by decide) (by decide), hG j (by omega) t ht hkk l hl]
      congr 1
      refine lastK_cg N (fun k hkN => ?_)
      have q := k10 k hkN
      have p3 := (hr k hkN).2.2.2
      have : kpB j (v3 10 k) = kpB j (v 10 k) := by
        simp only [kpB, decide_eq_decide]
        rw [q]
        split <;> omega
      simp only [gR, this, j1 6 (by decide) (by decide) (by decide), j1 7 (by decide) (by decide) (by decide)]
/-- rows are pressed together: the last one of a kind stays the last one -/
theorem lastK_cpt {P P' f : Nat → Bool} {N : Nat} (h1 : ∀ k, k < N → P k = true → f k = true) (h2 : ∀ k, k < N → f k = true → P' (cntK f k) = P k) : (lastK P N = 0 → lastK P' (cntK f N) = 0) ∧ ∀ m, lastK P N = m + 1 → lastK P' (cntK f N) = cntK f m + 1 := by
  refine ⟨fun q => lastK_none (fun i hi => ?_), fun m q => ?_⟩
  · obtain ⟨k, a, b, c⟩ := cntK_sur hi
    rw [← c, h2 k a b]
    exact lastK_0 q k a
  · obtain ⟨a, b, c⟩ := lastK_s q
    have hfm := h1 m a b
    refine lastK_of (cntK_lt a hfm) (by rw [h2 m a hfm]; exact b) (fun i hi hiN => ?_)
    obtain ⟨k, a2, b2, c2⟩ := cntK_sur hiN
    rw [← c2, h2 k a2 b2]
    refine c k ?_ a2
    rcases Nat.lt_or_ge m k with z | z
    · exact z
    · have := cntK_mono f z; omega
theorem pick_cpt {P P' f : Nat → Bool} {N : Nat} {p q : Nat → Int32} (h1 : ∀ k, k < N → P k = true → f k = true) (h2 : ∀ k, k < N → f k = true → P' (cntK f k) = P k) (h3 : ∀ k, k < N → f k = true → q (cntK f k) = p k) : pick q 0 (lastK P' (cntK f N)) = pick p 0 (lastK P N) := by
  have hc := lastK_cpt h1 h2
  rcases Nat.eq_zero_or_pos (lastK P N) with z | z
  · rw [hc.1 z, z]; rfl
  · obtain ⟨m, hm⟩ : ∃ m, lastK P N = m + 1 := ⟨lastK P N - 1, by omega⟩
    obtain ⟨a, b, -⟩ := lastK_s hm
    rw [hc.2 m hm, hm]
    simp only [pick]
    simp
    exact h3 m a (h1 m a b)
theorem q_forget {u v : Mem} (hI : Inv u v) : w_X4_forget u (fun r u' => w_X5_forget v (fun r' v' => r = r' ∧ Inv u' v')) := by
  obtain ⟨h, N, w, ar, hV⟩ := id hI
  obtain ⟨⟨⟨h1, h2, h3⟩, ⟨n1, n2, n3⟩, hs3, ⟨r1, r2, r3⟩, hs5, hs6⟩, hL, ⟨hr, hs⟩, ⟨hT, hTh⟩, hB, hG⟩ := id hV
  obtain ⟨f, ef⟩ : ∃ f : Nat → Bool, f = fun k => decide ((v 10 k).toInt = 0) := ⟨_, rfl⟩
  have hfi : ∀ k, f k = true ↔ (v 10 k).toInt = 0 := fun k => by rw [ef]; simp
  refine ⟨ar + 1, lp_forgetX _ _ u h ar h1 h3 r1 r3 (fun y u1 a1 a2 => nm_mk (m_removeArchived (N := N) ?_ n3 f (fun k hk => ?_) (fun r u3 d0 d17 d1 d2 => ?_))) ar 0 0 u (by omega) l_0 (fun _ _ => rfl) (fun t ht => by rw [if_neg (by omega)])⟩
  · rw [ms_o _ _ _ (by decide), a1 17 (by decide)]; exact n1
  · rw [ms_o _ _ _ (by decide), a1 7 (by decide), ef]
    have := m1_iff (hr k hk).1.2.2.2.2
    simp only [this]
  · have eo : ∀ a, a ≠ 3 → a ≠ 4 → a ≠ 5 → a ≠ 6 → a ≠ 7 → a ≠ 17 → a ≠ 10 → a ≠ 16 → u3 a = u a := fun a q3 q4 q5 q6 q7 q17 q10 q16 => by rw [d1 a q3 q4 q5 q6 q7 q17, ms_o _ _ _ q16, a1 a q10]
    have er : ∀ a, a = 3 ∨ a = 4 ∨ a = 5 ∨ a = 6 ∨ a = 7 → ∀ k, k < N → f k = true → u3 a (cntK f k) = u a k := fun a q k hk hfk => by rw [d2 a q k hk hfk, ms_o _ _ _ (by omega), a1 a (by omega)]
    have e10 : ∀ t, t < h + 1 → u3 10 t = if 0 ≤ (u 10 t).toInt ∧ (u 10 t).toInt < (ar : Int) then 8 else u 10 t := fun t ht => by rw [d1 10 (by decide) (by decide) (by decide) (by decide) (by decide) (by decide), ms_o _ _ _ (by decide), a2 t ht]
    have e16 : u3 16 0 = 0 := by rw [d1 16 (by decide) (by decide) (by decide) (by decide) (by decide) (by decide), ms_s]
    refine ⟨h + 2, lp_forgetY _ _ v h h2 h3 (fun y v1 g1 g2 => nm_mk (n_squeeze (N := N) ?_ n3 f (fun k hk => ?_) (fun r' v3 i0 i15 i1 i2 => ?_))) (h + 1) 0 0 v (by omega) l_0 (fun _ _ => rfl) (fun t ht => absurd ht (Nat.not_lt_zero t)) (fun _ _ => rfl)⟩
    · rw [ms_o _ _ _ (by decide), g1 15 (by decide)]; exact n2
    · rw [ms_o _ (a := 10) _ _ (by decide), ms_o _ (a := 7) _ _ (by decide), ms_o _ (a := 13) _ _ (by decide), g1 10 (by decide), g1 7 (by decide), g1 13 (by decide), ef]
      have p1 := (hr k hk).2.1
      have : v 10 k = 0 ↔ (v 10 k).toInt = 0 := z_iff
      have hle : (v 7 k).toInt ≤ (v 13 0).toInt := by omega
      simp only [this, hle, and_true]
    · have fo : ∀ a, a ≠ 6 → a ≠ 7 → a ≠ 8 → a ≠ 9 → a ≠ 10 → a ≠ 15 → a ≠ 2 → a ≠ 16 → v3 a = v a := fun a q6 q7 q8 q9 q10 q15 q2 q16 => by rw [i1 a q6 q7 q8 q9 q10 q15, ms_o _ _ _ q16, g1 a q2]
      have fr : ∀ a, a = 6 ∨ a = 7 ∨ a = 8 ∨ a = 9 ∨ a = 10 → ∀ k, k < N → f k = true → v3 a (cntK f k) = v a k := fun a q k hk hfk => by rw [i2 a q k hk hfk, ms_o _ _ _ (by omega), g1 a (by omega)]
      have f2 : ∀ t, t < h + 1 → v3 2 t = if (v 2 t).toInt ≤ 0 then 0 else 9 := fun t ht => by rw [i1 2 (by decide) (by decide) (by decide) (by decide) (by decide) (by decide), ms_o _ _ _ (by decide), g2 t ht]
      have f16 : v3 16 0 = 0 := by rw [i1 16 (by decide) (by decide) (by decide) (by decide) (by decide) (by decide), ms_s]
      have hcN := cntK_le f N
      refine ⟨i_eq.mpr (by rw [d0, i0]), h, cntK f N, w, 0, ?_, ?_, ⟨fun i hi => ?_, fun i i' hi hi' => ?_⟩, ⟨fun t ht => ?_, ?_⟩, ?_, ?_⟩
      · rw [IS, eo 18 (by decide) (by decide) (by decide) (by decide) (by decide) (by decide) (by decide) (by decide), eo 19 (by decide) (by decide) (by decide) (by decide) (by decide) (by decide) (by decide) (by decide), eo 15 (by decide) (by decide) (by decide) (by decide) (by decide) (by decide) (by decide) (by decide), fo 13 (by decide) (by decide) (by decide) (by decide) (by decide) (by decide) (by decide) (by decide), fo 14 (by decide) (by decide) (by decide) (by decide) (by decide) (by decide) (by decide) (by decide), fo 17 (by decide) (by decide) (by decide) (by decide) (by decide) (by decide) (by decide) (by decide), e16, f16]
        exact ⟨⟨h1, h2, h3⟩, ⟨d17, i15, by omega⟩, hs3, ⟨l_0, l_0, by omega⟩, hs5, hs6⟩
      · exact IL_cg hL (eo _ (by decide) (by decide) (by decide) (by decide) (by decide) (by decide) (by decide) (by decide)) (fo _ (by decide) (by decide) (by decide) (by decide) (by decide) (by decide) (by decide) (by decide))
      · obtain ⟨k, q1, q2, q3⟩ := cntK_sur hi
        obtain ⟨⟨c1, c2, c3, c4, c5⟩, p1, p2, p3⟩ := hr k q1
        have hz := (hfi k).mp q2
        rw [← q3, er 3 (by decide) k q1 q2, er 4 (by decide) k q1 q2, er 5 (by decide) k q1 q2, er 6 (by decide) k q1 q2, er 7 (by decide) k q1 q2, fr 6 (by decide) k q1 q2, fr 7 (by decide) k q1 q2, fr 8 (by decide) k q1 q2, fr 9 (by decide) k q1 q2, fr 10 (by decide) k q1 q2]
        exact ⟨⟨c1, c2, c3, c4, c5⟩, p1, p2, ⟨by omega, by omega⟩⟩
      · obtain ⟨k, q1, q2, q3⟩ := cntK_sur (show i < cntK f N by omega)
        obtain ⟨k', q1', q2', q3'⟩ := cntK_sur hi'
        rw [← q3, ← q3', fr 7 (by decide) k q1 q2, fr 7 (by decide) k' q1' q2']
        refine hs k k' ?_ q1'
        rcases Nat.lt_or_ge k' k with z | z
        · have := cntK_lt (f := f) z q2'; omega
        · exact z
      · obtain ⟨c1, c2, c3, c4⟩ := hT t ht
        rw [eo 9 (by decide) (by decide) (by decide) (by decide) (by decide) (by decide) (by decide) (by decide), fo 1 (by decide) (by decide) (by decide) (by decide) (by decide) (by decide) (by decide) (by decide), e10 t (by omega), f2 t (by omega)]
        refine ⟨c1, ?_, ?_, ?_⟩
        · by_cases z : (v 2 t).toInt ≤ 0
          · rw [if_pos z, if_neg (by omega), l_0]; omega
          · rw [if_neg z, l_9]
            by_cases z2 : (v 2 t).toInt = 9
            · rw [if_neg (by omega)]; omega
            · rw [if_pos (by omega), l_8]; rfl
        · split
          · rw [l_0]; exact Int.le_refl 0
          · rw [l_9]; decide
        · split
          · exact Or.inl (by rw [l_0]; exact Int.le_refl 0)
          · exact Or.inr l_9
      · rw [f2 h (by omega), if_pos (by omega)]; exact l_0
      · exact IB_cg hB (eo _ (by decide) (by decide) (by decide) (by decide) (by decide) (by decide) (by decide) (by decide)) (eo _ (by decide) (by decide) (by decide) (by decide) (by decide) (by decide) (by decide) (by decide)) (eo _ (by decide) (by decide) (by decide) (by decide) (by decide) (by decide) (by decide) (by decide)) (eo _ (by decide) (by decide) (by decide) (by decide) (by decide) (by decide) (by decide) (by decide)) (fo _ (by decide) (by decide) (by decide) (by decide) (by decide) (by decide) (by decide) (by decide)) (fo _ (by decide) (by decide) (by decide) (by decide) (by decide) (by decide) (by decide) (by decide)) (fo _ (by decide) (by decide) (by decide) (by decide) (by decide) (by decide) (by decide) (by decide)) (fo _ (by decide) (by decide) (by decide) (by decide) (by decide) (by decide) (by decide) (by decide))
      · intro j hj t ht hk l hl
        have c3 := (hT t ht).2.2.1
        have hz : (v 2 t).toInt = 0 := by
          rw [f2 t (by omega)] at hk
          by_cases z : (v 2 t).toInt ≤ 0
          · omega
          · rw [if_neg z] at hk
            simp only [kpB, decide_eq_true_eq, l_9] at hk
            omega
        rw [fo 0 (by decide) (by decide) (by decide) (by decide) (by decide) (by decide) (by decide) (by decide), hG ar (Nat.le_refl ar) t ht (by simp only [kpB, decide_eq_true_eq]; exact Or.inl hz) l hl]
        refine (pick_cpt (f := f) (fun k hkN hP => ?_) (fun k hkN hfk => ?_) (fun k hkN hfk => fr 8 (by decide) k hkN hfk)).symm
        · have p3 := (hr k hkN).2.2.2
          simp only [gR, Bool.and_eq_true] at hP
          exact (hfi k).mpr ((kp0 r3 p3.1 (Or.inl p3.2)).mp hP.1)
        · have hz := (hfi k).mp hfk
          simp only [gR, fr 6 (by decide) k hkN hfk, fr 7 (by decide) k hkN hfk, fr 10 (by decide) k hkN hfk]
          have e1 : kpB j (v 10 k) = true := by simp only [kpB, decide_eq_true_eq]; exact Or.inl hz
          have e2 : kpB ar (v 10 k) = true := by simp only [kpB, decide_eq_true_eq]; exact Or.inl hz
          rw [e1, e2]
