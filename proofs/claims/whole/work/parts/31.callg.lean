theorem cntK_all {f : Nat → Bool} : ∀ {n}, (∀ i, i < n → f i = true) → cntK f n = n
  | 0, _ => rfl
  | n + 1, h => by simp only [cntK, h n (Nat.lt_succ_self n), if_true, cntK_all (fun i hi => h i (Nat.lt_succ_of_lt hi))]
theorem q_back {x : Int32} {u v : Mem} (hI : Inv u v) : w_X4_back x u (fun r u' => w_X5_back x v (fun r' v' => r = r' ∧ Inv u' v')) := by
  obtain ⟨h, N, w, ar, hV⟩ := id hI
  obtain ⟨⟨⟨h1, h2, h3⟩, ⟨n1, n2, n3⟩, hs3, ⟨r1, r2, r3⟩, hs5, hs6⟩, hL, ⟨hr, hs⟩, ⟨hT, hTh⟩, hB, hG⟩ := id hV
  by_cases hx : 0 ≤ x.toInt ∧ x.toInt ≤ (h : Int)
  · obtain ⟨t, ht⟩ : ∃ l : Nat, x.toInt = (l : Int) := ⟨x.toInt.toNat, by omega⟩
    obtain ⟨-, t2, t3, -⟩ := hT t (by omega)
    refine m_isHeight_t hx.1 (by omega) (And.intro (fun c => absurd c b01) (fun _ => And.intro (fun c => ?_) (fun c => ?_)))
    · have ha0 : ar = 0 := by have := i_le.mp c; rw [l_0] at this; omega
      refine m_isGone ht (by omega) (fun c1 => And.intro (fun _ => ?_) (fun c => absurd rfl c)) (fun c1 => And.intro (fun c => absurd c b01) (fun _ => ?_))
      · have hz : (v 2 t).toInt = 0 := (m1_iff t2).mp c1
        refine m_removeAbove n1 n3 (fun r u1 a0 a17 a1 => nm_mk ?_)
        obtain ⟨M, eM⟩ : ∃ M, M = fstK (fun k => decide (x.toInt < (u 3 k).toInt)) N 0 := ⟨_, rfl⟩
        rw [← eM] at a0 a17
        have hM := fstK_ge (fun k => decide (x.toInt < (u 3 k).toInt)) N 0
        rw [← eM] at hM
        have hlo : ∀ k, k < M → (v 7 k).toInt ≤ (t : Int) := fun k hk => by
          have q := fstK_no (fun k => decide (x.toInt < (u 3 k).toInt)) N 0 k (Nat.zero_le k) (by rw [← eM]; exact hk)
          simp only [decide_eq_false_iff_not] at q
          rw [(hr k (by omega)).1.1] at q
          omega
        have hhi : ∀ k, M ≤ k → k < N → (t : Int) < (v 7 k).toInt := fun k hk hkN => by
          have q := fstK_is (fun k => decide (x.toInt < (u 3 k).toInt)) N 0 (by rw [← eM]; omega)
          rw [← eM] at q
          simp only [decide_eq_true_eq] at q
          rw [(hr M (by omega)).1.1] at q
          have := hs M k hk hkN
          omega
        obtain ⟨u2, eu2⟩ : ∃ z : Mem, z = g_ms u1 18 0 x := ⟨_, rfl⟩
        show w_X2_load x 1 32 (g_ms u1 18 0 x) _
        rw [← eu2]
        have b1 : ∀ a, a ≠ 17 → a ≠ 18 → u2 a = u a := fun a q17 q18 => by rw [eu2, ms_o _ _ _ q18, a1 a q17]
        have b17 : (u2 17 0).toInt = (M : Int) := by rw [eu2, ms_o _ _ _ (by decide)]; exact a17
        have b18 : u2 18 0 = x := by rw [eu2, ms_s]
        refine m_load ⟨by decide, by decide, by decide, by decide, by decide⟩ b17 (by omega) (fun k hk => ?_) (fun k k' q1 q2 => ?_) (fun k hk => ?_) (fun u3 c1' c2 => m_startFrom (fun u4 d1 d2 d19 d20 => ?_))
        · rw [b1 4 (by decide) (by decide), (hr k (by omega)).1.2.1]; exact (hr k (by omega)).2.2.1
        · rw [b1 3 (by decide) (by decide), (hr k (by omega)).1.1, (hr k' (by omega)).1.1]; exact hs k k' q1 (by omega)
        · rw [b1 3 (by decide) (by decide), (hr k (by omega)).1.1]; exact (hr k (by omega)).2.1.1
        · have hst : ∀ l, l < 32 → u3 1 l = v 0 (32 * t + l) := fun l hl => by
            rw [c2 l hl, ← iv_ld hV ht (by omega) c1 l hl]
            have e : lastK (ldf u2 x l) M = lastK (ldf u x l) N := by
              rw [lastK_stop (f := ldf u x l) (show M ≤ N by omega) (fun k q1 q2 => ?_)]
              · exact lastK_cg M (fun k _ => by simp only [ldf, b1 3 (by decide) (by decide), b1 7 (by decide) (by decide), b1 4 (by decide) (by decide)])
              · have := hhi k q1 q2
                simp only [ldf, decide_eq_false_iff_not]
                rw [(hr k q2).1.1]
                omega
            rw [e, b1 5 (by decide) (by decide)]
          obtain ⟨f, ef⟩ : ∃ f : Nat → Bool, f = fun k => decide (v 10 k = 0 ∧ (v 7 k).toInt ≤ x.toInt) := ⟨_, rfl⟩
          have hf1 : ∀ k, k < M → f k = true := fun k hk => by
            have p3 := (hr k (by omega)).2.2.2
            have := hlo k hk
            rw [ef]; simp only [decide_eq_true_eq]
            exact ⟨z_iff.mpr (by omega), by omega⟩
          have hf2 : ∀ k, M ≤ k → k < N → f k = false := fun k q1 q2 => by
            have := hhi k q1 q2
            rw [ef]; simp only [decide_eq_false_iff_not]
            omega
          have hcM : ∀ k, k ≤ M → cntK f k = k := fun k hk => cntK_all (fun i hi => hf1 i (by omega))
          have hcN : cntK f N = M := by rw [cntK_stop (show M ≤ N by omega) hf2]; exact hcM M (Nat.le_refl M)
          refine n_isHeight_t hx.1 (by omega) (And.intro (fun c => absurd c b01) (fun _ => And.intro (fun _ => And.intro (vin ht (by omega)) (nm_mk ?_)) (fun c => absurd (i_le.mpr (by rw [l_0]; omega)) c)))
          rw [tn ht]
          refine And.intro (fun _ => n_squeeze n2 n3 f (fun k _ => by rw [ef]) (fun r' v1 g0 g15 g1 g2 => nm_mk (nm_mk ?_))) (fun c => absurd (i_le.mpr (by rw [l_0]; omega)) c)
          rw [hcN] at g0 g15
          obtain ⟨v2, ev2⟩ : ∃ z : Mem, z = g_ms (g_ms v1 13 0 x) 14 0 0 := ⟨_, rfl⟩
          rw [← ev2]
          have i1 : ∀ a, a ≠ 6 → a ≠ 7 → a ≠ 8 → a ≠ 9 → a ≠ 10 → a ≠ 15 → a ≠ 13 → a ≠ 14 → v2 a = v a := fun a q6 q7 q8 q9 q10 q15 q13 q14 => by rw [ev2, ms_o _ _ _ q14, ms_o _ _ _ q13, g1 a q6 q7 q8 q9 q10 q15]
          have ir : ∀ a, a = 6 ∨ a = 7 ∨ a = 8 ∨ a = 9 ∨ a = 10 → ∀ k, k < M → v2 a k = v a k := fun a q k hk => by
            rw [ev2, ms_o _ _ _ (by omega), ms_o _ _ _ (by omega)]
            have := g2 a q k (by omega) (hf1 k hk)
            rw [hcM k (by omega)] at this
            exact this
          have i13 : v2 13 0 = x := by rw [ev2, ms_o _ _ _ (by decide), ms_s]
          have i14 : v2 14 0 = 0 := by rw [ev2, ms_s]
          have i15 : (v2 15 0).toInt = (M : Int) := by rw [ev2, ms_o _ _ _ (by decide), ms_o _ _ _ (by decide)]; exact g15
          have eo : ∀ a, a ≠ 1 → a ≠ 11 → a ≠ 12 → a ≠ 17 → a ≠ 18 → a ≠ 19 → a ≠ 20 → u4 a = u a := fun a q1 q11 q12 q17 q18 q19 q20 => by rw [d1 a q11 q12 q19 q20, c1' a q1, b1 a q17 q18]
          have e17 : (u4 17 0).toInt = (M : Int) := by rw [d1 17 (by decide) (by decide) (by decide) (by decide), c1' 17 (by decide)]; exact b17
          have e18 : u4 18 0 = x := by rw [d1 18 (by decide) (by decide) (by decide) (by decide), c1' 18 (by decide)]; exact b18
          refine ⟨i_eq.mpr (by rw [a0, g0]), t, M, 0, ar, ?_, ?_, ⟨fun k hk => ?_, fun k k' q1 q2 => ?_⟩, ⟨fun t' ht' => ?_, ?_⟩, ⟨fun l hl => ⟨?_, ?_, fun q => absurd rfl q⟩, fun _ => by rw [d20]; exact l_0, fun q => absurd rfl q⟩, ?_⟩
          · rw [IS, e18, i13, d19, i14, eo 16 (by decide) (by decide) (by decide) (by decide) (by decide) (by decide) (by decide), eo 15 (by decide) (by decide) (by decide) (by decide) (by decide) (by decide) (by decide), i1 16 (by decide) (by decide) (by decide) (by decide) (by decide) (by decide) (by decide) (by decide), i1 17 (by decide) (by decide) (by decide) (by decide) (by decide) (by decide) (by decide) (by decide)]
            exact ⟨⟨ht, ht, by omega⟩, ⟨e17, i15, by omega⟩, ⟨l_0, l_0, by omega⟩, ⟨r1, r2, r3⟩, hs5, hs6⟩
          · exact IL_cg hL (eo _ (by decide) (by decide) (by decide) (by decide) (by decide) (by decide) (by decide)) (i1 _ (by decide) (by decide) (by decide) (by decide) (by decide) (by decide) (by decide) (by decide))
          · have hlk := hlo k hk
            obtain ⟨p0, p1, p2, p3⟩ := hr k (by omega)
            rw [eo 3 (by decide) (by decide) (by decide) (by decide) (by decide) (by decide) (by decide), eo 4 (by decide) (by decide) (by decide) (by decide) (by decide) (by decide) (by decide), eo 5 (by decide) (by decide) (by decide) (by decide) (by decide) (by decide) (by decide), eo 6 (by decide) (by decide) (by decide) (by decide) (by decide) (by decide) (by decide), eo 7 (by decide) (by decide) (by decide) (by decide) (by decide) (by decide) (by decide), ir 6 (by decide) k hk, ir 7 (by decide) k hk, ir 8 (by decide) k hk, ir 9 (by decide) k hk, ir 10 (by decide) k hk]
            exact ⟨p0, ⟨p1.1, hlk⟩, p2, p3⟩
          · rw [ir 7 (by decide) k (by omega), ir 7 (by decide) k' q2]; exact hs k k' q1 (by omega)
          · rw [eo 9 (by decide) (by decide) (by decide) (by decide) (by decide) (by decide) (by decide), eo 10 (by decide) (by decide) (by decide) (by decide) (by decide) (by decide) (by decide), i1 1 (by decide) (by decide) (by decide) (by decide) (by decide) (by decide) (by decide) (by decide), i1 2 (by decide) (by decide) (by decide) (by decide) (by decide) (by decide) (by decide) (by decide)]
            exact hT t' (by omega)
          · rw [i1 2 (by decide) (by decide) (by decide) (by decide) (by decide) (by decide) (by decide) (by decide)]; exact hz
          · rw [(d2 l hl).1, hst l hl, i1 0 (by decide) (by decide) (by decide) (by decide) (by decide) (by decide) (by decide) (by decide)]
          · rw [(d2 l hl).2, hst l hl, nowS_0, i1 0 (by decide) (by decide) (by decide) (by decide) (by decide) (by decide) (by decide) (by decide)]
          · intro j hj t' ht' hk l hl
            rw [i1 2 (by decide) (by decide) (by decide) (by decide) (by decide) (by decide) (by decide) (by decide)] at hk
            rw [i1 0 (by decide) (by decide) (by decide) (by decide) (by decide) (by decide) (by decide) (by decide), hG j hj t' (by omega) hk l hl]
            rw [lastK_stop (f := gR v j t' l) (show M ≤ N by omega) (fun k q1 q2 => ?_)]
            · rw [lastK_cg (f := gR v2 j t' l) (g := gR v j t' l) M (fun k hk => by simp only [gR, ir 6 (by decide) k hk, ir 7 (by decide) k hk, ir 10 (by decide) k hk])]
              exact pick_cg (lastK_le _ M) (fun k hk => (ir 8 (by decide) k hk).symm)
            · have := hhi k q1 q2
              simp only [gR, Bool.and_eq_false_iff, decide_eq_false_iff_not]
              exact Or.inr (by omega)
      · have hz : ¬ (v 2 t).toInt = 0 := fun q => c1 ((m1_iff t2).mpr q)
        refine n_isHeight_t hx.1 (by omega) (And.intro (fun c => absurd c b01) (fun _ => And.intro (fun _ => And.intro (vin ht (by omega)) (nm_mk ?_)) (fun c => absurd (i_le.mpr (by rw [l_0]; omega)) c)))
        rw [tn ht]
        exact And.intro (fun c => absurd (i_le.mp c) (by rw [l_0]; omega)) (fun _ => ⟨rfl, hI⟩)
    · have ha0 : ar ≠ 0 := by have := mt i_le.mpr c; rw [l_0] at this; omega
      exact n_isHeight_t hx.1 (by omega) (And.intro (fun c => absurd c b01) (fun _ => And.intro (fun c => absurd (i_le.mp c) (by rw [l_0]; omega)) (fun _ => ⟨rfl, hI⟩)))
  · exact m_isHeight_f (by rw [h1]; exact hx) (And.intro (fun _ => n_isHeight_f (by rw [h2]; exact hx) (And.intro (fun _ => ⟨rfl, hI⟩) (fun c => absurd rfl c))) (fun c => absurd rfl c))
theorem q_beginQ {u v : Mem} {P : Mem → Mem → Prop} (hP : ∀ u' v', Inv u' v' → P u' v') : w_X4_begin u (fun u' => w_X5_begin v (fun v' => P u' v')) := by
  refine nm_mk (nm_mk (nm_mk (m_fill (by omega) (fun u1 a1 a2 => m_fill (by omega) (fun u2 b1 b2 => m_startFrom (fun u3 c1 c2 c19 c20 => nm_mk (m_grow (by decide) (fun u4 d1 d2 => ?_))))))))
  have s18 : u4 18 0 = -1 := by rw [d1 18 (by decide), ms_s]
  have e19 : u4 19 0 = 0 := by rw [d1 19 (by decide), ms_o _ _ _ (by decide)]; exact c19
  have e20 : u4 20 0 = 0 := by rw [d1 20 (by decide), ms_o _ _ _ (by decide)]; exact c20
  have e0 : ∀ i, i < 5 → u4 0 i = 0 := fun i hi => by rw [d1 0 (by decide), ms_o _ _ _ (by decide), c1 0 (by decide) (by decide) (by decide) (by decide), b1 0 (by decide)]; exact a2 i hi
  have e17 : u4 17 0 = 0 := by rw [d1 17 (by decide), ms_o _ _ _ (by decide), c1 17 (by decide) (by decide) (by decide) (by decide), b1 17 (by decide), a1 17 (by decide), ms_s]
  have e16 : u4 16 0 = 0 := by rw [d1 16 (by decide), ms_o _ _ _ (by decide), c1 16 (by decide) (by decide) (by decide) (by decide), b1 16 (by decide), a1 16 (by decide), ms_o _ _ _ (by decide), ms_s]
  have e15 : u4 15 0 = 0 := by rw [d1 15 (by decide), ms_o _ _ _ (by decide), c1 15 (by decide) (by decide) (by decide) (by decide), b1 15 (by decide), a1 15 (by decide), ms_o _ _ _ (by decide), ms_o _ _ _ (by decide), ms_s]
  have e11 : ∀ l, l < 32 → u4 11 l = 0 ∧ u4 12 l = 0 := fun l hl => by
    rw [d1 11 (by decide), d1 12 (by decide), ms_o _ (a := 11) _ _ (by decide), ms_o _ (a := 12) _ _ (by decide), (c2 l hl).1, (c2 l hl).2]
    exact ⟨b2 l hl, b2 l hl⟩
  have et : ∀ l, l < 32 → (g_ms u3 18 0 (-1)) 1 l = 0 := fun l hl => by rw [ms_o _ _ _ (by decide), c1 1 (by decide) (by decide) (by decide) (by decide)]; exact b2 l hl
  -- Heights.rise
  refine And.intro (fun _ => nm_mk (nm_mk ?_)) (fun c => absurd (i_lt.mpr (by rw [s18]; decide)) c)
  have s0 : (u4 18 0 + 1) = 0 := by rw [s18]; decide
  rw [s0]
  have q18 : (g_ms u4 18 0 0) 18 0 = 0 := ms_s _ _ _ _
  rw [q18]
  refine And.intro (vin (i := 0) l_0 (by omega)) (nm_mk ?_)
  rw [tn (i := 0) l_0]
  have q18' : (g_ms (g_ms u4 18 0 0) 9 0 (u4 14 1)) 18 0 = 0 := by rw [ms_o _ _ _ (by decide), ms_s]
  rw [q18']
  refine And.intro (vin (i := 0) l_0 (by omega)) (nm_mk ?_)
  rw [tn (i := 0) l_0]
  obtain ⟨u5, eu5⟩ : ∃ z : Mem, z = g_ms (g_ms (g_ms u4 18 0 0) 9 0 (u4 14 1)) 10 0 (-1) := ⟨_, rfl⟩
  rw [← eu5]
  have k1 : ∀ a, a ≠ 18 → a ≠ 9 → a ≠ 10 → u5 a = u4 a := fun a q1 q2 q3 => by rw [eu5, ms_o _ _ _ q3, ms_o _ _ _ q2, ms_o _ _ _ q1]
  have k18 : u5 18 0 = 0 := by rw [eu5, ms_o _ _ _ (by decide), ms_o _ _ _ (by decide), ms_s]
  have k9 : u5 9 0 = u4 14 1 := by rw [eu5, ms_o _ _ _ (by decide), ms_s]
  have k10 : u5 10 0 = -1 := by rw [eu5, ms_s]
  -- the reference
  refine nm_mk (nm_mk (nm_mk (nm_mk (nm_mk ⟨33, lp_begin27 _ _ _ (fun y1 v1 f1 f2 => And.intro (vin (i := 0) l_0 (by omega)) (nm_mk ⟨6, lp_begin55 _ _ _ (fun y2 v2 g1 g2 => n_digestOf (t := 0) l_0 (by omega) (fun v3 i1 i2 => And.intro (vin (i := 0) l_0 (by omega)) (nm_mk ?_))) 5 0 0 _ (by omega) l_0 (fun _ _ => rfl) (fun l hl => absurd hl (Nat.not_lt_zero l))⟩)) 32 0 0 _ (by omega) l_0 (fun _ _ => rfl) (fun l hl => absurd hl (Nat.not_lt_zero l))⟩))))
  rw [tn (i := 0) l_0] at g1 ⊢
  obtain ⟨v4, ev4⟩ : ∃ z : Mem, z = g_ms v3 1 0 (v3 12 1) := ⟨_, rfl⟩
  rw [← ev4]
  have o0 : ∀ l, l < 32 → v4 0 l = 0 := fun l hl => by rw [ev4, ms_o _ _ _ (by decide), i1 0 (by decide), g1 0 (by decide), ms_o _ _ _ (by decide)]; exact f2 l hl
  have o11 : ∀ l, l < 5 → v4 11 l = 0 := fun l hl => by rw [ev4, ms_o _ _ _ (by decide), i1 11 (by decide)]; exact g2 l hl
  have o2 : v4 2 0 = 0 := by rw [ev4, ms_o _ _ _ (by decide), i1 2 (by decide), g1 2 (by decide), ms_s]
  have o1 : v4 1 0 = v3 12 1 := by rw [ev4, ms_s]
  have os : ∀ a, a ≠ 0 → a ≠ 1 → a ≠ 2 → a ≠ 11 → a ≠ 12 → v4 a = g_ms (g_ms (g_ms (g_ms (g_ms v 13 0 0) 14 0 0) 15 0 0) 16 0 0) 17 0 0 a := fun a q0 q1 q2 q11 q12 => by rw [ev4, ms_o _ _ _ q1, i1 a q12, g1 a q11, ms_o _ _ _ q2, f1 a q0]
  have o13 : v4 13 0 = 0 := by rw [os 13 (by decide) (by decide) (by decide) (by decide) (by decide)]; simp [g_ms, va_up, upd]
  have o14 : v4 14 0 = 0 := by rw [os 14 (by decide) (by decide) (by decide) (by decide) (by decide)]; simp [g_ms, va_up, upd]
  have o15 : v4 15 0 = 0 := by rw [os 15 (by decide) (by decide) (by decide) (by decide) (by decide)]; simp [g_ms, va_up, upd]
  have o16 : v4 16 0 = 0 := by rw [os 16 (by decide) (by decide) (by decide) (by decide) (by decide)]; simp [g_ms, va_up, upd]
  have o17 : v4 17 0 = 0 := by rw [os 17 (by decide) (by decide) (by decide) (by decide) (by decide)]; simp [g_ms, va_up, upd]
  have ov0 : ∀ l, l < 32 → v2 0 (32 * 0 + l) = 0 := fun l hl => by rw [g1 0 (by decide), ms_o _ _ _ (by decide), show 32 * 0 + l = l by omega]; exact f2 l hl
  refine hP _ _ ⟨0, 0, 0, 0, ?_, ?_, ⟨fun k hk => absurd hk (Nat.not_lt_zero k), fun k k' _ hk => absurd hk (Nat.not_lt_zero k')⟩, ⟨fun t ht => ?_, ?_⟩, ⟨fun l hl => ⟨?_, ?_, fun q => absurd rfl q⟩, fun _ => ?_, fun q => absurd rfl q⟩, ?_⟩
  · rw [IS, k18, k1 17 (by decide) (by decide) (by decide), k1 19 (by decide) (by decide) (by decide), k1 16 (by decide) (by decide) (by decide), k1 15 (by decide) (by decide) (by decide), e17, e19, e16, e15, o13, o14, o15, o16, o17]
    exact ⟨⟨l_0, l_0, by omega⟩, ⟨l_0, l_0, by omega⟩, ⟨l_0, l_0, by omega⟩, ⟨l_0, l_0, by omega⟩, rfl, by decide⟩
  · intro i hi
    rw [k1 0 (by decide) (by decide) (by decide), e0 i hi, o11 i hi]
  · have ht0 : t = 0 := by omega
    rw [ht0, k9, k10, o1, o2]
    refine ⟨?_, by decide, by decide, Or.inl (by decide)⟩
    exact isTree_eq d2 i2 (fun l hl => (et l hl).trans (ov0 l hl).symm) 63 1 (by omega) (by omega) (by omega)
  · rw [o2]; exact l_0
  · rw [k1 11 (by decide) (by decide) (by decide), (e11 l hl).1, show 32 * 0 + l = l by omega, o0 l hl]
  · rw [k1 12 (by decide) (by decide) (by decide), (e11 l hl).2, nowS_0, show 32 * 0 + l = l by omega, o0 l hl]
  · rw [k1 20 (by decide) (by decide) (by decide), e20]; exact l_0
  · intro j hj t ht hk l hl
    have ht0 : t = 0 := by omega
    rw [ht0, show 32 * 0 + l = l by omega, o0 l hl]; rfl
theorem q_clear {u v : Mem} (hI : Inv u v) : w_X4_clear u (fun r u' => w_X5_clear v (fun r' v' => r = r' ∧ Inv u' v')) := by
  obtain ⟨h, N, w, ar, ⟨⟨⟨h1, h2, h3⟩, -⟩, -⟩⟩ := id hI
  have e : u 18 0 = v 13 0 := i_eq.mpr (by rw [h1, h2])
  exact q_beginQ (fun u' v' q => ⟨e, q⟩)
