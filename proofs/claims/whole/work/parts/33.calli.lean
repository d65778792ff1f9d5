theorem m_rise {x : Int32} {h : Nat} {u : Mem} {post : Mem → Prop} (hh : (u 18 0).toInt = (h : Int)) (hh2 : h < 200) (k : ∀ u', (∀ a, a ≠ 9 → a ≠ 10 → a ≠ 18 → u' a = u a) → (u' 18 0).toInt = ((h + 1 : Nat) : Int) → (∀ t, t ≠ h + 1 → u' 9 t = u 9 t ∧ u' 10 t = u 10 t) → u' 9 (h + 1) = x → u' 10 (h + 1) = -1 → post u') : w_X1_rise x u post := by
  refine And.intro (fun _ => nm_mk (nm_mk ?_)) (fun c => absurd (i_lt.mpr (by rw [l_200]; omega)) c)
  obtain ⟨u1, eu1⟩ : ∃ z : Mem, z = g_ms u 18 0 (u 18 0 + 1) := ⟨_, rfl⟩
  rw [← eu1]
  have b1 : ∀ a, a ≠ 18 → u1 a = u a := fun a q => by rw [eu1, ms_o _ _ _ q]
  have b18 : (u1 18 0).toInt = ((h + 1 : Nat) : Int) := by rw [eu1, ms_s]; exact inc hh (by omega)
  refine And.intro (vin b18 (by omega)) (nm_mk ?_)
  rw [tn b18]
  refine And.intro (vin (i := h + 1) (by rw [ms_o _ _ _ (by decide)]; exact b18) (by omega)) (nm_mk ?_)
  rw [show (g_ms u1 9 (h + 1) x) 18 = u1 18 from ms_o _ _ _ (by decide), tn b18]
  refine k _ (fun a q9 q10 q18 => by rw [ms_o _ _ _ q10, ms_o _ _ _ q9, b1 a q18]) ?_ (fun t ht => ?_) ?_ ?_
  · rw [ms_o _ _ _ (by decide), ms_o _ _ _ (by decide)]; exact b18
  · rw [ms_o _ (a := 9) _ _ (by decide), ms_n _ _ _ ht, ms_n _ _ _ ht, ms_o _ _ _ (by decide), b1 9 (by decide), b1 10 (by decide)]
    exact ⟨rfl, rfl⟩
  · rw [ms_o _ _ _ (by decide), ms_s]
  · rw [ms_s]
theorem q_seal {u v : Mem} (hI : Inv u v) : w_X4_seal u (fun r u' => w_X5_seal v (fun r' v' => r = r' ∧ Inv u' v')) := by
  obtain ⟨h, N, w, ar, hV⟩ := id hI
  obtain ⟨⟨⟨h1, h2, h3⟩, ⟨n1, n2, n3⟩, ⟨w1, w2, w3⟩, hs4, hs5, hs6⟩, hL, ⟨hr, hs⟩, ⟨hT, hTh⟩, ⟨hB, -⟩, hG⟩ := id hV
  obtain ⟨f, ef⟩ : ∃ f : Nat → Bool, f = fun l => decide (¬ nowS v h w l = v 0 (32 * h + l)) := ⟨_, rfl⟩
  have hfx : ∀ l, l < 32 → f l = decide (¬ u 11 l = u 12 l) := fun l hl => by
    have e : (nowS v h w l = v 0 (32 * h + l)) ↔ (v 0 (32 * h + l) = nowS v h w l) := eq_comm
    rw [ef, (hB l hl).1, (hB l hl).2.1]
    simp only [e]
  have hc32 := cntK_le f 32
  have hcx : cntK (fun l => decide (¬ u 11 l = u 12 l)) 32 = cntK f 32 := cntK_cg 32 (fun l hl => (hfx l hl).symm)
  have yR : (h = 200 ∨ 400 < N + cntK f 32) → w_X5_seal v (fun r' v' => -105 = r' ∧ Inv u v') := fun q => by
    refine ⟨33, lp_seal4 _ _ v h w h2 h3 w2 w3 (fun acc y ha => And.intro (fun _ => ⟨rfl, hI⟩) (fun c => nm_mk (And.intro (fun c2 => ?_) (fun _ => ⟨rfl, hI⟩)))) 32 0 0 0 (by omega) l_0 l_0⟩
    have c := mt i_eq.mpr c
    have c2 := i_le.mp c2
    rw [l_200] at c
    have ha : acc.toInt = ((cntK f 32 : Nat) : Int) := by rw [ef]; exact ha
    rw [i_add (by omega) (by omega), l_400] at c2
    omega
  refine And.intro (fun c => m_changes (fun r hr0 => nm_mk (And.intro (fun c2 => ?_) (fun c2 => yR (Or.inr ?_))))) (fun c => yR (Or.inl (by have := mt i_lt.mpr c; rw [l_200] at this; omega)))
  · have hh : h < 200 := by have := i_lt.mp c; rw [l_200] at this; omega
    rw [hcx] at hr0
    have hroom : N + cntK f 32 ≤ 400 := by
      have c2 := i_le.mp c2
      rw [i_add (by omega) (by omega), l_400] at c2
      omega
    refine ⟨33, lp_sealX _ _ u N h n1 h1 hh f hfx hroom (fun y u1 a17 a1 a2 a3 => m_grow (by decide) (fun u2 b1 b2 => m_rise (h := h) (by rw [b1 18 (by decide), a1 18 (by decide) (by decide) (by decide) (by decide) (by decide) (by decide)]; exact h1) hh (fun u3 c1 c18 c9 c9' c10' => m_startFrom (fun u4 d1 d2 d19 d20 => ?_)))) 32 0 0 u (by omega) l_0 (by rw [n1]; rfl) (fun _ _ _ _ _ _ _ => rfl) (fun _ _ => ⟨rfl, rfl, rfl, rfl, rfl⟩) (fun l hl => absurd hl (Nat.not_lt_zero l))⟩
    have eo : ∀ a, a ≠ 3 → a ≠ 4 → a ≠ 5 → a ≠ 6 → a ≠ 7 → a ≠ 17 → a ≠ 14 → a ≠ 9 → a ≠ 10 → a ≠ 18 → a ≠ 11 → a ≠ 12 → a ≠ 19 → a ≠ 20 → u4 a = u a := fun a q3 q4 q5 q6 q7 q17 q14 q9 q10 q18 q11 q12 q19 q20 => by rw [d1 a q11 q12 q19 q20, c1 a q9 q10 q18, b1 a q14, a1 a q3 q4 q5 q6 q7 q17]
    have er : ∀ a, a = 3 ∨ a = 4 ∨ a = 5 ∨ a = 6 ∨ a = 7 ∨ a = 17 → u4 a = u1 a := fun a q => by rw [d1 a (by omega) (by omega) (by omega) (by omega), c1 a (by omega) (by omega) (by omega), b1 a (by omega)]
    have e12 : u3 12 = u 12 := by rw [c1 12 (by decide) (by decide) (by decide), b1 12 (by decide), a1 12 (by decide) (by decide) (by decide) (by decide) (by decide) (by decide)]
    have et : u4 9 = u3 9 ∧ u4 10 = u3 10 := ⟨d1 9 (by decide) (by decide) (by decide) (by decide), d1 10 (by decide) (by decide) (by decide) (by decide)⟩
    have e18 : (u4 18 0).toInt = ((h + 1 : Nat) : Int) := by rw [d1 18 (by decide) (by decide) (by decide) (by decide)]; exact c18
    have eo9 : ∀ t, t ≤ h → u4 9 t = u 9 t ∧ u4 10 t = u 10 t := fun t ht => by
      rw [et.1, et.2, (c9 t (by omega)).1, (c9 t (by omega)).2, b1 9 (by decide), b1 10 (by decide), a1 9 (by decide) (by decide) (by decide) (by decide) (by decide) (by decide), a1 10 (by decide) (by decide) (by decide) (by decide) (by decide) (by decide)]
      exact ⟨rfl, rfl⟩
    have e32 : u1 12 = u 12 := a1 12 (by decide) (by decide) (by decide) (by decide) (by decide) (by decide)
    -- the reference
    refine ⟨33, lp_seal4 _ _ v h w h2 h3 w2 w3 (fun acc y2 ha => And.intro (fun q => absurd (i_eq.mp q) (by rw [l_200]; omega)) (fun _ => nm_mk (And.intro (fun _ => nm_mk ?_) (fun q => absurd (i_le.mpr ?_) q)))) 32 0 0 0 (by omega) l_0 l_0⟩
    · have ef2 : (v 13 0 + 1).toInt = ((h + 1 : Nat) : Int) := inc h2 (by omega)
      refine ⟨33, lp_seal80 acc _ _ _ v N h w n2 h2 hh ef2 w2 w3 f (fun l _ => by rw [ef]) hroom (fun y3 v1 g15 g1 gs1 gs2 g2 g3 => nm_mk (nm_mk (And.intro (vin ef2 (by omega)) (nm_mk ?_)))) 32 0 0 v (by omega) l_0 (by rw [n2]; rfl) (fun _ _ _ _ _ _ _ _ => rfl) (fun _ _ => rfl) (fun l hl => absurd hl (Nat.not_lt_zero l)) (fun _ _ => ⟨rfl, rfl, rfl, rfl, rfl⟩) (fun l hl => absurd hl (Nat.not_lt_zero l))⟩
      rw [tn ef2]
      refine n_digestOf ef2 (by omega) (fun v2 i1 i2 => And.intro (vin ef2 (by omega)) (nm_mk ?_))
      obtain ⟨v3, ev3⟩ : ∃ z : Mem, z = g_ms v2 1 (h + 1) (v2 12 1) := ⟨_, rfl⟩
      rw [← ev3]
      have jo : ∀ a, a ≠ 1 → a ≠ 2 → a ≠ 12 → a ≠ 13 → a ≠ 14 → v3 a = v1 a := fun a q1 q2 q12 q13 q14 => by rw [ev3, ms_o _ _ _ q1, i1 a q12, ms_o _ _ _ q2, ms_o _ _ _ q14, ms_o _ _ _ q13]
      have jv : ∀ a, a ≠ 0 → a ≠ 6 → a ≠ 7 → a ≠ 8 → a ≠ 9 → a ≠ 10 → a ≠ 15 → a ≠ 1 → a ≠ 2 → a ≠ 12 → a ≠ 13 → a ≠ 14 → v3 a = v a := fun a q0 q6 q7 q8 q9 q10 q15 q1 q2 q12 q13 q14 => (jo a q1 q2 q12 q13 q14).trans (g1 a q0 q6 q7 q8 q9 q10 q15)
      have j13 : v3 13 0 = v 13 0 + 1 := by rw [ev3, ms_o _ _ _ (by decide), i1 13 (by decide), ms_o _ _ _ (by decide), ms_o _ _ _ (by decide), ms_s]
      have j14 : v3 14 0 = 0 := by rw [ev3, ms_o _ _ _ (by decide), i1 14 (by decide), ms_o _ _ _ (by decide), ms_s]
      have j2 : ∀ t, t ≠ h + 1 → v3 2 t = v 2 t := fun t ht => by rw [ev3, ms_o _ _ _ (by decide), i1 2 (by decide), ms_n _ _ _ ht, ms_o _ _ _ (by decide), ms_o _ _ _ (by decide), g1 2 (by decide) (by decide) (by decide) (by decide) (by decide) (by decide) (by decide)]
      have j2' : v3 2 (h + 1) = 0 := by rw [ev3, ms_o _ _ _ (by decide), i1 2 (by decide), ms_s]
      have j1 : ∀ t, t ≠ h + 1 → v3 1 t = v 1 t := fun t ht => by rw [ev3, ms_n _ _ _ ht, i1 1 (by decide), ms_o _ _ _ (by decide), ms_o _ _ _ (by decide), ms_o _ _ _ (by decide), g1 1 (by decide) (by decide) (by decide) (by decide) (by decide) (by decide) (by decide)]
      have j1' : v3 1 (h + 1) = v2 12 1 := by rw [ev3, ms_s]
      have j0 : v3 0 = v1 0 := jo 0 (by decide) (by decide) (by decide) (by decide) (by decide)
      have k6 : v3 6 = v1 6 := jo 6 (by decide) (by decide) (by decide) (by decide) (by decide)
      have k7 : v3 7 = v1 7 := jo 7 (by decide) (by decide) (by decide) (by decide) (by decide)
      have k8 : v3 8 = v1 8 := jo 8 (by decide) (by decide) (by decide) (by decide) (by decide)
      have k9 : v3 9 = v1 9 := jo 9 (by decide) (by decide) (by decide) (by decide) (by decide)
      have k10 : v3 10 = v1 10 := jo 10 (by decide) (by decide) (by decide) (by decide) (by decide)
      have k15 : v3 15 = v1 15 := jo 15 (by decide) (by decide) (by decide) (by decide) (by decide)
      -- a new row is that of a leaf
      have hnew : ∀ k, N ≤ k → k < N + cntK f 32 → ∃ l, l < 32 ∧ f l = true ∧ k = N + cntK f l := fun k q1 q2 => by
        obtain ⟨l, z1, z2, z3⟩ := cntK_sur (f := f) (n := 32) (i := k - N) (by omega)
        exact ⟨l, z1, z2, by omega⟩
      have hlw : ∀ l, l < 32 → f l = true → lastK (wl v (nI l)) w ≠ 0 := fun l hl q z => by
        rw [ef] at q
        simp only [decide_eq_true_eq] at q
        exact q (by unfold nowS pick; rw [if_pos z])
      refine ⟨i_eq.mpr (by rw [e18, ef2]), h + 1, N + cntK f 32, 0, ar, ?_, ?_, ⟨fun k hk => ?_, fun k k' q1 q2 => ?_⟩, ⟨fun t ht => ?_, ?_⟩, ⟨fun l hl => ⟨?_, ?_, fun q => absurd rfl q⟩, fun _ => by rw [d20]; exact l_0, fun q => absurd rfl q⟩, ?_⟩
      · rw [IS, er 17 (by decide), k15, d19, j13, j14, eo 16 (by decide) (by decide) (by decide) (by decide) (by decide) (by decide) (by decide) (by decide) (by decide) (by decide) (by decide) (by decide) (by decide) (by decide), eo 15 (by decide) (by decide) (by decide) (by decide) (by decide) (by decide) (by decide) (by decide) (by decide) (by decide) (by decide) (by decide) (by decide) (by decide), jv 16 (by decide) (by decide) (by decide) (by decide) (by decide) (by decide) (by decide) (by decide) (by decide) (by decide) (by decide) (by decide), jv 17 (by decide) (by decide) (by decide) (by decide) (by decide) (by decide) (by decide) (by decide) (by decide) (by decide) (by decide) (by decide)]
        exact ⟨⟨e18, ef2, by omega⟩, ⟨a17, g15, by omega⟩, ⟨l_0, l_0, by omega⟩, hs4, hs5, hs6⟩
      · exact IL_cg hL (eo _ (by decide) (by decide) (by decide) (by decide) (by decide) (by decide) (by decide) (by decide) (by decide) (by decide) (by decide) (by decide) (by decide) (by decide)) (jv _ (by decide) (by decide) (by decide) (by decide) (by decide) (by decide) (by decide) (by decide) (by decide) (by decide) (by decide) (by decide))
      · rw [er 3 (by decide), er 4 (by decide), er 5 (by decide), er 6 (by decide), er 7 (by decide), k6, k7, k8, k9, k10]
        by_cases hkN : k < N
        · obtain ⟨p0, p1, p2, p3⟩ := hr k hkN
          obtain ⟨s3, s4, s5, s6, s7⟩ := a2 k hkN
          obtain ⟨t6, t7, t8, t9, t10⟩ := g2 k hkN
          rw [s3, s4, s5, s6, s7, t6, t7, t8, t9, t10]
          exact ⟨p0, ⟨p1.1, by omega⟩, p2, p3⟩
        · obtain ⟨l, hl, hfl, ek⟩ := hnew k (by omega) hk
          obtain ⟨s3, s4, s5, s6, s7⟩ := a3 l hl hfl
          obtain ⟨t6, t7, t8, t9, t10⟩ := g3 l hl hfl
          rw [ek]
          refine ⟨⟨i_eq.mpr (by rw [s3, t7]), i_eq.mpr (by rw [s4, t6]), by rw [s5, t8]; exact (hB l hl).2.1, by rw [s6, t9]; exact (hB l hl).2.2 (hlw l hl hfl), by rw [s7, t10]; decide⟩, ⟨by omega, by omega⟩, ⟨by omega, by omega⟩, by rw [t10]; exact ⟨by decide, by rw [l_0]; omega⟩⟩
      · rw [k7]
        by_cases hkN : k' < N
        · rw [(g2 k (by omega)).2.1, (g2 k' hkN).2.1]; exact hs k k' q1 hkN
        · obtain ⟨l', hl', hfl', ek'⟩ := hnew k' (by omega) q2
          rw [ek', (g3 l' hl' hfl').2.1]
          by_cases hkN2 : k < N
          · rw [(g2 k hkN2).2.1]; have := (hr k hkN2).2.1; omega
          · obtain ⟨l, hl, hfl, ek⟩ := hnew k (by omega) (by omega)
            rw [ek, (g3 l hl hfl).2.1]; omega
      · by_cases htn : t = h + 1
        · rw [htn, et.1, et.2, c9', c10', j1', j2']
          refine ⟨?_, by decide, by decide, Or.inl (by rw [l_0]; omega)⟩
          refine isTree_eq b2 i2 (fun l hl => ?_) 63 1 (by omega) (by omega) (by omega)
          show u1 12 l = g_ms (g_ms (g_ms v1 13 0 (v 13 0 + 1)) 14 0 0) 2 (h + 1) 0 0 (32 * (h + 1) + l)
          rw [ms_o _ _ _ (by decide), ms_o _ _ _ (by decide), ms_o _ _ _ (by decide), gs2 l hl, e32]
          exact (hB l hl).2.1
        · rw [(eo9 t (by omega)).1, (eo9 t (by omega)).2, j1 t htn, j2 t htn]
          exact hT t (by omega)
      · rw [j2']; exact l_0
      · rw [(d2 l hl).1, e12, j0, gs2 l hl]; exact (hB l hl).2.1
      · rw [(d2 l hl).2, nowS_0, e12, j0, gs2 l hl]; exact (hB l hl).2.1
      · intro j hj t ht hk l hl
        rw [j0, k8]
        have hold : ∀ k, k < N → ∀ t', gR v3 j t' l k = (kpB j (v 10 k) && decide ((v 7 k).toInt ≤ (t' : Int) ∧ (v 6 k).toInt = (l : Int))) := fun k hkN t' => by
          simp only [gR, k6, k7, k10, (g2 k hkN).1, (g2 k hkN).2.1, (g2 k hkN).2.2.2.2]
        by_cases htn : t = h + 1
        · rw [htn, gs2 l hl]
          by_cases hfl : f l = true
          · obtain ⟨t6, t7, t8, t9, t10⟩ := g3 l hl hfl
            have hlt : cntK f l < cntK f 32 := cntK_lt hl hfl
            rw [lastK_of (f := gR v3 j (h + 1) l) (m := N + cntK f l) (by omega) ?_ (fun i q1 q2 => ?_)]
            · simp only [pick]; simp; exact t8.symm
            · simp only [gR, k6, k7, k10, t6, t7, t10, Bool.and_eq_true, decide_eq_true_eq]
              exact ⟨by simp only [kpB, decide_eq_true_eq]; exact Or.inl l_0, Int.le_refl _, trivial⟩
            · obtain ⟨l', hl', hfl', ek'⟩ := hnew i (by omega) q2
              have hne : l' ≠ l := fun z => by rw [z] at ek'; omega
              have t6' := (g3 l' hl' hfl').1
              simp only [gR, k6, Bool.and_eq_false_iff, decide_eq_false_iff_not]
              exact Or.inr (by rw [ek', t6']; omega)
          · have hnow : nowS v h w l = v 0 (32 * h + l) := by
              rw [ef] at hfl
              simp only [decide_eq_true_eq] at hfl
              exact Classical.not_not.mp hfl
            rw [hnow, hG j hj h (Nat.le_refl h) (by simp only [kpB, decide_eq_true_eq]; exact Or.inl hTh) l hl]
            rw [lastK_stop (f := gR v3 j (h + 1) l) (show N ≤ N + cntK f 32 by omega) (fun k q1 q2 => ?_)]
            · rw [lastK_cg (f := gR v3 j (h + 1) l) (g := gR v j h l) N (fun k hkN => ?_)]
              · exact pick_cg (lastK_le _ N) (fun k hkN => ((g2 k hkN).2.2.1).symm)
              · rw [hold k hkN (h + 1)]
                have := (hr k hkN).2.1
                simp only [gR]
                congr 1
                simp only [decide_eq_decide]
                omega
            · obtain ⟨l', hl', hfl', ek'⟩ := hnew k (by omega) q2
              have hne : l' ≠ l := fun z => hfl (by rw [← z]; exact hfl')
              have t6' := (g3 l' hl' hfl').1
              simp only [gR, k6, Bool.and_eq_false_iff, decide_eq_false_iff_not]
              exact Or.inr (by rw [ek', t6']; omega)
        · rw [gs1 _ (by omega), j2 t htn] at *
          rw [hG j hj t (by omega) hk l hl]
          rw [lastK_stop (f := gR v3 j t l) (show N ≤ N + cntK f 32 by omega) (fun k q1 q2 => ?_)]
          · rw [lastK_cg (f := gR v3 j t l) (g := gR v j t l) N (fun k hkN => by rw [hold k hkN t]; rfl)]
            exact pick_cg (lastK_le _ N) (fun k hkN => ((g2 k hkN).2.2.1).symm)
          · obtain ⟨l', hl', hfl', ek'⟩ := hnew k (by omega) q2
            have t7' := (g3 l' hl' hfl').2.1
            simp only [gR, k7, Bool.and_eq_false_iff, decide_eq_false_iff_not]
            exact Or.inr (by rw [ek', t7']; omega)
    · have ha : acc.toInt = ((cntK f 32 : Nat) : Int) := by rw [ef]; exact ha
      rw [i_add (by omega) (by omega), l_400]
      omega
  · rw [hcx] at hr0
    have c2 := mt i_le.mpr c2
    rw [i_add (by omega) (by omega), l_400] at c2
    omega
