theorem q_write {x l y : Int32} {u v : Mem} (hI : Inv u v) : w_X4_write x l y u (fun r u' => w_X5_write x l y v (fun r' v' => r = r' ∧ Inv u' v')) := by
  obtain ⟨h, N, w, ar, hV⟩ := id hI
  obtain ⟨⟨hs1, hs2, ⟨w1, w2, w3⟩, hs4, hs5, hs6⟩, hL, hR, hT, ⟨hB, hB0, hB1⟩, hG⟩ := id hV
  by_cases hl : 0 ≤ l.toInt ∧ l.toInt < 32
  · obtain ⟨g, hg⟩ : ∃ g : Nat, l.toInt = (g : Int) := ⟨l.toInt.toNat, by omega⟩
    have yO : ¬ (0 ≤ x.toInt ∧ x.toInt ≤ 999) → w_X5_write x l y v (fun r' v' => -102 = r' ∧ Inv u v') := fun q => n_isLeaf_t hl.1 hl.2 (And.intro (fun c => absurd c b01) (fun _ => n_in_f (by rw [l_0, l_999]; exact q) (And.intro (fun _ => ⟨rfl, hI⟩) (fun c => absurd rfl c))))
    refine m_isLeaf_t hl.1 hl.2 (And.intro (fun c => absurd c b01) (fun _ => And.intro (fun c => yO (by have := i_lt.mp c; rw [l_0] at this; omega)) (fun c => And.intro (fun c2 => ?_) (fun c2 => yO (by have := mt i_le.mpr c2; rw [l_999] at this; omega)))))
    have hx : 0 ≤ x.toInt ∧ x.toInt ≤ 999 := ⟨by have := mt i_lt.mpr c; rw [l_0] at this; omega, by have := i_le.mp c2; rw [l_999] at this; omega⟩
    -- what the reference does behind its first two tests
    have yy : ∀ (r : Int32) (u' : Mem), (¬ (u 20 0) ≤ x → r = -103 ∧ Inv u' v) → ((u 20 0) ≤ x → w = 60 → r = -105 ∧ Inv u' v) → ((u 20 0) ≤ x → w < 60 → ∀ v' : Mem, (∀ a, a ≠ 3 → a ≠ 4 → a ≠ 5 → a ≠ 14 → v' a = v a) → (v' 14 0).toInt = ((w + 1 : Nat) : Int) → (∀ k, k ≠ w → v' 3 k = v 3 k ∧ v' 4 k = v 4 k ∧ v' 5 k = v 5 k) → v' 3 w = x → v' 4 w = l → v' 5 w = y → r = v' 14 0 ∧ Inv u' v') → w_X5_write x l y v (fun r' v' => r = r' ∧ Inv u' v') := fun r u' g1 g2 g3 => by
      have fin : (u 20 0) ≤ x → (((v 14 0) = 60 → (r = -105 ∧ Inv u' v)) ∧ (¬ (v 14 0) = 60 → (vp_in (v 14 0) 60 ∧ nm (g_ms v 3 ((v 14 0) : Int32).toNatClampNeg x) fun u9 => vp_in (u9 14 0) 60 ∧ nm (g_ms u9 4 ((u9 14 0) : Int32).toNatClampNeg l) fun u10 => vp_in (u10 14 0) 60 ∧ nm (g_ms u10 5 ((u10 14 0) : Int32).toNatClampNeg y) fun u11 => nm ((u11 14 0) + (1 : Int32) : Int32) fun x12 => nm (g_ms u11 14 0 x12) fun u13 => (r = (u13 14 0) ∧ Inv u' u13)))) := fun q => by
        refine And.intro (fun c => g2 q (by have := i_eq.mp c; rw [l_60] at this; omega)) (fun c => ?_)
        have hw : w < 60 := by have := mt i_eq.mpr c; rw [l_60] at this; omega
        refine And.intro (vin w2 hw) (nm_mk ?_)
        rw [tn w2]
        refine And.intro (vin (i := w) (by rw [ms_o _ _ _ (by decide)]; exact w2) hw) (nm_mk ?_)
        rw [show (g_ms v 3 w x) 14 = v 14 from ms_o _ _ _ (by decide), tn w2]
        refine And.intro (vin (i := w) (by rw [ms_o _ _ _ (by decide), ms_o _ _ _ (by decide)]; exact w2) hw) (nm_mk (nm_mk (nm_mk ?_)))
        rw [show (g_ms (g_ms v 3 w x) 4 w l) 14 = v 14 by rw [ms_o _ _ _ (by decide), ms_o _ _ _ (by decide)], tn w2]
        refine g3 q hw _ (fun a q3 q4 q5 q14 => by rw [ms_o _ _ _ q14, ms_o _ _ _ q5, ms_o _ _ _ q4, ms_o _ _ _ q3]) ?_ (fun k hk => ?_) ?_ ?_ ?_
        · rw [ms_s, ms_o _ _ _ (by decide), ms_o _ _ _ (by decide), ms_o _ _ _ (by decide)]; exact inc w2 (by omega)
        · simp [g_ms, va_up, upd, hk]
        all_goals simp [g_ms, va_up, upd]
      refine n_isLeaf_t hl.1 hl.2 (And.intro (fun c => absurd c b01) (fun _ => n_in_t (by rw [l_0]; omega) (by rw [l_999]; omega) (And.intro (fun c => absurd c b01) (fun _ => And.intro (fun c => ?_) (fun c => nm_mk ?_)))))
      · have hw0 : w = 0 := by have := i_le.mp c; rw [l_0] at this; omega
        exact fin (i_le.mpr (by rw [hB0 hw0]; omega))
      · have hw0 : w ≠ 0 := by have := mt i_le.mpr c; rw [l_0] at this; omega
        have e : (v 14 0 - 1).toInt = ((w - 1 : Nat) : Int) := (sub1 w2 (by omega) (by omega)).trans (by omega)
        refine And.intro (vin e (by omega)) (nm_mk ?_)
        rw [tn e, ← hB1 hw0]
        exact And.intro (fun q => fin q) (fun q => g1 q)
    refine And.intro (fun c3 => And.intro (fun c4 => ?_) (fun c4 => ?_)) (fun c3 => yy _ u (fun _ => ⟨rfl, hI⟩) (fun q => absurd q c3) (fun q => absurd q c3))
    · have hw : w < 60 := by have := i_lt.mp c4; rw [l_60] at this; omega
      refine And.intro (vin hg (by omega)) (nm_mk (And.intro (vin hg (by omega)) (nm_mk (nm_mk (nm_mk (nm_mk ?_))))))
      rw [tn hg]
      obtain ⟨u1, eu1⟩ : ∃ z : Mem, z = g_ms (g_ms (g_ms (g_ms u 12 g y) 13 g x) 20 0 x) 19 0 ((g_ms (g_ms (g_ms u 12 g y) 13 g x) 20 0 x) 19 0 + 1) := ⟨_, rfl⟩
      rw [← eu1]
      have b1 : ∀ a, a ≠ 12 → a ≠ 13 → a ≠ 20 → a ≠ 19 → u1 a = u a := fun a q12 q13 q20 q19 => by rw [eu1, ms_o _ _ _ q19, ms_o _ _ _ q20, ms_o _ _ _ q13, ms_o _ _ _ q12]
      have b19 : (u1 19 0).toInt = ((w + 1 : Nat) : Int) := by rw [eu1, ms_s, ms_o _ _ _ (by decide), ms_o _ _ _ (by decide), ms_o _ _ _ (by decide)]; exact inc w1 (by omega)
      have b20 : u1 20 0 = x := by rw [eu1, ms_o _ _ _ (by decide), ms_s]
      have b12 : ∀ k, u1 12 k = if k = g then y else u 12 k := fun k => by rw [eu1, ms_o _ _ _ (by decide), ms_o _ _ _ (by decide), ms_o _ _ _ (by decide), ms_i]
      have b13 : ∀ k, u1 13 k = if k = g then x else u 13 k := fun k => by rw [eu1, ms_o _ _ _ (by decide), ms_o _ _ _ (by decide), ms_i, ms_o _ _ _ (by decide)]
      refine yy _ u1 (fun q => absurd c3 q) (fun _ q => by omega) (fun _ _ v' d1 d14 dk d3 d4 d5 => ⟨i_eq.mpr (by rw [b19, d14]), h, N, w + 1, ar, ?_, ?_, ?_, ?_, ?_, ?_⟩)
      · rw [IS, b1 18 (by decide) (by decide) (by decide) (by decide), b1 17 (by decide) (by decide) (by decide) (by decide), b1 16 (by decide) (by decide) (by decide) (by decide), b1 15 (by decide) (by decide) (by decide) (by decide), d1 13 (by decide) (by decide) (by decide) (by decide), d1 15 (by decide) (by decide) (by decide) (by decide), d1 16 (by decide) (by decide) (by decide) (by decide), d1 17 (by decide) (by decide) (by decide) (by decide)]
        exact ⟨hs1, hs2, ⟨b19, d14, by omega⟩, hs4, hs5, hs6⟩
      · exact IL_cg hL (b1 _ (by decide) (by decide) (by decide) (by decide)) (d1 _ (by decide) (by decide) (by decide) (by decide))
      · exact IR_cg hR (b1 _ (by decide) (by decide) (by decide) (by decide)) (b1 _ (by decide) (by decide) (by decide) (by decide)) (b1 _ (by decide) (by decide) (by decide) (by decide)) (b1 _ (by decide) (by decide) (by decide) (by decide)) (b1 _ (by decide) (by decide) (by decide) (by decide)) (d1 _ (by decide) (by decide) (by decide) (by decide)) (d1 _ (by decide) (by decide) (by decide) (by decide)) (d1 _ (by decide) (by decide) (by decide) (by decide)) (d1 _ (by decide) (by decide) (by decide) (by decide)) (d1 _ (by decide) (by decide) (by decide) (by decide))
      · exact IT_cg hT (b1 _ (by decide) (by decide) (by decide) (by decide)) (b1 _ (by decide) (by decide) (by decide) (by decide)) (d1 _ (by decide) (by decide) (by decide) (by decide)) (d1 _ (by decide) (by decide) (by decide) (by decide))
      · have e0 : v' 0 = v 0 := d1 0 (by decide) (by decide) (by decide) (by decide)
        refine ⟨fun k hk => ?_, fun q => by omega, fun _ => by rw [b20]; exact d3.symm⟩
        have hl0 : lastK (wl v' (nI k)) w = lastK (wl v (nI k)) w := lastK_cg w (fun i hi => by simp only [wl, (dk i (by omega)).2.1])
        have hle := lastK_le (wl v (nI k)) w
        refine ⟨?_, ?_, ?_⟩
        · rw [b1 11 (by decide) (by decide) (by decide) (by decide), e0]; exact (hB k hk).1
        · rw [b12 k]
          by_cases q : k = g
          · have : wl v' (nI k) w = true := by simp only [wl, d4, decide_eq_true_eq]; rw [q]; exact i_nI hg (by omega)
            rw [if_pos q]
            simp only [nowS, lastK, this, if_true, pick]
            simp [d5]
          · have : wl v' (nI k) w = false := by
              simp only [wl, d4, decide_eq_false_iff_not]
              exact fun z => q (by have := i_eq.mp z; rw [hg, nI_toInt (by omega)] at this; omega)
            rw [if_neg q, (hB k hk).2.1]
            simp only [nowS, lastK, this, hl0]
            simp only [Bool.false_eq_true, if_false, e0]
            exact pick_cg hle (fun i hi => ((dk i (by omega)).2.2).symm)
        · rw [b13 k]
          by_cases q : k = g
          · have : wl v' (nI k) w = true := by simp only [wl, d4, decide_eq_true_eq]; rw [q]; exact i_nI hg (by omega)
            intro _
            rw [if_pos q]
            simp only [lastK, this, if_true]
            simp [d3]
          · have : wl v' (nI k) w = false := by
              simp only [wl, d4, decide_eq_false_iff_not]
              exact fun z => q (by have := i_eq.mp z; rw [hg, nI_toInt (by omega)] at this; omega)
            rw [if_neg q]
            simp only [lastK, this, hl0]
            simp only [Bool.false_eq_true, if_false]
            intro z
            rw [(hB k hk).2.2 z, (dk _ (by omega)).1]
      · exact IG_cg hG (d1 _ (by decide) (by decide) (by decide) (by decide)) (d1 _ (by decide) (by decide) (by decide) (by decide)) (d1 _ (by decide) (by decide) (by decide) (by decide)) (d1 _ (by decide) (by decide) (by decide) (by decide)) (d1 _ (by decide) (by decide) (by decide) (by decide)) (d1 _ (by decide) (by decide) (by decide) (by decide))
    · have hw : ¬ w < 60 := by have := mt i_lt.mpr c4; rw [l_60] at this; omega
      exact yy _ u (fun q => absurd c3 q) (fun _ _ => ⟨rfl, hI⟩) (fun _ q => absurd q hw)
  · exact m_isLeaf_f hl (And.intro (fun _ => n_isLeaf_f hl (And.intro (fun _ => ⟨rfl, hI⟩) (fun c => absurd rfl c))) (fun c => absurd rfl c))
