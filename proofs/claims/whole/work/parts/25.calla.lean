/-- the calls that change nothing -/
theorem b01 : ¬ (1 : Int32) = 0 := by decide
theorem q_now {x : Int32} {u v : Mem} (hI : Inv u v) : w_X4_now x u (fun r u' => w_X5_now x v (fun r' v' => r = r' ∧ Inv u' v')) := by
  obtain ⟨h, N, w, ar, hV⟩ := id hI
  obtain ⟨⟨⟨h1, h2, h3⟩, -, ⟨w1, w2, w3⟩, -⟩, -, -, -, ⟨hB, -⟩, -⟩ := hV
  by_cases hx : 0 ≤ x.toInt ∧ x.toInt < 32
  · obtain ⟨l, hl⟩ : ∃ l : Nat, x.toInt = (l : Int) := ⟨x.toInt.toNat, by omega⟩
    refine m_isLeaf_t hx.1 hx.2 (And.intro (fun c => absurd c b01) (fun _ => And.intro (vin hl (by omega)) (nm_mk (nm_mk ?_))))
    refine n_isLeaf_t hx.1 hx.2 (And.intro (fun c => absurd c b01) (fun _ => n_nowOf h2 h3 w2 w3 hl (by omega) (nm_mk ⟨?_, hI⟩)))
    rw [tn hl, (hB l (by omega)).2.1]
  · exact m_isLeaf_f hx (And.intro (fun _ => m_wide (n_isLeaf_f hx (And.intro (fun _ => ⟨by decide, hI⟩) (fun c => absurd rfl c)))) (fun c => absurd rfl c))
theorem q_digest {x : Int32} {u v : Mem} (hI : Inv u v) : w_X4_digest x u (fun r u' => w_X5_digest x v (fun r' v' => r = r' ∧ Inv u' v')) := by
  obtain ⟨h, N, w, ar, hV⟩ := id hI
  obtain ⟨⟨⟨h1, h2, h3⟩, -⟩, -, -, ⟨hT, -⟩, -⟩ := hV
  by_cases hx : 0 ≤ x.toInt ∧ x.toInt ≤ (h : Int)
  · obtain ⟨t, ht⟩ : ∃ l : Nat, x.toInt = (l : Int) := ⟨x.toInt.toNat, by omega⟩
    refine m_isHeight_t hx.1 (by omega) (And.intro (fun c => absurd c b01) (fun _ => And.intro (vin ht (by omega)) (nm_mk (nm_mk ?_))))
    refine n_isHeight_t hx.1 (by omega) (And.intro (fun c => absurd c b01) (fun _ => And.intro (vin ht (by omega)) (nm_mk (nm_mk ⟨?_, hI⟩))))
    rw [tn ht, (hT t (by omega)).1]
  · exact m_isHeight_f (by rw [h1]; exact hx) (And.intro (fun _ => m_wide (n_isHeight_f (by rw [h2]; exact hx) (And.intro (fun _ => ⟨by decide, hI⟩) (fun c => absurd rfl c)))) (fun c => absurd rfl c))
theorem q_pruned {x : Int32} {u v : Mem} (hI : Inv u v) : w_X4_pruned x u (fun r u' => w_X5_pruned x v (fun r' v' => r = r' ∧ Inv u' v')) := by
  obtain ⟨h, N, w, ar, hV⟩ := id hI
  obtain ⟨⟨⟨h1, h2, h3⟩, -⟩, -, -, ⟨hT, -⟩, -⟩ := hV
  by_cases hx : 0 ≤ x.toInt ∧ x.toInt ≤ (h : Int)
  · obtain ⟨t, ht⟩ : ∃ l : Nat, x.toInt = (l : Int) := ⟨x.toInt.toNat, by omega⟩
    obtain ⟨-, t2, t3, -⟩ := hT t (by omega)
    refine m_isHeight_t hx.1 (by omega) (And.intro (fun c => absurd c b01) (fun _ => m_isGone ht (by omega) (fun c1 => And.intro (fun _ => ?_) (fun c => absurd rfl c)) (fun c1 => And.intro (fun c => absurd c b01) (fun _ => ?_))))
    · have hz := (m1_iff t2).mp c1
      refine n_isHeight_t hx.1 (by omega) (And.intro (fun c => absurd c b01) (fun _ => And.intro (vin ht (by omega)) (nm_mk ?_)))
      rw [tn ht]
      exact And.intro (fun _ => ⟨rfl, hI⟩) (fun c => absurd (i_le.mpr (by rw [l_0]; omega)) c)
    · have hz : ¬ (v 2 t).toInt = 0 := fun q => c1 ((m1_iff t2).mpr q)
      refine n_isHeight_t hx.1 (by omega) (And.intro (fun c => absurd c b01) (fun _ => And.intro (vin ht (by omega)) (nm_mk ?_)))
      rw [tn ht]
      exact And.intro (fun c => absurd (i_le.mp c) (by rw [l_0]; omega)) (fun _ => ⟨rfl, hI⟩)
  · exact m_isHeight_f (by rw [h1]; exact hx) (And.intro (fun _ => n_isHeight_f (by rw [h2]; exact hx) (And.intro (fun _ => ⟨rfl, hI⟩) (fun c => absurd rfl c))) (fun c => absurd rfl c))
/-- the last kept row of a leaf at or below a height: the class's and the reference's are one -/
theorem iv_lf {u v : Mem} {h N w ar : Nat} (x z : Int32) (hI : IV u v h N w ar) : ∀ k, k < N → decide (v 7 k ≤ z ∧ v 6 k = x ∧ v 10 k = 0) = decide (u 3 k ≤ z ∧ u 4 k = x ∧ u 7 k = -1) := by
  obtain ⟨-, -, ⟨hr, -⟩, -⟩ := hI
  intro k hk
  obtain ⟨⟨a1, a2, a3, a4, a5⟩, -, -, -⟩ := hr k hk
  have q : u 7 k = -1 ↔ v 10 k = 0 := (m1_iff a5).trans z_iff.symm
  simp only [a1, a2, q]
theorem q_at {x z : Int32} {u v : Mem} (hI : Inv u v) : w_X4_at x z u (fun r u' => w_X5_at x z v (fun r' v' => r = r' ∧ Inv u' v')) := by
  obtain ⟨h, N, w, ar, hV⟩ := id hI
  have hld := fun t => iv_ld (t := t) (x := z) hV
  obtain ⟨⟨⟨h1, h2, h3⟩, ⟨n1, n2, n3⟩, -⟩, -, -, ⟨hT, -⟩, -⟩ := hV
  by_cases hx : 0 ≤ x.toInt ∧ x.toInt < 32
  · obtain ⟨l, hl⟩ : ∃ l : Nat, x.toInt = (l : Int) := ⟨x.toInt.toNat, by omega⟩
    refine m_isLeaf_t hx.1 hx.2 (And.intro (fun c => absurd c b01) (fun _ => ?_))
    by_cases hz : 0 ≤ z.toInt ∧ z.toInt ≤ (h : Int)
    · obtain ⟨t, ht⟩ : ∃ l : Nat, z.toInt = (l : Int) := ⟨z.toInt.toNat, by omega⟩
      obtain ⟨-, t2, t3, -⟩ := hT t (by omega)
      have e := s32 ht hl (by omega) (by omega)
      have yy : ∀ r : Int64, ((v 2 t).toInt = 0 → r = (v 0 (32 * t + l)).toInt64) → (¬ (v 2 t).toInt = 0 → r = -4000000104) → w_X5_at x z v (fun r' v' => r = r' ∧ Inv u v') := fun r g1 g2 => by
        refine n_isLeaf_t hx.1 hx.2 (And.intro (fun c => absurd c b01) (fun _ => n_isHeight_t hz.1 (by omega) (And.intro (fun c => absurd c b01) (fun _ => And.intro (vin ht (by omega)) (nm_mk ?_)))))
        rw [tn ht]
        refine And.intro (fun c => nm_mk (nm_mk (And.intro (vin e (by omega)) (nm_mk (nm_mk ⟨?_, hI⟩))))) (fun c => ⟨?_, hI⟩)
        · rw [tn e]; exact g1 (by have := i_le.mp c; rw [l_0] at this; omega)
        · exact g2 (by have := mt i_le.mpr c; rw [l_0] at this; omega)
      refine m_isHeight_t hz.1 (by omega) (And.intro (fun c => absurd c b01) (fun _ => m_isGone ht (by omega) (fun c1 => And.intro (fun _ => ?_) (fun c => absurd rfl c)) (fun c1 => And.intro (fun c => absurd c b01) (fun _ => ?_))))
      · have hv0 := hld t ht (by omega) c1 l (by omega)
        have hcg : ∀ k, k < N → ldf u z l k = decide (u 3 k ≤ z ∧ u 4 k = x ∧ u 7 k = -1) := fun k hk => by
          have a1 : u 4 k = x ↔ (u 4 k).toInt = (l : Int) := by rw [i_eq, hl]
          have a2 : u 3 k ≤ z ↔ (u 3 k).toInt ≤ z.toInt := i_le
          simp only [ldf, a1, a2]
          by_cases b1 : (u 3 k).toInt ≤ z.toInt <;> by_cases b2 : (u 4 k).toInt = (l : Int) <;> by_cases b3 : u 7 k = -1 <;> simp [b1, b2, b3]
        refine m_lastOf n1 n3 (ldf u z l) hcg (fun q => And.intro (fun _ => ?_) (fun c => absurd rfl c)) (fun y m q hy => ?_)
        · refine yy 0 (fun _ => ?_) (fun q2 => absurd ((m1_iff t2).mp c1) q2)
          rw [← hv0, q]; rfl
        · have hlt := (lastK_s q).1
          refine And.intro (fun c => absurd (i_eq.mp c) (by rw [l_m1]; omega)) (fun _ => And.intro (vin hy (by omega)) (nm_mk (nm_mk ?_)))
          rw [tn hy]
          refine yy _ (fun _ => ?_) (fun q2 => absurd ((m1_iff t2).mp c1) q2)
          rw [← hv0, q]; rfl
      · refine m_wide (yy _ (fun q => absurd ((m1_iff t2).mpr q) c1) (fun _ => by decide))
    · exact m_isHeight_f (by rw [h1]; exact hz) (And.intro (fun _ => m_wide (n_isLeaf_t hx.1 hx.2 (And.intro (fun c => absurd c b01) (fun _ => n_isHeight_f (by rw [h2]; exact hz) (And.intro (fun _ => ⟨by decide, hI⟩) (fun c => absurd rfl c)))))) (fun c => absurd rfl c))
  · exact m_isLeaf_f hx (And.intro (fun _ => m_wide (n_isLeaf_f hx (And.intro (fun _ => ⟨by decide, hI⟩) (fun c => absurd rfl c)))) (fun c => absurd rfl c))
theorem q_blame {x z a : Int32} {u v : Mem} (hI : Inv u v) : w_X4_blame x z a u (fun r u' => w_X5_blame x z a v (fun r' v' => r = r' ∧ Inv u' v')) := by
  obtain ⟨h, N, w, ar, hV⟩ := id hI
  have hlf := iv_lf x z hV
  obtain ⟨⟨⟨h1, h2, h3⟩, ⟨n1, n2, n3⟩, -⟩, -, ⟨hr, -⟩, ⟨hT, -⟩, -⟩ := hV
  by_cases hx : 0 ≤ x.toInt ∧ x.toInt < 32
  · refine m_isLeaf_t hx.1 hx.2 (And.intro (fun c => absurd c b01) (fun _ => ?_))
    by_cases hz : 0 ≤ z.toInt ∧ z.toInt ≤ (h : Int)
    · obtain ⟨t, ht⟩ : ∃ l : Nat, z.toInt = (l : Int) := ⟨z.toInt.toNat, by omega⟩
      obtain ⟨-, t2, t3, -⟩ := hT t (by omega)
      have yy : ∀ r : Int32, (¬ (0 ≤ a.toInt ∧ a.toInt ≤ 1) → r = -102) → ((0 ≤ a.toInt ∧ a.toInt ≤ 1) → ¬ (v 2 t).toInt = 0 → r = -104) → ((0 ≤ a.toInt ∧ a.toInt ≤ 1) → (v 2 t).toInt = 0 → r = pick (if a = 0 then v 9 else v 7) (-1) (lastK (fun k => decide (v 7 k ≤ z ∧ v 6 k = x ∧ v 10 k = 0)) N)) → w_X5_blame x z a v (fun r' v' => r = r' ∧ Inv u v') := fun r g0 g1 g2 => by
        refine n_isLeaf_t hx.1 hx.2 (And.intro (fun c => absurd c b01) (fun _ => n_isHeight_t hz.1 (by omega) (And.intro (fun c => absurd c b01) (fun _ => ?_))))
        by_cases ha : 0 ≤ a.toInt ∧ a.toInt ≤ 1
        · refine n_in_t (by rw [l_0]; omega) (by rw [l_1]; omega) (And.intro (fun c => absurd c b01) (fun _ => And.intro (vin ht (by omega)) (nm_mk ?_)))
          rw [tn ht]
          refine And.intro (fun c => ⟨N + 1, ?_⟩) (fun c => ⟨g1 ha (by have := mt i_le.mpr c; rw [l_0] at this; omega), hI⟩)
          have c := i_le.mp c
          rw [l_0] at c
          exact lp_blameY x z a _ _ v N n2 n3 (fun k => decide (v 7 k ≤ z ∧ v 6 k = x ∧ v 10 k = 0)) (fun _ _ => rfl) (fun y => ⟨g2 ha (by omega), hI⟩) N 0 0 (by omega) l_0
        · exact n_in_f (by rw [l_0, l_1]; exact ha) (And.intro (fun _ => ⟨g0 ha, hI⟩) (fun c => absurd rfl c))
      refine m_isHeight_t hz.1 (by omega) (And.intro (fun c => absurd c b01) (fun _ => And.intro (fun ca => yy _ (fun _ => rfl) (fun q => absurd (i_lt.mp ca) (by rw [l_0]; omega)) (fun q => absurd (i_lt.mp ca) (by rw [l_0]; omega))) (fun ca => And.intro (fun cb => ?_) (fun cb => yy _ (fun _ => rfl) (fun q => absurd (i_le.mpr (by rw [l_1]; omega)) cb) (fun q => absurd (i_le.mpr (by rw [l_1]; omega)) cb)))))
      have ha : 0 ≤ a.toInt ∧ a.toInt ≤ 1 := ⟨by have := mt i_lt.mpr ca; rw [l_0] at this; omega, by have := i_le.mp cb; rw [l_1] at this; omega⟩
      refine m_isGone ht (by omega) (fun c1 => And.intro (fun _ => ?_) (fun c => absurd rfl c)) (fun c1 => And.intro (fun c => absurd c b01) (fun _ => yy _ (fun q => absurd ha q) (fun _ _ => rfl) (fun _ q => absurd ((m1_iff t2).mpr q) c1)))
      refine m_lastOf n1 n3 (fun k => decide (v 7 k ≤ z ∧ v 6 k = x ∧ v 10 k = 0)) hlf (fun q => And.intro (fun _ => yy _ (fun q => absurd ha q) (fun _ q => absurd ((m1_iff t2).mp c1) q) (fun _ _ => by rw [q]; rfl)) (fun c => absurd rfl c)) (fun y m q hy => ?_)
      have hlt := (lastK_s q).1
      obtain ⟨⟨a1, a2, a3, a4, a5⟩, -⟩ := hr m hlt
      refine And.intro (fun c => absurd (i_eq.mp c) (by rw [l_m1]; omega)) (fun _ => And.intro (fun c2 => And.intro (vin hy (by omega)) (nm_mk ?_)) (fun c2 => And.intro (vin hy (by omega)) (nm_mk ?_)))
      · rw [tn hy]
        refine yy _ (fun q => absurd ha q) (fun _ q => absurd ((m1_iff t2).mp c1) q) (fun _ _ => ?_)
        rw [q, if_pos c2, a4]; rfl
      · rw [tn hy]
        refine yy _ (fun q => absurd ha q) (fun _ q => absurd ((m1_iff t2).mp c1) q) (fun _ _ => ?_)
        rw [q, if_neg c2, a1]; rfl
    · exact m_isHeight_f (by rw [h1]; exact hz) (And.intro (fun _ => n_isLeaf_t hx.1 hx.2 (And.intro (fun c => absurd c b01) (fun _ => n_isHeight_f (by rw [h2]; exact hz) (And.intro (fun _ => ⟨rfl, hI⟩) (fun c => absurd rfl c))))) (fun c => absurd rfl c))
  · exact m_isLeaf_f hx (And.intro (fun _ => n_isLeaf_f hx (And.intro (fun _ => ⟨rfl, hI⟩) (fun c => absurd rfl c))) (fun c => absurd rfl c))
