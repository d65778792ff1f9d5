theorem m_ref2 {a b : Int32} {h : Nat} {u : Mem} {post : Int32 → Mem → Prop} (h1 : (u 18 0).toInt = (h : Int)) (hh : h ≤ 200) (kU : ¬ ((0 ≤ a.toInt ∧ a.toInt ≤ (h : Int)) ∧ (0 ≤ b.toInt ∧ b.toInt ≤ (h : Int))) → post (-101) u) (kP : ∀ ta tb : Nat, a.toInt = (ta : Int) → b.toInt = (tb : Int) → ta ≤ h → tb ≤ h → ¬ (u 10 ta = -1 ∧ u 10 tb = -1) → post (-104) u) (k0 : ∀ ta tb : Nat, a.toInt = (ta : Int) → b.toInt = (tb : Int) → ta ≤ h → tb ≤ h → u 10 ta = -1 → u 10 tb = -1 → post 0 u) : w_X4_refusalOfTwo a b u post := by
  by_cases ha : 0 ≤ a.toInt ∧ a.toInt ≤ (h : Int)
  · refine m_isHeight_t ha.1 (by omega) (And.intro (fun c => absurd c b01) (fun _ => ?_))
    by_cases hb : 0 ≤ b.toInt ∧ b.toInt ≤ (h : Int)
    · obtain ⟨ta, ea⟩ : ∃ l : Nat, a.toInt = (l : Int) := ⟨a.toInt.toNat, by omega⟩
      obtain ⟨tb, eb⟩ : ∃ l : Nat, b.toInt = (l : Int) := ⟨b.toInt.toNat, by omega⟩
      refine m_isHeight_t hb.1 (by omega) (And.intro (fun c => absurd c b01) (fun _ => m_isGone ea (by omega) (fun c1 => And.intro (fun _ => m_isGone eb (by omega) (fun c2 => And.intro (fun _ => k0 ta tb ea eb (by omega) (by omega) c1 c2) (fun c => absurd rfl c)) (fun c2 => And.intro (fun c => absurd c b01) (fun _ => kP ta tb ea eb (by omega) (by omega) (fun q => c2 q.2)))) (fun c => absurd rfl c)) (fun c1 => And.intro (fun c => absurd c b01) (fun _ => kP ta tb ea eb (by omega) (by omega) (fun q => c1 q.1)))))
    · exact m_isHeight_f (by rw [h1]; exact hb) (And.intro (fun _ => kU (fun q => hb q.2)) (fun c => absurd rfl c))
  · exact m_isHeight_f (by rw [h1]; exact ha) (And.intro (fun _ => kU (fun q => ha q.1)) (fun c => absurd rfl c))
theorem n_bars {a b : Int32} {h : Nat} {v : Mem} {post : Int32 → Mem → Prop} (h1 : (v 13 0).toInt = (h : Int)) (hh : h ≤ 200) (hp : ∀ t, t ≤ h → 0 ≤ (v 2 t).toInt) (kU : ¬ ((0 ≤ a.toInt ∧ a.toInt ≤ (h : Int)) ∧ (0 ≤ b.toInt ∧ b.toInt ≤ (h : Int))) → post (-101) v) (kP : ∀ ta tb : Nat, a.toInt = (ta : Int) → b.toInt = (tb : Int) → ta ≤ h → tb ≤ h → ¬ ((v 2 ta).toInt = 0 ∧ (v 2 tb).toInt = 0) → post (-104) v) (k0 : ∀ ta tb : Nat, a.toInt = (ta : Int) → b.toInt = (tb : Int) → ta ≤ h → tb ≤ h → (v 2 ta).toInt = 0 → (v 2 tb).toInt = 0 → post 0 v) : w_X5_bars a b v post := by
  by_cases ha : 0 ≤ a.toInt ∧ a.toInt ≤ (h : Int)
  · refine n_isHeight_t ha.1 (by omega) (And.intro (fun c => absurd c b01) (fun _ => ?_))
    by_cases hb : 0 ≤ b.toInt ∧ b.toInt ≤ (h : Int)
    · obtain ⟨ta, ea⟩ : ∃ l : Nat, a.toInt = (l : Int) := ⟨a.toInt.toNat, by omega⟩
      obtain ⟨tb, eb⟩ : ∃ l : Nat, b.toInt = (l : Int) := ⟨b.toInt.toNat, by omega⟩
      have pa := hp ta (by omega)
      have pb := hp tb (by omega)
      refine n_isHeight_t hb.1 (by omega) (And.intro (fun c => absurd c b01) (fun _ => And.intro (vin ea (by omega)) (nm_mk ?_)))
      rw [tn ea]
      refine And.intro (fun c => kP ta tb ea eb (by omega) (by omega) (by have := i_lt.mp c; rw [l_0] at this; omega)) (fun c => And.intro (vin eb (by omega)) (nm_mk ?_))
      rw [tn eb]
      have c := mt i_lt.mpr c
      rw [l_0] at c
      exact And.intro (fun c2 => k0 ta tb ea eb (by omega) (by omega) (by omega) (by have := i_le.mp c2; rw [l_0] at this; omega)) (fun c2 => kP ta tb ea eb (by omega) (by omega) (by have := mt i_le.mpr c2; rw [l_0] at this; omega))
    · exact n_isHeight_f (by rw [h1]; exact hb) (And.intro (fun _ => kU (fun q => hb q.2)) (fun c => absurd rfl c))
  · exact n_isHeight_f (by rw [h1]; exact ha) (And.intro (fun _ => kU (fun q => ha q.1)) (fun c => absurd rfl c))
theorem m_refR {a b : Int32} {h : Nat} {u : Mem} {post : Int32 → Mem → Prop} (h1 : (u 18 0).toInt = (h : Int)) (hh : h ≤ 200) (kU : ¬ ((0 ≤ a.toInt ∧ a.toInt ≤ (h : Int)) ∧ (0 ≤ b.toInt ∧ b.toInt ≤ (h : Int))) → post (-101) u) (kO : ((0 ≤ a.toInt ∧ a.toInt ≤ (h : Int)) ∧ (0 ≤ b.toInt ∧ b.toInt ≤ (h : Int))) → b.toInt < a.toInt → post (-102) u) (kP : ∀ ta tb : Nat, a.toInt = (ta : Int) → b.toInt = (tb : Int) → ta ≤ h → tb ≤ h → ta ≤ tb → ¬ (u 10 ta = -1 ∧ u 10 tb = -1) → post (-104) u) (k0 : ∀ ta tb : Nat, a.toInt = (ta : Int) → b.toInt = (tb : Int) → ta ≤ h → tb ≤ h → ta ≤ tb → u 10 ta = -1 → u 10 tb = -1 → post 0 u) : w_X4_refusalOfReplay a b u post := by
  by_cases hab : (0 ≤ a.toInt ∧ a.toInt ≤ (h : Int)) ∧ (0 ≤ b.toInt ∧ b.toInt ≤ (h : Int))
  · refine m_isHeight_t hab.1.1 (by omega) (And.intro (fun c => absurd c b01) (fun _ => m_isHeight_t hab.2.1 (by omega) (And.intro (fun c => absurd c b01) (fun _ => And.intro (fun c => ?_) (fun c => kO hab (by have := mt i_le.mpr c; omega))))))
    have c := i_le.mp c
    exact m_ref2 h1 hh (fun q => absurd hab q) (fun ta tb ea eb q1 q2 q3 => kP ta tb ea eb q1 q2 (by omega) q3) (fun ta tb ea eb q1 q2 q3 q4 => k0 ta tb ea eb q1 q2 (by omega) q3 q4)
  · have r : w_X4_refusalOfTwo a b u post := m_ref2 h1 hh kU (fun ta tb ea eb q1 q2 _ => absurd ⟨⟨by omega, by omega⟩, ⟨by omega, by omega⟩⟩ hab) (fun ta tb ea eb q1 q2 _ _ => absurd ⟨⟨by omega, by omega⟩, ⟨by omega, by omega⟩⟩ hab)
    by_cases ha : 0 ≤ a.toInt ∧ a.toInt ≤ (h : Int)
    · exact m_isHeight_t ha.1 (by omega) (And.intro (fun c => absurd c b01) (fun _ => m_isHeight_f (by rw [h1]; exact fun q => hab ⟨ha, q⟩) (And.intro (fun _ => r) (fun c => absurd rfl c))))
    · exact m_isHeight_f (by rw [h1]; exact ha) (And.intro (fun _ => r) (fun c => absurd rfl c))
theorem n_barsR {a b : Int32} {h : Nat} {v : Mem} {post : Int32 → Mem → Prop} (h1 : (v 13 0).toInt = (h : Int)) (hh : h ≤ 200) (hp : ∀ t, t ≤ h → 0 ≤ (v 2 t).toInt) (kU : ¬ ((0 ≤ a.toInt ∧ a.toInt ≤ (h : Int)) ∧ (0 ≤ b.toInt ∧ b.toInt ≤ (h : Int))) → post (-101) v) (kO : ((0 ≤ a.toInt ∧ a.toInt ≤ (h : Int)) ∧ (0 ≤ b.toInt ∧ b.toInt ≤ (h : Int))) → b.toInt < a.toInt → post (-102) v) (kP : ∀ ta tb : Nat, a.toInt = (ta : Int) → b.toInt = (tb : Int) → ta ≤ h → tb ≤ h → ta ≤ tb → ¬ ((v 2 ta).toInt = 0 ∧ (v 2 tb).toInt = 0) → post (-104) v) (k0 : ∀ ta tb : Nat, a.toInt = (ta : Int) → b.toInt = (tb : Int) → ta ≤ h → tb ≤ h → ta ≤ tb → (v 2 ta).toInt = 0 → (v 2 tb).toInt = 0 → post 0 v) : w_X5_barsReplay a b v post := by
  by_cases ha : 0 ≤ a.toInt ∧ a.toInt ≤ (h : Int)
  · refine n_isHeight_t ha.1 (by omega) (And.intro (fun c => absurd c b01) (fun _ => ?_))
    by_cases hb : 0 ≤ b.toInt ∧ b.toInt ≤ (h : Int)
    · refine n_isHeight_t hb.1 (by omega) (And.intro (fun c => absurd c b01) (fun _ => And.intro (fun c => ?_) (fun c => kO ⟨ha, hb⟩ (by have := mt i_le.mpr c; omega))))
      have c := i_le.mp c
      exact n_bars h1 hh hp (fun q => absurd ⟨ha, hb⟩ q) (fun ta tb ea eb q1 q2 q3 => kP ta tb ea eb q1 q2 (by omega) q3) (fun ta tb ea eb q1 q2 q3 q4 => k0 ta tb ea eb q1 q2 (by omega) q3 q4)
    · exact n_isHeight_f (by rw [h1]; exact hb) (And.intro (fun _ => kU (fun q => hb q.2)) (fun c => absurd rfl c))
  · exact n_isHeight_f (by rw [h1]; exact ha) (And.intro (fun _ => kU (fun q => ha q.1)) (fun c => absurd rfl c))
theorem iv_loadTwo {u v : Mem} {h N w ar ta tb : Nat} {a b : Int32} {post : Mem → Prop} (hV : IV u v h N w ar) (ea : a.toInt = (ta : Int)) (eb : b.toInt = (tb : Int)) (qa : ta ≤ h) (qb : tb ≤ h) (ka : u 10 ta = -1) (kb : u 10 tb = -1) (k : ∀ u', (∀ c, c ≠ 1 → c ≠ 2 → u' c = u c) → (∀ l, l < 32 → u' 1 l = v 0 (32 * ta + l)) → (∀ l, l < 32 → u' 2 l = v 0 (32 * tb + l)) → post u') : w_X4_loadTwo a b u post := by
  refine iv_load hV ⟨by decide, by decide, by decide, by decide, by decide⟩ ea qa ka (fun u1 a1 a2 => ?_)
  have hV1 : IV u1 v h N w ar := iv_scr hV (fun c c1 _ _ _ => a1 c c1) (fun _ _ => rfl)
  refine iv_load hV1 ⟨by decide, by decide, by decide, by decide, by decide⟩ eb qb (by rw [a1 10 (by decide)]; exact kb) (fun u2 b1 b2 => k u2 (fun c c1 c2 => (b1 c c2).trans (a1 c c1)) (fun l hl => ?_) b2)
  rw [b1 1 (by decide)]; exact a2 l hl
theorem q_differs {a b : Int32} {u v : Mem} (hI : Inv u v) : w_X4_differs a b u (fun r u' => w_X5_differs a b v (fun r' v' => r = r' ∧ Inv u' v')) := by
  obtain ⟨h, N, w, ar, hV⟩ := id hI
  obtain ⟨⟨⟨h1, h2, h3⟩, -⟩, -, -, ⟨hT, -⟩, -⟩ := id hV
  have hp : ∀ t, t ≤ h → 0 ≤ (v 2 t).toInt := fun t q => (hT t q).2.2.1
  have hm : ∀ t, t ≤ h → (u 10 t = -1 ↔ (v 2 t).toInt = 0) := fun t q => m1_iff (hT t q).2.1
  refine m_ref2 h1 h3 (fun q => ?_) (fun ta tb ea eb qa qb q => ?_) (fun ta tb ea eb qa qb ka kb => ?_)
  · refine And.intro (fun c => absurd c (by decide)) (fun _ => n_bars h2 h3 hp (fun _ => And.intro (fun c => absurd c (by decide)) (fun _ => ⟨rfl, hI⟩)) (fun ta tb ea eb q1 q2 _ => absurd ⟨⟨by omega, by omega⟩, ⟨by omega, by omega⟩⟩ q) (fun ta tb ea eb q1 q2 _ _ => absurd ⟨⟨by omega, by omega⟩, ⟨by omega, by omega⟩⟩ q))
  · refine And.intro (fun c => absurd c (by decide)) (fun _ => n_bars h2 h3 hp (fun z => absurd ⟨⟨by omega, by omega⟩, ⟨by omega, by omega⟩⟩ z) (fun _ _ _ _ _ _ _ => And.intro (fun c => absurd c (by decide)) (fun _ => ⟨rfl, hI⟩)) (fun ta' tb' ea' eb' q1 q2 z1 z2 => absurd ?_ q))
    have e1 : ta' = ta := by omega
    have e2 : tb' = tb := by omega
    rw [hm ta qa, hm tb qb, ← e1, ← e2]; exact ⟨z1, z2⟩
  · refine And.intro (fun _ => iv_loadTwo hV ea eb qa qb ka kb (fun u' a1 a2 a3 => ?_)) (fun c => absurd rfl c)
    have hI' : Inv u' v := ⟨h, N, w, ar, iv_scr hV (fun c c1 c2 _ _ => a1 c c1 c2) (fun _ _ => rfl)⟩
    refine ⟨33, lp_differsX a b 0 _ _ u' (fun acc y hacc => ?_) 32 0 0 0 (by omega) l_0 l_0⟩
    refine n_bars h2 h3 hp (fun z => absurd ⟨⟨by omega, by omega⟩, ⟨by omega, by omega⟩⟩ z) (fun ta' tb' ea' eb' q1 q2 z => absurd ?_ z) (fun ta' tb' ea' eb' q1 q2 _ _ => And.intro (fun _ => ⟨33, lp_differsY a b 0 ta' tb' ea' eb' (by omega) (by omega) _ _ v (fun acc' y' hacc' => ⟨i_eq.mpr ?_, hI'⟩) 32 0 0 0 (by omega) l_0 l_0⟩) (fun c => absurd (i_le.mpr (by decide)) c))
    · have e1 : ta' = ta := by omega
      have e2 : tb' = tb := by omega
      rw [e1, e2]; exact ⟨(hm ta qa).mp ka, (hm tb qb).mp kb⟩
    · have e1 : ta' = ta := by omega
      have e2 : tb' = tb := by omega
      rw [hacc, hacc', e1, e2]
      congr 1
      exact cntK_cg 32 (fun l hl => by rw [a2 l hl, a3 l hl])
theorem q_difference {a b n : Int32} {u v : Mem} (hI : Inv u v) : w_X4_difference a b n u (fun r u' => w_X5_difference a b n v (fun r' v' => r = r' ∧ Inv u' v')) := by
  obtain ⟨h, N, w, ar, hV⟩ := id hI
  obtain ⟨⟨⟨h1, h2, h3⟩, -⟩, -, -, ⟨hT, -⟩, -⟩ := id hV
  have hp : ∀ t, t ≤ h → 0 ≤ (v 2 t).toInt := fun t q => (hT t q).2.2.1
  have hm : ∀ t, t ≤ h → (u 10 t = -1 ↔ (v 2 t).toInt = 0) := fun t q => m1_iff (hT t q).2.1
  refine m_ref2 h1 h3 (fun q => ?_) (fun ta tb ea eb qa qb q => ?_) (fun ta tb ea eb qa qb ka kb => ?_)
  · refine And.intro (fun c => absurd c (by decide)) (fun _ => n_bars h2 h3 hp (fun _ => And.intro (fun c => absurd c (by decide)) (fun _ => ⟨rfl, hI⟩)) (fun ta tb ea eb q1 q2 _ => absurd ⟨⟨by omega, by omega⟩, ⟨by omega, by omega⟩⟩ q) (fun ta tb ea eb q1 q2 _ _ => absurd ⟨⟨by omega, by omega⟩, ⟨by omega, by omega⟩⟩ q))
  · refine And.intro (fun c => absurd c (by decide)) (fun _ => n_bars h2 h3 hp (fun z => absurd ⟨⟨by omega, by omega⟩, ⟨by omega, by omega⟩⟩ z) (fun _ _ _ _ _ _ _ => And.intro (fun c => absurd c (by decide)) (fun _ => ⟨rfl, hI⟩)) (fun ta' tb' ea' eb' q1 q2 z1 z2 => absurd ?_ q))
    have e1 : ta' = ta := by omega
    have e2 : tb' = tb := by omega
    rw [hm ta qa, hm tb qb, ← e1, ← e2]; exact ⟨z1, z2⟩
  · refine And.intro (fun _ => iv_loadTwo hV ea eb qa qb ka kb (fun u' a1 a2 a3 => ?_)) (fun c => absurd rfl c)
    have hI' : Inv u' v := ⟨h, N, w, ar, iv_scr hV (fun c c1 c2 _ _ => a1 c c1 c2) (fun _ _ => rfl)⟩
    obtain ⟨f, ef⟩ : ∃ f : Nat → Bool, f = fun l => decide (¬ v 0 (32 * ta + l) = v 0 (32 * tb + l)) := ⟨_, rfl⟩
    have yy : ∀ r : Int32, (fndK f n 32 0 0 = 32 → r = -1) → (fndK f n 32 0 0 < 32 → r.toInt = ((fndK f n 32 0 0 : Nat) : Int)) → w_X5_difference a b n v (fun r' v' => r = r' ∧ Inv u' v') := fun r g0 g1 => by
      refine n_bars h2 h3 hp (fun z => absurd ⟨⟨by omega, by omega⟩, ⟨by omega, by omega⟩⟩ z) (fun ta' tb' ea' eb' q1 q2 z => absurd ?_ z) (fun ta' tb' ea' eb' q1 q2 _ _ => And.intro (fun _ => ⟨33, lp_differenceY a b n 0 ta' tb' ea' eb' (by omega) (by omega) _ _ v f (fun l hl => ?_) (fndK f n 32 0 0) (fun y q3 hy => ⟨i_eq.mpr ?_, hI'⟩) (fun s y q3 => ⟨g0 q3, hI'⟩) 32 0 0 0 (by omega) l_0 rfl⟩) (fun c => absurd (i_le.mpr (by decide)) c))
      · have e1 : ta' = ta := by omega
        have e2 : tb' = tb := by omega
        rw [e1, e2]; exact ⟨(hm ta qa).mp ka, (hm tb qb).mp kb⟩
      · have e1 : ta' = ta := by omega
        have e2 : tb' = tb := by omega
        rw [ef, e1, e2]
      · rw [g1 q3, hy]
    refine ⟨33, lp_differenceX a b n 0 _ _ u' f (fun l hl => by rw [ef, a2 l hl, a3 l hl]) (fndK f n 32 0 0) (fun y q3 hy => yy y (fun q => by omega) (fun _ => hy)) (fun s y q3 => yy (-1) (fun _ => rfl) (fun q => by omega)) 32 0 0 0 (by omega) l_0 rfl⟩
theorem q_first {x z : Int32} {u v : Mem} (hI : Inv u v) : w_X4_first x z u (fun r u' => w_X5_first x z v (fun r' v' => r = r' ∧ Inv u' v')) := by
  obtain ⟨h, N, w, ar, hV⟩ := id hI
  obtain ⟨⟨⟨h1, h2, h3⟩, ⟨n1, n2, n3⟩, -⟩, -, ⟨hr, hs⟩, ⟨hT, -⟩, -⟩ := id hV
  by_cases hx : 0 ≤ x.toInt ∧ x.toInt < 32
  · obtain ⟨l, hl⟩ : ∃ l : Nat, x.toInt = (l : Int) := ⟨x.toInt.toNat, by omega⟩
    obtain ⟨f, ef⟩ : ∃ f : Nat → Bool, f = fun t => decide (v 2 t = 0 ∧ v 0 (32 * t + l) = z) := ⟨_, rfl⟩
    have hb := fstK_ge f (h + 1) 0
    have yy : ∀ r : Int32, (fstK f (h + 1) 0 = h + 1 → r = -1) → (fstK f (h + 1) 0 < h + 1 → r.toInt = ((fstK f (h + 1) 0 : Nat) : Int)) → w_X5_first x z v (fun r' v' => r = r' ∧ Inv u v') := fun r g0 g1 => by
      refine n_isLeaf_t hx.1 hx.2 (And.intro (fun c => absurd c b01) (fun _ => ⟨h + 2, lp_firstY x z l hl (by omega) _ _ v h h2 h3 f (fun t _ => by rw [ef]) (fstK f (h + 1) 0) (fun y q hy => ⟨i_eq.mpr (by rw [g1 q, hy]), hI⟩) (fun y q => ⟨g0 q, hI⟩) (h + 1) 0 0 (by omega) l_0 rfl⟩))
    refine m_isLeaf_t hx.1 hx.2 (And.intro (fun c => absurd c b01) (fun _ => ⟨h + 2, ?_⟩))
    refine lp_first18 x z _ _ u N h n1 n3 h1 h3 f (fun t ht k hk q1 q2 => ?_) (fstK f (h + 1) 0) (fun y q hy => yy y (fun q' => by omega) (fun _ => hy)) (fun s k y q => yy (-1) (fun _ => rfl) (fun q' => by omega)) (h + 1) 0 0 0 0 (by omega) l_0 (Nat.zero_le N) l_0 (fun j hj => absurd hj (Nat.not_lt_zero j)) rfl
    obtain ⟨-, t2, t3, -⟩ := hT t (by omega)
    have hkp : u 10 t = -1 ↔ v 2 t = 0 := (m1_iff t2).trans z_iff.symm
    rw [ef]
    by_cases c : u 10 t = -1
    · have hnt : (nI t).toInt = (t : Int) := nI_toInt (by omega)
      have hld := iv_ld (x := nI t) hV hnt (by omega) c l (by omega)
      have e : lastK (fst1 u x) k = lastK (ldf u (nI t) l) N := by
        rw [lastK_stop (f := ldf u (nI t) l) hk (fun i b1 b2 => ?_)]
        · refine lastK_cg k (fun i hi => ?_)
          have := q1 i hi
          have a1 : u 4 i = x ↔ (u 4 i).toInt = (l : Int) := by rw [i_eq, hl]
          simp only [fst1, ldf, hnt, a1]
          by_cases b2 : (u 4 i).toInt = (l : Int) <;> by_cases b3 : u 7 i = -1 <;> simp [b2, b3, this]
        · have g1 := q2 (by omega)
          have g2 := hs k i b1 b2
          rw [← (hr k (by omega)).1.1, ← (hr i b2).1.1] at g2
          simp only [ldf, hnt, decide_eq_false_iff_not]
          omega
      have c' := hkp.mp c
      rw [e, hld]
      simp [c, c']
    · have c' : ¬ v 2 t = 0 := fun q => c (hkp.mpr q)
      simp [c, c']
  · exact m_isLeaf_f hx (And.intro (fun _ => n_isLeaf_f hx (And.intro (fun _ => ⟨rfl, hI⟩) (fun c => absurd rfl c))) (fun c => absurd rfl c))
