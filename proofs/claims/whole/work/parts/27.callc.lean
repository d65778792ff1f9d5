theorem iv_rdo {u v : Mem} {h N w ar : Nat} (a b : Int32) (hI : IV u v h N w ar) : (∀ k, k < N → rdo u a b k = rdoY v a b k) ∧ ∀ l k, k < N → rdl u a b l k = rdlY v a b l k := by
  obtain ⟨-, -, ⟨hr, -⟩, -⟩ := hI
  have h1 : ∀ k, k < N → rdo u a b k = rdoY v a b k := fun k hk => by
    obtain ⟨⟨a1, a2, a3, a4, a5⟩, -, -, -⟩ := hr k hk
    have q : u 7 k = -1 ↔ v 10 k = 0 := (m1_iff a5).trans z_iff.symm
    simp only [rdo, rdoY, a1, q]
  refine ⟨h1, fun l k hk => ?_⟩
  obtain ⟨⟨a1, a2, a3, a4, a5⟩, -, -, -⟩ := hr k hk
  simp only [rdl, rdlY, h1 k hk, a2]
theorem iv_redo {u v : Mem} {h N w ar j : Nat} {a b : Int32} {post : Int32 → Mem → Prop} (hI : IV u v h N w ar) (hj : j ≠ 3 ∧ j ≠ 4 ∧ j ≠ 5 ∧ j ≠ 7 ∧ j ≠ 17) (k : ∀ (r : Int32) (u' : Mem), r.toInt = ((cntK (rdoY v a b) N : Nat) : Int) → (∀ c, c ≠ j → u' c = u c) → (∀ l, l < 32 → u' j l = pick (v 8) (u j l) (lastK (rdlY v a b l) N)) → post r u') : w_X2_redo a b j 32 u post := by
  have hq := iv_rdo a b hI
  obtain ⟨⟨-, ⟨hN, -, hN4⟩, -⟩, -, ⟨hr, hs⟩, -⟩ := hI
  refine m_redo hj hN hN4 (fun k hk => ?_) (fun k k' h1 h2 => ?_) (fun r u' a0 a1 a2 => k r u' ?_ a1 (fun l hl => ?_))
  · obtain ⟨⟨-, a2, -⟩, -, b, -⟩ := hr k hk
    rw [a2]; exact b
  · rw [(hr k (by omega)).1.1, (hr k' h2).1.1]; exact hs k k' h1 h2
  · rw [a0, cntK_cg N hq.1]
  · rw [a2 l hl, lastK_cg N (hq.2 l)]
    exact pick_cg (lastK_le _ N) (fun k hkN => (hr k hkN).1.2.2.1)
theorem q_replayed {a b : Int32} {u v : Mem} (hI : Inv u v) : w_X4_replayed a b u (fun r u' => w_X5_replayed a b v (fun r' v' => r = r' ∧ Inv u' v')) := by
  obtain ⟨h, N, w, ar, hV⟩ := id hI
  obtain ⟨⟨⟨h1, h2, h3⟩, ⟨n1, n2, n3⟩, -⟩, -, -, ⟨hT, -⟩, -⟩ := id hV
  have hp : ∀ t, t ≤ h → 0 ≤ (v 2 t).toInt := fun t q => (hT t q).2.2.1
  have hm : ∀ t, t ≤ h → (u 10 t = -1 ↔ (v 2 t).toInt = 0) := fun t q => m1_iff (hT t q).2.1
  refine m_refR h1 h3 (fun q => ?_) (fun q q2 => ?_) (fun ta tb ea eb qa qb qab q => ?_) (fun ta tb ea eb qa qb qab ka kb => ?_)
  · refine And.intro (fun c => absurd c (by decide)) (fun _ => n_barsR h2 h3 hp (fun _ => And.intro (fun c => absurd c (by decide)) (fun _ => ⟨rfl, hI⟩)) (fun z => absurd z q) (fun ta tb ea eb q1 q2 _ _ => absurd ⟨⟨by omega, by omega⟩, ⟨by omega, by omega⟩⟩ q) (fun ta tb ea eb q1 q2 _ _ _ => absurd ⟨⟨by omega, by omega⟩, ⟨by omega, by omega⟩⟩ q))
  · refine And.intro (fun c => absurd c (by decide)) (fun _ => n_barsR h2 h3 hp (fun z => absurd q z) (fun _ _ => And.intro (fun c => absurd c (by decide)) (fun _ => ⟨rfl, hI⟩)) (fun ta tb ea eb q1 q2 q3 _ => by omega) (fun ta tb ea eb q1 q2 q3 _ _ => by omega))
  · refine And.intro (fun c => absurd c (by decide)) (fun _ => n_barsR h2 h3 hp (fun z => absurd ⟨⟨by omega, by omega⟩, ⟨by omega, by omega⟩⟩ z) (fun _ z => by omega) (fun _ _ _ _ _ _ _ _ => And.intro (fun c => absurd c (by decide)) (fun _ => ⟨rfl, hI⟩)) (fun ta' tb' ea' eb' q1 q2 _ z1 z2 => absurd ?_ q))
    have e1 : ta' = ta := by omega
    have e2 : tb' = tb := by omega
    rw [hm ta qa, hm tb qb, ← e1, ← e2]; exact ⟨z1, z2⟩
  · refine And.intro (fun _ => iv_redo hV ⟨by decide, by decide, by decide, by decide, by decide⟩ (fun r u' a0 a1 a2 => ?_)) (fun c => absurd rfl c)
    have hI' : Inv u' v := ⟨h, N, w, ar, iv_scr hV (fun c c1 _ _ _ => a1 c c1) (fun _ _ => rfl)⟩
    refine n_barsR h2 h3 hp (fun z => absurd ⟨⟨by omega, by omega⟩, ⟨by omega, by omega⟩⟩ z) (fun _ z => by omega) (fun ta' tb' ea' eb' q1 q2 _ z => absurd ?_ z) (fun ta' tb' ea' eb' q1 q2 _ _ _ => And.intro (fun _ => ⟨N + 1, lp_replayed a b 0 ta' ea' (by omega) _ _ v N n2 n3 (fun acc' y' hacc' => ⟨i_eq.mpr (by rw [a0, hacc']), hI'⟩) N 0 0 0 (by omega) l_0 l_0⟩) (fun c => absurd (i_le.mpr (by decide)) c))
    have e1 : ta' = ta := by omega
    have e2 : tb' = tb := by omega
    rw [e1, e2]; exact ⟨(hm ta qa).mp ka, (hm tb qb).mp kb⟩
theorem q_replay {a b : Int32} {u v : Mem} (hI : Inv u v) : w_X4_replay a b u (fun r u' => w_X5_replay a b v (fun r' v' => r = r' ∧ Inv u' v')) := by
  obtain ⟨h, N, w, ar, hV⟩ := id hI
  obtain ⟨⟨⟨h1, h2, h3⟩, ⟨n1, n2, n3⟩, -⟩, -, ⟨hr, -⟩, ⟨hT, -⟩, -⟩ := id hV
  have hp : ∀ t, t ≤ h → 0 ≤ (v 2 t).toInt := fun t q => (hT t q).2.2.1
  have hm : ∀ t, t ≤ h → (u 10 t = -1 ↔ (v 2 t).toInt = 0) := fun t q => m1_iff (hT t q).2.1
  refine m_refR h1 h3 (fun q => ?_) (fun q q2 => ?_) (fun ta tb ea eb qa qb qab q => ?_) (fun ta tb ea eb qa qb qab ka kb => ?_)
  · refine And.intro (fun c => absurd c (by decide)) (fun _ => m_wide (n_barsR h2 h3 hp (fun _ => And.intro (fun c => absurd c (by decide)) (fun _ => nm_mk (nm_mk ⟨rfl, hI⟩))) (fun z => absurd z q) (fun ta tb ea eb q1 q2 _ _ => absurd ⟨⟨by omega, by omega⟩, ⟨by omega, by omega⟩⟩ q) (fun ta tb ea eb q1 q2 _ _ _ => absurd ⟨⟨by omega, by omega⟩, ⟨by omega, by omega⟩⟩ q)))
  · refine And.intro (fun c => absurd c (by decide)) (fun _ => m_wide (n_barsR h2 h3 hp (fun z => absurd q z) (fun _ _ => And.intro (fun c => absurd c (by decide)) (fun _ => nm_mk (nm_mk ⟨rfl, hI⟩))) (fun ta tb ea eb q1 q2 q3 _ => by omega) (fun ta tb ea eb q1 q2 q3 _ _ => by omega)))
  · refine And.intro (fun c => absurd c (by decide)) (fun _ => m_wide (n_barsR h2 h3 hp (fun z => absurd ⟨⟨by omega, by omega⟩, ⟨by omega, by omega⟩⟩ z) (fun _ z => by omega) (fun _ _ _ _ _ _ _ _ => And.intro (fun c => absurd c (by decide)) (fun _ => nm_mk (nm_mk ⟨rfl, hI⟩))) (fun ta' tb' ea' eb' q1 q2 _ z1 z2 => absurd ?_ q)))
    have e1 : ta' = ta := by omega
    have e2 : tb' = tb := by omega
    rw [hm ta qa, hm tb qb, ← e1, ← e2]; exact ⟨z1, z2⟩
  · refine And.intro (fun _ => iv_load hV ⟨by decide, by decide, by decide, by decide, by decide⟩ ea qa ka (fun u1 a1 a2 => ?_)) (fun c => absurd rfl c)
    have hV1 : IV u1 v h N w ar := iv_scr hV (fun c c1 _ _ _ => a1 c c1) (fun _ _ => rfl)
    refine iv_redo hV1 ⟨by decide, by decide, by decide, by decide, by decide⟩ (fun r u2 b0 b1 b2 => m_grow (by decide) (fun u3 c1 c2 => nm_mk ?_))
    refine n_barsR h2 h3 hp (fun z => absurd ⟨⟨by omega, by omega⟩, ⟨by omega, by omega⟩⟩ z) (fun _ z => by omega) (fun ta' tb' ea' eb' q1 q2 _ z => absurd ?_ z) (fun ta' tb' ea' eb' q1 q2 _ _ _ => And.intro (fun _ => ?_) (fun c => absurd (i_le.mpr (by decide)) c))
    · have e1 : ta' = ta := by omega
      have e2 : tb' = tb := by omega
      rw [e1, e2]; exact ⟨(hm ta qa).mp ka, (hm tb qb).mp kb⟩
    · have e1 : ta' = ta := by omega
      rw [e1] at ea'
      refine ⟨33, lp_replay21 a b 0 ta ea' (by omega) _ _ v (fun y1 v1 d1 d2 => ?_) 32 0 0 v (by omega) l_0 (fun _ _ => rfl) (fun l hl => absurd hl (Nat.not_lt_zero l))⟩
      have e6 : v1 6 = v 6 := d1 6 (by decide)
      refine ⟨N + 1, lp_replay59 a b 0 ta ea' (by omega) _ _ v1 N (by rw [d1 15 (by decide)]; exact n2) n3 (fun k hk => by rw [e6]; exact (hr k hk).2.2.1) (fun y2 v2 g1 g2 => ?_) N 0 0 v1 (by omega) l_0 (fun _ _ => rfl) (fun _ _ => rfl)⟩
      refine ⟨33, lp_replay126 a b 0 _ _ v2 (fun y3 v3 i1 i2 => ?_) 32 0 0 v2 (by omega) l_0 (fun _ _ => rfl) (fun l hl => absurd hl (Nat.not_lt_zero l)) (fun _ _ => rfl)⟩
      refine ⟨32, lp_replay168 a b 0 _ _ v3 (fun y4 v4 j1 j2 j3 => And.intro (vin (i := 1) l_1 (by omega)) (nm_mk (nm_mk ⟨?_, ?_⟩))) 31 31 v3 (by omega) l_31 (fun _ _ => rfl) (fun _ _ => rfl) (fun n z1 z2 => by omega)⟩
      · rw [tn (i := 1) l_1]
        congr 1
        refine isTree_eq c2 (f' := fun l => v2 12 (32 + l)) ⟨fun l hl => by rw [j2 _ (by omega)]; exact i2 l hl, j3⟩ (fun l hl => ?_) 63 1 (by omega) (by omega) (by omega)
        show u2 1 l = v2 12 (32 + l)
        rw [b2 l hl, g2 l hl, a2 l hl, d2 l hl, d1 8 (by decide)]
        congr 1
        refine lastK_cg N (fun k _ => ?_)
        simp only [rdlY, rdoY, d1 7 (by decide), d1 10 (by decide), e6]
      · exact ⟨h, N, w, ar, iv_scr hV (fun c q1 _ _ q14 => (c1 c q14).trans ((b1 c q1).trans (a1 c q1))) (fun c c12 => (j1 c c12).trans ((i1 c c12).trans ((g1 c c12).trans (d1 c c12))))⟩
theorem q_proof {x z i : Int32} {u v : Mem} (hI : Inv u v) : w_X4_proof x z i u (fun r u' => w_X5_proof x z i v (fun r' v' => r = r' ∧ Inv u' v')) := by
  obtain ⟨h, N, w, ar, hV⟩ := id hI
  obtain ⟨⟨⟨h1, h2, h3⟩, ⟨n1, n2, n3⟩, -⟩, -, -, ⟨hT, -⟩, -⟩ := id hV
  by_cases hx : 0 ≤ x.toInt ∧ x.toInt < 32
  · obtain ⟨l, hl⟩ : ∃ l : Nat, x.toInt = (l : Int) := ⟨x.toInt.toNat, by omega⟩
    refine m_isLeaf_t hx.1 hx.2 (And.intro (fun c => absurd c b01) (fun _ => ?_))
    by_cases hz : 0 ≤ z.toInt ∧ z.toInt ≤ (h : Int)
    · obtain ⟨t, ht⟩ : ∃ l : Nat, z.toInt = (l : Int) := ⟨z.toInt.toNat, by omega⟩
      obtain ⟨-, t2, t3, -⟩ := hT t (by omega)
      have yo : ¬ (0 ≤ i.toInt ∧ i.toInt ≤ 4) → ∀ r : Int64, r = -4000000102 → w_X5_proof x z i v (fun r' v' => r = r' ∧ Inv u v') := fun q r er => n_isLeaf_t hx.1 hx.2 (And.intro (fun c => absurd c b01) (fun _ => n_isHeight_t hz.1 (by omega) (And.intro (fun c => absurd c b01) (fun _ => n_in_f (by rw [l_0, l_4]; exact q) (And.intro (fun _ => ⟨er, hI⟩) (fun c => absurd rfl c))))))
      refine m_isHeight_t hz.1 (by omega) (And.intro (fun c => absurd c b01) (fun _ => And.intro (fun ci => m_wide (yo (by have := i_lt.mp ci; rw [l_0] at this; omega) _ (by decide))) (fun ci => And.intro (fun cj => ?_) (fun cj => m_wide (yo (by have := mt i_lt.mpr cj; rw [l_5] at this; omega) _ (by decide))))))
      have hi : 0 ≤ i.toInt ∧ i.toInt ≤ 4 := ⟨by have := mt i_lt.mpr ci; rw [l_0] at this; omega, by have := i_lt.mp cj; rw [l_5] at this; omega⟩
      obtain ⟨g, hg⟩ : ∃ g : Nat, i.toInt = (g : Int) := ⟨i.toInt.toNat, by omega⟩
      refine m_isGone ht (by omega) (fun c1 => And.intro (fun _ => iv_load hV ⟨by decide, by decide, by decide, by decide, by decide⟩ ht (by omega) c1 (fun u1 a1 a2 => m_grow (by decide) (fun u2 b1 b2 => m_beside hl (by omega) hg (by omega) (nm_mk ?_)))) (fun c => absurd rfl c)) (fun c1 => And.intro (fun c => absurd c b01) (fun _ => m_wide ?_))
      · refine n_isLeaf_t hx.1 hx.2 (And.intro (fun c => absurd c b01) (fun _ => n_isHeight_t hz.1 (by omega) (And.intro (fun c => absurd c b01) (fun _ => n_in_t (by rw [l_0]; omega) (by rw [l_4]; omega) (And.intro (fun c => absurd c b01) (fun _ => And.intro (vin ht (by omega)) (nm_mk ?_)))))))
        rw [tn ht]
        refine And.intro (fun _ => n_digestOf ht (by omega) (fun v1 d1 d2 => nm_mk (nm_mk (nm_mk ?_)))) (fun c => absurd (i_le.mpr (by rw [l_0, (m1_iff t2).mp c1]; exact Int.le_refl 0)) c)
        have hI' : Inv u2 v1 := ⟨h, N, w, ar, iv_scr hV (fun c q1 _ _ q14 => (b1 c q14).trans (a1 c q1)) d1⟩
        have hb := b_pos l (by omega) g (by omega)
        rw [i_nI hl (by omega), i_nI hg (by omega), b_bes l (by omega) g (by omega)]
        obtain ⟨n, en⟩ : ∃ n, n = (32 + l) / 2 ^ g := ⟨_, rfl⟩
        rw [← en] at hb ⊢
        have ht' : ∀ m, 1 ≤ m → m < 64 → u2 14 m = v1 12 m := fun m q1 q2 => isTree_eq b2 d2 (fun l' hl' => a2 l' hl') 63 m (by omega) q1 q2
        have e0 : (nI n).toInt = (n : Int) := nI_toInt (by omega)
        refine And.intro (fun c => nm_mk ?_) (fun c => nm_mk ?_)
        · have hn := (b_rem1 n (by omega)).mp c
          have e := inc e0 (by omega)
          refine And.intro (vin e (by omega)) (nm_mk (nm_mk ⟨?_, hI'⟩))
          rw [tn e, if_pos hn, ht' _ (by omega) (by omega)]
        · have hn : ¬ n % 2 = 0 := fun q => c ((b_rem1 n (by omega)).mpr q)
          have e : (nI n - 1).toInt = ((n - 1 : Nat) : Int) := (sub1 e0 (by omega) (by omega)).trans (by omega)
          refine And.intro (vin e (by omega)) (nm_mk (nm_mk ⟨?_, hI'⟩))
          rw [tn e, if_neg hn, ht' _ (by omega) (by omega)]
      · refine n_isLeaf_t hx.1 hx.2 (And.intro (fun c => absurd c b01) (fun _ => n_isHeight_t hz.1 (by omega) (And.intro (fun c => absurd c b01) (fun _ => n_in_t (by rw [l_0]; omega) (by rw [l_4]; omega) (And.intro (fun c => absurd c b01) (fun _ => And.intro (vin ht (by omega)) (nm_mk ?_)))))))
        rw [tn ht]
        exact And.intro (fun c => absurd ((m1_iff t2).mpr (by have := i_le.mp c; rw [l_0] at this; omega)) c1) (fun _ => ⟨by decide, hI⟩)
    · exact m_isHeight_f (by rw [h1]; exact hz) (And.intro (fun _ => m_wide (n_isLeaf_t hx.1 hx.2 (And.intro (fun c => absurd c b01) (fun _ => n_isHeight_f (by rw [h2]; exact hz) (And.intro (fun _ => ⟨by decide, hI⟩) (fun c => absurd rfl c)))))) (fun c => absurd rfl c))
  · exact m_isLeaf_f hx (And.intro (fun _ => m_wide (n_isLeaf_f hx (And.intro (fun _ => ⟨by decide, hI⟩) (fun c => absurd rfl c)))) (fun c => absurd rfl c))
theorem q_proves {x y z : Int32} {u v : Mem} (hI : Inv u v) : w_X4_proves x y z u (fun r u' => w_X5_proves x y z v (fun r' v' => r = r' ∧ Inv u' v')) := by
  obtain ⟨h, N, w, ar, hV⟩ := id hI
  obtain ⟨⟨⟨h1, h2, h3⟩, -⟩, hL, -, ⟨hT, -⟩, -⟩ := id hV
  by_cases hx : 0 ≤ x.toInt ∧ x.toInt < 32
  · obtain ⟨l, hl⟩ : ∃ l : Nat, x.toInt = (l : Int) := ⟨x.toInt.toNat, by omega⟩
    refine m_isLeaf_t hx.1 hx.2 (And.intro (fun c => absurd c b01) (fun _ => ?_))
    by_cases hz : 0 ≤ z.toInt ∧ z.toInt ≤ (h : Int)
    · obtain ⟨t, ht⟩ : ∃ l : Nat, z.toInt = (l : Int) := ⟨z.toInt.toNat, by omega⟩
      have e9 := (hT t (by omega)).1
      have ec : t_climb l (u 0) 5 0 (t_leaf l y) = t_climb l (v 11) 5 0 (t_leaf l y) := t_climb_cg 5 0 _ (fun k _ q => hL k (by omega))
      have yy : ∀ r : Int32, (t_climb l (v 11) 5 0 (t_leaf l y) = v 1 t → r = 1) → (¬ t_climb l (v 11) 5 0 (t_leaf l y) = v 1 t → r = 0) → w_X5_proves x y z v (fun r' v' => r = r' ∧ Inv u v') := fun r g1 g0 => by
        refine n_isLeaf_t hx.1 hx.2 (And.intro (fun c => absurd c b01) (fun _ => n_isHeight_t hz.1 (by omega) (And.intro (fun c => absurd c b01) (fun _ => n_ofLeaf hl (by omega) ⟨6, lp_proves x y z l hl (by omega) _ _ v 5 0 _ 0 (by omega) l_0 (fun y' => And.intro (vin ht (by omega)) (nm_mk ?_))⟩))))
        rw [tn ht]
        exact And.intro (fun c => ⟨g1 c, hI⟩) (fun c => ⟨g0 c, hI⟩)
      refine m_isHeight_t hz.1 (by omega) (And.intro (fun c => absurd c b01) (fun _ => m_climb hl (by omega) (And.intro (vin ht (by omega)) (nm_mk ?_))))
      rw [tn ht, ec, e9]
      exact And.intro (fun c => yy 1 (fun _ => rfl) (fun q => absurd c q)) (fun c => yy 0 (fun q => absurd q c) (fun _ => rfl))
    · exact m_isHeight_f (by rw [h1]; exact hz) (And.intro (fun _ => n_isLeaf_t hx.1 hx.2 (And.intro (fun c => absurd c b01) (fun _ => n_isHeight_f (by rw [h2]; exact hz) (And.intro (fun _ => ⟨rfl, hI⟩) (fun c => absurd rfl c))))) (fun c => absurd rfl c))
  · exact m_isLeaf_f hx (And.intro (fun _ => n_isLeaf_f hx (And.intro (fun _ => ⟨rfl, hI⟩) (fun c => absurd rfl c))) (fun c => absurd rfl c))
theorem q_row {x n a : Int32} {u v : Mem} (hI : Inv u v) : w_X4_row x n a u (fun r u' => w_X5_row x n a v (fun r' v' => r = r' ∧ Inv u' v')) := by
  obtain ⟨h, N, w, ar, hV⟩ := id hI
  obtain ⟨⟨-, ⟨n1, n2, n3⟩, -⟩, -, ⟨hr, -⟩, -⟩ := id hV
  by_cases hx : 0 ≤ x.toInt ∧ x.toInt < 32
  · obtain ⟨f, ef⟩ : ∃ f : Nat → Bool, f = fun k => decide (v 6 k = x ∧ v 10 k = 0) := ⟨_, rfl⟩
    have yy : ∀ r : Int32, (¬ (0 ≤ a.toInt ∧ a.toInt ≤ 1) → r = -102) → ((0 ≤ a.toInt ∧ a.toInt ≤ 1) → fndK f n N 0 0 = N → r = -1) → ((0 ≤ a.toInt ∧ a.toInt ≤ 1) → fndK f n N 0 0 < N → r = if a = 0 then v 7 (fndK f n N 0 0) else v 9 (fndK f n N 0 0)) → w_X5_row x n a v (fun r' v' => r = r' ∧ Inv u v') := fun r g0 g1 g2 => by
      refine n_isLeaf_t hx.1 hx.2 (And.intro (fun c => absurd c b01) (fun _ => ?_))
      by_cases ha : 0 ≤ a.toInt ∧ a.toInt ≤ 1
      · exact n_in_t (by rw [l_0]; omega) (by rw [l_1]; omega) (And.intro (fun c => absurd c b01) (fun _ => ⟨N + 1, lp_rowY x n a _ _ v N n2 n3 f (fun k _ => by rw [ef]) (fndK f n N 0 0) (fun q => ⟨g2 ha q, hI⟩) (fun s y q => ⟨g1 ha q, hI⟩) N 0 0 0 (by omega) l_0 rfl⟩))
      · exact n_in_f (by rw [l_0, l_1]; exact ha) (And.intro (fun _ => ⟨g0 ha, hI⟩) (fun c => absurd rfl c))
    refine m_isLeaf_t hx.1 hx.2 (And.intro (fun c => absurd c b01) (fun _ => And.intro (fun ca => yy _ (fun _ => rfl) (fun q => absurd (i_lt.mp ca) (by rw [l_0]; omega)) (fun q => absurd (i_lt.mp ca) (by rw [l_0]; omega))) (fun ca => And.intro (fun cb => ?_) (fun cb => yy _ (fun _ => rfl) (fun q => absurd (i_le.mpr (by rw [l_1]; omega)) cb) (fun q => absurd (i_le.mpr (by rw [l_1]; omega)) cb)))))
    have ha : 0 ≤ a.toInt ∧ a.toInt ≤ 1 := ⟨by have := mt i_lt.mpr ca; rw [l_0] at this; omega, by have := i_le.mp cb; rw [l_1] at this; omega⟩
    refine m_find n1 n3 f (fun k hk => ?_) (fun y q hy => ?_) (fun q => And.intro (fun _ => yy _ (fun z => absurd ha z) (fun _ _ => rfl) (fun _ z => by omega)) (fun c => absurd rfl c))
    · obtain ⟨⟨a1, a2, a3, a4, a5⟩, -⟩ := hr k hk
      have q : u 7 k = -1 ↔ v 10 k = 0 := (m1_iff a5).trans z_iff.symm
      rw [ef]; simp only [a2, q]
    · obtain ⟨⟨a1, a2, a3, a4, a5⟩, -⟩ := hr _ q
      refine And.intro (fun c => absurd (i_eq.mp c) (by rw [l_m1]; omega)) (fun _ => And.intro (fun c2 => And.intro (vin hy (by omega)) (nm_mk ?_)) (fun c2 => And.intro (vin hy (by omega)) (nm_mk ?_)))
      · rw [tn hy]
        exact yy _ (fun z => absurd ha z) (fun _ z => by omega) (fun _ _ => by rw [if_pos c2, a1])
      · rw [tn hy]
        exact yy _ (fun z => absurd ha z) (fun _ z => by omega) (fun _ _ => by rw [if_neg c2, a4])
  · exact m_isLeaf_f hx (And.intro (fun _ => n_isLeaf_f hx (And.intro (fun _ => ⟨rfl, hI⟩) (fun c => absurd rfl c))) (fun c => absurd rfl c))
