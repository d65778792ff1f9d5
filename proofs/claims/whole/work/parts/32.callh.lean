theorem q_prune {x : Int32} {u v : Mem} (hI : Inv u v) : w_X4_prune x u (fun r u' => w_X5_prune x v (fun r' v' => r = r' ∧ Inv u' v')) := by
  obtain ⟨h, N, w, ar, hV⟩ := id hI
  obtain ⟨⟨⟨h1, h2, h3⟩, ⟨n1, n2, n3⟩, hs3, ⟨r1, r2, r3⟩, hs5, hs6⟩, hL, ⟨hr, hs⟩, ⟨hT, hTh⟩, hB, hG⟩ := id hV
  by_cases hx : 0 ≤ x.toInt ∧ x.toInt ≤ (h : Int)
  · obtain ⟨B, hB0⟩ : ∃ l : Nat, x.toInt = (l : Int) := ⟨x.toInt.toNat, by omega⟩
    have hst : 0 ≤ (u 15 0).toInt := by rw [hs5]; exact hs6
    have hkp : ∀ t, t ≤ h → (u 10 t = -1 ↔ v 2 t = 0) := fun t ht => (m1_iff (hT t ht).2.1).trans z_iff.symm
    have hpb : ∀ t, t ≤ h → pB (u 10) (-1) (u 15 0) t = pB (v 2) 0 (v 17 0) t := fun t ht => by simp only [pB, hkp t ht, hs5]
    have hcnt : cntK (pB (u 10) (-1) (u 15 0)) B = cntK (pB (v 2) 0 (v 17 0)) B := cntK_cg B (fun t ht => hpb t (by omega))
    refine m_isHeight_t hx.1 (by omega) (And.intro (fun c => absurd c b01) (fun _ => m_countPrunable hB0 (by omega) hst (fun r hr0 => And.intro (fun c => ?_) (fun c => And.intro (fun c2 => ?_) (fun c2 => ?_)))))
    · refine n_isHeight_t hx.1 (by omega) (And.intro (fun c => absurd c b01) (fun _ => ⟨B + 1, lp_prune15 x _ _ v B hB0 (by omega) (fun acc y ha => And.intro (fun _ => ⟨rfl, hI⟩) (fun q => absurd (i_eq.mpr ?_) q)) B 0 0 0 (by omega) l_0 l_0⟩))
      have := i_eq.mp c
      rw [hr0, hcnt] at this
      rw [ha]; exact this
    · have har : ar < 8 := by have := i_lt.mp c2; rw [l_8] at this; omega
      refine m_moveTo hB0 (by omega) hst (fun u1 a1 a2 => ?_)
      have e17 : u1 17 = u 17 := a1 17 (by decide)
      have e18 : u1 18 = u 18 := a1 18 (by decide)
      have e4 : u1 4 = u 4 := a1 4 (by decide)
      have e3 : u1 3 = u 3 := a1 3 (by decide)
      have e7 : u1 7 = u 7 := a1 7 (by decide)
      have e16 : u1 16 = u 16 := a1 16 (by decide)
      refine m_moveUnneeded (N := N) (h := h) ?_ (by rw [e17]; exact n1) n3 (by rw [e18]; exact h1) h3 (fun k hk => ?_) (fun k hk => ?_) (fun u2 b1 b2 => nm_mk (nm_mk ?_))
      · rw [e16]; exact fun q => absurd (i_eq.mp q) (by rw [l_m1]; omega)
      · rw [e4, (hr k hk).1.2.1]; exact (hr k hk).2.2.1
      · show 1 ≤ (u1 3 k).toInt ∧ (u1 3 k).toInt ≤ _
        rw [e3, (hr k hk).1.1]; exact (hr k hk).2.1
      · rw [e7, e4, e16] at b2
        obtain ⟨u3, eu3⟩ : ∃ z : Mem, z = g_ms u2 16 0 (u2 16 0 + 1) := ⟨_, rfl⟩
        rw [← eu3]
        have e3_16 : (u3 16 0).toInt = ((ar + 1 : Nat) : Int) := by rw [eu3, ms_s, b1 16 (by decide) (by decide), e16]; exact inc r1 (by omega)
        have eo : ∀ a, a ≠ 7 → a ≠ 8 → a ≠ 10 → a ≠ 16 → u3 a = u a := fun a q7 q8 q10 q16 => by rw [eu3, ms_o _ _ _ q16, b1 a q7 q8, a1 a q10]
        have e3_10 : ∀ t, u3 10 t = if t < B ∧ pB (u 10) (-1) (u 15 0) t = true then u 16 0 else u 10 t := fun t => by rw [eu3, ms_o _ _ _ (by decide), b1 10 (by decide) (by decide), a2 t]
        have e3_7 : u3 7 = u2 7 := by rw [eu3, ms_o _ _ _ (by decide)]
        refine n_isHeight_t hx.1 (by omega) (And.intro (fun c => absurd c b01) (fun _ => ⟨B + 1, lp_prune15 x _ _ v B hB0 (by omega) (fun acc y ha => And.intro (fun q => absurd ?_ c) (fun _ => And.intro (fun q => absurd (i_eq.mp q) (by rw [l_8]; omega)) (fun _ => nm_mk (nm_mk ?_)))) B 0 0 0 (by omega) l_0 l_0⟩))
        · exact i_eq.mpr (by have := i_eq.mp q; rw [ha] at this; rw [hr0, hcnt]; exact this)
        · obtain ⟨v0, ev0⟩ : ∃ z : Mem, z = g_ms v 16 0 (v 16 0 + 1) := ⟨_, rfl⟩
          rw [← ev0]
          have f0 : ∀ a, a ≠ 16 → v0 a = v a := fun a q => by rw [ev0, ms_o _ _ _ q]
          have f16 : (v0 16 0).toInt = ((ar + 1 : Nat) : Int) := by rw [ev0, ms_s]; exact inc r2 (by omega)
          refine ⟨B + 1, lp_prune72 x acc _ _ v0 B hB0 (by omega) (fun y1 v1 g1 g2 => ?_) B 0 0 v0 (by omega) l_0 (fun _ _ => rfl) (fun t => by rw [if_neg (by omega)])⟩
          rw [f0 2 (by decide), f0 17 (by decide)] at g2
          have gv : ∀ a, a ≠ 2 → a ≠ 16 → v1 a = v a := fun a q2 q16 => (g1 a q2).trans (f0 a q16)
          have g16 : v1 16 = v0 16 := g1 16 (by decide)
          refine ⟨N + 1, lp_prune112 x acc _ _ v1 N h (by rw [gv 15 (by decide) (by decide)]; exact n2) n3 (by rw [gv 13 (by decide) (by decide)]; exact h2) h3 (fun k hk => by rw [gv 6 (by decide) (by decide)]; exact (hr k hk).2.2.1) (fun k hk => by show 1 ≤ (v1 7 k).toInt ∧ (v1 7 k).toInt ≤ _; rw [gv 7 (by decide) (by decide)]; exact (hr k hk).2.1) (fun k k' q1 q2 => by show (v1 7 k).toInt ≤ (v1 7 k').toInt; rw [gv 7 (by decide) (by decide)]; exact hs k k' q1 q2) (fun y2 v2 i1 i2 => ?_) N 0 0 v1 (by omega) l_0 (fun _ _ => rfl) (fun _ _ => rfl) (fun k hk => absurd hk (Nat.not_lt_zero k))⟩
          rw [gv 10 (by decide) (by decide), gv 6 (by decide) (by decide), g16] at i2
          have jo : ∀ a, a ≠ 2 → a ≠ 10 → a ≠ 16 → v2 a = v a := fun a q2 q10 q16 => (i1 a q10).trans (gv a q2 q16)
          have j2 : v2 2 = v1 2 := i1 2 (by decide)
          have j16 : (v2 16 0).toInt = ((ar + 1 : Nat) : Int) := by rw [i1 16 (by decide), g16]; exact f16
          -- the heights, in numbers
          have t2 : ∀ t, t ≤ h → (v2 2 t).toInt = if t < B ∧ pB (v 2) 0 (v 17 0) t = true then (ar : Int) + 1 else (v 2 t).toInt := fun t ht => by
            rw [j2, g2 t]
            split
            · rw [f16]; omega
            · rfl
          have x10 : ∀ t, t ≤ h → (u3 10 t).toInt = if t < B ∧ pB (v 2) 0 (v 17 0) t = true then (ar : Int) else (u 10 t).toInt := fun t ht => by
            rw [e3_10 t, hpb t ht]
            split
            · exact r1
            · rfl
          have pbz : ∀ t, pB (v 2) 0 (v 17 0) t = true → (v 2 t).toInt = 0 := fun t q => by simp only [pB, decide_eq_true_eq] at q; exact z_iff.mp q.1
          have kpt : ∀ t, t ≤ h → (u1 10 t = -1 ↔ v1 2 t = 0) := fun t ht => by
            rw [a2 t, hpb t ht, g2 t]
            split
            · constructor
              · intro q; exact absurd (i_eq.mp q) (by rw [l_m1]; omega)
              · intro q; exact absurd (i_eq.mp q) (by rw [l_0]; omega)
            · exact hkp t ht
          -- which rows are needed: the class's and the reference's answer
          have hok : ∀ l k, k < N → okX u1 l k = okY v1 l k := fun l k hk => by
            obtain ⟨⟨c1, c2', c3, c4, c5⟩, -⟩ := hr k hk
            have q : u 7 k = -1 ↔ v 10 k = 0 := (m1_iff c5).trans z_iff.symm
            simp only [okX, okY, e7, e4, gv 10 (by decide) (by decide), gv 6 (by decide) (by decide), c2', q]
          have hrh : ∀ k, k < N → rhX u1 k = rhY v1 k := fun k hk => by
            show (u1 3 k).toInt = (v1 7 k).toInt
            rw [e3, gv 7 (by decide) (by decide), (hr k hk).1.1]
          have hrb : ∀ k, k < N → 1 ≤ rhY v1 k ∧ rhY v1 k ≤ (h : Int) := fun k hk => by
            show 1 ≤ (v1 7 k).toInt ∧ (v1 7 k).toInt ≤ _
            rw [gv 7 (by decide) (by decide)]; exact (hr k hk).2.1
          have hnd : ∀ k l, k < N → (ndG (okX u1) (rhX u1) (fun t => u1 10 t = -1) h N k l ↔ ndG (okY v1) (rhY v1) (fun t => v1 2 t = 0) h N k l) := fun k l hk => by
            have e : nhG (okX u1) (rhX u1) h N (k + 1) l = nhG (okY v1) (rhY v1) h N (k + 1) l := nhG_cg (N - (k + 1)) (k + 1) (by omega) (fun i _ q => hok l i q) (fun i _ q => hrh i q)
            have hb := nhG_bd (ok := okY v1) (i := k + 1) (l := l) hrb
            unfold ndG
            rw [e, hrh k hk]
            constructor
            · rintro ⟨t, q1, q2, q3⟩; exact ⟨t, q1, q2, (kpt t (by omega)).mp q3⟩
            · rintro ⟨t, q1, q2, q3⟩; exact ⟨t, q1, q2, (kpt t (by omega)).mpr q3⟩
          -- the rows, in numbers
          obtain ⟨gone, eg⟩ : ∃ g : Nat → Prop, g = fun k => (v 10 k).toInt = 0 ∧ ¬ ndG (okY v1) (rhY v1) (fun t => v1 2 t = 0) h N k (v 6 k).toInt.toNat := ⟨_, rfl⟩
          have y10 : ∀ k, k < N → (gone k → (v2 10 k).toInt = (ar : Int) + 1) ∧ (¬ gone k → v2 10 k = v 10 k) := fun k hk => by
            have q := i2 k hk
            rw [eg]
            refine ⟨fun z => ?_, fun z => q.2 (fun z2 => z ⟨z_iff.mp z2.1, z2.2⟩)⟩
            rw [q.1 ⟨z_iff.mpr z.1, z.2⟩, f16]; omega
          have y7 : ∀ k, k < N → (gone k → (u3 7 k).toInt = (ar : Int)) ∧ (¬ gone k → u3 7 k = u 7 k) := fun k hk => by
            have q := b2 k hk
            have e6 : (u 4 k) = v 6 k := (hr k hk).1.2.1
            rw [e6, hnd k _ hk] at q
            have qm := m1_iff (hr k hk).1.2.2.2.2
            rw [eg, e3_7]
            refine ⟨fun z => ?_, fun z => q.2 (fun z2 => z ⟨qm.mp z2.1, z2.2⟩)⟩
            rw [q.1 ⟨qm.mpr z.1, z.2⟩]; exact r1
          have hgz : ∀ k, gone k → (v 10 k).toInt = 0 := fun k q => by rw [eg] at q; exact q.1
          refine ⟨i_eq.mpr (by rw [hr0, ha, hcnt]), h, N, w, ar + 1, ?_, ?_, ⟨fun k hk => ?_, ?_⟩, ⟨fun t ht => ?_, ?_⟩, ?_, ?_⟩
          · rw [IS, eo 18 (by decide) (by decide) (by decide) (by decide), eo 17 (by decide) (by decide) (by decide) (by decide), eo 19 (by decide) (by decide) (by decide) (by decide), eo 15 (by decide) (by decide) (by decide) (by decide), jo 13 (by decide) (by decide) (by decide), jo 14 (by decide) (by decide) (by decide), jo 15 (by decide) (by decide) (by decide), jo 17 (by decide) (by decide) (by decide)]
            exact ⟨⟨h1, h2, h3⟩, ⟨n1, n2, n3⟩, hs3, ⟨e3_16, j16, by omega⟩, hs5, hs6⟩
          · exact IL_cg hL (eo _ (by decide) (by decide) (by decide) (by decide)) (jo _ (by decide) (by decide) (by decide))
          · obtain ⟨⟨c1, c2', c3, c4, c5⟩, p1, p2, p3⟩ := hr k hk
            rw [eo 3 (by decide) (by decide) (by decide) (by decide), eo 4 (by decide) (by decide) (by decide) (by decide), eo 5 (by decide) (by decide) (by decide) (by decide), eo 6 (by decide) (by decide) (by decide) (by decide), jo 6 (by decide) (by decide) (by decide), jo 7 (by decide) (by decide) (by decide), jo 8 (by decide) (by decide) (by decide), jo 9 (by decide) (by decide) (by decide)]
            refine ⟨⟨c1, c2', c3, c4, ?_⟩, p1, p2, ?_⟩
            · by_cases z : gone k
              · rw [(y10 k hk).1 z, (y7 k hk).1 z]; omega
              · rw [(y10 k hk).2 z, (y7 k hk).2 z]; exact c5
            · by_cases z : gone k
              · rw [(y10 k hk).1 z]; omega
              · rw [(y10 k hk).2 z]; omega
          · rw [jo 7 (by decide) (by decide) (by decide)]; exact hs
          · obtain ⟨c1, c2', c3, c4⟩ := hT t ht
            rw [eo 9 (by decide) (by decide) (by decide) (by decide), jo 1 (by decide) (by decide) (by decide), x10 t ht, t2 t ht]
            refine ⟨c1, ?_, ?_, ?_⟩
            · split <;> omega
            · split <;> omega
            · split <;> omega
          · rw [t2 h (Nat.le_refl h), if_neg (by omega)]; exact hTh
          · exact IB_cg hB (eo _ (by decide) (by decide) (by decide) (by decide)) (eo _ (by decide) (by decide) (by decide) (by decide)) (eo _ (by decide) (by decide) (by decide) (by decide)) (eo _ (by decide) (by decide) (by decide) (by decide)) (jo _ (by decide) (by decide) (by decide)) (jo _ (by decide) (by decide) (by decide)) (jo _ (by decide) (by decide) (by decide)) (jo _ (by decide) (by decide) (by decide))
          · intro j hj t ht hk l hl
            rw [jo 0 (by decide) (by decide) (by decide), jo 8 (by decide) (by decide) (by decide)]
            have p2 := t2 t ht
            by_cases hja : j ≤ ar
            · have hkk : kpB j (v 2 t) = true := by
                simp only [kpB, decide_eq_true_eq] at hk ⊢
                rw [p2] at hk
                split at hk
                · rename_i z; exact Or.inl (pbz t z.2)
                · exact hk
              rw [hG j hja t ht hkk l hl]
              congr 1
              refine lastK_cg N (fun k hkN => ?_)
              have : kpB j (v2 10 k) = kpB j (v 10 k) := by
                by_cases z : gone k
                · have q1 := (y10 k hkN).1 z
                  have q2 := hgz k z
                  simp only [kpB, decide_eq_decide]
                  omega
                · rw [(y10 k hkN).2 z]
              simp only [gR, this, jo 6 (by decide) (by decide) (by decide), jo 7 (by decide) (by decide) (by decide)]
            · have ej : j = ar + 1 := by omega
              have c4 := (hT t ht).2.2
              have hz : (v2 2 t).toInt = 0 := by
                simp only [kpB, decide_eq_true_eq] at hk
                rw [p2] at hk ⊢
                split at hk
                · omega
                · rename_i z; rw [if_neg z]; omega
              have hz0 : (v 2 t).toInt = 0 := by
                rw [p2] at hz
                split at hz
                · omega
                · exact hz
              have hv1 : v1 2 t = 0 := by rw [← j2]; exact z_iff.mpr hz
              rw [hG ar (Nat.le_refl ar) t ht (by simp only [kpB, decide_eq_true_eq]; exact Or.inl hz0) l hl]
              congr 1
              -- a row that a kept height holds to stays
              have hsub : ∀ k, k < N → gR v2 j t l k = true → gR v ar t l k = true := fun k hkN q => by
                have p3 := (hr k hkN).2.2.2
                simp only [gR, Bool.and_eq_true, kpB, decide_eq_true_eq, jo 6 (by decide) (by decide) (by decide), jo 7 (by decide) (by decide) (by decide)] at q ⊢
                refine ⟨?_, q.2⟩
                by_cases z : gone k
                · exact Or.inl (hgz k z)
                · rw [(y10 k hkN).2 z] at q; omega
              rcases Nat.eq_zero_or_pos (lastK (gR v ar t l) N) with z | z
              · rw [z]
                refine (lastK_none (fun k hkN => ?_)).symm
                have := lastK_0 z k hkN
                rcases hq : gR v2 j t l k with _ | _
                · rfl
                · rw [hsub k hkN hq] at this; cases this
              · obtain ⟨m, hm⟩ : ∃ m, lastK (gR v ar t l) N = m + 1 := ⟨lastK (gR v ar t l) N - 1, by omega⟩
                obtain ⟨q1, q2, q3⟩ := lastK_s hm
                have p3 := (hr m q1).2.2.2
                have q2' := q2
                simp only [gR, Bool.and_eq_true, decide_eq_true_eq] at q2'
                have hm0 : (v 10 m).toInt = 0 := (kp0 r3 p3.1 (Or.inl p3.2)).mp q2'.1
                have hng : ¬ gone m := by
                  rw [eg]
                  rintro ⟨-, s2⟩
                  apply s2
                  have el : (v 6 m).toInt.toNat = l := by omega
                  rw [el]
                  refine ⟨t, by show (v1 7 m).toInt ≤ _; rw [gv 7 (by decide) (by decide)]; exact q2'.2.1, ?_, hv1⟩
                  unfold nhG
                  split
                  · rename_i s3
                    have s4 := fstK_ge (okY v1 l) (N - (m + 1)) (m + 1)
                    have s5 := fstK_is (okY v1 l) (N - (m + 1)) (m + 1) (by omega)
                    have s6 := q3 _ (by omega) s3
                    simp only [okY, decide_eq_true_eq, gv 10 (by decide) (by decide), gv 6 (by decide) (by decide)] at s5
                    simp only [gR, Bool.and_eq_false_iff, decide_eq_false_iff_not] at s6
                    show (t : Int) < (v1 7 _).toInt
                    rw [gv 7 (by decide) (by decide)]
                    rcases s6 with s6 | s6
                    · simp only [kpB, decide_eq_false_iff_not] at s6
                      exact absurd (Or.inl (z_iff.mp s5.1)) s6
                    · have := s5.2; omega
                  · omega
                rw [hm]
                refine (lastK_of q1 ?_ (fun i h5 h6 => ?_)).symm
                · simp only [gR, Bool.and_eq_true, kpB, decide_eq_true_eq, jo 6 (by decide) (by decide) (by decide), jo 7 (by decide) (by decide) (by decide)]
                  rw [(y10 m q1).2 hng]
                  exact ⟨Or.inl hm0, q2'.2⟩
                · have := q3 i h5 h6
                  rcases hq : gR v2 j t l i with _ | _
                  · rfl
                  · rw [hsub i h6 hq] at this; cases this
    · have har : ar = 8 := by have := mt i_lt.mpr c2; rw [l_8] at this; omega
      refine n_isHeight_t hx.1 (by omega) (And.intro (fun c => absurd c b01) (fun _ => ⟨B + 1, lp_prune15 x _ _ v B hB0 (by omega) (fun acc y ha => And.intro (fun q => absurd ?_ c) (fun _ => And.intro (fun _ => ⟨rfl, hI⟩) (fun q => absurd (i_eq.mpr (by rw [l_8]; omega)) q))) B 0 0 0 (by omega) l_0 l_0⟩))
      exact i_eq.mpr (by have := i_eq.mp q; rw [ha] at this; rw [hr0, hcnt]; exact this)
  · exact m_isHeight_f (by rw [h1]; exact hx) (And.intro (fun _ => n_isHeight_f (by rw [h2]; exact hx) (And.intro (fun _ => ⟨rfl, hI⟩) (fun c => absurd rfl c))) (fun c => absurd rfl c))
