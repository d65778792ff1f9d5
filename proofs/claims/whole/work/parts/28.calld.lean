theorem IL_cg {u v u' v' : Mem} (h : IL u v) (e0 : u' 0 = u 0) (f11 : v' 11 = v 11) : IL u' v' := by
  simp only [IL, e0, f11] at h ⊢; exact h
theorem IR_cg {u v u' v' : Mem} {h N ar : Nat} (hI : IR u v h N ar) (e3 : u' 3 = u 3) (e4 : u' 4 = u 4) (e5 : u' 5 = u 5) (e6 : u' 6 = u 6) (e7 : u' 7 = u 7) (f6 : v' 6 = v 6) (f7 : v' 7 = v 7) (f8 : v' 8 = v 8) (f9 : v' 9 = v 9) (f10 : v' 10 = v 10) : IR u' v' h N ar := by
  simp only [IR, e3, e4, e5, e6, e7, f6, f7, f8, f9, f10] at hI ⊢; exact hI
theorem IT_cg {u v u' v' : Mem} {h ar : Nat} (hI : IT u v h ar) (e9 : u' 9 = u 9) (e10 : u' 10 = u 10) (f1 : v' 1 = v 1) (f2 : v' 2 = v 2) : IT u' v' h ar := by
  simp only [IT, e9, e10, f1, f2] at hI ⊢; exact hI
theorem IB_cg {u v u' v' : Mem} {h w : Nat} (hI : IB u v h w) (e11 : u' 11 = u 11) (e12 : u' 12 = u 12) (e13 : u' 13 = u 13) (e20 : u' 20 = u 20) (f0 : v' 0 = v 0) (f3 : v' 3 = v 3) (f4 : v' 4 = v 4) (f5 : v' 5 = v 5) : IB u' v' h w := by
  have hw : ∀ x, wl v' x = wl v x := fun x => by funext k; simp only [wl, f4]
  have hn : ∀ l, nowS v' h w l = nowS v h w l := fun l => by simp only [nowS, hw, f0, f5]
  simp only [IB, e11, e12, e13, e20, f0, f3, hw, hn] at hI ⊢; exact hI
theorem IG_cg {v v' : Mem} {h N ar : Nat} (hI : IG v h N ar) (f0 : v' 0 = v 0) (f2 : v' 2 = v 2) (f6 : v' 6 = v 6) (f7 : v' 7 = v 7) (f8 : v' 8 = v 8) (f10 : v' 10 = v 10) : IG v' h N ar := by
  have hg : ∀ j t l, gR v' j t l = gR v j t l := fun j t l => by funext k; simp only [gR, f6, f7, f10]
  simp only [IG, f0, f2, f8, hg] at hI ⊢; exact hI
theorem iv_cntR {u v : Mem} {h N w ar : Nat} {x y : Int32} (hI : IV u v h N w ar) (hxy : x.toInt = y.toInt - 1) : cntK (fun k => decide (u 7 k = x)) N = cntK (fun k => decide (v 10 k = y)) N := by
  obtain ⟨-, -, ⟨hr, -⟩, -⟩ := hI
  refine cntK_cg N (fun k hk => ?_)
  obtain ⟨⟨-, -, -, -, a5⟩, -⟩ := hr k hk
  have : u 7 k = x ↔ v 10 k = y := by rw [i_eq, i_eq]; omega
  simp only [this]
theorem iv_cntH {u v : Mem} {h N w ar : Nat} {x y : Int32} (hI : IV u v h N w ar) (hxy : x.toInt = y.toInt - 1) : cntK (fun k => decide (u 10 k = x)) (h + 1) = cntK (fun k => decide (v 2 k = y)) (h + 1) := by
  obtain ⟨-, -, -, ⟨hT, -⟩, -⟩ := hI
  refine cntK_cg (h + 1) (fun k hk => ?_)
  obtain ⟨-, a5, -⟩ := hT k (by omega)
  have : u 10 k = x ↔ v 2 k = y := by rw [i_eq, i_eq]; omega
  simp only [this]
theorem q_archive {x a : Int32} {u v : Mem} (hI : Inv u v) : w_X4_archive x a u (fun r u' => w_X5_archive x a v (fun r' v' => r = r' ∧ Inv u' v')) := by
  obtain ⟨h, N, w, ar, hV⟩ := id hI
  obtain ⟨⟨⟨h1, h2, h3⟩, ⟨n1, n2, n3⟩, -, ⟨r1, r2, r3⟩, -⟩, -⟩ := id hV
  have es : (v 16 0 - 1).toInt = (ar : Int) - 1 := sub1 r2 (by omega) (by omega)
  have yU : ¬ (0 ≤ x.toInt ∧ x.toInt < (ar : Int)) → w_X5_archive x a v (fun r' v' => -101 = r' ∧ Inv u v') := fun q => nm_mk (n_in_f (by rw [l_0, es]; omega) (And.intro (fun _ => ⟨rfl, hI⟩) (fun c => absurd rfl c)))
  refine And.intro (fun c => yU (by have := i_lt.mp c; rw [l_0] at this; omega)) (fun c => And.intro (fun c2 => ?_) (fun c2 => yU (by have := mt i_lt.mpr c2; omega)))
  have hx : 0 ≤ x.toInt ∧ x.toInt < (ar : Int) := ⟨by have := mt i_lt.mpr c; rw [l_0] at this; omega, by have := i_lt.mp c2; omega⟩
  have e1 : x.toInt = (1 + x).toInt - 1 := by rw [i_add (by rw [l_1]; omega) (by rw [l_1]; omega), l_1]; omega
  have yO : ¬ a = 0 → ¬ a = 1 → w_X5_archive x a v (fun r' v' => -102 = r' ∧ Inv u v') := fun q0 q1 => nm_mk (n_in_t (by rw [l_0]; omega) (by rw [es]; omega) (And.intro (fun c => absurd c b01) (fun _ => And.intro (fun c => absurd c q0) (fun _ => And.intro (fun c => absurd c q1) (fun _ => ⟨rfl, hI⟩)))))
  refine And.intro (fun c3 => yO (fun q => by rw [q] at c3; exact absurd c3 (by decide)) (fun q => by rw [q] at c3; exact absurd c3 (by decide))) (fun c3 => And.intro (fun c4 => And.intro (fun c5 => ?_) (fun c5 => ?_)) (fun c4 => yO (fun q => by rw [q] at c4; exact absurd (by decide) c4) (fun q => by rw [q] at c4; exact absurd (by decide) c4)))
  · refine m_countR n1 n3 (fun r hr => nm_mk (n_in_t (by rw [l_0]; omega) (by rw [es]; omega) (And.intro (fun c => absurd c b01) (fun _ => And.intro (fun _ => nm_mk (n_rowsIn n2 n3 (fun r' hr' => ⟨i_eq.mpr ?_, hI⟩))) (fun q => absurd c5 q)))))
    rw [hr, hr', iv_cntR hV e1]
  · have ha1 : a = 1 := i_eq.mpr (by have q1 := mt i_lt.mpr c3; have q2 := i_le.mp c4; have q3 := mt i_eq.mpr c5; rw [l_0] at q1 q3; rw [l_1] at q2 ⊢; omega)
    refine m_countH h1 h3 (fun r hr => nm_mk (n_in_t (by rw [l_0]; omega) (by rw [es]; omega) (And.intro (fun c => absurd c b01) (fun _ => And.intro (fun q => absurd q c5) (fun _ => And.intro (fun _ => nm_mk (n_heightsBy h2 h3 (fun r' hr' => ⟨i_eq.mpr ?_, hI⟩))) (fun q => absurd ha1 q))))))
    rw [hr, hr', iv_cntH hV e1]
theorem q_count {x : Int32} {u v : Mem} (hI : Inv u v) : w_X4_count x u (fun r u' => w_X5_count x v (fun r' v' => r = r' ∧ Inv u' v')) := by
  obtain ⟨h, N, w, ar, hV⟩ := id hI
  obtain ⟨⟨⟨h1, h2, h3⟩, ⟨n1, n2, n3⟩, ⟨w1, w2, w3⟩, ⟨r1, r2, r3⟩, -⟩, -⟩ := id hV
  have em : (-1 : Int32).toInt = (0 : Int32).toInt - 1 := by decide
  have yy : ∀ r : Int32, (x = 0 → r.toInt = (h : Int)) → (x = 1 → r.toInt = (w : Int)) → (x = 2 → r.toInt = ((cntK (fun k => decide (v 10 k = 0)) N : Nat) : Int)) → (x = 3 → r.toInt = (N : Int) - ((cntK (fun k => decide (v 10 k = 0)) N : Nat) : Int)) → (x = 4 → r.toInt = (ar : Int)) → (x = 5 → r.toInt = (h : Int) + 1 - ((cntK (fun k => decide (v 2 k = 0)) (h + 1) : Nat) : Int)) → ((x.toInt < 0 ∨ 5 < x.toInt) → r = -102) → w_X5_count x v (fun r' v' => r = r' ∧ Inv u v') := fun r g0 g1 g2 g3 g4 g5 g6 => by
    refine And.intro (fun c => ⟨i_eq.mpr (by rw [g0 c, h2]), hI⟩) (And.intro (fun c => ⟨i_eq.mpr (by rw [g1 c, w2]), hI⟩) (And.intro (fun c => n_rowsIn n2 n3 (fun r' hr' => ⟨i_eq.mpr (by rw [g2 c, hr']), hI⟩)) (And.intro (fun c => n_rowsIn n2 n3 (fun r' hr' => nm_mk ⟨i_eq.mpr ?_, hI⟩)) (And.intro (fun c => ⟨i_eq.mpr (by rw [g4 c, r2]), hI⟩) (And.intro (fun c => nm_mk (n_heightsBy h2 h3 (fun r' hr' => nm_mk ⟨i_eq.mpr ?_, hI⟩))) (fun c => ⟨g6 c, hI⟩))))))
    · have hc := cntK_le (fun k => decide (v 10 k = 0)) N
      rw [g3 c, i_sub (by omega) (by omega)]; omega
    · have hc := cntK_le (fun k => decide (v 2 k = 0)) (h + 1)
      have e := inc h2 (by omega)
      rw [g5 c, i_sub (by omega) (by omega)]; omega
  have no : ∀ {n : Int32} {m : Int32}, n ≠ m → x = n → x = m → False := fun hn a b => hn (a.symm.trans b)
  refine And.intro (fun c => ?_) (And.intro (fun c => ?_) (And.intro (fun c => m_countR n1 n3 (fun r hr => ?_)) (And.intro (fun c => m_countR n1 n3 (fun r hr => nm_mk ?_)) (And.intro (fun c => ?_) (And.intro (fun c => nm_mk (m_countH h1 h3 (fun r hr => nm_mk ?_))) (fun c => ?_))))))
  · exact yy _ (fun _ => h1) (fun q => (no (by decide) c q).elim) (fun q => (no (by decide) c q).elim) (fun q => (no (by decide) c q).elim) (fun q => (no (by decide) c q).elim) (fun q => (no (by decide) c q).elim) (fun q => by rw [c, l_0] at q; omega)
  · exact yy _ (fun q => (no (by decide) c q).elim) (fun _ => w1) (fun q => (no (by decide) c q).elim) (fun q => (no (by decide) c q).elim) (fun q => (no (by decide) c q).elim) (fun q => (no (by decide) c q).elim) (fun q => by rw [c, l_1] at q; omega)
  · rw [iv_cntR hV em] at hr
    exact yy _ (fun q => (no (by decide) c q).elim) (fun q => (no (by decide) c q).elim) (fun _ => hr) (fun q => (no (by decide) c q).elim) (fun q => (no (by decide) c q).elim) (fun q => (no (by decide) c q).elim) (fun q => by rw [c, l_2] at q; omega)
  · rw [iv_cntR hV em] at hr
    have hc := cntK_le (fun k => decide (v 10 k = 0)) N
    refine yy _ (fun q => (no (by decide) c q).elim) (fun q => (no (by decide) c q).elim) (fun q => (no (by decide) c q).elim) (fun _ => ?_) (fun q => (no (by decide) c q).elim) (fun q => (no (by decide) c q).elim) (fun q => by rw [c, show (3 : Int32).toInt = 3 from rfl] at q; omega)
    rw [i_sub (by omega) (by omega)]; omega
  · exact yy _ (fun q => (no (by decide) c q).elim) (fun q => (no (by decide) c q).elim) (fun q => (no (by decide) c q).elim) (fun q => (no (by decide) c q).elim) (fun _ => r1) (fun q => (no (by decide) c q).elim) (fun q => by rw [c, l_4] at q; omega)
  · rw [iv_cntH hV em] at hr
    have hc := cntK_le (fun k => decide (v 2 k = 0)) (h + 1)
    have e := inc h1 (by omega)
    refine yy _ (fun q => (no (by decide) c q).elim) (fun q => (no (by decide) c q).elim) (fun q => (no (by decide) c q).elim) (fun q => (no (by decide) c q).elim) (fun q => (no (by decide) c q).elim) (fun _ => ?_) (fun q => by rw [c, l_5] at q; omega)
    rw [i_sub (by omega) (by omega)]; omega
  · exact yy _ (fun q => by rw [q, l_0] at c; omega) (fun q => by rw [q, l_1] at c; omega) (fun q => by rw [q, l_2] at c; omega) (fun q => by rw [q, show (3 : Int32).toInt = 3 from rfl] at c; omega) (fun q => by rw [q, l_4] at c; omega) (fun q => by rw [q, l_5] at c; omega) (fun _ => rfl)
theorem q_rule {x : Int32} {u v : Mem} (hI : Inv u v) : w_X4_rule x u (fun r u' => w_X5_rule x v (fun r' v' => r = r' ∧ Inv u' v')) := by
  obtain ⟨h, N, w, ar, hV⟩ := id hI
  obtain ⟨⟨hs1, hs2, hs3, hs4, hs5, hs6⟩, hL, hR, hT, hB, hG⟩ := id hV
  have yO : ¬ (0 ≤ x.toInt ∧ x.toInt ≤ 100) → w_X5_rule x v (fun r' v' => -102 = r' ∧ Inv u v') := fun q => n_in_f (by rw [l_0, l_100]; exact q) (And.intro (fun _ => ⟨rfl, hI⟩) (fun c => absurd rfl c))
  refine And.intro (fun c => yO (by have := i_lt.mp c; rw [l_0] at this; omega)) (fun c => And.intro (fun c2 => nm_mk ?_) (fun c2 => yO (by have := mt i_le.mpr c2; rw [l_100] at this; omega)))
  have hx : 0 ≤ x.toInt ∧ x.toInt ≤ 100 := ⟨by have := mt i_lt.mpr c; rw [l_0] at this; omega, by have := i_le.mp c2; rw [l_100] at this; omega⟩
  refine n_in_t (by rw [l_0]; omega) (by rw [l_100]; omega) (And.intro (fun c => absurd c b01) (fun _ => nm_mk ⟨hs5, h, N, w, ar, ?_, ?_, ?_, ?_, ?_, ?_⟩))
  · rw [IS, ms_o u (j := 15) (a := 18) _ _ (by decide), ms_o v (j := 17) (a := 13) _ _ (by decide), ms_o u (j := 15) (a := 17) _ _ (by decide), ms_o v (j := 17) (a := 15) _ _ (by decide), ms_o u (j := 15) (a := 19) _ _ (by decide), ms_o v (j := 17) (a := 14) _ _ (by decide), ms_o u (j := 15) (a := 16) _ _ (by decide), ms_o v (j := 17) (a := 16) _ _ (by decide), ms_s, ms_s]
    exact ⟨hs1, hs2, hs3, hs4, rfl, hx.1⟩
  · exact IL_cg hL (ms_o _ _ _ (by decide)) (ms_o _ _ _ (by decide))
  · exact IR_cg hR (ms_o _ _ _ (by decide)) (ms_o _ _ _ (by decide)) (ms_o _ _ _ (by decide)) (ms_o _ _ _ (by decide)) (ms_o _ _ _ (by decide)) (ms_o _ _ _ (by decide)) (ms_o _ _ _ (by decide)) (ms_o _ _ _ (by decide)) (ms_o _ _ _ (by decide)) (ms_o _ _ _ (by decide))
  · exact IT_cg hT (ms_o _ _ _ (by decide)) (ms_o _ _ _ (by decide)) (ms_o _ _ _ (by decide)) (ms_o _ _ _ (by decide))
  · exact IB_cg hB (ms_o _ _ _ (by decide)) (ms_o _ _ _ (by decide)) (ms_o _ _ _ (by decide)) (ms_o _ _ _ (by decide)) (ms_o _ _ _ (by decide)) (ms_o _ _ _ (by decide)) (ms_o _ _ _ (by decide)) (ms_o _ _ _ (by decide))
  · exact IG_cg hG (ms_o _ _ _ (by decide)) (ms_o _ _ _ (by decide)) (ms_o _ _ _ (by decide)) (ms_o _ _ _ (by decide)) (ms_o _ _ _ (by decide)) (ms_o _ _ _ (by decide))
theorem IS_cg {u v u' v' : Mem} {h N w ar : Nat} (hI : IS u v h N w ar) (e15 : u' 15 = u 15) (e16 : u' 16 = u 16) (e17 : u' 17 = u 17) (e18 : u' 18 = u 18) (e19 : u' 19 = u 19) (f13 : v' 13 = v 13) (f14 : v' 14 = v 14) (f15 : v' 15 = v 15) (f16 : v' 16 = v 16) (f17 : v' 17 = v 17) : IS u' v' h N w ar := by
  simp only [IS, e15, e16, e17, e18, e19, f13, f14, f15, f16, f17] at hI ⊢; exact hI
theorem q_lay {x y : Int32} {u v : Mem} (hI : Inv u v) : w_X4_lay x y u (fun r u' => w_X5_lay x y v (fun r' v' => r = r' ∧ Inv u' v')) := by
  obtain ⟨h, N, w, ar, hV⟩ := id hI
  obtain ⟨hS, hL, hR, hT, hB, hG⟩ := id hV
  have yO : ¬ (0 ≤ x.toInt ∧ x.toInt ≤ 4) → w_X5_lay x y v (fun r' v' => -102 = r' ∧ Inv u v') := fun q => n_in_f (by rw [l_0, l_4]; exact q) (And.intro (fun _ => ⟨rfl, hI⟩) (fun c => absurd rfl c))
  refine And.intro (fun c => yO (by have := i_lt.mp c; rw [l_0] at this; omega)) (fun c => And.intro (fun c2 => ?_) (fun c2 => yO (by have := mt i_lt.mpr c2; rw [l_5] at this; omega)))
  have hx : 0 ≤ x.toInt ∧ x.toInt ≤ 4 := ⟨by have := mt i_lt.mpr c; rw [l_0] at this; omega, by have := i_lt.mp c2; rw [l_5] at this; omega⟩
  obtain ⟨g, hg⟩ : ∃ g : Nat, x.toInt = (g : Int) := ⟨x.toInt.toNat, by omega⟩
  refine And.intro (vin hg (by omega)) (nm_mk (And.intro (vin hg (by omega)) (nm_mk (n_in_t (by rw [l_0]; omega) (by rw [l_4]; omega) (And.intro (fun c => absurd c b01) (fun _ => And.intro (vin hg (by omega)) (nm_mk (And.intro (vin hg (by omega)) (nm_mk ?_)))))))))
  rw [tn hg]
  refine ⟨hL g (by omega), h, N, w, ar, ?_, ?_, ?_, ?_, ?_, ?_⟩
  · exact IS_cg hS (ms_o _ _ _ (by decide)) (ms_o _ _ _ (by decide)) (ms_o _ _ _ (by decide)) (ms_o _ _ _ (by decide)) (ms_o _ _ _ (by decide)) (ms_o _ _ _ (by decide)) (ms_o _ _ _ (by decide)) (ms_o _ _ _ (by decide)) (ms_o _ _ _ (by decide)) (ms_o _ _ _ (by decide))
  · intro i hi
    rw [ms_i, ms_i, hL i hi]
  · exact IR_cg hR (ms_o _ _ _ (by decide)) (ms_o _ _ _ (by decide)) (ms_o _ _ _ (by decide)) (ms_o _ _ _ (by decide)) (ms_o _ _ _ (by decide)) (ms_o _ _ _ (by decide)) (ms_o _ _ _ (by decide)) (ms_o _ _ _ (by decide)) (ms_o _ _ _ (by decide)) (ms_o _ _ _ (by decide))
  · exact IT_cg hT (ms_o _ _ _ (by decide)) (ms_o _ _ _ (by decide)) (ms_o _ _ _ (by decide)) (ms_o _ _ _ (by decide))
  · exact IB_cg hB (ms_o _ _ _ (by decide)) (ms_o _ _ _ (by decide)) (ms_o _ _ _ (by decide)) (ms_o _ _ _ (by decide)) (ms_o _ _ _ (by decide)) (ms_o _ _ _ (by decide)) (ms_o _ _ _ (by decide)) (ms_o _ _ _ (by decide))
  · exact IG_cg hG (ms_o _ _ _ (by decide)) (ms_o _ _ _ (by decide)) (ms_o _ _ _ (by decide)) (ms_o _ _ _ (by decide)) (ms_o _ _ _ (by decide)) (ms_o _ _ _ (by decide))
theorem nowS_0 {v : Mem} {h l : Nat} : nowS v h 0 l = v 0 (32 * h + l) := rfl
theorem q_drop {u v : Mem} (hI : Inv u v) : w_X4_drop u (fun r u' => w_X5_drop v (fun r' v' => r = r' ∧ Inv u' v')) := by
  obtain ⟨h, N, w, ar, hV⟩ := id hI
  obtain ⟨⟨hs1, hs2, ⟨w1, w2, w3⟩, hs4, hs5, hs6⟩, hL, hR, hT, ⟨hB, -⟩, hG⟩ := id hV
  refine m_startFrom (fun u' a1 a2 a3 a4 => nm_mk ⟨i_eq.mpr (by rw [w1, w2]), h, N, 0, ar, ?_, ?_, ?_, ?_, ?_, ?_⟩)
  · rw [IS, a1 18 (by decide) (by decide) (by decide) (by decide), a1 17 (by decide) (by decide) (by decide) (by decide), a1 16 (by decide) (by decide) (by decide) (by decide), a1 15 (by decide) (by decide) (by decide) (by decide), a3, ms_s, ms_o _ (a := 13) _ _ (by decide), ms_o _ (a := 15) _ _ (by decide), ms_o _ (a := 16) _ _ (by decide), ms_o _ (a := 17) _ _ (by decide)]
    exact ⟨hs1, hs2, ⟨l_0, l_0, by omega⟩, hs4, hs5, hs6⟩
  · exact IL_cg hL (a1 _ (by decide) (by decide) (by decide) (by decide)) (ms_o _ _ _ (by decide))
  · exact IR_cg hR (a1 _ (by decide) (by decide) (by decide) (by decide)) (a1 _ (by decide) (by decide) (by decide) (by decide)) (a1 _ (by decide) (by decide) (by decide) (by decide)) (a1 _ (by decide) (by decide) (by decide) (by decide)) (a1 _ (by decide) (by decide) (by decide) (by decide)) (ms_o _ _ _ (by decide)) (ms_o _ _ _ (by decide)) (ms_o _ _ _ (by decide)) (ms_o _ _ _ (by decide)) (ms_o _ _ _ (by decide))
  · exact IT_cg hT (a1 _ (by decide) (by decide) (by decide) (by decide)) (a1 _ (by decide) (by decide) (by decide) (by decide)) (ms_o _ _ _ (by decide)) (ms_o _ _ _ (by decide))
  · refine ⟨fun l hl => ⟨?_, ?_, fun q => absurd rfl q⟩, fun _ => by rw [a4]; exact l_0, fun q => absurd rfl q⟩
    · rw [(a2 l hl).1, ms_o _ _ _ (by decide)]; exact (hB l hl).1
    · rw [(a2 l hl).2, nowS_0, ms_o _ _ _ (by decide)]; exact (hB l hl).1
  · exact IG_cg hG (ms_o _ _ _ (by decide)) (ms_o _ _ _ (by decide)) (ms_o _ _ _ (by decide)) (ms_o _ _ _ (by decide)) (ms_o _ _ _ (by decide)) (ms_o _ _ _ (by decide))
