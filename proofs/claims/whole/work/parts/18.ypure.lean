/-! the reference's own methods, in words of its memory -/
theorem n_in_t {x a b : Int32} {v : Mem} {post : Int32 → Mem → Prop} (h0 : a.toInt ≤ x.toInt) (h1 : x.toInt ≤ b.toInt) (k : post 1 v) : w_X5_in x a b v post :=
  And.intro (fun c => absurd (i_lt.mp c) (by omega)) (fun _ => And.intro (fun c => absurd (i_lt.mp c) (by omega)) (fun _ => k))
theorem n_in_f {x a b : Int32} {v : Mem} {post : Int32 → Mem → Prop} (h : ¬ (a.toInt ≤ x.toInt ∧ x.toInt ≤ b.toInt)) (k : post 0 v) : w_X5_in x a b v post :=
  And.intro (fun _ => k) (fun c => And.intro (fun _ => k) (fun c2 => absurd ⟨by have := mt i_lt.mpr c; omega, by have := mt i_lt.mpr c2; omega⟩ h))
theorem n_isLeaf_t {x : Int32} {v : Mem} {post : Int32 → Mem → Prop} (h0 : 0 ≤ x.toInt) (h1 : x.toInt < 32) (k : post 1 v) : w_X5_isLeaf x v post :=
  n_in_t (by rw [l_0]; omega) (by rw [l_31]; omega) (And.intro (Or.inr rfl) k)
theorem n_isLeaf_f {x : Int32} {v : Mem} {post : Int32 → Mem → Prop} (h : ¬ (0 ≤ x.toInt ∧ x.toInt < 32)) (k : post 0 v) : w_X5_isLeaf x v post :=
  n_in_f (by rw [l_0, l_31]; omega) (And.intro (Or.inl rfl) k)
theorem n_isHeight_t {x : Int32} {v : Mem} {post : Int32 → Mem → Prop} (h0 : 0 ≤ x.toInt) (h1 : x.toInt ≤ (v 13 0).toInt) (k : post 1 v) : w_X5_isHeight x v post :=
  n_in_t (by rw [l_0]; omega) h1 (And.intro (Or.inr rfl) k)
theorem n_isHeight_f {x : Int32} {v : Mem} {post : Int32 → Mem → Prop} (h : ¬ (0 ≤ x.toInt ∧ x.toInt ≤ (v 13 0).toInt)) (k : post 0 v) : w_X5_isHeight x v post :=
  n_in_f (by rw [l_0]; omega) (And.intro (Or.inl rfl) k)
def wl (v : Mem) (x : Int32) (k : Nat) : Bool := decide (v 4 k = x)
theorem lp_lastW (f1 : Int32) (post : Int32 → Mem → Prop) (K : Int32 → Int32 → Mem → Prop) (v : Mem) (w : Nat) (hw : (v 14 0).toInt = (w : Int)) (hw6 : w ≤ 60) (hK : ∀ acc y : Int32, acc.toInt = ((lastK (wl v f1) w : Nat) : Int) - 1 → K acc y v) : ∀ (d i : Nat) (acc y : Int32), i + d = w → y.toInt = (i : Int) → acc.toInt = ((lastK (wl v f1) i : Nat) : Int) - 1 → L_X5_lastOf_4 f1 post K (d + 1) acc y v := by
  intro d
  induction d with
  | zero =>
    intro i acc y hi hy ha
    have e : i = w := by omega
    subst e
    exact And.intro (fun _ => hK acc y ha) (fun c => absurd (i_le.mpr (by omega)) c)
  | succ d ih =>
    intro i acc y hi hy ha
    refine And.intro (fun c => absurd (i_le.mp c) (by omega)) (fun _ => And.intro (vin hy (by omega)) (nm_mk ?_))
    rw [tn hy]
    refine And.intro (fun c => nm_mk ?_) (fun c => nm_mk ?_)
    · exact ih (i + 1) _ _ (by omega) (inc hy (by omega)) (by rw [hy]; simp [lastK, wl, c])
    · exact ih (i + 1) _ _ (by omega) (inc hy (by omega)) (by rw [ha]; simp [lastK, wl, c])
theorem n_lastOf {x : Int32} {w : Nat} {v : Mem} {post : Int32 → Mem → Prop} (hw : (v 14 0).toInt = (w : Int)) (hw6 : w ≤ 60) (k : ∀ r : Int32, r.toInt = ((lastK (wl v x) w : Nat) : Int) - 1 → post r v) : w_X5_lastOf x v post :=
  ⟨w + 1, lp_lastW x post _ v w hw hw6 (fun acc _ h => k acc h) w 0 (-1) 0 (by omega) l_0 l_m1⟩
def nowS (v : Mem) (h w l : Nat) : Int32 := pick (v 5) (v 0 (32 * h + l)) (lastK (wl v (nI l)) w)
theorem n_nowOf {x : Int32} {h w l : Nat} {v : Mem} {post : Int32 → Mem → Prop} (hh : (v 13 0).toInt = (h : Int)) (hh2 : h ≤ 200) (hw : (v 14 0).toInt = (w : Int)) (hw6 : w ≤ 60) (hx : x.toInt = (l : Int)) (hl : l < 32) (k : post (nowS v h w l) v) : w_X5_nowOf x v post := by
  refine n_lastOf hw hw6 (fun r hr => ?_)
  have hle := lastK_le (wl v x) w
  rw [i_nI hx (by omega)] at hr hle
  refine And.intro (fun c => ?_) (fun c => nm_mk (nm_mk ?_))
  · have c := i_le.mp c
    rw [l_0] at c
    have e : r.toInt = (((lastK (wl v (nI l)) w - 1 : Nat)) : Int) := by omega
    refine And.intro (vin e (by omega)) (nm_mk ?_)
    rw [tn e]
    unfold nowS pick at k
    rw [if_neg (by omega)] at k
    exact k
  · have c := mt i_le.mpr c
    rw [l_0] at c
    have e := s32 hh hx (by omega) (by omega)
    refine And.intro (vin e (by omega)) (nm_mk ?_)
    rw [tn e]
    unfold nowS pick at k
    rw [if_pos (by omega)] at k
    exact k
theorem n_ofLeaf {x y : Int32} {l : Nat} {v : Mem} {post : Int32 → Mem → Prop} (hx : x.toInt = (l : Int)) (hl : l < 32) (k : post (t_leaf l y) v) : w_X5_ofLeaf x y v post := by
  refine nm_mk (nm_mk ?_)
  rw [i_nI hx (by omega), Int32.mul_comm]
  exact k
theorem n_ofTwo {x y : Int32} {v : Mem} {post : Int32 → Mem → Prop} (k : post (t_join x y) v) : w_X5_ofTwo x y v post := k
theorem lp_dig1 (f1 : Int32) (t : Nat) (ht : f1.toInt = (t : Int)) (ht2 : t ≤ 200) (post : Int32 → Mem → Prop) (K : Int32 → Mem → Prop) (v0 : Mem) (hK : ∀ y v, (∀ a, a ≠ 12 → v a = v0 a) → (∀ l, l < 32 → v 12 (32 + l) = t_leaf l (v0 0 (32 * t + l))) → K y v) : ∀ (d i : Nat) (y : Int32) (v : Mem), i + d = 32 → y.toInt = (i : Int) → (∀ a, a ≠ 12 → v a = v0 a) → (∀ l, l < i → v 12 (32 + l) = t_leaf l (v0 0 (32 * t + l))) → L_X5_digestOf_2 f1 post K (d + 1) y v := by
  intro d
  induction d with
  | zero =>
    intro i y v hi hy h1 h2
    exact And.intro (fun _ => hK y v h1 (fun b hb => h2 b (by omega))) (fun c => absurd (i_le.mpr (by rw [l_32]; omega)) c)
  | succ d ih =>
    intro i y v hi hy h1 h2
    have hx : (32 + y).toInt = ((32 + i : Nat) : Int) := by rw [i_add (by rw [l_32]; omega) (by rw [l_32]; omega), l_32]; omega
    have e := s32 ht hy (by omega) (by omega)
    refine And.intro (fun c => absurd (i_le.mp c) (by rw [l_32]; omega)) (fun _ => nm_mk (nm_mk (nm_mk (And.intro (vin e (by omega)) (nm_mk (n_ofLeaf hy (by omega) (And.intro (vin hx (by omega)) (nm_mk (nm_mk ?_)))))))))
    rw [tn e, tn hx, h1 0 (by decide)]
    refine ih (i + 1) _ _ (by omega) (inc hy (by omega)) (fun a ha => by rw [ms_o _ _ _ ha]; exact h1 a ha) (fun l hl => ?_)
    rw [ms_i]
    by_cases e : l = i
    · subst e; rw [if_pos rfl]
    · rw [if_neg (by omega)]; exact h2 l (by omega)
theorem lp_dig2 (f1 : Int32) (post : Int32 → Mem → Prop) (K : Int32 → Mem → Prop) (v0 : Mem) (hK : ∀ y v, (∀ a, a ≠ 12 → v a = v0 a) → (∀ n, 32 ≤ n → v 12 n = v0 12 n) → (∀ n, 1 ≤ n → n < 32 → v 12 n = t_join (v 12 (2 * n)) (v 12 (2 * n + 1))) → K y v) : ∀ (i : Nat) (y : Int32) (v : Mem), i < 32 → y.toInt = (i : Int) → (∀ a, a ≠ 12 → v a = v0 a) → (∀ n, 32 ≤ n → v 12 n = v0 12 n) → (∀ n, i < n → n < 32 → v 12 n = t_join (v 12 (2 * n)) (v 12 (2 * n + 1))) → L_X5_digestOf_41 f1 post K (i + 1) y v := by
  intro i
  induction i with
  | zero =>
    intro y v hi hy h1 h2 h3
    exact And.intro (fun _ => hK y v h1 h2 (fun n a b => h3 n (by omega) b)) (fun c => absurd (i_le.mpr (by rw [l_0]; omega)) c)
  | succ i ih =>
    intro y v hi hy h1 h2 h3
    have e2 : (2 * y).toInt = ((2 * (i + 1) : Nat) : Int) := by rw [i_mul (by rw [l_2]; omega) (by rw [l_2]; omega), l_2]; omega
    have e3 := inc e2 (by omega)
    refine And.intro (fun c => absurd (i_le.mp c) (by rw [l_0]; omega)) (fun _ => nm_mk (And.intro (vin e2 (by omega)) (nm_mk (nm_mk (nm_mk (And.intro (vin e3 (by omega)) (nm_mk (n_ofTwo (And.intro (vin hy (by omega)) (nm_mk (nm_mk ?_)))))))))))
    rw [tn e2, tn e3, tn hy]
    refine ih _ _ (by omega) ((dec1 hy (by omega) (by omega)).trans (by omega)) (fun a ha => by rw [ms_o _ _ _ ha]; exact h1 a ha) (fun n hn => by rw [ms_n _ _ _ (by omega)]; exact h2 n hn) (fun n h4 h5 => ?_)
    by_cases e : n = i + 1
    · subst e
      rw [ms_s, ms_n _ _ _ (by omega), ms_n _ _ _ (by omega)]
    · rw [ms_n _ _ _ e, ms_n _ _ _ (by omega), ms_n _ _ _ (by omega)]
      exact h3 n (by omega) h5
theorem n_digestOf {x : Int32} {t : Nat} {v : Mem} {post : Int32 → Mem → Prop} (ht : x.toInt = (t : Int)) (ht2 : t ≤ 200) (k : ∀ v', (∀ a, a ≠ 12 → v' a = v a) → isTree (v' 12) (fun l => v 0 (32 * t + l)) → post (v' 12 1) v') : w_X5_digestOf x v post := by
  refine ⟨33, lp_dig1 x t ht ht2 post _ v (fun y v1 h1 h2 => ?_) 32 0 0 v (by omega) l_0 (fun _ _ => rfl) (fun l hl => absurd hl (Nat.not_lt_zero l))⟩
  refine ⟨32, lp_dig2 x post _ v1 (fun y v2 a1 a2 a3 => And.intro (vin (i := 1) l_1 (by omega)) (nm_mk ?_)) 31 31 v1 (by omega) l_31 (fun _ _ => rfl) (fun _ _ => rfl) (fun n h4 h5 => by omega)⟩
  rw [tn (i := 1) l_1]
  exact k v2 (fun a ha => (a1 a ha).trans (h1 a ha)) ⟨fun l hl => by rw [a2 _ (by omega)]; exact h2 l hl, a3⟩
theorem lp_rowsIn (f1 : Int32) (post : Int32 → Mem → Prop) (K : Int32 → Int32 → Mem → Prop) (v : Mem) (N : Nat) (hN : (v 15 0).toInt = (N : Int)) (hN4 : N ≤ 400) (hK : ∀ acc y : Int32, acc.toInt = ((cntK (fun k => decide (v 10 k = f1)) N : Nat) : Int) → K acc y v) : ∀ (d i : Nat) (acc y : Int32), i + d = N → y.toInt = (i : Int) → acc.toInt = ((cntK (fun k => decide (v 10 k = f1)) i : Nat) : Int) → L_X5_rowsIn_4 f1 post K (d + 1) acc y v := by
  intro d
  induction d with
  | zero =>
    intro i acc y hi hy ha
    have e : i = N := by omega
    subst e
    exact And.intro (fun _ => hK acc y ha) (fun c => absurd (i_le.mpr (by omega)) c)
  | succ d ih =>
    intro i acc y hi hy ha
    have hc := cntK_le (fun k => decide (v 10 k = f1)) i
    refine And.intro (fun c => absurd (i_le.mp c) (by omega)) (fun _ => And.intro (vin hy (by omega)) (nm_mk ?_))
    rw [tn hy]
    refine And.intro (fun c => nm_mk (nm_mk ?_)) (fun c => nm_mk (nm_mk ?_))
    · exact ih (i + 1) _ _ (by omega) (inc hy (by omega)) (by rw [inc ha (by omega)]; simp [cntK, c])
    · exact ih (i + 1) _ _ (by omega) (inc hy (by omega)) (by rw [inc0 ha]; simp [cntK, c])
theorem n_rowsIn {x : Int32} {N : Nat} {v : Mem} {post : Int32 → Mem → Prop} (hN : (v 15 0).toInt = (N : Int)) (hN4 : N ≤ 400) (k : ∀ r : Int32, r.toInt = ((cntK (fun k => decide (v 10 k = x)) N : Nat) : Int) → post r v) : w_X5_rowsIn x v post :=
  ⟨N + 1, lp_rowsIn x post _ v N hN hN4 (fun acc _ q => k acc q) N 0 0 0 (by omega) l_0 l_0⟩
theorem lp_heightsBy (f1 : Int32) (post : Int32 → Mem → Prop) (K : Int32 → Int32 → Mem → Prop) (v : Mem) (h : Nat) (hh : (v 13 0).toInt = (h : Int)) (hh2 : h ≤ 200) (hK : ∀ acc y : Int32, acc.toInt = ((cntK (fun k => decide (v 2 k = f1)) (h + 1) : Nat) : Int) → K acc y v) : ∀ (d i : Nat) (acc y : Int32), i + d = h + 1 → y.toInt = (i : Int) → acc.toInt = ((cntK (fun k => decide (v 2 k = f1)) i : Nat) : Int) → L_X5_heightsBy_4 f1 post K (d + 1) acc y v := by
  intro d
  induction d with
  | zero =>
    intro i acc y hi hy ha
    have e : i = h + 1 := by omega
    subst e
    exact And.intro (fun _ => hK acc y ha) (fun c => absurd (i_lt.mpr (by omega)) c)
  | succ d ih =>
    intro i acc y hi hy ha
    have hc := cntK_le (fun k => decide (v 2 k = f1)) i
    refine And.intro (fun c => absurd (i_lt.mp c) (by omega)) (fun _ => And.intro (vin hy (by omega)) (nm_mk ?_))
    rw [tn hy]
    refine And.intro (fun c => nm_mk (nm_mk ?_)) (fun c => nm_mk (nm_mk ?_))
    · exact ih (i + 1) _ _ (by omega) (inc hy (by omega)) (by rw [inc ha (by omega)]; simp [cntK, c])
    · exact ih (i + 1) _ _ (by omega) (inc hy (by omega)) (by rw [inc0 ha]; simp [cntK, c])
theorem n_heightsBy {x : Int32} {h : Nat} {v : Mem} {post : Int32 → Mem → Prop} (hh : (v 13 0).toInt = (h : Int)) (hh2 : h ≤ 200) (k : ∀ r : Int32, r.toInt = ((cntK (fun k => decide (v 2 k = x)) (h + 1) : Nat) : Int) → post r v) : w_X5_heightsBy x v post :=
  ⟨h + 2, lp_heightsBy x post _ v h hh hh2 (fun acc _ q => k acc q) (h + 1) 0 0 0 (by omega) l_0 l_0⟩
theorem n_goes {x : Int32} {t : Nat} {v : Mem} {post : Int32 → Mem → Prop} (hx : x.toInt = (t : Int)) (ht : t < 201) (k1 : pB (v 2) 0 (v 17 0) t = true → post 1 v) (k0 : pB (v 2) 0 (v 17 0) t = false → post 0 v) : w_X5_goes x v post := by
  have hn : x = nI t := i_nI hx (by omega)
  refine And.intro (vin hx ht) (nm_mk ?_)
  rw [tn hx, hn]
  refine And.intro (fun c => And.intro (fun c1 => k1 (by simp only [pB, decide_eq_true_eq]; exact ⟨c, Or.inl c1⟩)) (fun c1 => And.intro c1 (nm_mk (And.intro (fun c2 => k0 ?_) (fun c2 => k1 ?_))))) (fun c => k0 (by simp [pB, c]))
  · simp only [pB, decide_eq_false_iff_not]; exact fun q => q.2.elim c1 (fun z => z c2)
  · simp only [pB, decide_eq_true_eq]; exact ⟨c, Or.inr c2⟩
