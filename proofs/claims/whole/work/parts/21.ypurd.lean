def rdoY (v : Mem) (ab to : Int32) (k : Nat) : Bool := decide (ab.toInt < (v 7 k).toInt ∧ (v 7 k).toInt ≤ to.toInt ∧ v 10 k = 0)
def rdlY (v : Mem) (ab to : Int32) (l k : Nat) : Bool := rdoY v ab to k && decide ((v 6 k).toInt = (l : Int))
theorem lp_replayed (f1 f2 f3 : Int32) (t : Nat) (ht : f1.toInt = (t : Int)) (ht2 : t ≤ 200) (post : Int32 → Mem → Prop) (K : Int32 → Int32 → Mem → Prop) (v : Mem) (N : Nat) (hN : (v 15 0).toInt = (N : Int)) (hN4 : N ≤ 400) (hK : ∀ acc y : Int32, acc.toInt = ((cntK (rdoY v f1 f2) N : Nat) : Int) → K acc y v) : ∀ (d i : Nat) (acc y : Int32), i + d = N → y.toInt = (i : Int) → acc.toInt = ((cntK (rdoY v f1 f2) i : Nat) : Int) → L_X5_replayed_19 f1 f2 f3 post K (d + 1) acc y v := by
  intro d
  induction d with
  | zero =>
    intro i acc y hi hy ha
    have e : i = N := by omega
    subst e
    exact And.intro (fun _ => hK acc y ha) (fun c => absurd (i_le.mpr (by omega)) c)
  | succ d ih =>
    intro i acc y hi hy ha
    have hc := cntK_le (rdoY v f1 f2) i
    have e1 := inc ht (by omega)
    refine And.intro (fun c => absurd (i_le.mp c) (by omega)) (fun _ => And.intro (vin hy (by omega)) (nm_mk ?_))
    rw [tn hy]
    refine And.intro (fun c => And.intro (vin hy (by omega)) (nm_mk (nm_mk ?_))) (fun c => nm_mk (nm_mk ?_))
    · by_cases q : f1.toInt < (v 7 i).toInt ∧ (v 7 i).toInt ≤ f2.toInt
      · have hyes : rdoY v f1 f2 i = true := by simp only [rdoY, decide_eq_true_eq]; exact ⟨q.1, q.2, c⟩
        refine n_in_t (by omega) q.2 (And.intro (fun z => absurd z (by decide)) (fun _ => nm_mk (nm_mk ?_)))
        exact ih (i + 1) _ _ (by omega) (inc hy (by omega)) (by rw [inc ha (by omega)]; simp [cntK, hyes])
      · have hno : rdoY v f1 f2 i = false := by simp only [rdoY, decide_eq_false_iff_not]; exact fun z => q ⟨z.1, z.2.1⟩
        refine n_in_f (by omega) (And.intro (fun _ => nm_mk (nm_mk ?_)) (fun z => absurd rfl z))
        exact ih (i + 1) _ _ (by omega) (inc hy (by omega)) (by rw [inc0 ha]; simp [cntK, hno])
    · have hno : rdoY v f1 f2 i = false := by simp only [rdoY, decide_eq_false_iff_not]; exact fun z => c z.2.2
      exact ih (i + 1) _ _ (by omega) (inc hy (by omega)) (by rw [inc0 ha]; simp [cntK, hno])
theorem lp_replay21 (f1 f2 f3 : Int32) (t : Nat) (ht : f1.toInt = (t : Int)) (ht2 : t ≤ 200) (post : Int64 → Mem → Prop) (K : Int32 → Mem → Prop) (v0 : Mem) (hK : ∀ y v, (∀ a, a ≠ 12 → v a = v0 a) → (∀ l, l < 32 → v 12 (32 + l) = v0 0 (32 * t + l)) → K y v) : ∀ (d i : Nat) (y : Int32) (v : Mem), i + d = 32 → y.toInt = (i : Int) → (∀ a, a ≠ 12 → v a = v0 a) → (∀ l, l < i → v 12 (32 + l) = v0 0 (32 * t + l)) → L_X5_replay_21 f1 f2 f3 post K (d + 1) y v := by
  intro d
  induction d with
  | zero =>
    intro i y v hi hy h1 h2
    exact And.intro (fun _ => hK y v h1 (fun b hb => h2 b (by omega))) (fun c => absurd (i_le.mpr (by rw [l_32]; omega)) c)
  | succ d ih =>
    intro i y v hi hy h1 h2
    have hx : (32 + y).toInt = ((32 + i : Nat) : Int) := by rw [i_add (by rw [l_32]; omega) (by rw [l_32]; omega), l_32]; omega
    have e := s32 ht hy (by omega) (by omega)
    refine And.intro (fun c => absurd (i_le.mp c) (by rw [l_32]; omega)) (fun _ => nm_mk (nm_mk (nm_mk (And.intro (vin e (by omega)) (nm_mk (And.intro (vin hx (by omega)) (nm_mk (nm_mk ?_))))))))
    rw [tn e, tn hx, h1 0 (by decide)]
    refine ih (i + 1) _ _ (by omega) (inc hy (by omega)) (fun a ha => by rw [ms_o _ _ _ ha]; exact h1 a ha) (fun l hl => ?_)
    rw [ms_i]
    by_cases e : l = i
    · subst e; rw [if_pos rfl]
    · rw [if_neg (by omega)]; exact h2 l (by omega)
theorem lp_replay59 (f1 f2 f3 : Int32) (t : Nat) (ht : f1.toInt = (t : Int)) (ht2 : t ≤ 200) (post : Int64 → Mem → Prop) (K : Int32 → Mem → Prop) (v0 : Mem) (N : Nat) (hN : (v0 15 0).toInt = (N : Int)) (hN4 : N ≤ 400) (hlf : ∀ k, k < N → 0 ≤ (v0 6 k).toInt ∧ (v0 6 k).toInt < 32)
    (hK : ∀ y v, (∀ a, a ≠ 12 → v a = v0 a) → (∀ l, l < 32 → v 12 (32 + l) = pick (v0 8) (v0 12 (32 + l)) (lastK (rdlY v0 f1 f2 l) N)) → K y v) : ∀ (d i : Nat) (y : Int32) (v : Mem), i + d = N → y.toInt = (i : Int) → (∀ a, a ≠ 12 → v a = v0 a) → (∀ l, l < 32 → v 12 (32 + l) = pick (v0 8) (v0 12 (32 + l)) (lastK (rdlY v0 f1 f2 l) i)) → L_X5_replay_59 f1 f2 f3 post K (d + 1) y v := by
  intro d
  induction d with
  | zero =>
    intro i y v hi hy h1 h2
    have e : i = N := by omega
    subst e
    exact And.intro (fun _ => hK y v h1 h2) (fun c => absurd (i_le.mpr (by rw [h1 15 (by decide)]; omega)) c)
  | succ d ih =>
    intro i y v hi hy h1 h2
    have e1 := inc ht (by omega)
    have e6 : v 6 = v0 6 := h1 6 (by decide)
    have e7 : v 7 = v0 7 := h1 7 (by decide)
    have e8 : v 8 = v0 8 := h1 8 (by decide)
    have e10 : v 10 = v0 10 := h1 10 (by decide)
    have skip : rdoY v0 f1 f2 i = false → L_X5_replay_59 f1 f2 f3 post K (d + 1) (y + 1) v := fun hno => ih (i + 1) _ _ (by omega) (inc hy (by omega)) h1 (fun l hl => by rw [h2 l hl]; simp [lastK, rdlY, hno])
    refine And.intro (fun c => absurd (i_le.mp c) (by rw [h1 15 (by decide)]; omega)) (fun _ => And.intro (vin hy (by omega)) (nm_mk ?_))
    rw [tn hy, e10, e7]
    refine And.intro (fun c => And.intro (vin hy (by omega)) (nm_mk (nm_mk ?_))) (fun c => nm_mk (skip (by simp only [rdoY, decide_eq_false_iff_not]; exact fun z => c z.2.2)))
    by_cases q : f1.toInt < (v0 7 i).toInt ∧ (v0 7 i).toInt ≤ f2.toInt
    · have hyes : rdoY v0 f1 f2 i = true := by simp only [rdoY, decide_eq_true_eq]; exact ⟨q.1, q.2, c⟩
      have hl6 := hlf i (by omega)
      have e9 : (v0 6 i).toInt = (((v0 6 i).toInt.toNat : Nat) : Int) := by omega
      have hx : (32 + v0 6 i).toInt = ((32 + (v0 6 i).toInt.toNat : Nat) : Int) := by rw [i_add (by rw [l_32]; omega) (by rw [l_32]; omega), l_32]; omega
      refine n_in_t (by omega) q.2 (And.intro (fun z => absurd z (by decide)) (fun _ => And.intro (vin hy (by omega)) (nm_mk (nm_mk (And.intro (vin hy (by omega)) (nm_mk (And.intro ?_ (nm_mk (nm_mk ?_)))))))))
      · rw [e6]; exact vin hx (by omega)
      · rw [e6, e8, tn hx]
        refine ih (i + 1) _ _ (by omega) (inc hy (by omega)) (fun a ha => by rw [ms_o _ _ _ ha]; exact h1 a ha) (fun l hl => ?_)
        rw [ms_i]
        by_cases hll : l = (v0 6 i).toInt.toNat
        · have : rdlY v0 f1 f2 l i = true := by simp only [rdlY, hyes, Bool.true_and, decide_eq_true_eq]; omega
          rw [if_pos (by omega)]; simp [lastK, this, pick]
        · have : rdlY v0 f1 f2 l i = false := by simp only [rdlY, hyes, Bool.true_and, decide_eq_false_iff_not]; omega
          rw [if_neg (by omega), h2 l hl]; simp [lastK, this]
    · refine n_in_f (by omega) (And.intro (fun _ => nm_mk (skip (by simp only [rdoY, decide_eq_false_iff_not]; exact fun z => q ⟨z.1, z.2.1⟩))) (fun z => absurd rfl z))
theorem lp_replay126 (f1 f2 f3 : Int32) (post : Int64 → Mem → Prop) (K : Int32 → Mem → Prop) (v0 : Mem) (hK : ∀ y v, (∀ a, a ≠ 12 → v a = v0 a) → (∀ l, l < 32 → v 12 (32 + l) = t_leaf l (v0 12 (32 + l))) → K y v) : ∀ (d i : Nat) (y : Int32) (v : Mem), i + d = 32 → y.toInt = (i : Int) → (∀ a, a ≠ 12 → v a = v0 a) → (∀ l, l < i → v 12 (32 + l) = t_leaf l (v0 12 (32 + l))) → (∀ l, i ≤ l → v 12 (32 + l) = v0 12 (32 + l)) → L_X5_replay_126 f1 f2 f3 post K (d + 1) y v := by
  intro d
  induction d with
  | zero =>
    intro i y v hi hy h1 h2 h3
    exact And.intro (fun _ => hK y v h1 (fun b hb => h2 b (by omega))) (fun c => absurd (i_le.mpr (by rw [l_32]; omega)) c)
  | succ d ih =>
    intro i y v hi hy h1 h2 h3
    have hx : (32 + y).toInt = ((32 + i : Nat) : Int) := by rw [i_add (by rw [l_32]; omega) (by rw [l_32]; omega), l_32]; omega
    refine And.intro (fun c => absurd (i_le.mp c) (by rw [l_32]; omega)) (fun _ => nm_mk (nm_mk (And.intro (vin hx (by omega)) (nm_mk (n_ofLeaf hy (by omega) (And.intro (vin hx (by omega)) (nm_mk (nm_mk ?_))))))))
    rw [tn hx, h3 i (Nat.le_refl i)]
    refine ih (i + 1) _ _ (by omega) (inc hy (by omega)) (fun a ha => by rw [ms_o _ _ _ ha]; exact h1 a ha) (fun l hl => ?_) (fun l hl => by rw [ms_n _ _ _ (by omega)]; exact h3 l (by omega))
    rw [ms_i]
    by_cases e : l = i
    · subst e; rw [if_pos rfl]
    · rw [if_neg (by omega)]; exact h2 l (by omega)
theorem lp_replay168 (f1 f2 f3 : Int32) (post : Int64 → Mem → Prop) (K : Int32 → Mem → Prop) (v0 : Mem) (hK : ∀ y v, (∀ a, a ≠ 12 → v a = v0 a) → (∀ n, 32 ≤ n → v 12 n = v0 12 n) → (∀ n, 1 ≤ n → n < 32 → v 12 n = t_join (v 12 (2 * n)) (v 12 (2 * n + 1))) → K y v) : ∀ (i : Nat) (y : Int32) (v : Mem), i < 32 → y.toInt = (i : Int) → (∀ a, a ≠ 12 → v a = v0 a) → (∀ n, 32 ≤ n → v 12 n = v0 12 n) → (∀ n, i < n → n < 32 → v 12 n = t_join (v 12 (2 * n)) (v 12 (2 * n + 1))) → L_X5_replay_168 f1 f2 f3 post K (i + 1) y v := by
  intro i
  induction i with
  | zero =>
    intro y v hi hy h1 h2 h3
    exact And.intro (fun _ => hK y v h1 h2 (fun n a b => h3 n (by omega) b)) (fun c => absurd (i_le.mpr (by rw [l_0]; omega)) c)
  | succ i ih =>
    intro y v hi hy h1 h2 h3
    have e2 : (2 * y).toInt = ((2 * (i + 1) : Nat) : Int) := by rw [i_mul (by rw [l_2]; omega) (by rw [l_2]; omega), l_2]; omega
    have e3 := inc e2 (by omega)
    refine And.intro (fun c => absurd (i_le.mp c) (by rw [l_0]; omega)) (fun _ => nm_mk (And.intro (vin e2 (by omega)) (nm_mk (nm_mk (nm_mk (And.intro (vin e3 (by omega)) (nm_mk (n_ofTwo (And.intro (vin hy (by omega)) (nm_mk (nm_mk ?_)))))))))))
    rw [tn e2, tn e3, tn hy]
    refine ih _ _ (by omega) ((dec1 hy (by omega) (by omega)).trans (by omega)) (fun a ha => by rw [ms_o _ _ _ ha]; exact h1 a ha) (fun n hn => by rw [ms_n _ _ _ (by omega)]; exact h2 n hn) (fun n h4 h5 => ?_)
    by_cases e : n = i + 1
    · subst e
      rw [ms_s, ms_n _ _ _ (by omega), ms_n _ _ _ (by omega)]
    · rw [ms_n _ _ _ e, ms_n _ _ _ (by omega), ms_n _ _ _ (by omega)]
      exact h3 n (by omega) h5
theorem lp_proves (f1 f2 f3 : Int32) (l : Nat) (hl0 : f1.toInt = (l : Int)) (hl : l < 32) (post : Int32 → Mem → Prop) (K : Int32 → Int32 → Mem → Prop) (v : Mem) : ∀ (d i : Nat) (x y : Int32), i + d = 5 → y.toInt = (i : Int) → (∀ y', K (t_climb l (v 11) d i x) y' v) → L_X5_proves_28 f1 f2 f3 post K (d + 1) x y v := by
  intro d
  induction d with
  | zero =>
    intro i x y hi hy hK
    exact And.intro (fun _ => hK y) (fun c => absurd (i_le.mpr (by rw [l_5]; omega)) c)
  | succ d ih =>
    intro i x y hi hy hK
    have hq : l / 2 ^ i < 32 := Nat.lt_of_le_of_lt (Nat.div_le_self _ _) hl
    refine And.intro (fun c => absurd (i_le.mp c) (by rw [l_5]; omega)) (fun _ => nm_mk (nm_mk ?_))
    rw [show f1 >>> (y &&& 31) = nI (l / 2 ^ i) by rw [i_nI hl0 (by omega), i_nI hy (by omega)]; exact b_shr l hl i (by omega)]
    refine And.intro (fun c => And.intro (vin hy (by omega)) (nm_mk (n_ofTwo (nm_mk ?_)))) (fun c => And.intro (vin hy (by omega)) (nm_mk (n_ofTwo (nm_mk ?_))))
    · rw [tn hy]
      refine ih (i + 1) _ _ (by omega) (inc hy (by omega)) (fun y' => ?_)
      have := hK y'
      rw [t_climb, if_pos ((b_rem1 _ (by omega)).mp c)] at this
      exact this
    · rw [tn hy]
      refine ih (i + 1) _ _ (by omega) (inc hy (by omega)) (fun y' => ?_)
      have := hK y'
      rw [t_climb, if_neg (fun h => c ((b_rem1 _ (by omega)).mpr h))] at this
      exact this
theorem lp_rowY (f1 f2 f3 : Int32) (post : Int32 → Mem → Prop) (K : Int32 → Int32 → Mem → Prop) (v : Mem) (N : Nat) (hN : (v 15 0).toInt = (N : Int)) (hN4 : N ≤ 400) (f : Nat → Bool) (hf : ∀ k, k < N → f k = decide (v 6 k = f1 ∧ v 10 k = 0)) (m : Nat) (hP : m < N → post (if f3 = 0 then v 7 m else v 9 m) v) (hK : ∀ s y, m = N → K s y v) : ∀ (d i : Nat) (s y : Int32), i + d = N → y.toInt = (i : Int) → m = fndK f f2 d i s → L_X5_row_28 f1 f2 f3 post K (d + 1) s y v := by
  intro d
  induction d with
  | zero =>
    intro i s y hi hy hl
    exact And.intro (fun _ => hK s y (by rw [hl]; simp [fndK]; omega)) (fun c => absurd (i_le.mpr (by omega)) c)
  | succ d ih =>
    intro i s y hi hy hl
    refine And.intro (fun c => absurd (i_le.mp c) (by omega)) (fun _ => And.intro (vin hy (by omega)) (nm_mk ?_))
    rw [tn hy]
    refine And.intro (fun c1 => And.intro (vin hy (by omega)) (nm_mk (And.intro (fun c2 => ?_) (fun c2 => nm_mk ?_)))) (fun c1 => nm_mk ?_)
    · have hfi : f i = true := by rw [hf i (by omega)]; simp [c1, c2]
      refine And.intro (fun c3 => ?_) (fun c3 => nm_mk (nm_mk ?_))
      · have : m = i := by rw [hl]; simp [fndK, hfi, c3]
        have hp := hP (by omega)
        rw [this] at hp
        refine And.intro (fun c4 => And.intro (vin hy (by omega)) (nm_mk ?_)) (fun c4 => And.intro (vin hy (by omega)) (nm_mk ?_))
        · rw [if_pos c4] at hp; exact hp
        · rw [if_neg c4] at hp; exact hp
      · exact ih (i + 1) _ _ (by omega) (inc hy (by omega)) (by rw [hl]; simp [fndK, hfi, c3])
    · have hfi : f i = false := by rw [hf i (by omega)]; simp only [decide_eq_false_iff_not]; exact fun q => c2 q.1
      exact ih (i + 1) _ _ (by omega) (inc hy (by omega)) (by rw [hl]; simp [fndK, hfi])
    · have hfi : f i = false := by rw [hf i (by omega)]; simp only [decide_eq_false_iff_not]; exact fun q => c1 q.2
      exact ih (i + 1) _ _ (by omega) (inc hy (by omega)) (by rw [hl]; simp [fndK, hfi])
theorem lp_firstY (f1 f2 : Int32) (l : Nat) (hl0 : f1.toInt = (l : Int)) (hl : l < 32) (post : Int32 → Mem → Prop) (K : Int32 → Mem → Prop) (v : Mem) (h : Nat) (hh : (v 13 0).toInt = (h : Int)) (hh2 : h ≤ 200) (f : Nat → Bool) (hf : ∀ t, t < h + 1 → f t = decide (v 2 t = 0 ∧ v 0 (32 * t + l) = f2)) (m : Nat) (hP : ∀ y : Int32, m < h + 1 → y.toInt = (m : Int) → post y v) (hK : ∀ y, m = h + 1 → K y v) : ∀ (d i : Nat) (y : Int32), i + d = h + 1 → y.toInt = (i : Int) → m = fstK f d i → L_X5_first_12 f1 f2 post K (d + 1) y v := by
  intro d
  induction d with
  | zero =>
    intro i y hi hy hm
    exact And.intro (fun _ => hK y (by rw [hm]; simp [fstK]; omega)) (fun c => absurd (i_lt.mpr (by omega)) c)
  | succ d ih =>
    intro i y hi hy hm
    have e := s32 hy hl0 (by omega) (by omega)
    refine And.intro (fun c => absurd (i_lt.mp c) (by omega)) (fun _ => And.intro (vin hy (by omega)) (nm_mk ?_))
    rw [tn hy]
    refine And.intro (fun c1 => nm_mk (nm_mk (And.intro (vin e (by omega)) (nm_mk ?_)))) (fun c1 => nm_mk ?_)
    · rw [tn e]
      refine And.intro (fun c2 => ?_) (fun c2 => nm_mk ?_)
      · have hfi : f i = true := by rw [hf i (by omega)]; simp [c1, c2]
        have : m = i := by rw [hm]; simp [fstK, hfi]
        exact hP y (by omega) (by rw [this]; exact hy)
      · have hfi : f i = false := by rw [hf i (by omega)]; simp [c2]
        exact ih (i + 1) _ (by omega) (inc hy (by omega)) (by rw [hm]; simp [fstK, hfi])
    · have hfi : f i = false := by rw [hf i (by omega)]; simp [c1]
      exact ih (i + 1) _ (by omega) (inc hy (by omega)) (by rw [hm]; simp [fstK, hfi])
