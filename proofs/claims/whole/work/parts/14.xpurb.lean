/-- the digests of a state, as an array of nodes -/
def t_leaf (l : Nat) (x : Int32) : Int32 := 31 * x + nI l
def t_join (l r : Int32) : Int32 := ((31 * l + r) ^^^ (((31 * l + r).toUInt32 >>> ((15 : Int32).toUInt32 &&& Int32.toUInt32 31)).toInt32)) * 739982445
def isTree (t f : Nat → Int32) : Prop := (∀ l, l < 32 → t (32 + l) = t_leaf l (f l)) ∧ ∀ n, 1 ≤ n → n < 32 → t n = t_join (t (2 * n)) (t (2 * n + 1))
theorem isTree_eq {t t' f f' : Nat → Int32} (h : isTree t f) (h' : isTree t' f') (hf : ∀ l, l < 32 → f l = f' l) : ∀ d n, 64 ≤ n + d → 1 ≤ n → n < 64 → t n = t' n := by
  intro d
  induction d with
  | zero => intro n h1 h2 h3; omega
  | succ d ih =>
    intro n h1 h2 h3
    by_cases hn : 32 ≤ n
    · have e : n = 32 + (n - 32) := by omega
      rw [e, h.1 (n - 32) (by omega), h'.1 (n - 32) (by omega), hf (n - 32) (by omega)]
    · rw [h.2 n h2 (by omega), h'.2 n h2 (by omega), ih (2 * n) (by omega) (by omega) (by omega), ih (2 * n + 1) (by omega) (by omega) (by omega)]
theorem i_nI {x : Int32} {k : Nat} (h : x.toInt = (k : Int)) (hk : k < 100000) : x = nI k := i_eq.mpr (by rw [h, nI_toInt (by omega)])
theorem m_ofLeaf {x v : Int32} {l : Nat} {u : Mem} {post : Int32 → Mem → Prop} (hx : x.toInt = (l : Int)) (hl : l < 32) (k : post (t_leaf l v) u) : w_X3_ofLeaf x v u post := by
  refine nm_mk (nm_mk ?_)
  rw [i_nI hx (by omega)]
  exact k
theorem m_join {x y : Int32} {u : Mem} {post : Int32 → Mem → Prop} (k : post (t_join x y) u) : w_X3_join x y u post := k
theorem lp_grow1 (j : Nat) (hj : j ≠ 14) (post : Int32 → Mem → Prop) (K : Int32 → Mem → Prop) (u0 : Mem) (hK : ∀ y u, (∀ a, a ≠ 14 → u a = u0 a) → (∀ l, l < 32 → u 14 (32 + l) = t_leaf l (u0 j l)) → K y u) : ∀ (d i : Nat) (y : Int32) (u : Mem), i + d = 32 → y.toInt = (i : Int) → (∀ a, a ≠ 14 → u a = u0 a) → (∀ l, l < i → u 14 (32 + l) = t_leaf l (u0 j l)) → L_X3_grow_2 j 32 post K (d + 1) y u := by
  intro d
  induction d with
  | zero =>
    intro i y u hi hy h1 h2
    exact And.intro (fun _ => hK y u h1 (fun b hb => h2 b (by omega))) (fun c => absurd (i_le.mpr (by rw [l_32]; omega)) c)
  | succ d ih =>
    intro i y u hi hy h1 h2
    have hx : (32 + y).toInt = ((32 + i : Nat) : Int) := by rw [i_add (by rw [l_32]; omega) (by rw [l_32]; omega), l_32]; omega
    refine And.intro (fun c => absurd (i_le.mp c) (by rw [l_32]; omega)) (fun _ => nm_mk (And.intro (vin hy (by omega)) (nm_mk (m_ofLeaf hy (by omega) (And.intro (vin hx (by omega)) (nm_mk (nm_mk ?_)))))))
    rw [tn hy, tn hx, h1 j hj]
    refine ih (i + 1) _ _ (by omega) (inc hy (by omega)) (fun a ha => by rw [ms_o _ _ _ ha]; exact h1 a ha) (fun l hl => ?_)
    rw [ms_i]
    by_cases e : l = i
    · subst e; rw [if_pos rfl]
    · rw [if_neg (by omega)]; exact h2 l (by omega)
theorem lp_grow2 (j : Nat) (post : Int32 → Mem → Prop) (K : Int32 → Mem → Prop) (u0 : Mem) (hK : ∀ y u, (∀ a, a ≠ 14 → u a = u0 a) → (∀ n, 32 ≤ n → u 14 n = u0 14 n) → (∀ n, 1 ≤ n → n < 32 → u 14 n = t_join (u 14 (2 * n)) (u 14 (2 * n + 1))) → K y u) : ∀ (i : Nat) (y : Int32) (u : Mem), i < 32 → y.toInt = (i : Int) → (∀ a, a ≠ 14 → u a = u0 a) → (∀ n, 32 ≤ n → u 14 n = u0 14 n) → (∀ n, i < n → n < 32 → u 14 n = t_join (u 14 (2 * n)) (u 14 (2 * n + 1))) → L_X3_grow_33 j 32 post K (i + 1) y u := by
  intro i
  induction i with
  | zero =>
    intro y u hi hy h1 h2 h3
    exact And.intro (fun _ => hK y u h1 h2 (fun n a b => h3 n (by omega) b)) (fun c => absurd (i_lt.mpr (by rw [l_1]; omega)) c)
  | succ i ih =>
    intro y u hi hy h1 h2 h3
    have e2 : (2 * y).toInt = ((2 * (i + 1) : Nat) : Int) := by rw [i_mul (by rw [l_2]; omega) (by rw [l_2]; omega), l_2]; omega
    have e3 := inc e2 (by omega)
    refine And.intro (fun c => absurd (i_lt.mp c) (by rw [l_1]; omega)) (fun _ => nm_mk (And.intro (vin e2 (by omega)) (nm_mk (nm_mk (nm_mk (And.intro (vin e3 (by omega)) (nm_mk (m_join (And.intro (vin hy (by omega)) (nm_mk (nm_mk ?_))))))))))) 
    rw [tn e2, tn e3, tn hy]
    refine ih _ _ (by omega) ((dec1 hy (by omega) (by omega)).trans (by omega)) (fun a ha => by rw [ms_o _ _ _ ha]; exact h1 a ha) (fun n hn => by rw [ms_n _ _ _ (by omega)]; exact h2 n hn) (fun n h4 h5 => ?_)
    by_cases e : n = i + 1
    · subst e
      rw [ms_s, ms_n _ _ _ (by omega), ms_n _ _ _ (by omega)]
    · rw [ms_n _ _ _ e, ms_n _ _ _ (by omega), ms_n _ _ _ (by omega)]
      exact h3 n (by omega) h5
theorem m_grow {j : Nat} {u : Mem} {post : Int32 → Mem → Prop} (hj : j ≠ 14) (k : ∀ u', (∀ a, a ≠ 14 → u' a = u a) → isTree (u' 14) (u j) → post (u' 14 1) u') : w_X3_grow j 32 u post := by
  refine ⟨33, lp_grow1 j hj post _ u (fun y u1 h1 h2 => ?_) 32 0 0 u (by omega) l_0 (fun _ _ => rfl) (fun l hl => absurd hl (Nat.not_lt_zero l))⟩
  refine ⟨32, lp_grow2 j post _ u1 (fun y u2 a1 a2 a3 => And.intro (vin (i := 1) l_1 (by omega)) (nm_mk ?_)) 31 31 u1 (by omega) l_31 (fun _ _ => rfl) (fun _ _ => rfl) (fun n h4 h5 => by omega)⟩
  rw [tn (i := 1) l_1]
  exact k u2 (fun a ha => (a1 a ha).trans (h1 a ha)) ⟨fun l hl => by rw [a2 _ (by omega)]; exact h2 l hl, a3⟩
/-- Tree.climb, over what is laid -/
def t_climb (l : Nat) (f : Nat → Int32) : Nat → Nat → Int32 → Int32
  | 0, _, x => x
  | d + 1, i, x => t_climb l f d (i + 1) (if l / 2 ^ i % 2 = 0 then t_join x (f i) else t_join (f i) x)
theorem t_climb_cg {l : Nat} {f g : Nat → Int32} : ∀ d i x, (∀ k, i ≤ k → k < i + d → f k = g k) → t_climb l f d i x = t_climb l g d i x
  | 0, _, _, _ => rfl
  | d + 1, i, x, h => by simp only [t_climb, h i (Nat.le_refl i) (by omega), t_climb_cg d (i + 1) _ (fun k h1 h2 => h k (by omega) (by omega))]
theorem b_shr : ∀ l, l < 32 → ∀ i, i < 5 → nI l >>> (nI i &&& 31) = nI (l / 2 ^ i) := by decide
theorem b_and1 : ∀ k, k < 32 → (nI k &&& 1 = 0 ↔ k % 2 = 0) := by decide
theorem b_rem1 : ∀ k, k < 64 → (nI k - nI k / 2 * 2 = 0 ↔ k % 2 = 0) := by decide
theorem lp_climb (f0 f1 : Int32) (l : Nat) (hl0 : f0.toInt = (l : Int)) (hl : l < 32) (post : Int32 → Mem → Prop) (K : Int32 → Int32 → Mem → Prop) (u : Mem) : ∀ (d i : Nat) (x y : Int32), i + d = 5 → y.toInt = (i : Int) → (∀ y', K (t_climb l (u 0) d i x) y' u) → L_X3_climb_9 f0 f1 0 5 post K (d + 1) x y u := by
  intro d
  induction d with
  | zero =>
    intro i x y hi hy hK
    exact And.intro (fun _ => hK y) (fun c => absurd (i_le.mpr (by rw [l_5]; omega)) c)
  | succ d ih =>
    intro i x y hi hy hK
    have hq : l / 2 ^ i < 32 := Nat.lt_of_le_of_lt (Nat.div_le_self _ _) hl
    refine And.intro (fun c => absurd (i_le.mp c) (by rw [l_5]; omega)) (fun _ => nm_mk (nm_mk ?_))
    rw [show f0 >>> (y &&& 31) = nI (l / 2 ^ i) by rw [i_nI hl0 (by omega), i_nI hy (by omega)]; exact b_shr l hl i (by omega)]
    refine And.intro (fun c => And.intro (vin hy (by omega)) (nm_mk (m_join (nm_mk ?_)))) (fun c => And.intro (vin hy (by omega)) (nm_mk (m_join (nm_mk ?_))))
    · rw [tn hy]
      refine ih (i + 1) _ _ (by omega) (inc hy (by omega)) (fun y' => ?_)
      have := hK y'
      rw [t_climb, if_pos ((b_and1 _ hq).mp c)] at this
      exact this
    · rw [tn hy]
      refine ih (i + 1) _ _ (by omega) (inc hy (by omega)) (fun y' => ?_)
      have := hK y'
      rw [t_climb, if_neg (fun h => c ((b_and1 _ hq).mpr h))] at this
      exact this
theorem m_climb {x v : Int32} {l : Nat} {u : Mem} {post : Int32 → Mem → Prop} (hx : x.toInt = (l : Int)) (hl : l < 32) (k : post (t_climb l (u 0) 5 0 (t_leaf l v)) u) : w_X3_climb x v 0 5 u post :=
  m_ofLeaf hx hl ⟨6, lp_climb x v l hx hl post _ u 5 0 _ 0 (by omega) l_0 (fun _ => k)⟩
theorem b_bes : ∀ l, l < 32 → ∀ i, i < 5 → (((32 : Int32) + nI l) >>> (nI i &&& 31)) = nI ((32 + l) / 2 ^ i) := by decide
theorem b_xor1 : ∀ k, k < 64 → (nI k ^^^ 1) = nI (if k % 2 = 0 then k + 1 else k - 1) := by decide
theorem b_pos : ∀ l, l < 32 → ∀ i, i < 5 → 2 ≤ (32 + l) / 2 ^ i ∧ (32 + l) / 2 ^ i < 64 := by decide
theorem m_beside {x y : Int32} {l i : Nat} {u : Mem} {post : Int32 → Mem → Prop} (hx : x.toInt = (l : Int)) (hl : l < 32) (hy : y.toInt = (i : Int)) (hi : i < 5) (k : post (u 14 (if (32 + l) / 2 ^ i % 2 = 0 then (32 + l) / 2 ^ i + 1 else (32 + l) / 2 ^ i - 1)) u) : w_X3_beside x y u post := by
  have hb := b_pos l hl i hi
  refine nm_mk (nm_mk (nm_mk ?_))
  rw [i_nI hx (by omega), i_nI hy (by omega), b_bes l hl i hi, b_xor1 _ hb.2]
  have hlt : (if (32 + l) / 2 ^ i % 2 = 0 then (32 + l) / 2 ^ i + 1 else (32 + l) / 2 ^ i - 1) < 64 := by split <;> omega
  have e : (nI (if (32 + l) / 2 ^ i % 2 = 0 then (32 + l) / 2 ^ i + 1 else (32 + l) / 2 ^ i - 1)).toInt = ((if (32 + l) / 2 ^ i % 2 = 0 then (32 + l) / 2 ^ i + 1 else (32 + l) / 2 ^ i - 1 : Nat) : Int) := nI_toInt (by omega)
  refine And.intro (vin e hlt) (nm_mk ?_)
  rw [tn e]
  exact k
/-- Rows.lastOf -/
theorem lp_lastOf (f1 f2 : Int32) (post : Int32 → Mem → Prop) (K : Int32 → Mem → Prop) (u : Mem) (N : Nat) (hN : N ≤ 400) (f : Nat → Bool) (hf : ∀ k, k < N → f k = decide (u 3 k ≤ f2 ∧ u 4 k = f1 ∧ u 7 k = -1)) (hP : ∀ (y : Int32) (m : Nat), lastK f N = m + 1 → y.toInt = (m : Int) → post y u) (hK : ∀ y, lastK f N = 0 → K y u) : ∀ (i : Nat) (y : Int32), i ≤ N → y.toInt = (i : Int) - 1 → lastK f N = lastK f i → L_X2_lastOf_7 f1 f2 post K (i + 1) y u := by
  intro i
  induction i with
  | zero =>
    intro y hi hy hl
    exact And.intro (fun _ => hK y hl) (fun c => absurd (i_lt.mpr (by rw [l_0]; omega)) c)
  | succ i ih =>
    intro y hi hy hl
    have hy' : y.toInt = (i : Int) := by omega
    refine And.intro (fun c => absurd (i_lt.mp c) (by rw [l_0]; omega)) (fun _ => And.intro (vin hy' (by omega)) (nm_mk ?_))
    rw [tn hy']
    have hd : (y + (-1)).toInt = (i : Int) - 1 := dec1 hy' (by omega) (by omega)
    refine And.intro (fun c => nm_mk (ih _ (by omega) hd ?_)) (fun c => m_isOf hy' (by omega) (fun c1 c2 => And.intro (fun q => absurd q (by decide)) (fun _ => ?_)) (fun c1 => And.intro (fun _ => nm_mk (ih _ (by omega) hd ?_)) (fun q => absurd rfl q)))
    · have : f i = false := by rw [hf i (by omega)]; simp; intro h; exact absurd (i_le.mp h) (by have := i_lt.mp c; omega)
      rw [hl]; simp [lastK, this]
    · have : f i = true := by rw [hf i (by omega)]; simp [c1, c2]; exact i_le.mpr (by have := mt i_lt.mpr c; omega)
      exact hP y i (by rw [hl]; simp [lastK, this]) hy'
    · have : f i = false := by rw [hf i (by omega)]; simp; intro _ h; exact fun h2 => c1 ⟨h, h2⟩
      rw [hl]; simp [lastK, this]
theorem m_lastOf {x h : Int32} {N : Nat} {u : Mem} {post : Int32 → Mem → Prop} (hN : (u 17 0).toInt = (N : Int)) (hN4 : N ≤ 400) (f : Nat → Bool) (hf : ∀ k, k < N → f k = decide (u 3 k ≤ h ∧ u 4 k = x ∧ u 7 k = -1)) (k0 : lastK f N = 0 → post (-1) u) (k1 : ∀ (y : Int32) (m : Nat), lastK f N = m + 1 → y.toInt = (m : Int) → post y u) : w_X2_lastOf x h u post :=
  nm_mk ⟨N + 1, lp_lastOf x h post _ u N hN4 f hf k1 (fun _ h0 => k0 h0) N _ (Nat.le_refl N) (sub1 hN (by omega) (by omega)) rfl⟩
