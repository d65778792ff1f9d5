def pick (vs : Nat → Int32) (x : Int32) (m : Nat) : Int32 := if m = 0 then x else vs (m - 1)
/-- Rows.redo -/
def rdo (u : Mem) (ab to : Int32) (k : Nat) : Bool := decide (ab.toInt < (u 3 k).toInt ∧ (u 3 k).toInt ≤ to.toInt ∧ u 7 k = -1)
def rdl (u : Mem) (ab to : Int32) (l k : Nat) : Bool := rdo u ab to k && decide ((u 4 k).toInt = (l : Int))
theorem lp_redo (ab to : Int32) (j : Nat) (hj : j ≠ 3 ∧ j ≠ 4 ∧ j ≠ 5 ∧ j ≠ 7 ∧ j ≠ 17) (post : Int32 → Mem → Prop) (K : Int32 → Int32 → Mem → Prop) (u0 : Mem) (N : Nat) (hN : (u0 17 0).toInt = (N : Int)) (hN4 : N ≤ 400) (hlf : ∀ k, k < N → 0 ≤ (u0 4 k).toInt ∧ (u0 4 k).toInt < 32) (hs : ∀ k k', k ≤ k' → k' < N → (u0 3 k).toInt ≤ (u0 3 k').toInt)
    (hK : ∀ (acc y : Int32) (u : Mem), acc.toInt = ((cntK (rdo u0 ab to) N : Nat) : Int) → (∀ a, a ≠ j → u a = u0 a) → (∀ l, l < 32 → u j l = pick (u0 5) (u0 j l) (lastK (rdl u0 ab to l) N)) → K acc y u) :
    ∀ (d i : Nat) (acc y : Int32) (u : Mem), i + d = N → y.toInt = (i : Int) → acc.toInt = ((cntK (rdo u0 ab to) i : Nat) : Int) → (∀ a, a ≠ j → u a = u0 a) → (∀ l, l < 32 → u j l = pick (u0 5) (u0 j l) (lastK (rdl u0 ab to l) i)) → L_X2_redo_6 ab to j 32 post K (d + 1) acc y u := by
  intro d
  induction d with
  | zero =>
    intro i acc y u hi hy ha h1 h2
    have e : i = N := by omega
    subst e
    exact And.intro (fun _ => hK acc y u ha h1 h2) (fun c => absurd (i_le.mpr (by rw [h1 17 (Ne.symm hj.2.2.2.2)]; omega)) c)
  | succ d ih =>
    intro i acc y u hi hy ha h1 h2
    have e3 : u 3 = u0 3 := h1 3 (Ne.symm hj.1)
    have e4 : u 4 = u0 4 := h1 4 (Ne.symm hj.2.1)
    have e5 : u 5 = u0 5 := h1 5 (Ne.symm hj.2.2.1)
    have e7 : u 7 = u0 7 := h1 7 (Ne.symm hj.2.2.2.1)
    have hc := cntK_le (rdo u0 ab to) i
    refine And.intro (fun c => absurd (i_le.mp c) (by rw [h1 17 (Ne.symm hj.2.2.2.2)]; omega)) (fun _ => And.intro (vin hy (by omega)) (nm_mk ?_))
    rw [tn hy, e3]
    refine And.intro (fun c => ?_) (fun c => And.intro (vin hy (by omega)) (nm_mk ?_))
    · have c := i_lt.mp c
      have hno : ∀ k, i ≤ k → k < N → rdo u0 ab to k = false := fun k q1 q2 => by
        have := hs i k q1 q2
        simp only [rdo, decide_eq_false_iff_not]
        omega
      have hno2 : ∀ l k, i ≤ k → k < N → rdl u0 ab to l k = false := fun l k q1 q2 => by simp only [rdl, hno k q1 q2, Bool.false_and]
      refine hK acc y u ?_ h1 (fun l hl => ?_)
      · rw [cntK_stop (show i ≤ N by omega) hno]; exact ha
      · rw [lastK_stop (show i ≤ N by omega) (hno2 l)]; exact h2 l hl
    · have c := mt i_lt.mpr c
      refine And.intro (fun c2 => nm_mk ?_) (fun c2 => And.intro (vin hy (by omega)) (nm_mk ?_))
      · have c2 := i_le.mp c2
        have hno : rdo u0 ab to i = false := by simp only [rdo, decide_eq_false_iff_not]; omega
        refine ih (i + 1) _ _ _ (by omega) (inc hy (by omega)) (by rw [ha]; simp [cntK, hno]) h1 (fun l hl => by rw [h2 l hl]; simp [lastK, rdl, hno])
      · rw [e7]
        have c2 := mt i_le.mpr c2
        refine And.intro (fun c3 => And.intro (vin hy (by omega)) (nm_mk (And.intro (vin hy (by omega)) (nm_mk ?_)))) (fun c3 => nm_mk ?_)
        · rw [e4, e5]
          have hyes : rdo u0 ab to i = true := by simp only [rdo, decide_eq_true_eq]; exact ⟨by omega, by omega, c3⟩
          have hl4 := hlf i (by omega)
          have e9 : (u0 4 i).toInt = (((u0 4 i).toInt.toNat : Nat) : Int) := by omega
          refine And.intro (vin e9 (by omega)) (nm_mk (nm_mk (nm_mk ?_)))
          rw [tn e9]
          refine ih (i + 1) _ _ _ (by omega) (inc hy (by omega)) (by rw [inc ha (by omega)]; simp [cntK, hyes]) (fun a haj => by rw [ms_o _ _ _ haj]; exact h1 a haj) (fun l hl => ?_)
          rw [ms_i]
          by_cases hll : l = (u0 4 i).toInt.toNat
          · have : rdl u0 ab to l i = true := by simp only [rdl, hyes, Bool.true_and, decide_eq_true_eq]; omega
            rw [if_pos hll]; simp [lastK, this, pick]
          · have : rdl u0 ab to l i = false := by simp only [rdl, hyes, Bool.true_and, decide_eq_false_iff_not]; omega
            rw [if_neg hll, h2 l hl]; simp [lastK, this]
        · have hno : rdo u0 ab to i = false := by simp only [rdo, decide_eq_false_iff_not]; exact fun h => c3 h.2.2
          refine ih (i + 1) _ _ _ (by omega) (inc hy (by omega)) (by rw [ha]; simp [cntK, hno]) h1 (fun l hl => by rw [h2 l hl]; simp [lastK, rdl, hno])
theorem m_redo {ab to : Int32} {j N : Nat} {u : Mem} {post : Int32 → Mem → Prop} (hj : j ≠ 3 ∧ j ≠ 4 ∧ j ≠ 5 ∧ j ≠ 7 ∧ j ≠ 17) (hN : (u 17 0).toInt = (N : Int)) (hN4 : N ≤ 400) (hlf : ∀ k, k < N → 0 ≤ (u 4 k).toInt ∧ (u 4 k).toInt < 32) (hs : ∀ k k', k ≤ k' → k' < N → (u 3 k).toInt ≤ (u 3 k').toInt)
    (k : ∀ (r : Int32) (u' : Mem), r.toInt = ((cntK (rdo u ab to) N : Nat) : Int) → (∀ a, a ≠ j → u' a = u a) → (∀ l, l < 32 → u' j l = pick (u 5) (u j l) (lastK (rdl u ab to l) N)) → post r u') : w_X2_redo ab to j 32 u post :=
  ⟨N + 1, lp_redo ab to j hj post _ u N hN hN4 hlf hs (fun acc _ u' h1 h2 h3 => k acc u' h1 h2 h3) N 0 0 0 u (by omega) l_0 l_0 (fun _ _ => rfl) (fun _ _ => rfl)⟩
def ldf (u : Mem) (to : Int32) (l k : Nat) : Bool := decide ((u 3 k).toInt ≤ to.toInt ∧ u 7 k = -1 ∧ (u 4 k).toInt = (l : Int))
theorem m_load {to : Int32} {j N : Nat} {u : Mem} {post : Mem → Prop} (hj : j ≠ 3 ∧ j ≠ 4 ∧ j ≠ 5 ∧ j ≠ 7 ∧ j ≠ 17) (hN : (u 17 0).toInt = (N : Int)) (hN4 : N ≤ 400) (hlf : ∀ k, k < N → 0 ≤ (u 4 k).toInt ∧ (u 4 k).toInt < 32) (hs : ∀ k k', k ≤ k' → k' < N → (u 3 k).toInt ≤ (u 3 k').toInt) (hp : ∀ k, k < N → 1 ≤ (u 3 k).toInt)
    (k : ∀ (u' : Mem), (∀ a, a ≠ j → u' a = u a) → (∀ l, l < 32 → u' j l = pick (u 5) 0 (lastK (ldf u to l) N)) → post u') : w_X2_load to j 32 u post := by
  refine m_fill (by omega) (fun u1 a1 a2 => ?_)
  have e3 : u1 3 = u 3 := a1 3 (Ne.symm hj.1)
  have e4 : u1 4 = u 4 := a1 4 (Ne.symm hj.2.1)
  have e5 : u1 5 = u 5 := a1 5 (Ne.symm hj.2.2.1)
  have e7 : u1 7 = u 7 := a1 7 (Ne.symm hj.2.2.2.1)
  have e17 : u1 17 = u 17 := a1 17 (Ne.symm hj.2.2.2.2)
  refine m_redo hj (by rw [e17]; exact hN) hN4 (by rw [e4]; exact hlf) (by rw [e3]; exact hs) (fun r u2 b1 b2 b3 => k u2 (fun a ha => (b2 a ha).trans (a1 a ha)) (fun l hl => ?_))
  rw [b3 l hl, a2 l hl, e5]
  congr 1
  refine lastK_cg N (fun i hi => ?_)
  have := hp i hi
  simp only [rdl, rdo, ldf, e3, e4, e7, l_0]
  by_cases q1 : (u 3 i).toInt ≤ to.toInt <;> by_cases q2 : u 7 i = -1 <;> by_cases q3 : (u 4 i).toInt = (l : Int) <;> simp [q1, q2, q3]
  all_goals omega
def pB (p : Nat → Int32) (kv st : Int32) (t : Nat) : Bool := decide (p t = kv ∧ (st = 0 ∨ ¬ nI t - nI t / st * st = 0))
theorem m_isPrunable {x st : Int32} {t : Nat} {u : Mem} {post : Int32 → Mem → Prop} (hx : x.toInt = (t : Int)) (ht : t < 201) (hst : 0 ≤ st.toInt) (k1 : pB (u 10) (-1) st t = true → post 1 u) (k0 : pB (u 10) (-1) st t = false → post 0 u) : w_X1_isPrunable x st u post := by
  have hn : x = nI t := i_nI hx (by omega)
  refine And.intro (fun c => ?_) (fun c => ?_)
  · have hs0 : st = 0 := i_eq.mpr (by have := i_le.mp c; rw [l_0] at this ⊢; omega)
    refine m_isGone hx ht (fun c1 => And.intro (fun _ => k1 (by simp [pB, c1, hs0])) (fun q => absurd rfl q)) (fun c1 => And.intro (fun q => absurd q (by decide)) (fun _ => k0 (by simp [pB, c1])))
  · have hs0 : ¬ st = 0 := fun h => c (i_le.mpr (by rw [h]; exact Int.le_refl _))
    refine And.intro hs0 (nm_mk ?_)
    rw [hn]
    refine And.intro (fun c1 => k0 (by simp only [pB, decide_eq_false_iff_not]; exact fun h => h.2.elim hs0 (fun q => q c1))) (fun c1 => ?_)
    rw [← hn]
    refine m_isGone hx ht (fun c2 => And.intro (fun _ => k1 (by simp only [pB, decide_eq_true_eq]; exact ⟨c2, Or.inr c1⟩)) (fun q => absurd rfl q)) (fun c2 => And.intro (fun q => absurd q (by decide)) (fun _ => k0 (by simp [pB, c2])))
theorem lp_countPrunable (f1 st : Int32) (hst : 0 ≤ st.toInt) (post : Int32 → Mem → Prop) (K : Int32 → Int32 → Mem → Prop) (u : Mem) (B : Nat) (hB : f1.toInt = (B : Int)) (hB2 : B ≤ 201) (hK : ∀ acc y : Int32, acc.toInt = ((cntK (pB (u 10) (-1) st) B : Nat) : Int) → K acc y u) : ∀ (d i : Nat) (acc y : Int32), i + d = B → y.toInt = (i : Int) → acc.toInt = ((cntK (pB (u 10) (-1) st) i : Nat) : Int) → L_X1_countPrunable_5 f1 st post K (d + 1) acc y u := by
  intro d
  induction d with
  | zero =>
    intro i acc y hi hy ha
    have e : i = B := by omega
    subst e
    exact And.intro (fun _ => hK acc y ha) (fun c => absurd (i_le.mpr (by omega)) c)
  | succ d ih =>
    intro i acc y hi hy ha
    have hc := cntK_le (pB (u 10) (-1) st) i
    refine And.intro (fun c => absurd (i_le.mp c) (by omega)) (fun _ => m_isPrunable hy (by omega) hst (fun c => And.intro (fun q => absurd q (by decide)) (fun _ => nm_mk (nm_mk ?_))) (fun c => And.intro (fun _ => nm_mk ?_) (fun q => absurd rfl q)))
    · exact ih (i + 1) _ _ (by omega) (inc hy (by omega)) (by rw [inc ha (by omega)]; simp [cntK, c])
    · exact ih (i + 1) _ _ (by omega) (inc hy (by omega)) (by rw [ha]; simp [cntK, c])
theorem m_countPrunable {x st : Int32} {B : Nat} {u : Mem} {post : Int32 → Mem → Prop} (hB : x.toInt = (B : Int)) (hB2 : B ≤ 201) (hst : 0 ≤ st.toInt) (k : ∀ r : Int32, r.toInt = ((cntK (pB (u 10) (-1) st) B : Nat) : Int) → post r u) : w_X1_countPrunable x st u post :=
  ⟨B + 1, lp_countPrunable x st hst post _ u B hB hB2 (fun acc _ h => k acc h) B 0 0 0 (by omega) l_0 l_0⟩
theorem pB_cg {p q : Nat → Int32} {kv st : Int32} {t : Nat} (h : p t = q t) : pB p kv st t = pB q kv st t := by simp only [pB, h]
theorem lp_moveTo (f1 f2 st : Int32) (hst : 0 ≤ st.toInt) (post : Mem → Prop) (K : Int32 → Mem → Prop) (u0 : Mem) (B : Nat) (hB : f2.toInt = (B : Int)) (hB2 : B ≤ 201) (hK : ∀ (y : Int32) (u : Mem), (∀ a, a ≠ 10 → u a = u0 a) → (∀ t, u 10 t = if t < B ∧ pB (u0 10) (-1) st t = true then f1 else u0 10 t) → K y u) : ∀ (d i : Nat) (y : Int32) (u : Mem), i + d = B → y.toInt = (i : Int) → (∀ a, a ≠ 10 → u a = u0 a) → (∀ t, u 10 t = if t < i ∧ pB (u0 10) (-1) st t = true then f1 else u0 10 t) → L_X1_moveTo_3 f1 f2 st post K (d + 1) y u := by
  intro d
  induction d with
  | zero =>
    intro i y u hi hy h1 h2
    have e : i = B := by omega
    subst e
    exact And.intro (fun _ => hK y u h1 h2) (fun c => absurd (i_le.mpr (by omega)) c)
  | succ d ih =>
    intro i y u hi hy h1 h2
    have hui : u 10 i = u0 10 i := by rw [h2 i, if_neg (by omega)]
    refine And.intro (fun c => absurd (i_le.mp c) (by omega)) (fun _ => m_isPrunable hy (by omega) hst (fun c => And.intro (fun q => absurd q (by decide)) (fun _ => And.intro (vin hy (by omega)) (nm_mk (nm_mk ?_)))) (fun c => And.intro (fun _ => nm_mk ?_) (fun q => absurd rfl q)))
    · rw [pB_cg hui] at c
      rw [tn hy]
      refine ih (i + 1) _ _ (by omega) (inc hy (by omega)) (fun a ha => by rw [ms_o _ _ _ ha]; exact h1 a ha) (fun t => ?_)
      rw [ms_i]
      by_cases ht : t = i
      · subst ht; rw [if_pos rfl, if_pos ⟨by omega, c⟩]
      · rw [if_neg ht, h2 t]
        by_cases hq : t < i ∧ pB (u0 10) (-1) st t = true
        · rw [if_pos hq, if_pos ⟨by omega, hq.2⟩]
        · rw [if_neg hq, if_neg (fun q => hq ⟨by omega, q.2⟩)]
    · rw [pB_cg hui] at c
      refine ih (i + 1) _ _ (by omega) (inc hy (by omega)) h1 (fun t => ?_)
      rw [h2 t]
      by_cases hq : t < i ∧ pB (u0 10) (-1) st t = true
      · rw [if_pos hq, if_pos ⟨by omega, hq.2⟩]
      · rw [if_neg hq]
        by_cases ht : t = i
        · subst ht; rw [if_neg (fun q => by rw [c] at q; exact absurd q.2 (by decide))]
        · rw [if_neg (fun q => hq ⟨by omega, q.2⟩)]
theorem m_moveTo {x1 x2 st : Int32} {B : Nat} {u : Mem} {post : Mem → Prop} (hB : x2.toInt = (B : Int)) (hB2 : B ≤ 201) (hst : 0 ≤ st.toInt) (k : ∀ (u' : Mem), (∀ a, a ≠ 10 → u' a = u a) → (∀ t, u' 10 t = if t < B ∧ pB (u 10) (-1) st t = true then x1 else u 10 t) → post u') : w_X1_moveTo x1 x2 st u post :=
  ⟨B + 1, lp_moveTo x1 x2 st hst post _ u B hB hB2 (fun _ u' h1 h2 => k u' h1 h2) B 0 0 u (by omega) l_0 (fun _ _ => rfl) (fun t => by rw [if_neg (by omega)])⟩
theorem lp_keepsAny (f1 f2 : Int32) (post : Int32 → Mem → Prop) (K : Int32 → Mem → Prop) (u : Mem) (B : Nat) (hB : f2.toInt = (B : Int)) (hB2 : B ≤ 201) : ∀ (d i : Nat) (y : Int32), B ≤ i + d → y.toInt = (i : Int) → ((∃ t, i ≤ t ∧ t < B ∧ u 10 t = -1) → post 1 u) → ((∀ t, i ≤ t → t < B → ¬ u 10 t = -1) → ∀ y', K y' u) → L_X1_keepsAny_2 f1 f2 post K (d + 1) y u := by
  intro d
  induction d with
  | zero =>
    intro i y hi hy k1 k0
    exact And.intro (fun _ => k0 (fun t h1 h2 => by omega) y) (fun c => absurd (i_le.mpr (by omega)) c)
  | succ d ih =>
    intro i y hi hy k1 k0
    refine And.intro (fun c => k0 (fun t h1 h2 => by have := i_le.mp c; omega) y) (fun c => ?_)
    have c := mt i_le.mpr c
    refine m_isGone hy (by omega) (fun c1 => And.intro (fun _ => k1 ⟨i, Nat.le_refl i, by omega, c1⟩) (fun q => absurd rfl q)) (fun c1 => And.intro (fun q => absurd q (by decide)) (fun _ => nm_mk ?_))
    refine ih (i + 1) _ (by omega) (inc hy (by omega)) (fun ⟨t, a, b, e⟩ => k1 ⟨t, by omega, b, e⟩) (fun h => k0 (fun t h1 h2 => ?_))
    by_cases ht : t = i
    · rw [ht]; exact c1
    · exact h t (by omega) h2
theorem m_keepsAny {x1 x2 : Int32} {F B : Nat} {u : Mem} {post : Int32 → Mem → Prop} (hF : x1.toInt = (F : Int)) (hB : x2.toInt = (B : Int)) (hB2 : B ≤ 201) (k1 : (∃ t, F ≤ t ∧ t < B ∧ u 10 t = -1) → post 1 u) (k0 : (∀ t, F ≤ t → t < B → ¬ u 10 t = -1) → post 0 u) : w_X1_keepsAny x1 x2 u post :=
  ⟨B + 1, lp_keepsAny x1 x2 post _ u B hB hB2 B F x1 (by omega) hF k1 (fun h _ => k0 h)⟩
