/-- the height of the next row of a leaf from a place on: h + 1 where there is none -/
def nhG (ok : Nat → Nat → Bool) (rh : Nat → Int) (h N i l : Nat) : Int := if fstK (ok l) (N - i) i < N then rh (fstK (ok l) (N - i) i) else (h : Int) + 1
theorem nhG_end {ok : Nat → Nat → Bool} {rh : Nat → Int} {h N l : Nat} : nhG ok rh h N N l = (h : Int) + 1 := by
  simp [nhG, fstK]
theorem nhG_step {ok : Nat → Nat → Bool} {rh : Nat → Int} {h N i l : Nat} (hi : i < N) : nhG ok rh h N i l = if ok l i = true then rh i else nhG ok rh h N (i + 1) l := by
  have e : N - i = (N - (i + 1)) + 1 := by omega
  unfold nhG
  rw [e]
  simp only [fstK]
  by_cases q : ok l i = true
  · simp [q, hi]
  · simp [q]
theorem nhG_cg {ok ok' : Nat → Nat → Bool} {rh rh' : Nat → Int} {h N l : Nat} : ∀ d i, i + d = N → (∀ k, i ≤ k → k < N → ok l k = ok' l k) → (∀ k, i ≤ k → k < N → rh k = rh' k) → nhG ok rh h N i l = nhG ok' rh' h N i l
  | 0, i, hi, _, _ => by rw [show i = N by omega, nhG_end, nhG_end]
  | d + 1, i, hi, h1, h2 => by
    rw [nhG_step (ok := ok) (i := i) (by omega), nhG_step (ok := ok') (i := i) (by omega), h1 i (Nat.le_refl i) (by omega), h2 i (Nat.le_refl i) (by omega), nhG_cg d (i + 1) (by omega) (fun k a b => h1 k (by omega) b) (fun k a b => h2 k (by omega) b)]
def okX (u : Mem) (l k : Nat) : Bool := decide (u 7 k = -1 ∧ (u 4 k).toInt = (l : Int))
def rhX (u : Mem) (k : Nat) : Int := (u 3 k).toInt
/-- some height that is kept lies from a row's height to the next one's -/
def ndG (ok : Nat → Nat → Bool) (rh : Nat → Int) (kp : Nat → Prop) (h N k l : Nat) : Prop := ∃ t : Nat, rh k ≤ (t : Int) ∧ (t : Int) < nhG ok rh h N (k + 1) l ∧ kp t
theorem nhG_bd {ok : Nat → Nat → Bool} {rh : Nat → Int} {h N i l : Nat} (hr : ∀ k, k < N → 1 ≤ rh k ∧ rh k ≤ (h : Int)) : 1 ≤ nhG ok rh h N i l ∧ nhG ok rh h N i l ≤ (h : Int) + 1 := by
  unfold nhG
  split
  · rename_i q; have := hr _ q; omega
  · omega
theorem lp_moveUnneeded (f1 : Int32) (hf1 : ¬ f1 = -1) (post : Mem → Prop) (K : Int32 → Mem → Prop) (u0 : Mem) (N h : Nat) (hN4 : N ≤ 400) (hh : h ≤ 200) (hlf : ∀ k, k < N → 0 ≤ (u0 4 k).toInt ∧ (u0 4 k).toInt < 32) (hr : ∀ k, k < N → 1 ≤ rhX u0 k ∧ rhX u0 k ≤ (h : Int))
    (hK : ∀ (y : Int32) (u : Mem), (∀ a, a ≠ 7 → a ≠ 8 → u a = u0 a) → (∀ k, k < N → (u0 7 k = -1 ∧ ¬ ndG (okX u0) (rhX u0) (fun t => u0 10 t = -1) h N k (u0 4 k).toInt.toNat → u 7 k = f1) ∧ (¬ (u0 7 k = -1 ∧ ¬ ndG (okX u0) (rhX u0) (fun t => u0 10 t = -1) h N k (u0 4 k).toInt.toNat) → u 7 k = u0 7 k)) → K y u) :
    ∀ (i : Nat) (y : Int32) (u : Mem), i ≤ N → y.toInt = (i : Int) - 1 → (∀ a, a ≠ 7 → a ≠ 8 → u a = u0 a) → (∀ k, k < i → u 7 k = u0 7 k) → (∀ l, l < 32 → (u 8 l).toInt = nhG (okX u0) (rhX u0) h N i l) →
      (∀ k, i ≤ k → k < N → (u0 7 k = -1 ∧ ¬ ndG (okX u0) (rhX u0) (fun t => u0 10 t = -1) h N k (u0 4 k).toInt.toNat → u 7 k = f1) ∧ (¬ (u0 7 k = -1 ∧ ¬ ndG (okX u0) (rhX u0) (fun t => u0 10 t = -1) h N k (u0 4 k).toInt.toNat) → u 7 k = u0 7 k)) → L_X2_moveUnneededTo_20 f1 post K (i + 1) y u := by
  intro i
  induction i with
  | zero =>
    intro y u hi hy h1 h2 h3 h4
    exact And.intro (fun _ => hK y u h1 (fun k hk => h4 k (Nat.zero_le k) hk)) (fun c => absurd (i_lt.mpr (by rw [l_0]; omega)) c)
  | succ i ih =>
    intro y u hi hy h1 h2 h3 h4
    have hy' : y.toInt = (i : Int) := by omega
    have hd : (y + (-1)).toInt = (i : Int) - 1 := dec1 hy' (by omega) (by omega)
    have e3 : u 3 = u0 3 := h1 3 (by decide) (by decide)
    have e4 : u 4 = u0 4 := h1 4 (by decide) (by decide)
    have e10 : u 10 = u0 10 := h1 10 (by decide) (by decide)
    refine And.intro (fun c => absurd (i_lt.mp c) (by rw [l_0]; omega)) (fun _ => And.intro (vin hy' (by omega)) (nm_mk ?_))
    rw [tn hy', h2 i (Nat.lt_succ_self i)]
    refine And.intro (fun c => And.intro (vin hy' (by omega)) (nm_mk (And.intro (vin hy' (by omega)) (nm_mk ?_)))) (fun c => nm_mk ?_)
    · rw [e4, e3]
      have hl4 := hlf i (by omega)
      have hri := hr i (by omega)
      obtain ⟨l0, el0⟩ : ∃ l0 : Nat, l0 = (u0 4 i).toInt.toNat := ⟨_, rfl⟩
      have e9 : (u0 4 i).toInt = (l0 : Int) := by omega
      have hl0 : l0 < 32 := by omega
      have hnb := nhG_bd (ok := okX u0) (i := i + 1) (l := l0) hr
      obtain ⟨B, eB⟩ : ∃ B : Nat, (u 8 l0).toInt = (B : Int) := ⟨(u 8 l0).toInt.toNat, by rw [h3 l0 hl0]; omega⟩
      have eB' : nhG (okX u0) (rhX u0) h N (i + 1) l0 = (B : Int) := by rw [← h3 l0 hl0]; exact eB
      obtain ⟨F, eF⟩ : ∃ F : Nat, (u0 3 i).toInt = (F : Int) := ⟨(u0 3 i).toInt.toNat, by have : rhX u0 i = (u0 3 i).toInt := rfl; omega⟩
      have hokl : ∀ l, l < 32 → (okX u0 l i = true ↔ l = l0) := fun l hl => by
        simp only [okX, decide_eq_true_eq]
        constructor
        · intro q; have := q.2; omega
        · intro q; exact ⟨c, by omega⟩
      refine And.intro (vin e9 hl0) (nm_mk ?_)
      rw [tn e9]
      have hst : ∀ (u' : Mem), u' 8 = upd (u 8) l0 (u0 3 i) → ∀ l, l < 32 → (u' 8 l).toInt = nhG (okX u0) (rhX u0) h N i l := fun u' hu' l hl => by
        rw [hu', nhG_step (by omega)]
        by_cases q : l = l0
        · rw [if_pos ((hokl l hl).mpr q), q]; simp [upd, rhX]
        · rw [if_neg (fun z => q ((hokl l hl).mp z))]; simp only [upd, if_neg q]; exact h3 l hl
      refine m_keepsAny eF eB (by omega) (fun q => And.intro (fun z => absurd z (by decide)) (fun _ => And.intro (vin hy' (by omega)) (nm_mk (And.intro (vin e9 hl0) (nm_mk (nm_mk ?_)))))) (fun q => And.intro (fun _ => And.intro (vin hy' (by omega)) (nm_mk (And.intro (vin hy' (by omega)) (nm_mk (And.intro (vin e9 hl0) (nm_mk (nm_mk ?_))))))) (fun z => absurd rfl z))
      · rw [e3]
        have hnd : ndG (okX u0) (rhX u0) (fun t => u0 10 t = -1) h N i (u0 4 i).toInt.toNat := by
          obtain ⟨t, a, b, e⟩ := q
          rw [← el0]
          exact ⟨t, by show (u0 3 i).toInt ≤ _; omega, by rw [eB']; omega, by rw [← e10]; exact e⟩
        refine ih _ _ (by omega) hd (fun a a7 a8 => by rw [ms_o _ _ _ a8]; exact h1 a a7 a8) (fun k hk => by rw [ms_o _ _ _ (by decide)]; exact h2 k (by omega)) (hst _ (by simp [g_ms, va_up])) (fun k k1 k2 => ?_)
        rw [ms_o _ _ _ (by decide)]
        by_cases hk : k = i
        · subst hk
          exact ⟨fun z => absurd hnd z.2, fun _ => h2 k (Nat.lt_succ_self k)⟩
        · exact h4 k (by omega) k2
      · rw [show (g_ms u 7 i f1) 3 = u0 3 by rw [ms_o _ _ _ (by decide), e3]]
        have hnd : ¬ ndG (okX u0) (rhX u0) (fun t => u0 10 t = -1) h N i (u0 4 i).toInt.toNat := by
          rintro ⟨t, a, b, e⟩
          rw [← el0, eB'] at b
          have a : (u0 3 i).toInt ≤ _ := a
          exact q t (by omega) (by omega) (by rw [e10]; exact e)
        refine ih _ _ (by omega) hd (fun a a7 a8 => by rw [ms_o _ _ _ a8, ms_o _ _ _ a7]; exact h1 a a7 a8) (fun k hk => by rw [ms_o _ _ _ (by decide), ms_n _ _ _ (by omega)]; exact h2 k (by omega)) (hst _ (by simp [g_ms, va_up])) (fun k k1 k2 => ?_)
        rw [ms_o _ _ _ (by decide), ms_i]
        by_cases hk : k = i
        · subst hk
          rw [if_pos rfl]
          exact ⟨fun _ => rfl, fun z => absurd ⟨c, hnd⟩ z⟩
        · rw [if_neg hk]; exact h4 k (by omega) k2
    · refine ih _ _ (by omega) hd h1 (fun k hk => h2 k (by omega)) (fun l hl => ?_) (fun k k1 k2 => ?_)
      · rw [nhG_step (by omega), if_neg (by simp only [okX, decide_eq_true_eq]; exact fun z => c z.1)]
        exact h3 l hl
      · by_cases hk : k = i
        · subst hk
          exact ⟨fun z => absurd z.1 c, fun _ => h2 k (Nat.lt_succ_self k)⟩
        · exact h4 k (by omega) k2
theorem m_moveUnneeded {x : Int32} {N h : Nat} {u : Mem} {post : Mem → Prop} (hx : ¬ x = -1) (hN : (u 17 0).toInt = (N : Int)) (hN4 : N ≤ 400) (hh : (u 18 0).toInt = (h : Int)) (hh2 : h ≤ 200) (hlf : ∀ k, k < N → 0 ≤ (u 4 k).toInt ∧ (u 4 k).toInt < 32) (hr : ∀ k, k < N → 1 ≤ rhX u k ∧ rhX u k ≤ (h : Int))
    (k : ∀ (u' : Mem), (∀ a, a ≠ 7 → a ≠ 8 → u' a = u a) → (∀ k, k < N → (u 7 k = -1 ∧ ¬ ndG (okX u) (rhX u) (fun t => u 10 t = -1) h N k (u 4 k).toInt.toNat → u' 7 k = x) ∧ (¬ (u 7 k = -1 ∧ ¬ ndG (okX u) (rhX u) (fun t => u 10 t = -1) h N k (u 4 k).toInt.toNat) → u' 7 k = u 7 k)) → post u') : w_X2_moveUnneededTo x u post := by
  refine nm_mk (m_fill (by omega) (fun u1 a1 a2 => nm_mk ?_))
  have e17 : u1 17 = u 17 := a1 17 (by decide)
  have eo : okX u1 = okX u := by funext l k; simp only [okX, a1 7 (by decide), a1 4 (by decide)]
  have er : rhX u1 = rhX u := by funext k; simp only [rhX, a1 3 (by decide)]
  have e4 : u1 4 = u 4 := a1 4 (by decide)
  have e7 : u1 7 = u 7 := a1 7 (by decide)
  have e10 : u1 10 = u 10 := a1 10 (by decide)
  refine ⟨N + 1, lp_moveUnneeded x hx post _ u1 N h hN4 hh2 (by rw [e4]; exact hlf) (by rw [er]; exact hr) (fun _ u2 b1 b2 => k u2 (fun a h7 h8 => (b1 a h7 h8).trans (a1 a h8)) ?_) N _ u1 (Nat.le_refl N) (by rw [e17]; exact sub1 hN (by omega) (by omega)) (fun _ _ _ => rfl) (fun _ _ => rfl) (fun l hl => ?_) (fun k h1 h2 => by omega)⟩
  · rw [eo, er, e4, e7, e10] at b2; exact b2
  · rw [a2 l hl, nhG_end, inc hh (by omega)]; omega
theorem lp_relabel (f1 f2 : Int32) (post : Mem → Prop) (K : Int32 → Mem → Prop) (u0 : Mem) (h : Nat) (hh : (u0 18 0).toInt = (h : Int)) (hh2 : h ≤ 200) (hK : ∀ (y : Int32) (u : Mem), (∀ a, a ≠ 10 → u a = u0 a) → (∀ t, u 10 t = if t < h + 1 ∧ u0 10 t = f1 then f2 else u0 10 t) → K y u) : ∀ (d i : Nat) (y : Int32) (u : Mem), i + d = h + 1 → y.toInt = (i : Int) → (∀ a, a ≠ 10 → u a = u0 a) → (∀ t, u 10 t = if t < i ∧ u0 10 t = f1 then f2 else u0 10 t) → L_X1_relabel_2 f1 f2 post K (d + 1) y u := by
  intro d
  induction d with
  | zero =>
    intro i y u hi hy h1 h2
    have e : i = h + 1 := by omega
    subst e
    exact And.intro (fun _ => hK y u h1 h2) (fun c => absurd (i_lt.mpr (by rw [h1 18 (by decide)]; omega)) c)
  | succ d ih =>
    intro i y u hi hy h1 h2
    have hui : u 10 i = u0 10 i := by rw [h2 i, if_neg (by omega)]
    refine And.intro (fun c => absurd (i_lt.mp c) (by rw [h1 18 (by decide)]; omega)) (fun _ => And.intro (vin hy (by omega)) (nm_mk ?_))
    rw [tn hy, hui]
    refine And.intro (fun c => And.intro (vin hy (by omega)) (nm_mk (nm_mk ?_))) (fun c => nm_mk ?_)
    · refine ih (i + 1) _ _ (by omega) (inc hy (by omega)) (fun a ha => by rw [ms_o _ _ _ ha]; exact h1 a ha) (fun t => ?_)
      rw [ms_i]
      by_cases ht : t = i
      · subst ht; rw [if_pos rfl, if_pos ⟨by omega, c⟩]
      · rw [if_neg ht, h2 t]
        by_cases hq : t < i ∧ u0 10 t = f1
        · rw [if_pos hq, if_pos ⟨by omega, hq.2⟩]
        · rw [if_neg hq, if_neg (fun q => hq ⟨by omega, q.2⟩)]
    · refine ih (i + 1) _ _ (by omega) (inc hy (by omega)) h1 (fun t => ?_)
      rw [h2 t]
      by_cases hq : t < i ∧ u0 10 t = f1
      · rw [if_pos hq, if_pos ⟨by omega, hq.2⟩]
      · rw [if_neg hq]
        by_cases ht : t = i
        · subst ht; rw [if_neg (fun q => c q.2)]
        · rw [if_neg (fun q => hq ⟨by omega, q.2⟩)]
theorem m_relabel {x1 x2 : Int32} {h : Nat} {u : Mem} {post : Mem → Prop} (hh : (u 18 0).toInt = (h : Int)) (hh2 : h ≤ 200) (k : ∀ (u' : Mem), (∀ a, a ≠ 10 → u' a = u a) → (∀ t, u' 10 t = if t < h + 1 ∧ u 10 t = x1 then x2 else u 10 t) → post u') : w_X1_relabel x1 x2 u post :=
  ⟨h + 2, lp_relabel x1 x2 post _ u h hh hh2 (fun _ u' h1 h2 => k u' h1 h2) (h + 1) 0 0 u (by omega) l_0 (fun _ _ => rfl) (fun t => by rw [if_neg (by omega)])⟩
theorem lp_takeFrom (f1 : Int32) (post : Int32 → Mem → Prop) (K : Int32 → Int32 → Mem → Prop) (u0 : Mem) (N : Nat) (hN : (u0 17 0).toInt = (N : Int)) (hN4 : N ≤ 400) (hK : ∀ (acc y : Int32) (u : Mem), acc.toInt = ((cntK (fun k => decide (u0 7 k = f1)) N : Nat) : Int) → (∀ a, a ≠ 7 → u a = u0 a) → (∀ t, u 7 t = if t < N ∧ u0 7 t = f1 then -1 else u0 7 t) → K acc y u) : ∀ (d i : Nat) (acc y : Int32) (u : Mem), i + d = N → y.toInt = (i : Int) → acc.toInt = ((cntK (fun k => decide (u0 7 k = f1)) i : Nat) : Int) → (∀ a, a ≠ 7 → u a = u0 a) → (∀ t, u 7 t = if t < i ∧ u0 7 t = f1 then -1 else u0 7 t) → L_X2_takeFrom_4 f1 post K (d + 1) acc y u := by
  intro d
  induction d with
  | zero =>
    intro i acc y u hi hy ha h1 h2
    have e : i = N := by omega
    subst e
    exact And.intro (fun _ => hK acc y u ha h1 h2) (fun c => absurd (i_le.mpr (by rw [h1 17 (by decide)]; omega)) c)
  | succ d ih =>
    intro i acc y u hi hy ha h1 h2
    have hui : u 7 i = u0 7 i := by rw [h2 i, if_neg (by omega)]
    have hc := cntK_le (fun k => decide (u0 7 k = f1)) i
    refine And.intro (fun c => absurd (i_le.mp c) (by rw [h1 17 (by decide)]; omega)) (fun _ => And.intro (vin hy (by omega)) (nm_mk ?_))
    rw [tn hy, hui]
    refine And.intro (fun c => And.intro (vin hy (by omega)) (nm_mk (nm_mk (nm_mk ?_)))) (fun c => nm_mk ?_)
    · refine ih (i + 1) _ _ _ (by omega) (inc hy (by omega)) (by rw [inc ha (by omega)]; simp [cntK, c]) (fun a ha => by rw [ms_o _ _ _ ha]; exact h1 a ha) (fun t => ?_)
      rw [ms_i]
      by_cases ht : t = i
      · subst ht; rw [if_pos rfl, if_pos ⟨by omega, c⟩]
      · rw [if_neg ht, h2 t]
        by_cases hq : t < i ∧ u0 7 t = f1
        · rw [if_pos hq, if_pos ⟨by omega, hq.2⟩]
        · rw [if_neg hq, if_neg (fun q => hq ⟨by omega, q.2⟩)]
    · refine ih (i + 1) _ _ _ (by omega) (inc hy (by omega)) (by rw [ha]; simp [cntK, c]) h1 (fun t => ?_)
      rw [h2 t]
      by_cases hq : t < i ∧ u0 7 t = f1
      · rw [if_pos hq, if_pos ⟨by omega, hq.2⟩]
      · rw [if_neg hq]
        by_cases ht : t = i
        · subst ht; rw [if_neg (fun q => c q.2)]
        · rw [if_neg (fun q => hq ⟨by omega, q.2⟩)]
theorem m_takeFrom {x : Int32} {N : Nat} {u : Mem} {post : Int32 → Mem → Prop} (hN : (u 17 0).toInt = (N : Int)) (hN4 : N ≤ 400) (k : ∀ (r : Int32) (u' : Mem), r.toInt = ((cntK (fun k => decide (u 7 k = x)) N : Nat) : Int) → (∀ a, a ≠ 7 → u' a = u a) → (∀ t, u' 7 t = if t < N ∧ u 7 t = x then -1 else u 7 t) → post r u') : w_X2_takeFrom x u post :=
  ⟨N + 1, lp_takeFrom x post _ u N hN hN4 (fun acc _ u' h0 h1 h2 => k acc u' h0 h1 h2) N 0 0 0 u (by omega) l_0 l_0 (fun _ _ => rfl) (fun t => by rw [if_neg (by omega)])⟩
