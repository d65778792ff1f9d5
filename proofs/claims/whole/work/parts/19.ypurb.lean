def okY (v : Mem) (l k : Nat) : Bool := decide (v 10 k = 0 ∧ (v 6 k).toInt = (l : Int))
def rhY (v : Mem) (k : Nat) : Int := (v 7 k).toInt
/-- isNeeded: first the next row's height, then the heights between -/
theorem lp_need1 (f1 : Int32) (kx l : Nat) (post : Int32 → Mem → Prop) (K : Int32 → Int32 → Mem → Prop) (v : Mem) (N h : Nat) (hN : (v 15 0).toInt = (N : Int)) (hN4 : N ≤ 400) (hk : f1.toInt = (kx : Int)) (hkN : kx < N) (hl : (v 6 kx).toInt = (l : Int)) (hr : ∀ k, k < N → 1 ≤ rhY v k ∧ rhY v k ≤ (h : Int)) (hs : ∀ k k', k ≤ k' → k' < N → rhY v k ≤ rhY v k')
    (hK : ∀ acc y : Int32, acc.toInt = nhG (okY v) (rhY v) h N (kx + 1) l → K acc y v) :
    ∀ (d i : Nat) (acc y : Int32), i + d = N → y.toInt = (i : Int) → ((acc.toInt = (h : Int) + 1 ∧ nhG (okY v) (rhY v) h N (kx + 1) l = nhG (okY v) (rhY v) h N i l) ∨ (acc.toInt = nhG (okY v) (rhY v) h N (kx + 1) l ∧ ∀ j, i ≤ j → j < N → acc.toInt ≤ rhY v j)) → L_X5_isNeeded_11 f1 post K (d + 1) acc y v := by
  intro d
  induction d with
  | zero =>
    intro i acc y hi hy ha
    have e : i = N := by omega
    subst e
    refine And.intro (fun _ => hK acc y ?_) (fun c => absurd (i_le.mpr (by omega)) c)
    rcases ha with ⟨a, b⟩ | ⟨a, b⟩
    · rw [b, nhG_end]; exact a
    · exact a
  | succ d ih =>
    intro i acc y hi hy ha
    have hri := hr i (by omega)
    refine And.intro (fun c => absurd (i_le.mp c) (by omega)) (fun _ => And.intro (vin hy (by omega)) (nm_mk ?_))
    rw [tn hy]
    have hskip : okY v l i = false → ((acc.toInt = (h : Int) + 1 ∧ nhG (okY v) (rhY v) h N (kx + 1) l = nhG (okY v) (rhY v) h N (i + 1) l) ∨ (acc.toInt = nhG (okY v) (rhY v) h N (kx + 1) l ∧ ∀ j, i + 1 ≤ j → j < N → acc.toInt ≤ rhY v j)) := fun q => by
      rcases ha with ⟨a, b⟩ | ⟨a, b⟩
      · refine Or.inl ⟨a, ?_⟩
        rw [b, nhG_step (by omega), q]; simp
      · exact Or.inr ⟨a, fun j h1 h2 => b j (by omega) h2⟩
    refine And.intro (fun c => And.intro (vin hy (by omega)) (nm_mk (And.intro (vin hk (by omega)) (nm_mk ?_)))) (fun c => nm_mk ?_)
    · rw [tn hk]
      refine And.intro (fun c1 => And.intro (vin hy (by omega)) (nm_mk ?_)) (fun c1 => nm_mk ?_)
      · have hok : okY v l i = true := by simp only [okY, decide_eq_true_eq]; exact ⟨c, by rw [c1]; exact hl⟩
        refine And.intro (fun c2 => nm_mk ?_) (fun c2 => And.intro (vin hy (by omega)) (nm_mk (nm_mk ?_)))
        · have c2 := i_le.mp c2
          refine ih (i + 1) _ _ (by omega) (inc hy (by omega)) ?_
          rcases ha with ⟨a, b⟩ | ⟨a, b⟩
          · have : rhY v i = (v 7 i).toInt := rfl
            omega
          · exact Or.inr ⟨a, fun j h1 h2 => b j (by omega) h2⟩
        · have c2 := mt i_le.mpr c2
          refine ih (i + 1) _ _ (by omega) (inc hy (by omega)) ?_
          rcases ha with ⟨a, b⟩ | ⟨a, b⟩
          · refine Or.inr ⟨?_, fun j h1 h2 => hs i j (by omega) h2⟩
            rw [b, nhG_step (by omega), if_pos hok]; rfl
          · have := b i (Nat.le_refl i) (by omega)
            have e : rhY v i = (v 7 i).toInt := rfl
            omega
      · exact ih (i + 1) _ _ (by omega) (inc hy (by omega)) (hskip (by simp only [okY, decide_eq_false_iff_not]; exact fun q => c1 (i_eq.mpr (by rw [q.2, hl]))))
    · exact ih (i + 1) _ _ (by omega) (inc hy (by omega)) (hskip (by simp only [okY, decide_eq_false_iff_not]; exact fun q => c q.1))
theorem lp_need2 (f1 f2 : Int32) (post : Int32 → Mem → Prop) (K : Int32 → Int32 → Mem → Prop) (v : Mem) (B F : Nat) (hB : f2.toInt = (B : Int)) (hB2 : B ≤ 201) (hK1 : (∃ t, F ≤ t ∧ t < B ∧ v 2 t = 0) → ∀ y, K 1 y v) (hK0 : (∀ t, F ≤ t → t < B → ¬ v 2 t = 0) → ∀ y, K 0 y v) :
    ∀ (d i : Nat) (acc y : Int32), B ≤ i + d → F ≤ i → y.toInt = (i : Int) → ((acc = 1 ∧ ∃ t, F ≤ t ∧ t < B ∧ v 2 t = 0) ∨ (acc = 0 ∧ ∀ t, F ≤ t → t < i → ¬ v 2 t = 0)) → L_X5_isNeeded_80 f1 f2 post K (d + 1) acc y v := by
  intro d
  induction d with
  | zero =>
    intro i acc y hi hF hy ha
    refine And.intro (fun _ => ?_) (fun c => absurd (i_le.mpr (by omega)) c)
    rcases ha with ⟨rfl, a⟩ | ⟨rfl, a⟩
    · exact hK1 a y
    · exact hK0 (fun t h1 h2 => a t h1 (by omega)) y
  | succ d ih =>
    intro i acc y hi hF hy ha
    refine And.intro (fun c => ?_) (fun c => ?_)
    · have c := i_le.mp c
      rcases ha with ⟨rfl, a⟩ | ⟨rfl, a⟩
      · exact hK1 a y
      · exact hK0 (fun t h1 h2 => a t h1 (by omega)) y
    · have c := mt i_le.mpr c
      refine And.intro (fun c1 => And.intro (vin hy (by omega)) (nm_mk ?_)) (fun c1 => nm_mk ?_)
      · rw [tn hy]
        rcases ha with ⟨rfl, a⟩ | ⟨rfl, a⟩
        · exact absurd c1 (by decide)
        · refine And.intro (fun c2 => nm_mk (ih (i + 1) _ _ (by omega) (by omega) (inc hy (by omega)) (Or.inl ⟨rfl, i, hF, by omega, c2⟩))) (fun c2 => nm_mk (ih (i + 1) _ _ (by omega) (by omega) (inc hy (by omega)) (Or.inr ⟨rfl, fun t h1 h2 => ?_⟩)))
          by_cases ht : t = i
          · rw [ht]; exact c2
          · exact a t h1 (by omega)
      · rcases ha with ⟨rfl, a⟩ | ⟨rfl, a⟩
        · exact ih (i + 1) _ _ (by omega) (by omega) (inc hy (by omega)) (Or.inl ⟨rfl, a⟩)
        · exact absurd rfl c1
theorem n_isNeeded {x : Int32} {kx l N h : Nat} {v : Mem} {post : Int32 → Mem → Prop} (hN : (v 15 0).toInt = (N : Int)) (hN4 : N ≤ 400) (hh : (v 13 0).toInt = (h : Int)) (hh2 : h ≤ 200) (hk : x.toInt = (kx : Int)) (hkN : kx < N) (hl : (v 6 kx).toInt = (l : Int)) (hr : ∀ k, k < N → 1 ≤ rhY v k ∧ rhY v k ≤ (h : Int)) (hs : ∀ k k', k ≤ k' → k' < N → rhY v k ≤ rhY v k')
    (k1 : ndG (okY v) (rhY v) (fun t => v 2 t = 0) h N kx l → post 1 v) (k0 : ¬ ndG (okY v) (rhY v) (fun t => v 2 t = 0) h N kx l → post 0 v) : w_X5_isNeeded x v post := by
  have e1 : ((v 13 0) + 1).toInt = ((h + 1 : Nat) : Int) := inc hh (by omega)
  have e2 : (x + 1).toInt = ((kx + 1 : Nat) : Int) := inc hk (by omega)
  refine nm_mk (nm_mk ⟨(N - (kx + 1)) + 1, lp_need1 x kx l post _ v N h hN hN4 hk hkN hl hr hs (fun acc y hacc => And.intro (vin hk (by omega)) (nm_mk ?_)) (N - (kx + 1)) (kx + 1) _ _ (by omega) e2 (Or.inl ⟨by rw [e1]; omega, rfl⟩)⟩)
  rw [tn hk]
  have hb := nhG_bd (ok := okY v) (i := kx + 1) (l := l) hr
  have hrk := hr kx hkN
  obtain ⟨B, eB⟩ : ∃ B : Nat, acc.toInt = (B : Int) := ⟨acc.toInt.toNat, by omega⟩
  obtain ⟨F, eF⟩ : ∃ F : Nat, (v 7 kx).toInt = (F : Int) := ⟨(v 7 kx).toInt.toNat, by have : rhY v kx = (v 7 kx).toInt := rfl; omega⟩
  refine ⟨B + 1, lp_need2 x acc post _ v B F eB (by omega) (fun ⟨t, a, b, c⟩ _ => And.intro (Or.inr rfl) (k1 ⟨t, ?_, ?_, c⟩)) (fun q _ => And.intro (Or.inl rfl) (k0 ?_)) B F 0 _ (by omega) (Nat.le_refl F) eF (Or.inr ⟨rfl, fun t h1 h2 => by omega⟩)⟩
  · rintro ⟨t, a, b, c⟩
    have a : (v 7 kx).toInt ≤ _ := a
    rw [← hacc] at b
    exact q t (by omega) (by omega) c
  · show (v 7 kx).toInt ≤ _; omega
  · rw [← hacc]; omega
theorem lp_prune15 (f1 : Int32) (post : Int32 → Mem → Prop) (K : Int32 → Int32 → Mem → Prop) (v : Mem) (B : Nat) (hB : f1.toInt = (B : Int)) (hB2 : B ≤ 201) (hK : ∀ acc y : Int32, acc.toInt = ((cntK (pB (v 2) 0 (v 17 0)) B : Nat) : Int) → K acc y v) : ∀ (d i : Nat) (acc y : Int32), i + d = B → y.toInt = (i : Int) → acc.toInt = ((cntK (pB (v 2) 0 (v 17 0)) i : Nat) : Int) → L_X5_prune_15 f1 post K (d + 1) acc y v := by
  intro d
  induction d with
  | zero =>
    intro i acc y hi hy ha
    have e : i = B := by omega
    subst e
    exact And.intro (fun _ => hK acc y ha) (fun c => absurd (i_le.mpr (by omega)) c)
  | succ d ih =>
    intro i acc y hi hy ha
    have hc := cntK_le (pB (v 2) 0 (v 17 0)) i
    refine And.intro (fun c => absurd (i_le.mp c) (by omega)) (fun _ => n_goes hy (by omega) (fun c => And.intro (fun q => absurd q (by decide)) (fun _ => nm_mk (nm_mk ?_))) (fun c => And.intro (fun _ => nm_mk (nm_mk ?_)) (fun q => absurd rfl q)))
    · exact ih (i + 1) _ _ (by omega) (inc hy (by omega)) (by rw [inc ha (by omega)]; simp [cntK, c])
    · exact ih (i + 1) _ _ (by omega) (inc hy (by omega)) (by rw [inc0 ha]; simp [cntK, c])
theorem lp_prune72 (f1 f2 : Int32) (post : Int32 → Mem → Prop) (K : Int32 → Mem → Prop) (v0 : Mem) (B : Nat) (hB : f1.toInt = (B : Int)) (hB2 : B ≤ 201) (hK : ∀ (y : Int32) (v : Mem), (∀ a, a ≠ 2 → v a = v0 a) → (∀ t, v 2 t = if t < B ∧ pB (v0 2) 0 (v0 17 0) t = true then v0 16 0 else v0 2 t) → K y v) : ∀ (d i : Nat) (y : Int32) (v : Mem), i + d = B → y.toInt = (i : Int) → (∀ a, a ≠ 2 → v a = v0 a) → (∀ t, v 2 t = if t < i ∧ pB (v0 2) 0 (v0 17 0) t = true then v0 16 0 else v0 2 t) → L_X5_prune_72 f1 f2 post K (d + 1) y v := by
  intro d
  induction d with
  | zero =>
    intro i y v hi hy h1 h2
    have e : i = B := by omega
    subst e
    exact And.intro (fun _ => hK y v h1 h2) (fun c => absurd (i_le.mpr (by omega)) c)
  | succ d ih =>
    intro i y v hi hy h1 h2
    have hui : v 2 i = v0 2 i := by rw [h2 i, if_neg (by omega)]
    refine And.intro (fun c => absurd (i_le.mp c) (by omega)) (fun _ => n_goes hy (by omega) (fun c => And.intro (fun q => absurd q (by decide)) (fun _ => And.intro (vin hy (by omega)) (nm_mk (nm_mk ?_)))) (fun c => And.intro (fun _ => And.intro (vin hy (by omega)) (nm_mk (And.intro (vin hy (by omega)) (nm_mk (nm_mk ?_))))) (fun q => absurd rfl q)))
    · rw [pB_cg hui, h1 17 (by decide)] at c
      rw [tn hy, h1 16 (by decide)]
      refine ih (i + 1) _ _ (by omega) (inc hy (by omega)) (fun a ha => by rw [ms_o _ _ _ ha]; exact h1 a ha) (fun t => ?_)
      rw [ms_i]
      by_cases ht : t = i
      · subst ht; rw [if_pos rfl, if_pos ⟨by omega, c⟩]
      · rw [if_neg ht, h2 t]
        by_cases hq : t < i ∧ pB (v0 2) 0 (v0 17 0) t = true
        · rw [if_pos hq, if_pos ⟨by omega, hq.2⟩]
        · rw [if_neg hq, if_neg (fun q => hq ⟨by omega, q.2⟩)]
    · rw [pB_cg hui, h1 17 (by decide)] at c
      rw [tn hy]
      refine ih (i + 1) _ _ (by omega) (inc hy (by omega)) (fun a ha => by rw [ms_o _ _ _ ha]; exact h1 a ha) (fun t => ?_)
      rw [ms_i]
      by_cases ht : t = i
      · subst ht; rw [if_pos rfl, hui, if_neg (fun q => by rw [c] at q; exact absurd q.2 (by decide))]
      · rw [if_neg ht, h2 t]
        by_cases hq : t < i ∧ pB (v0 2) 0 (v0 17 0) t = true
        · rw [if_pos hq, if_pos ⟨by omega, hq.2⟩]
        · rw [if_neg hq, if_neg (fun q => hq ⟨by omega, q.2⟩)]
theorem lp_prune112 (f1 f2 : Int32) (post : Int32 → Mem → Prop) (K : Int32 → Mem → Prop) (v0 : Mem) (N h : Nat) (hN : (v0 15 0).toInt = (N : Int)) (hN4 : N ≤ 400) (hh : (v0 13 0).toInt = (h : Int)) (hh2 : h ≤ 200) (hlf : ∀ k, k < N → 0 ≤ (v0 6 k).toInt ∧ (v0 6 k).toInt < 32) (hr : ∀ k, k < N → 1 ≤ rhY v0 k ∧ rhY v0 k ≤ (h : Int)) (hs : ∀ k k', k ≤ k' → k' < N → rhY v0 k ≤ rhY v0 k')
    (hK : ∀ (y : Int32) (v : Mem), (∀ a, a ≠ 10 → v a = v0 a) → (∀ k, k < N → (v0 10 k = 0 ∧ ¬ ndG (okY v0) (rhY v0) (fun t => v0 2 t = 0) h N k (v0 6 k).toInt.toNat → v 10 k = v0 16 0) ∧ (¬ (v0 10 k = 0 ∧ ¬ ndG (okY v0) (rhY v0) (fun t => v0 2 t = 0) h N k (v0 6 k).toInt.toNat) → v 10 k = v0 10 k)) → K y v) :
    ∀ (d i : Nat) (y : Int32) (v : Mem), i + d = N → y.toInt = (i : Int) → (∀ a, a ≠ 10 → v a = v0 a) → (∀ k, i ≤ k → v 10 k = v0 10 k) → (∀ k, k < i → (v0 10 k = 0 ∧ ¬ ndG (okY v0) (rhY v0) (fun t => v0 2 t = 0) h N k (v0 6 k).toInt.toNat → v 10 k = v0 16 0) ∧ (¬ (v0 10 k = 0 ∧ ¬ ndG (okY v0) (rhY v0) (fun t => v0 2 t = 0) h N k (v0 6 k).toInt.toNat) → v 10 k = v0 10 k)) → L_X5_prune_112 f1 f2 post K (d + 1) y v := by
  intro d
  induction d with
  | zero =>
    intro i y v hi hy h1 h2 h3
    have e : i = N := by omega
    subst e
    exact And.intro (fun _ => hK y v h1 h3) (fun c => absurd (i_le.mpr (by rw [h1 15 (by decide)]; omega)) c)
  | succ d ih =>
    intro i y v hi hy h1 h2 h3
    have er : rhY v = rhY v0 := by funext k; simp only [rhY, h1 7 (by decide)]
    have e2 : v 2 = v0 2 := h1 2 (by decide)
    have e6 : v 6 = v0 6 := h1 6 (by decide)
    have hl6 := hlf i (by omega)
    have e9 : (v 6 i).toInt = (((v0 6 i).toInt.toNat : Nat) : Int) := by rw [e6]; omega
    have hnd : ndG (okY v) (rhY v) (fun t => v 2 t = 0) h N i (v0 6 i).toInt.toNat ↔ ndG (okY v0) (rhY v0) (fun t => v0 2 t = 0) h N i (v0 6 i).toInt.toNat := by
      have : nhG (okY v) (rhY v) h N (i + 1) (v0 6 i).toInt.toNat = nhG (okY v0) (rhY v0) h N (i + 1) (v0 6 i).toInt.toNat := nhG_cg (N - (i + 1)) (i + 1) (by omega) (fun k a b => by simp only [okY, h2 k (by omega), e6]) (fun k a b => by rw [er])
      unfold ndG
      rw [this, er, e2]
    refine And.intro (fun c => absurd (i_le.mp c) (by rw [h1 15 (by decide)]; omega)) (fun _ => And.intro (vin hy (by omega)) (nm_mk ?_))
    rw [tn hy, h2 i (Nat.le_refl i)]
    have go : ∀ (v' : Mem), (∀ a, a ≠ 10 → v' a = v0 a) → (∀ k, k ≠ i → v' 10 k = v 10 k) → ((v0 10 i = 0 ∧ ¬ ndG (okY v0) (rhY v0) (fun t => v0 2 t = 0) h N i (v0 6 i).toInt.toNat → v' 10 i = v0 16 0) ∧ (¬ (v0 10 i = 0 ∧ ¬ ndG (okY v0) (rhY v0) (fun t => v0 2 t = 0) h N i (v0 6 i).toInt.toNat) → v' 10 i = v0 10 i)) → L_X5_prune_112 f1 f2 post K (d + 1) (y + 1) v' := fun v' q1 q2 q3 => by
      refine ih (i + 1) _ _ (by omega) (inc hy (by omega)) q1 (fun k hk => by rw [q2 k (by omega)]; exact h2 k (by omega)) (fun k hk => ?_)
      by_cases hki : k = i
      · rw [hki]; exact q3
      · rw [q2 k hki]; exact h3 k (by omega)
    refine And.intro (fun c => n_isNeeded (l := (v0 6 i).toInt.toNat) (by rw [h1 15 (by decide)]; exact hN) hN4 (by rw [h1 13 (by decide)]; exact hh) hh2 hy (by omega) e9 (by rw [er]; exact hr) (by rw [er]; exact hs) (fun q => And.intro (fun z => absurd z (by decide)) (fun _ => nm_mk (go v h1 (fun _ _ => rfl) ⟨fun z => absurd (hnd.mp q) z.2, fun _ => h2 i (Nat.le_refl i)⟩))) (fun q => And.intro (fun _ => And.intro (vin hy (by omega)) (nm_mk (nm_mk (go _ ?_ ?_ ?_)))) (fun z => absurd rfl z))) (fun c => nm_mk (go v h1 (fun _ _ => rfl) ⟨fun z => absurd z.1 c, fun _ => h2 i (Nat.le_refl i)⟩))
    · exact fun a ha => by rw [ms_o _ _ _ ha]; exact h1 a ha
    · exact fun k hk => ms_n _ _ _ hk
    · rw [ms_s, h1 16 (by decide)]
      exact ⟨fun _ => rfl, fun z => absurd ⟨c, fun w => q (hnd.mpr w)⟩ z⟩
