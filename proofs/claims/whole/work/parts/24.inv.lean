/-! what ties the class's memory u and the reference's memory v -/
def kpB (j : Nat) (x : Int32) : Bool := decide (x.toInt = 0 ∨ ((j : Int) < x.toInt ∧ x.toInt ≤ 8))
def gR (v : Mem) (j t l k : Nat) : Bool := kpB j (v 10 k) && decide ((v 7 k).toInt ≤ (t : Int) ∧ (v 6 k).toInt = (l : Int))
def IS (u v : Mem) (h N w ar : Nat) : Prop := ((u 18 0).toInt = (h : Int) ∧ (v 13 0).toInt = (h : Int) ∧ h ≤ 200) ∧ ((u 17 0).toInt = (N : Int) ∧ (v 15 0).toInt = (N : Int) ∧ N ≤ 400) ∧ ((u 19 0).toInt = (w : Int) ∧ (v 14 0).toInt = (w : Int) ∧ w ≤ 60) ∧ ((u 16 0).toInt = (ar : Int) ∧ (v 16 0).toInt = (ar : Int) ∧ ar ≤ 8) ∧ u 15 0 = v 17 0 ∧ 0 ≤ (v 17 0).toInt
def IL (u v : Mem) : Prop := ∀ i, i < 5 → u 0 i = v 11 i
def IR (u v : Mem) (h N ar : Nat) : Prop := (∀ k, k < N → (u 3 k = v 7 k ∧ u 4 k = v 6 k ∧ u 5 k = v 8 k ∧ u 6 k = v 9 k ∧ (u 7 k).toInt = (v 10 k).toInt - 1) ∧ (1 ≤ (v 7 k).toInt ∧ (v 7 k).toInt ≤ (h : Int)) ∧ (0 ≤ (v 6 k).toInt ∧ (v 6 k).toInt < 32) ∧ (0 ≤ (v 10 k).toInt ∧ (v 10 k).toInt ≤ (ar : Int))) ∧ ∀ k k', k ≤ k' → k' < N → (v 7 k).toInt ≤ (v 7 k').toInt
def IT (u v : Mem) (h ar : Nat) : Prop := (∀ t, t ≤ h → u 9 t = v 1 t ∧ (u 10 t).toInt = (v 2 t).toInt - 1 ∧ 0 ≤ (v 2 t).toInt ∧ ((v 2 t).toInt ≤ (ar : Int) ∨ (v 2 t).toInt = 9)) ∧ (v 2 h).toInt = 0
def IB (u v : Mem) (h w : Nat) : Prop := (∀ l, l < 32 → u 11 l = v 0 (32 * h + l) ∧ u 12 l = nowS v h w l ∧ (lastK (wl v (nI l)) w ≠ 0 → u 13 l = v 3 (lastK (wl v (nI l)) w - 1))) ∧ (w = 0 → (u 20 0).toInt = 0) ∧ (w ≠ 0 → u 20 0 = v 3 (w - 1))
def IG (v : Mem) (h N ar : Nat) : Prop := ∀ j, j ≤ ar → ∀ t, t ≤ h → kpB j (v 2 t) = true → ∀ l, l < 32 → v 0 (32 * t + l) = pick (v 8) 0 (lastK (gR v j t l) N)
def IV (u v : Mem) (h N w ar : Nat) : Prop := IS u v h N w ar ∧ IL u v ∧ IR u v h N ar ∧ IT u v h ar ∧ IB u v h w ∧ IG v h N ar
def Inv (u v : Mem) : Prop := ∃ h N w ar : Nat, IV u v h N w ar
/-- the scratch rows don't matter -/
theorem iv_scr {u v u' v' : Mem} {h N w ar : Nat} (hI : IV u v h N w ar) (hu : ∀ a, a ≠ 1 → a ≠ 2 → a ≠ 8 → a ≠ 14 → u' a = u a) (hv : ∀ a, a ≠ 12 → v' a = v a) : IV u' v' h N w ar := by
  have u0 := hu 0 (by decide) (by decide) (by decide) (by decide)
  have u3 := hu 3 (by decide) (by decide) (by decide) (by decide)
  have u4 := hu 4 (by decide) (by decide) (by decide) (by decide)
  have u5 := hu 5 (by decide) (by decide) (by decide) (by decide)
  have u6 := hu 6 (by decide) (by decide) (by decide) (by decide)
  have u7 := hu 7 (by decide) (by decide) (by decide) (by decide)
  have u9 := hu 9 (by decide) (by decide) (by decide) (by decide)
  have u10 := hu 10 (by decide) (by decide) (by decide) (by decide)
  have u11 := hu 11 (by decide) (by decide) (by decide) (by decide)
  have u12 := hu 12 (by decide) (by decide) (by decide) (by decide)
  have u13 := hu 13 (by decide) (by decide) (by decide) (by decide)
  have u15 := hu 15 (by decide) (by decide) (by decide) (by decide)
  have u16 := hu 16 (by decide) (by decide) (by decide) (by decide)
  have u17 := hu 17 (by decide) (by decide) (by decide) (by decide)
  have u18 := hu 18 (by decide) (by decide) (by decide) (by decide)
  have u19 := hu 19 (by decide) (by decide) (by decide) (by decide)
  have u20 := hu 20 (by decide) (by decide) (by decide) (by decide)
  have v0 := hv 0 (by decide)
  have v1 := hv 1 (by decide)
  have v2 := hv 2 (by decide)
  have v3 := hv 3 (by decide)
  have v4 := hv 4 (by decide)
  have v5 := hv 5 (by decide)
  have v6 := hv 6 (by decide)
  have v7 := hv 7 (by decide)
  have v8 := hv 8 (by decide)
  have v9 := hv 9 (by decide)
  have v10 := hv 10 (by decide)
  have v11 := hv 11 (by decide)
  have v13 := hv 13 (by decide)
  have v14 := hv 14 (by decide)
  have v15 := hv 15 (by decide)
  have v16 := hv 16 (by decide)
  have v17 := hv 17 (by decide)
  have hw : ∀ x, wl v' x = wl v x := fun x => by funext k; simp only [wl, v4]
  have hn : ∀ l, nowS v' h w l = nowS v h w l := fun l => by simp only [nowS, hw, v0, v5]
  have hg : ∀ j t l, gR v' j t l = gR v j t l := fun j t l => by funext k; simp only [gR, v6, v7, v10]
  simp only [IV, IS, IL, IR, IT, IB, IG, u0, u3, u4, u5, u6, u7, u9, u10, u11, u12, u13, u15, u16, u17, u18, u19, u20, v0, v1, v2, v3, v6, v7, v8, v9, v10, v11, v13, v14, v15, v16, v17, hw, hn, hg] at hI ⊢
  exact hI
theorem pick_cg {p q : Nat → Int32} {x : Int32} {m N : Nat} (hm : m ≤ N) (h : ∀ k, k < N → p k = q k) : pick p x m = pick q x m := by
  unfold pick
  split
  · rfl
  · exact h _ (by omega)
theorem kp0 {ar : Nat} {x : Int32} (har : ar ≤ 8) (h0 : 0 ≤ x.toInt) (h1 : x.toInt ≤ (ar : Int) ∨ x.toInt = 9) : kpB ar x = true ↔ x.toInt = 0 := by
  simp only [kpB, decide_eq_true_eq]
  omega
theorem m1_iff {x : Int32} {y : Int} (h : x.toInt = y - 1) : x = -1 ↔ y = 0 := by
  rw [i_eq, l_m1]
  omega
theorem z_iff {x : Int32} : x = 0 ↔ x.toInt = 0 := by rw [i_eq, l_0]
/-- what the class loads at a kept height is the reference's state -/
theorem iv_ld {u v : Mem} {h N w ar t : Nat} {x : Int32} (hI : IV u v h N w ar) (hx : x.toInt = (t : Int)) (ht : t ≤ h) (hk : u 10 t = -1) : ∀ l, l < 32 → pick (u 5) 0 (lastK (ldf u x l) N) = v 0 (32 * t + l) := by
  obtain ⟨⟨-, -, -, ⟨-, -, har⟩, -⟩, -, ⟨hr, -⟩, ⟨hT, -⟩, -, hG⟩ := hI
  intro l hl
  obtain ⟨-, t2, t3, t4⟩ := hT t ht
  have hz : (v 2 t).toInt = 0 := (m1_iff t2).mp hk
  rw [hG ar (Nat.le_refl ar) t ht ((kp0 har t3 t4).mpr hz) l hl]
  have e : lastK (ldf u x l) N = lastK (gR v ar t l) N := by
    refine lastK_cg N (fun k hkN => ?_)
    obtain ⟨⟨a1, a2, a3, a4, a5⟩, -, -, ⟨b1, b2⟩⟩ := hr k hkN
    have q1 := m1_iff a5
    have q2 := kp0 har b1 (Or.inl b2)
    simp only [ldf, gR, a1, a2, hx]
    by_cases z : (v 10 k).toInt = 0
    · rw [q2.mpr z]; simp [q1.mpr z]
    · have z1 : ¬ u 7 k = -1 := fun q => z (q1.mp q)
      have z2 : kpB ar (v 10 k) = false := by simpa using fun q => z (q2.mp q)
      rw [z2]; simp [z1]
  rw [e]
  exact pick_cg (lastK_le _ N) (fun k hkN => (hr k hkN).1.2.2.1)
theorem iv_load {u v : Mem} {h N w ar t j : Nat} {x : Int32} {post : Mem → Prop} (hI : IV u v h N w ar) (hj : j ≠ 3 ∧ j ≠ 4 ∧ j ≠ 5 ∧ j ≠ 7 ∧ j ≠ 17) (hx : x.toInt = (t : Int)) (ht : t ≤ h) (hk : u 10 t = -1) (k : ∀ u', (∀ a, a ≠ j → u' a = u a) → (∀ l, l < 32 → u' j l = v 0 (32 * t + l)) → post u') : w_X2_load x j 32 u post := by
  have hld := iv_ld hI hx ht hk
  obtain ⟨⟨-, ⟨hN, -, hN4⟩, -⟩, -, ⟨hr, hs⟩, -⟩ := hI
  refine m_load hj hN hN4 (fun k hk => ?_) (fun k k' h1 h2 => ?_) (fun k hk => ?_) (fun u' a1 a2 => k u' a1 (fun l hl => (a2 l hl).trans (hld l hl)))
  · obtain ⟨⟨-, a2, -⟩, -, b, -⟩ := hr k hk
    rw [a2]; exact b
  · rw [(hr k (by omega)).1.1, (hr k' h2).1.1]; exact hs k k' h1 h2
  · rw [(hr k hk).1.1]; exact (hr k hk).2.1.1
