/-! numbers, memories, and the few functions that class and reference both compute -/
theorem nm_mk {α : Type} {v : α} {k : α → Prop} (h : k v) : nm v k := h
theorem i_le {x y : Int32} : x ≤ y ↔ x.toInt ≤ y.toInt := Int32.le_iff_toInt_le
theorem i_lt {x y : Int32} : x < y ↔ x.toInt < y.toInt := Int32.lt_iff_toInt_lt
theorem i_eq {x y : Int32} : x = y ↔ x.toInt = y.toInt := Int32.toInt_inj.symm
theorem tn {y : Int32} {i : Nat} (h : y.toInt = (i : Int)) : y.toNatClampNeg = i := by
  show y.toInt.toNat = i
  omega
theorem i_lo (x : Int32) : -2147483648 ≤ x.toInt := Int32.le_toInt x
theorem i_hi (x : Int32) : x.toInt < 2147483648 := Int32.toInt_lt x
theorem i_add {x y : Int32} (h1 : -2147483648 ≤ x.toInt + y.toInt) (h2 : x.toInt + y.toInt < 2147483648) : (x + y).toInt = x.toInt + y.toInt := by
  rw [Int32.toInt_add]
  exact Int.bmod_eq_of_le (by omega) (by omega)
theorem i_sub {x y : Int32} (h1 : -2147483648 ≤ x.toInt - y.toInt) (h2 : x.toInt - y.toInt < 2147483648) : (x - y).toInt = x.toInt - y.toInt := by
  rw [Int32.toInt_sub]
  exact Int.bmod_eq_of_le (by omega) (by omega)
theorem i_mul {x y : Int32} (h1 : -2147483648 ≤ x.toInt * y.toInt) (h2 : x.toInt * y.toInt < 2147483648) : (x * y).toInt = x.toInt * y.toInt := by
  rw [Int32.toInt_mul]
  exact Int.bmod_eq_of_le (by omega) (by omega)
theorem l_0 : (0 : Int32).toInt = 0 := by decide
theorem l_1 : (1 : Int32).toInt = 1 := by decide
theorem l_m1 : (-1 : Int32).toInt = -1 := by decide
theorem l_2 : (2 : Int32).toInt = 2 := by decide
theorem l_4 : (4 : Int32).toInt = 4 := by decide
theorem l_5 : (5 : Int32).toInt = 5 := by decide
theorem l_8 : (8 : Int32).toInt = 8 := by decide
theorem l_9 : (9 : Int32).toInt = 9 := by decide
theorem l_31 : (31 : Int32).toInt = 31 := by decide
theorem l_32 : (32 : Int32).toInt = 32 := by decide
theorem l_60 : (60 : Int32).toInt = 60 := by decide
theorem l_100 : (100 : Int32).toInt = 100 := by decide
theorem l_200 : (200 : Int32).toInt = 200 := by decide
theorem l_400 : (400 : Int32).toInt = 400 := by decide
theorem l_999 : (999 : Int32).toInt = 999 := by decide
theorem inc {y : Int32} {i : Nat} (h : y.toInt = (i : Int)) (hi : i < 100000) : (y + 1).toInt = ((i + 1 : Nat) : Int) := by
  rw [i_add (by rw [l_1]; omega) (by rw [l_1]; omega), l_1]
  omega
theorem inc0 {y : Int32} {i : Nat} (h : y.toInt = (i : Int)) : (y + 0).toInt = (i : Int) := by
  rw [i_add (by rw [l_0]; have := i_lo y; omega) (by rw [l_0]; have := i_hi y; omega), l_0]
  omega
theorem dec1 {y : Int32} {z : Int} (h : y.toInt = z) (h0 : -1000 < z) (hi : z < 100000) : (y + (-1)).toInt = z - 1 := by
  rw [i_add (by rw [l_m1]; omega) (by rw [l_m1]; omega), l_m1]
  omega
theorem sub1 {y : Int32} {z : Int} (h : y.toInt = z) (h0 : -1000 < z) (hi : z < 100000) : (y - 1).toInt = z - 1 := by
  rw [i_sub (by rw [l_1]; omega) (by rw [l_1]; omega), l_1]
  omega
theorem vin {y : Int32} {i n : Nat} (h : y.toInt = (i : Int)) (hi : i < n) : vp_in y n := vp_in_iff.mpr ⟨by omega, by omega⟩
theorem s32 {t l : Nat} {x y : Int32} (hx : x.toInt = (t : Int)) (hy : y.toInt = (l : Int)) (ht : t < 1000) (hl : l < 1000) : (32 * x + y).toInt = ((32 * t + l : Nat) : Int) := by
  have h1 : (32 * x).toInt = 32 * x.toInt := by
    rw [i_mul (by rw [l_32]; omega) (by rw [l_32]; omega), l_32]
  rw [i_add (by omega) (by omega)]
  omega
theorem ms_o (u : Mem) {j a : Nat} (i : Nat) (x : Int32) (h : a ≠ j) : g_ms u j i x a = u a := by simp [g_ms, va_up, h]
theorem ms_s (u : Mem) (j i : Nat) (x : Int32) : g_ms u j i x j i = x := by simp [g_ms, va_up, upd]
theorem ms_n (u : Mem) (j : Nat) {i b : Nat} (x : Int32) (h : b ≠ i) : g_ms u j i x j b = u j b := by simp [g_ms, va_up, upd, h]
theorem ms_i (u : Mem) (j i b : Nat) (x : Int32) : g_ms u j i x j b = if b = i then x else u j b := by simp [g_ms, va_up, upd]
/-- the last place below k at which f holds, and one; 0: there is none -/
def lastK (f : Nat → Bool) : Nat → Nat
  | 0 => 0
  | k + 1 => if f k then k + 1 else lastK f k
def cntK (f : Nat → Bool) : Nat → Nat
  | 0 => 0
  | k + 1 => if f k then cntK f k + 1 else cntK f k
def fstK (f : Nat → Bool) : Nat → Nat → Nat
  | 0, i => i
  | d + 1, i => if f i then i else fstK f d (i + 1)
def fndK (f : Nat → Bool) (num : Int32) : Nat → Nat → Int32 → Nat
  | 0, i, _ => i
  | d + 1, i, s => if f i then (if s = num then i else fndK f num d (i + 1) (s + 1)) else fndK f num d (i + 1) s
theorem lastK_le (f : Nat → Bool) : ∀ k, lastK f k ≤ k
  | 0 => Nat.le_refl 0
  | k + 1 => by
    have := lastK_le f k
    simp only [lastK]
    split <;> omega
theorem cntK_le (f : Nat → Bool) : ∀ k, cntK f k ≤ k
  | 0 => Nat.le_refl 0
  | k + 1 => by
    have := cntK_le f k
    simp only [cntK]
    split <;> omega
theorem lastK_cg {f g : Nat → Bool} : ∀ k, (∀ i, i < k → f i = g i) → lastK f k = lastK g k
  | 0, _ => rfl
  | k + 1, h => by simp only [lastK, h k (Nat.lt_succ_self k), lastK_cg k (fun i hi => h i (Nat.lt_succ_of_lt hi))]
theorem cntK_cg {f g : Nat → Bool} : ∀ k, (∀ i, i < k → f i = g i) → cntK f k = cntK g k
  | 0, _ => rfl
  | k + 1, h => by simp only [cntK, h k (Nat.lt_succ_self k), cntK_cg k (fun i hi => h i (Nat.lt_succ_of_lt hi))]
theorem fstK_cg {f g : Nat → Bool} : ∀ d i, (∀ k, i ≤ k → k < i + d → f k = g k) → fstK f d i = fstK g d i
  | 0, _, _ => rfl
  | d + 1, i, h => by simp only [fstK, h i (Nat.le_refl i) (by omega), fstK_cg d (i + 1) (fun k h1 h2 => h k (by omega) (by omega))]
theorem fndK_cg {f g : Nat → Bool} {num : Int32} : ∀ d i s, (∀ k, i ≤ k → k < i + d → f k = g k) → fndK f num d i s = fndK g num d i s
  | 0, _, _, _ => rfl
  | d + 1, i, s, h => by simp only [fndK, h i (Nat.le_refl i) (by omega), fndK_cg d (i + 1) _ (fun k h1 h2 => h k (by omega) (by omega))]
theorem lastK_0 {f : Nat → Bool} : ∀ {k}, lastK f k = 0 → ∀ i, i < k → f i = false
  | 0, _, i, hi => absurd hi (Nat.not_lt_zero i)
  | k + 1, h, i, hi => by
    simp only [lastK] at h
    by_cases hf : f k = true
    · rw [if_pos hf] at h; omega
    · rw [if_neg hf] at h
      by_cases hik : i = k
      · rw [hik]; simpa using hf
      · exact lastK_0 h i (by omega)
theorem lastK_s {f : Nat → Bool} : ∀ {k m}, lastK f k = m + 1 → m < k ∧ f m = true ∧ ∀ i, m < i → i < k → f i = false
  | 0, m, h => by simp [lastK] at h
  | k + 1, m, h => by
    simp only [lastK] at h
    by_cases hf : f k = true
    · rw [if_pos hf] at h
      have : m = k := by omega
      subst this
      exact ⟨Nat.lt_succ_self _, hf, fun i h1 h2 => by omega⟩
    · rw [if_neg hf] at h
      obtain ⟨a, b, c⟩ := lastK_s h
      refine ⟨by omega, b, fun i h1 h2 => ?_⟩
      by_cases hik : i = k
      · rw [hik]; simpa using hf
      · exact c i h1 (by omega)
theorem lastK_of {f : Nat → Bool} {k m : Nat} (h1 : m < k) (h2 : f m = true) (h3 : ∀ i, m < i → i < k → f i = false) : lastK f k = m + 1 := by
  rcases Nat.eq_zero_or_pos (lastK f k) with h | h
  · rw [lastK_0 h m h1] at h2; cases h2
  · obtain ⟨n, hn⟩ : ∃ n, lastK f k = n + 1 := ⟨lastK f k - 1, by omega⟩
    obtain ⟨a, b, c⟩ := lastK_s hn
    rcases Nat.lt_trichotomy m n with q | q | q
    · rw [h3 n q a] at b; cases b
    · rw [hn, q]
    · rw [c m q h1] at h2; cases h2
theorem lastK_none {f : Nat → Bool} : ∀ {k}, (∀ i, i < k → f i = false) → lastK f k = 0
  | 0, _ => rfl
  | k + 1, h => by simp only [lastK, h k (Nat.lt_succ_self k)]; exact lastK_none (fun i hi => h i (Nat.lt_succ_of_lt hi))
/-- nothing more comes: from k on f is false -/
theorem lastK_stop {f : Nat → Bool} {k : Nat} : ∀ {n}, k ≤ n → (∀ i, k ≤ i → i < n → f i = false) → lastK f n = lastK f k
  | 0, h, _ => by rw [show k = 0 by omega]
  | n + 1, h, hf => by
    by_cases hk : k = n + 1
    · rw [hk]
    · simp only [lastK, hf n (by omega) (Nat.lt_succ_self n)]
      exact lastK_stop (by omega) (fun i h1 h2 => hf i h1 (by omega))
theorem cntK_stop {f : Nat → Bool} {k : Nat} : ∀ {n}, k ≤ n → (∀ i, k ≤ i → i < n → f i = false) → cntK f n = cntK f k
  | 0, h, _ => by rw [show k = 0 by omega]
  | n + 1, h, hf => by
    by_cases hk : k = n + 1
    · rw [hk]
    · simp only [cntK, hf n (by omega) (Nat.lt_succ_self n)]
      exact cntK_stop (by omega) (fun i h1 h2 => hf i h1 (by omega))
theorem cntK_mono (f : Nat → Bool) : ∀ {i n}, i ≤ n → cntK f i ≤ cntK f n
  | i, 0, h => by rw [show i = 0 by omega]; exact Nat.le_refl _
  | i, n + 1, h => by
    by_cases hi : i = n + 1
    · rw [hi]; exact Nat.le_refl _
    · have := cntK_mono f (i := i) (n := n) (by omega)
      simp only [cntK]
      split <;> omega
theorem cntK_lt {f : Nat → Bool} {i n : Nat} (h : i < n) (hf : f i = true) : cntK f i < cntK f n := by
  have h1 := cntK_mono f (i := i + 1) (n := n) h
  simp only [cntK, hf, if_true] at h1
  omega
theorem cntK_sur {f : Nat → Bool} : ∀ {n i}, i < cntK f n → ∃ k, k < n ∧ f k = true ∧ cntK f k = i
  | 0, i, h => by simp [cntK] at h
  | n + 1, i, h => by
    simp only [cntK] at h
    by_cases hf : f n = true
    · rw [if_pos hf] at h
      by_cases hi : i = cntK f n
      · exact ⟨n, Nat.lt_succ_self n, hf, hi.symm⟩
      · obtain ⟨k, a, b, c⟩ := cntK_sur (f := f) (n := n) (i := i) (by omega)
        exact ⟨k, by omega, b, c⟩
    · rw [if_neg hf] at h
      obtain ⟨k, a, b, c⟩ := cntK_sur h
      exact ⟨k, by omega, b, c⟩
theorem fstK_ge (f : Nat → Bool) : ∀ d i, i ≤ fstK f d i ∧ fstK f d i ≤ i + d
  | 0, i => ⟨Nat.le_refl _, Nat.le_refl _⟩
  | d + 1, i => by
    have := fstK_ge f d (i + 1)
    simp only [fstK]
    split <;> omega
theorem fstK_no (f : Nat → Bool) : ∀ d i k, i ≤ k → k < fstK f d i → f k = false
  | 0, i, k, h1, h2 => by simp only [fstK] at h2; omega
  | d + 1, i, k, h1, h2 => by
    simp only [fstK] at h2
    by_cases hf : f i = true
    · rw [if_pos hf] at h2; omega
    · rw [if_neg hf] at h2
      by_cases hk : k = i
      · rw [hk]; simpa using hf
      · exact fstK_no f d (i + 1) k (by omega) h2
theorem fstK_is (f : Nat → Bool) : ∀ d i, fstK f d i < i + d → f (fstK f d i) = true
  | 0, i, h => by simp only [fstK] at h; omega
  | d + 1, i, h => by
    simp only [fstK] at h ⊢
    by_cases hf : f i = true
    · rw [if_pos hf]; exact hf
    · rw [if_neg hf] at h ⊢
      exact fstK_is f d (i + 1) (by omega)
