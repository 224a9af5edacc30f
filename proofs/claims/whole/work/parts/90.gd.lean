/-! ===== the states that a run reaches: class and reference agree ===== -/
def vN (σ : XS) (j k : Nat) : Nat := (gI σ j k).toNatClampNeg
def kd (c : Nat) : Int32 := if c = 4 then 0 else if c = 2 then 1 else 2
def fickle (f night : Int32) : Int32 := (f + night / 10) - (f + night / 10) / 4 * 4
def gumv (k f night : Int32) : Int32 := if k = 0 then f else if k = 2 then 4 + fickle f night else fickle f night
def GA (σ : XS) : Prop := gI σ 0 6 = gI σ 24 2 ∧ gI σ 0 7 = gI σ 24 1 ∧ gI σ 0 8 = gI σ 24 0 ∧ gI σ 15 0 = gI σ 24 41 ∧ gI σ 24 21 = -9 ∧ gI σ 24 22 = -9 ∧ gI σ 24 25 = -9
def GB (σ : XS) : Prop := vp_in (gI σ 24 2) 6 ∧ vp_in (gI σ 24 1) 7 ∧ vp_in (gI σ 24 10) 25 ∧ vp_in (gI σ 24 14) 7 ∧ vp_in (gI σ 24 18) 7 ∧ vp_in (gI σ 24 30) 9 ∧ gI σ 5 0 = gI σ 24 18 ∧ gI σ 5 1 = gI σ 24 14 ∧ gI σ 5 2 = gI σ 24 10 ∧ gI σ 5 3 = gI σ 24 30 ∧ (gI σ 24 2 = 0 ↔ gI σ 24 1 = 0)
def GC (σ : XS) : Prop := ∀ p, p < vN σ 24 2 → ∃ a, gP σ p = some a ∧ isPe σ a ∧ gI σ 25 p = kd (gK σ a) ∧ gI σ 26 p = gV σ a ∧ vp_in (gV σ a) 4
def GDs (σ : XS) : Prop := ∀ k, k < vN σ 24 10 → vp_in (gI σ 29 k) (vN σ 24 2) ∧ vp_in (gI σ 30 k) (vN σ 24 1) ∧ vp_in (gI σ 31 k) 40 ∧ gI σ 6 (14 + k) = gI σ 31 k ∧ gI σ 7 (14 + k) = gI σ 30 k ∧ gI σ 8 (14 + k) = gI σ 29 k ∧ gI σ 9 (14 + k) = gumv (gI σ 25 (vN σ 29 k)) (gI σ 26 (vN σ 29 k)) (gI σ 31 k)
def GDm (σ : XS) : Prop := ∀ k, k < vN σ 24 14 → vp_in (gI σ 32 k) (vN σ 24 1) ∧ vp_in (gI σ 33 k) (vN σ 24 1) ∧ vp_in (gI σ 34 k) 40 ∧ gI σ 6 (7 + k) = gI σ 34 k ∧ gI σ 7 (7 + k) = gI σ 32 k ∧ gI σ 8 (7 + k) = gI σ 33 k
def GDc (σ : XS) : Prop := ∀ k, k < vN σ 24 18 → vp_in (gI σ 35 k) (vN σ 24 1) ∧ vp_in (gI σ 36 k) 40 ∧ gI σ 6 k = gI σ 36 k ∧ gI σ 7 k = gI σ 35 k
def GDr (σ : XS) : Prop := ∀ k, k < vN σ 24 30 → vp_in (gI σ 40 k) (vN σ 24 1) ∧ vp_in (gI σ 41 k) 40 ∧ vp_in (gI σ 42 k) 10 ∧ vp_in (gI σ 43 k) 10 ∧ gI σ 6 (39 + k) = gI σ 41 k ∧ gI σ 7 (39 + k) = gI σ 40 k ∧ gI σ 8 (39 + k) = gI σ 42 k ∧ gI σ 9 (39 + k) = gI σ 43 k
def GU (σ : XS) : Prop := ∀ j k, j < vN σ 24 10 → k < vN σ 24 10 → gI σ 31 j = gI σ 31 k → (gI σ 29 j = gI σ 29 k ∨ gI σ 30 j = gI σ 30 k) → j = k
def live (σ : XS) (s : Nat) : Prop := s < vN σ 24 18 ∨ (7 ≤ s ∧ s < 7 + vN σ 24 14) ∨ (14 ≤ s ∧ s < 14 + vN σ 24 10) ∨ (39 ≤ s ∧ s < 39 + vN σ 24 30)
def key (σ : XS) (s : Nat) : Nat := 48 * vN σ 6 s + s
def tot (σ : XS) : Nat := vN σ 4 6
def GO (σ : XS) : Prop := gI σ 4 6 = nI (tot σ) ∧ (∀ i, i < tot σ → gI σ 10 i = nI (vN σ 10 i) ∧ live σ (vN σ 10 i)) ∧ (∀ i j, i < j → j < tot σ → key σ (vN σ 10 i) < key σ (vN σ 10 j)) ∧ (∀ s, live σ s → ∃ i, i < tot σ ∧ vN σ 10 i = s)
def GS (σ : XS) : Prop := ∀ i, i < 4 → (gI σ (16 + 2 * i) 2 = -1 ∧ gI σ (16 + 2 * i) 1 = 0 ∧ gI σ 46 i = -1) ∨ (vp_in (gI σ (16 + 2 * i) 2) 3 ∧ vp_in (gI σ (16 + 2 * i) 1) 61 ∧ gI σ 46 i = gI σ (16 + 2 * i) 1 ∧ gI σ 47 i = gI σ (16 + 2 * i) 2 ∧ ∀ j, j < vN σ 46 i → gI σ 48 (60 * i + j) = gI σ (17 + 2 * i) j)
def Gd (σ : XS) : Prop := GA σ ∧ GB σ ∧ GC σ ∧ GDs σ ∧ GDm σ ∧ GDc σ ∧ GDr σ ∧ GU σ ∧ GO σ ∧ GS σ
theorem Gd0 : Gd sig0 := by
  have z : ∀ k, vN sig0 24 k = 0 ∨ k = 21 ∨ k = 22 ∨ k = 25 := by
    intro k
    by_cases h1 : k = 21
    · exact Or.inr (Or.inl h1)
    by_cases h2 : k = 22
    · exact Or.inr (Or.inr (Or.inl h2))
    by_cases h3 : k = 25
    · exact Or.inr (Or.inr (Or.inr h3))
    left
    show (if k = 21 then (-9 : Int32) else if k = 22 then -9 else if k = 25 then -9 else 0).toNatClampNeg = 0
    rw [if_neg h1, if_neg h2, if_neg h3]
    decide
  have n2 : vN sig0 24 2 = 0 := by decide
  have n10 : vN sig0 24 10 = 0 := by decide
  have n14 : vN sig0 24 14 = 0 := by decide
  have n18 : vN sig0 24 18 = 0 := by decide
  have n30 : vN sig0 24 30 = 0 := by decide
  have nt : tot sig0 = 0 := by unfold tot; decide
  refine ⟨?_, ?_, ?_, ?_, ?_, ?_, ?_, ?_, ?_, ?_⟩
  · refine ⟨rfl, rfl, rfl, rfl, rfl, rfl, rfl⟩
  · refine ⟨?_, ?_, ?_, ?_, ?_, ?_, rfl, rfl, rfl, rfl, ?_⟩
    all_goals first | exact vp_in_nI (n := 0) (by decide) (by decide) | exact ⟨fun _ => rfl, fun _ => rfl⟩
  · intro p hp; rw [n2] at hp; omega
  · intro p hp; rw [n10] at hp; omega
  · intro p hp; rw [n14] at hp; omega
  · intro p hp; rw [n18] at hp; omega
  · intro p hp; rw [n30] at hp; omega
  · intro j k hp; rw [n10] at hp; omega
  · refine ⟨?_, ?_, ?_, ?_⟩
    · rw [nt]; rfl
    · intro i hi; rw [nt] at hi; omega
    · intro i j h hi; rw [nt] at hi; omega
    · intro s hs
      unfold live at hs
      rw [n10, n14, n18, n30] at hs
      omega
  · intro i hi
    left
    match i, hi with
    | 0, _ => exact ⟨rfl, rfl, by decide⟩
    | 1, _ => exact ⟨rfl, rfl, by decide⟩
    | 2, _ => exact ⟨rfl, rfl, by decide⟩
    | 3, _ => exact ⟨rfl, rfl, by decide⟩
    | i + 4, h => exact absurd h (by omega)
/-! ===== small numbers ===== -/
theorem vin (x : Int32) {n : Nat} (hn : n < 2 ^ 31) : (vp_in x n) ∨ x < 0 ∨ nI n ≤ x := by
  rcases pk_ix x hn with h | h | ⟨j, hj, rfl⟩
  · exact Or.inr (Or.inl h)
  · exact Or.inr (Or.inr h)
  · exact Or.inl (vp_in_nI hj hn)
theorem vin_lo {x : Int32} {n : Nat} (h : vp_in x n) : ¬ x < 0 := fun q => h (Or.inl q)
theorem vin_hi {x : Int32} {n : Nat} (h : vp_in x n) (hn : n < 2 ^ 31) : ¬ nI n ≤ x := by
  obtain ⟨j, hj, rfl⟩ := vp_in_of h hn
  exact nI_ge hj hn
theorem vin_lt {x : Int32} {n : Nat} (h : vp_in x n) : x.toNatClampNeg < n := Nat.not_le.mp fun q => h (Or.inr q)
theorem vin_nI {x : Int32} {n : Nat} (h : vp_in x n) (hn : n < 2 ^ 31) : x = nI x.toNatClampNeg := by
  obtain ⟨j, hj, rfl⟩ := vp_in_of h hn
  rw [nI_clamp (by omega)]
theorem vin_mono {x : Int32} {n m : Nat} (h : vp_in x n) (hn : n ≤ m) : vp_in x m := fun q => h (q.elim Or.inl (fun q => Or.inr (Nat.le_trans hn q)))
theorem vin_inj {x y : Int32} {n m : Nat} (hx : vp_in x n) (hy : vp_in y m) (hn : n < 2 ^ 31) (hm : m < 2 ^ 31) (h : x.toNatClampNeg = y.toNatClampNeg) : x = y := by
  rw [vin_nI hx hn, vin_nI hy hm, h]
/-- a range asked by two comparisons -/
theorem rng {a c : Int32} {n : Nat} {X Y : Prop} (hc : c = nI n) (hn : n < 2 ^ 31) (h1 : vp_in a n → Y) (h0 : ¬ vp_in a n → X) : (a < 0 → X) ∧ (¬ a < 0 → ((c ≤ a → X) ∧ (¬ c ≤ a → Y))) := by
  subst hc
  refine ⟨fun h => h0 (fun q => vin_lo q h), fun h => ⟨fun h2 => h0 (fun q => vin_hi q hn h2), fun h2 => ?_⟩⟩
  rcases vin a hn with q | q | q
  · exact h1 q
  · exact absurd q h
  · exact absurd q h2
theorem cmp_lt (x y : Int64) : lg_cmp x y < 0 ↔ x < y := by
  unfold lg_cmp
  by_cases h1 : y < x
  · have h2 : ¬ x < y := fun q => Int64.lt_asymm h1 q
    simp [h1, h2]
  · by_cases h2 : x = y
    · subst h2; simp [Int64.lt_irrefl]
    · have h3 : x < y := by
        rw [Int64.lt_iff_toInt_lt] at h1 ⊢
        have h4 : x.toInt ≠ y.toInt := fun q => h2 (Int64.toInt_inj.mp q)
        omega
      simp [h1, h2, h3]
theorem cmp_gt (x y : Int64) : 0 < lg_cmp x y ↔ y < x := by
  unfold lg_cmp
  by_cases h1 : y < x
  · simp [h1]
  · by_cases h2 : x = y
    · subst h2; simp [Int64.lt_irrefl]
    · simp [h1, h2]
theorem cmp_eq (x y : Int64) : lg_cmp x y = 0 ↔ x = y := by
  unfold lg_cmp
  by_cases h1 : y < x
  · have h2 : ¬ x = y := fun q => by subst q; exact Int64.lt_irrefl h1
    simp [h1, h2]
  · by_cases h2 : x = y <;> simp [h1, h2]
theorem wX8_in {a l h : Int64} {σ : XS} {post : Int32 → Prop} (h1 : l ≤ a → a ≤ h → post 1) (h0 : ¬ (l ≤ a ∧ a ≤ h) → post 0) : PX8_in a l h σ post := by
  unfold PX8_in
  rw [cmp_lt, cmp_gt, Int64.lt_iff_toInt_lt, Int64.lt_iff_toInt_lt]
  rw [Int64.le_iff_toInt_le, Int64.le_iff_toInt_le] at h0
  refine ⟨fun q => h0 (by omega), fun q => ⟨fun q2 => h0 (by omega), fun q2 => h1 ?_ ?_⟩⟩
  · rw [Int64.le_iff_toInt_le]; omega
  · rw [Int64.le_iff_toInt_le]; omega
theorem wIn {a : Int32} {c : Int64} {n : Nat} {σ : XS} {post : Int32 → Prop} (hc : c.toInt = (n : Int) - 1) (h1 : vp_in a n → post 1) (h0 : ¬ vp_in a n → post 0) : PX8_in a.toInt64 0 c σ post := by
  have e : a.toInt64.toInt = a.toInt := by simp
  have key : (0 : Int64) ≤ a.toInt64 ∧ a.toInt64 ≤ c ↔ vp_in a n := by
    rw [Int64.le_iff_toInt_le, Int64.le_iff_toInt_le, e, hc, vp_in_iff]
    have : (0 : Int64).toInt = 0 := by decide
    rw [this]
    omega
  exact wX8_in (fun q1 q2 => h1 (key.mp ⟨q1, q2⟩)) (fun q => h0 (fun z => q (key.mpr z)))
theorem cN : ∀ n, n < 100 → ((nI n).toInt64 - 1).toInt = (n : Int) - 1 := by decide +kernel
theorem cN0 : ∀ n, n < 100 → ((nI n).toInt64).toInt = ((n + 1 : Nat) : Int) - 1 := by decide +kernel
/-- counts as numbers -/
theorem cnt {σ : XS} {j k n : Nat} (h : vp_in (gI σ j k) n) (hn : n < 2 ^ 31) : gI σ j k = nI (vN σ j k) ∧ vN σ j k < n := ⟨vin_nI h hn, vin_lt h⟩
