/-! ===== steps on sheets ===== -/
def shw (j : Nat) : Bool := (j == 16 || (j == 17 || (j == 18 || (j == 19 || (j == 20 || (j == 21 || (j == 22 || (j == 23 || (j == 46 || (j == 47 || j == 48))))))))))
def Kz (σ σ' : XS) : Prop := (∀ j k, shw j = false → gI σ' j k = gI σ j k) ∧ σ'.2.2 = σ.2.2
theorem Kz.rf (σ : XS) : Kz σ σ := ⟨fun _ _ _ => rfl, rfl⟩
theorem Kz.tr {σ σ1 σ2 : XS} (h : Kz σ σ1) (h2 : Kz σ1 σ2) : Kz σ σ2 := ⟨fun j k hs => (h2.1 j k hs).trans (h.1 j k hs), h2.2.trans h.2⟩
theorem Kz.I {σ : XS} {j k : Nat} {x : Int32} (hs : shw j = true) : Kz σ (sI σ j k x) := by
  refine ⟨fun j' k' h => ?_, rfl⟩
  rw [gI_sI]
  by_cases hq : j' = j ∧ k' = k
  · rw [hq.1, hs] at h
    cases h
  · rw [if_neg hq]
theorem Kz.R {σ : XS} {j : Nat} {f : Nat → Int32} (hs : shw j = true) : Kz σ (sR σ j f) := by
  refine ⟨fun j' k' h => ?_, rfl⟩
  rw [gI_sR]
  by_cases hq : j' = j
  · rw [hq, hs] at h
    cases h
  · rw [if_neg hq]
theorem shw_scr (j k : Nat) (h : scr2 j k = false) : shw j = false := by
  unfold scr2 at h
  unfold shw
  simp only [Bool.or_eq_false_iff] at h ⊢
  obtain ⟨a, b, c, d, e, f, g, i, j, k, l, m⟩ := h
  exact ⟨a, b, c, d, e, f, g, i, j, k, l⟩
theorem Kz.v {σ σ' : XS} (h : Kz σ σ') : Kv σ σ' := ⟨fun j k hs => h.1 j k (shw_scr j k hs), h.2⟩
theorem shw16 : ∀ i, i < 4 → shw (16 + 2 * i) = true ∧ shw (17 + 2 * i) = true ∧ shw (16 + 2 * i + 1) = true := by decide
theorem Gd.ofz {σ σ' : XS} (h : Gd σ) (K : Kz σ σ') (hS : GS σ') : Gd σ' :=
  h.ofv K.v hS (by rw [K.1 0 8 rfl, K.1 24 0 rfl]; exact h.1.2.2.1) (K.1 _ _ rfl) (K.1 _ _ rfl) (K.1 _ _ rfl) (K.1 _ _ rfl) (K.1 _ _ rfl)
theorem GS.z {σ σ' : XS} (h : GS σ) (K : ∀ j k, shw j = true → gI σ' j k = gI σ j k) : GS σ' := by
  intro i hi
  have r1 : gI σ' (16 + 2 * i) = gI σ (16 + 2 * i) := by funext k; exact K _ _ (shw16 i hi).1
  have r2 : gI σ' (17 + 2 * i) = gI σ (17 + 2 * i) := by funext k; exact K _ _ (shw16 i hi).2.1
  have r46 : gI σ' 46 = gI σ 46 := by funext k; exact K _ _ rfl
  have r47 : gI σ' 47 = gI σ 47 := by funext k; exact K _ _ rfl
  have r48 : gI σ' 48 = gI σ 48 := by funext k; exact K _ _ rfl
  have v46 : vN σ' 46 i = vN σ 46 i := by unfold vN; rw [r46]
  have := h i hi
  rw [r1, r2, r46, r47, r48, v46]
  exact this
theorem shw_I {σ : XS} {j k : Nat} {x : Int32} (hs : shw j = false) : ∀ j' k', shw j' = true → gI (sI σ j k x) j' k' = gI σ j' k' := by
  intro j' k' h
  exact gI_sIj _ _ (fun e => by rw [e, hs] at h; cases h)
theorem Gd.fz {σ τ : XS} (h : Gd σ) (K : Kz (sI σ 0 8 0) τ) (hS : GS τ) : Gd (sI τ 24 0 0) := by
  refine h.ofv (((Kv.I rfl).tr K.v).tr (Kv.I rfl)) (hS.z (shw_I rfl)) ?_ ?_ ?_ ?_ ?_ ?_
  · rw [gI_sIe, gI_sIj _ _ (by decide), K.1 0 8 rfl, gI_sIe]
  · rw [gI_sIj _ _ (by decide), K.1 15 0 rfl, gI_sIj _ _ (by decide)]
  · rw [gI_sIk _ _ (by decide), K.1 24 41 rfl, gI_sIj _ _ (by decide)]
  · rw [gI_sIk _ _ (by decide), K.1 24 21 rfl, gI_sIj _ _ (by decide)]
  · rw [gI_sIk _ _ (by decide), K.1 24 22 rfl, gI_sIj _ _ (by decide)]
  · rw [gI_sIk _ _ (by decide), K.1 24 25 rfl, gI_sIj _ _ (by decide)]
theorem sI_same (σ : XS) (j k : Nat) (x : Int32) (h : gI σ j k = x) : sI σ j k x = σ := by
  unfold sI
  have : upd (gI σ j) k x = gI σ j := by
    funext i
    unfold upd
    by_cases hi : i = k
    · subst hi; rw [if_pos rfl, h]
    · rw [if_neg hi]
  rw [this, sR_id]
/-- the other sheets' entries: a change in sheet i alone -/
theorem oth {σ σ' : XS} {i : Nat} (hi : i < 4) (h1 : ∀ j k, j ≠ 16 + 2 * i → j ≠ 17 + 2 * i → j ≠ 46 → j ≠ 47 → j ≠ 48 → gI σ' j k = gI σ j k) (h2 : ∀ k, k ≠ i → gI σ' 46 k = gI σ 46 k) (h3 : ∀ k, k ≠ i → gI σ' 47 k = gI σ 47 k) (h4 : ∀ k, k < 60 * i ∨ 60 * i + 60 ≤ k → gI σ' 48 k = gI σ 48 k) : ∀ i', i' < 4 → i' ≠ i → gI σ' (16 + 2 * i') = gI σ (16 + 2 * i') ∧ gI σ' (17 + 2 * i') = gI σ (17 + 2 * i') ∧ gI σ' 46 i' = gI σ 46 i' ∧ gI σ' 47 i' = gI σ 47 i' ∧ ∀ j, j < 60 → gI σ' 48 (60 * i' + j) = gI σ 48 (60 * i' + j) := by
  intro i' hi' hne
  refine ⟨?_, ?_, h2 i' hne, h3 i' hne, fun j hj => h4 _ (by omega)⟩
  · funext k; exact h1 _ k (by omega) (by omega) (by omega) (by omega) (by omega)
  · funext k; exact h1 _ k (by omega) (by omega) (by omega) (by omega) (by omega)
theorem lane_ne {x : Int32} {n : Nat} (h : vp_in x n) : ¬ x = -1 := fun e => by
  rw [e] at h
  exact h (Or.inl (by decide))
theorem len0 {x : Int32} {n : Nat} (h : vp_in x n) : 0 ≤ x := by
  rw [Int32.le_iff_toInt_le]
  have := (vp_in_iff.mp h).1
  have e : (0 : Int32).toInt = 0 := by decide
  omega
theorem st25 {σ : XS} (h : Gd σ) : S25 Gd σ := by
  intro a1
  unfold PX7_lose
  refine wX7_sheetOf (fun i hi ei => ⟨nofun, fun u hu => ?_⟩) (fun q => ⟨fun _ => ?_, nofun⟩)
  · cases hu
    have q : vp_in a1 4 := by rw [ei]; exact vp_in_nI hi (by decide)
    have ea : a1.toNatClampNeg = i := by rw [ei, nI_clamp (by omega)]
    refine ⟨isSh_at i hi, ?_⟩
    unfold PX3_isNothing
    rcases h.sh i hi with ⟨z1, z2, z3⟩ | ⟨z1, z2, z3, z4, z5⟩
    · refine ⟨fun _ => ⟨fun w => absurd w (by decide), fun _ => ?_⟩, fun w => absurd z1 w⟩
      unfold PX8_lose
      refine wX8_noSheet (fun _ => ⟨fun _ => ⟨q, ?_⟩, fun w => absurd rfl w⟩) (fun w => absurd q w)
      rw [ea, z3]
      refine ⟨fun w => absurd w (by decide), fun _ => ⟨q, fun σ5 e5 => ⟨rfl, ?_⟩⟩⟩
      rw [e5, sI_same _ _ _ _ z3]
      exact h
    · refine ⟨fun w => absurd w (lane_ne z1), fun _ => ⟨fun _ => ?_, fun w => absurd rfl w⟩⟩
      unfold PX3_drop
      intro σ1 e1 σ2 e2
      have K2 : Kz σ σ2 := by rw [e2, e1]; exact (Kz.I (shw16 i hi).1).tr (Kz.I (shw16 i hi).1)
      have r46 : gI σ2 46 i = gI σ 46 i := by rw [e2, e1, gI_sIj _ _ (by omega), gI_sIj _ _ (by omega)]
      unfold PX8_lose
      refine wX8_noSheet (fun _ => ⟨fun _ => ⟨q, ?_⟩, fun w => absurd rfl w⟩) (fun w => absurd q w)
      rw [ea, r46, z3]
      refine ⟨fun _ => ⟨q, fun σ5 e5 => ⟨rfl, ?_⟩⟩, fun w => absurd (len0 z2) w⟩
      refine h.ofz (K2.tr (by rw [e5]; exact Kz.I rfl)) (h.sh.set (i := i) (oth hi ?_ ?_ ?_ ?_) (Or.inl ⟨?_, ?_, ?_⟩))
      · intro j k n1 n2 n3 n4 n5
        rw [e5, gI_sIj _ _ n3, e2, gI_sIj _ _ n1, e1, gI_sIj _ _ n1]
      · intro k hk
        rw [e5, gI_sIk _ _ hk, e2, gI_sIj _ _ (by omega), e1, gI_sIj _ _ (by omega)]
      · intro k hk
        rw [e5, gI_sIj _ _ (by omega), e2, gI_sIj _ _ (by omega), e1, gI_sIj _ _ (by omega)]
      · intro k hk
        rw [e5, gI_sIj _ _ (by omega), e2, gI_sIj _ _ (by omega), e1, gI_sIj _ _ (by omega)]
      · rw [e5, gI_sIj _ _ (by omega), e2, gI_sIe]
      · rw [e5, gI_sIj _ _ (by omega), e2, gI_sIk _ _ (by decide), e1, gI_sIe]
      · rw [e5, gI_sIe]
  · unfold PX8_lose
    exact wX8_noSheet (fun w => absurd w q) (fun _ => ⟨fun w => absurd w (by decide), fun _ => ⟨rfl, h⟩⟩)
