/-! ===== what is scratch: entries on which the agreement doesn't hang ===== -/
def scr (j k : Nat) : Bool := (j == 3 || (j == 12 || (j == 13 || (j == 14 || (j == 27 || (j == 28 || (j == 37 || (j == 38 || (j == 39 || (j == 49 || ((j == 24 && (k == 0 || (k == 5 || (k == 6 || (k == 7 || (k == 21 || (k == 22 || (k == 23 || (k == 24 || (k == 25 || (k == 26 || (k == 41)))))))))))) || ((j == 0 && k == 8) || (j == 15 && k == 0)))))))))))))
def Ks (σ σ' : XS) : Prop := (∀ j k, scr j k = false → gI σ' j k = gI σ j k) ∧ σ'.2.2 = σ.2.2
theorem Ks.rf (σ : XS) : Ks σ σ := ⟨fun _ _ _ => rfl, rfl⟩
theorem Ks.tr {σ σ1 σ2 : XS} (h : Ks σ σ1) (h2 : Ks σ1 σ2) : Ks σ σ2 := ⟨fun j k hs => (h2.1 j k hs).trans (h.1 j k hs), h2.2.trans h.2⟩
theorem Ks.I {σ : XS} {j k : Nat} {x : Int32} (hs : scr j k = true) : Ks σ (sI σ j k x) := by
  refine ⟨fun j' k' h => ?_, rfl⟩
  rw [gI_sI]
  by_cases hq : j' = j ∧ k' = k
  · rw [hq.1, hq.2, hs] at h
    cases h
  · rw [if_neg hq]
theorem Ks.R {σ : XS} {j : Nat} {f : Nat → Int32} (hs : ∀ k, scr j k = true) : Ks σ (sR σ j f) := by
  refine ⟨fun j' k' h => ?_, rfl⟩
  rw [gI_sR]
  by_cases hq : j' = j
  · rw [hq, hs] at h
    cases h
  · rw [if_neg hq]
theorem Ks.L {σ : XS} {j k : Nat} {x : Int64} : Ks σ (sL σ j k x) := ⟨fun _ _ _ => rfl, rfl⟩
def Gw (σ : XS) : Prop := (gI σ 0 6 = gI σ 24 2 ∧ gI σ 0 7 = gI σ 24 1) ∧ GB σ ∧ GC σ ∧ GDs σ ∧ GDm σ ∧ GDc σ ∧ GDr σ ∧ GU σ ∧ GO σ ∧ GS σ
theorem Gd.w {σ : XS} (h : Gd σ) : Gw σ := ⟨⟨h.1.1, h.1.2.1⟩, h.2⟩
theorem Gw.d {σ : XS} (h : Gw σ) (h1 : gI σ 0 8 = gI σ 24 0) (h2 : gI σ 15 0 = gI σ 24 41) (h3 : gI σ 24 21 = -9) (h4 : gI σ 24 22 = -9) (h5 : gI σ 24 25 = -9) : Gd σ := ⟨⟨h.1.1, h.1.2, h1, h2, h3, h4, h5⟩, h.2⟩
theorem Ks.row {σ σ' : XS} (h : Ks σ σ') {j : Nat} (hs : ∀ k, scr j k = false) : gI σ' j = gI σ j := by
  funext k
  exact h.1 j k (hs k)
theorem Gw.k {σ σ' : XS} (h : Gw σ) (K : Ks σ σ') : Gw σ' := by
  have r5 : gI σ' 5 = gI σ 5 := K.row (fun _ => rfl)
  have r6 : gI σ' 6 = gI σ 6 := K.row (fun _ => rfl)
  have r7 : gI σ' 7 = gI σ 7 := K.row (fun _ => rfl)
  have r8 : gI σ' 8 = gI σ 8 := K.row (fun _ => rfl)
  have r9 : gI σ' 9 = gI σ 9 := K.row (fun _ => rfl)
  have r10 : gI σ' 10 = gI σ 10 := K.row (fun _ => rfl)
  have r25 : gI σ' 25 = gI σ 25 := K.row (fun _ => rfl)
  have r26 : gI σ' 26 = gI σ 26 := K.row (fun _ => rfl)
  have r29 : gI σ' 29 = gI σ 29 := K.row (fun _ => rfl)
  have r30 : gI σ' 30 = gI σ 30 := K.row (fun _ => rfl)
  have r31 : gI σ' 31 = gI σ 31 := K.row (fun _ => rfl)
  have r32 : gI σ' 32 = gI σ 32 := K.row (fun _ => rfl)
  have r33 : gI σ' 33 = gI σ 33 := K.row (fun _ => rfl)
  have r34 : gI σ' 34 = gI σ 34 := K.row (fun _ => rfl)
  have r35 : gI σ' 35 = gI σ 35 := K.row (fun _ => rfl)
  have r36 : gI σ' 36 = gI σ 36 := K.row (fun _ => rfl)
  have r40 : gI σ' 40 = gI σ 40 := K.row (fun _ => rfl)
  have r41 : gI σ' 41 = gI σ 41 := K.row (fun _ => rfl)
  have r42 : gI σ' 42 = gI σ 42 := K.row (fun _ => rfl)
  have r43 : gI σ' 43 = gI σ 43 := K.row (fun _ => rfl)
  have r46 : gI σ' 46 = gI σ 46 := K.row (fun _ => rfl)
  have r47 : gI σ' 47 = gI σ 47 := K.row (fun _ => rfl)
  have r48 : gI σ' 48 = gI σ 48 := K.row (fun _ => rfl)
  have c1 : gI σ' 24 1 = gI σ 24 1 := K.1 _ _ rfl
  have c2 : gI σ' 24 2 = gI σ 24 2 := K.1 _ _ rfl
  have c10 : gI σ' 24 10 = gI σ 24 10 := K.1 _ _ rfl
  have c14 : gI σ' 24 14 = gI σ 24 14 := K.1 _ _ rfl
  have c18 : gI σ' 24 18 = gI σ 24 18 := K.1 _ _ rfl
  have c30 : gI σ' 24 30 = gI σ 24 30 := K.1 _ _ rfl
  have c06 : gI σ' 0 6 = gI σ 0 6 := K.1 _ _ rfl
  have c07 : gI σ' 0 7 = gI σ 0 7 := K.1 _ _ rfl
  have c46 : gI σ' 4 6 = gI σ 4 6 := K.1 _ _ rfl
  have pP : ∀ k, gP σ' k = gP σ k := fun k => by unfold gP; rw [K.2]
  have pA : gA σ' = gA σ := by unfold gA; rw [K.2]
  have pK : ∀ k, gK σ' k = gK σ k := fun k => by unfold gK; rw [K.2]
  have pV : ∀ k, gV σ' k = gV σ k := fun k => by unfold gV; rw [K.2]
  have v1 : vN σ' 24 1 = vN σ 24 1 := by unfold vN; rw [c1]
  have v2 : vN σ' 24 2 = vN σ 24 2 := by unfold vN; rw [c2]
  have v10 : vN σ' 24 10 = vN σ 24 10 := by unfold vN; rw [c10]
  have v14 : vN σ' 24 14 = vN σ 24 14 := by unfold vN; rw [c14]
  have v18 : vN σ' 24 18 = vN σ 24 18 := by unfold vN; rw [c18]
  have v30 : vN σ' 24 30 = vN σ 24 30 := by unfold vN; rw [c30]
  have vo : ∀ i, vN σ' 10 i = vN σ 10 i := fun i => by unfold vN; rw [r10]
  have v6 : ∀ i, vN σ' 6 i = vN σ 6 i := fun i => by unfold vN; rw [r6]
  have v29 : ∀ i, vN σ' 29 i = vN σ 29 i := fun i => by unfold vN; rw [r29]
  have v46 : ∀ i, vN σ' 46 i = vN σ 46 i := fun i => by unfold vN; rw [r46]
  have hl : ∀ s, live σ' s ↔ live σ s := fun s => by unfold live; rw [v10, v14, v18, v30]
  have hk : ∀ s, key σ' s = key σ s := fun s => by unfold key; rw [v6]
  have ht : tot σ' = tot σ := by unfold tot vN; rw [c46]
  obtain ⟨hA, hB, hC, hDs, hDm, hDc, hDr, hU, hO, hS⟩ := h
  refine ⟨?_, ?_, ?_, ?_, ?_, ?_, ?_, ?_, ?_, ?_⟩
  · rw [c06, c07, c1, c2]; exact hA
  · unfold GB at hB ⊢; rw [c1, c2, c10, c14, c18, c30, r5]; exact hB
  · intro p hp
    rw [v2] at hp
    obtain ⟨a, e1, e2, e3, e4, e5⟩ := hC p hp
    refine ⟨a, by rw [pP]; exact e1, ?_, by rw [r25, pK]; exact e3, by rw [r26, pV]; exact e4, by rw [pV]; exact e5⟩
    unfold isPe at e2 ⊢
    rw [pA, pK]; exact e2
  · intro k hk2
    rw [v10] at hk2
    have := hDs k hk2
    rw [r29, r30, r31, r6, r7, r8, r9, r25, r26, v29, v1, v2]; exact this
  · intro k hk2
    rw [v14] at hk2
    have := hDm k hk2
    rw [r32, r33, r34, r6, r7, r8, v1]; exact this
  · intro k hk2
    rw [v18] at hk2
    have := hDc k hk2
    rw [r35, r36, r6, r7, v1]; exact this
  · intro k hk2
    rw [v30] at hk2
    have := hDr k hk2
    rw [r40, r41, r42, r43, r6, r7, r8, r9, v1]; exact this
  · intro j k hj hk2
    rw [v10] at hj hk2
    rw [r29, r30, r31]
    exact hU j k hj hk2
  · obtain ⟨o1, o2, o3, o4⟩ := hO
    refine ⟨by rw [c46, ht]; exact o1, fun i hi => ?_, fun i j hij hj => ?_, fun s hs => ?_⟩
    · rw [ht] at hi
      rw [r10, vo, hl]; exact o2 i hi
    · rw [ht] at hj
      rw [hk, hk, vo, vo]; exact o3 i j hij hj
    · rw [hl] at hs
      obtain ⟨i, hi, e⟩ := o4 s hs
      exact ⟨i, by rw [ht]; exact hi, by rw [vo]; exact e⟩
  · intro i hi
    have q1 : gI σ' (16 + 2 * i) = gI σ (16 + 2 * i) := by
      match i, hi with
      | 0, _ => exact K.row (fun _ => rfl)
      | 1, _ => exact K.row (fun _ => rfl)
      | 2, _ => exact K.row (fun _ => rfl)
      | 3, _ => exact K.row (fun _ => rfl)
      | i + 4, h => exact absurd h (by omega)
    have q2 : gI σ' (17 + 2 * i) = gI σ (17 + 2 * i) := by
      match i, hi with
      | 0, _ => exact K.row (fun _ => rfl)
      | 1, _ => exact K.row (fun _ => rfl)
      | 2, _ => exact K.row (fun _ => rfl)
      | 3, _ => exact K.row (fun _ => rfl)
      | i + 4, h => exact absurd h (by omega)
    have := hS i hi
    rw [q1, q2, r46, r47, r48, v46]; exact this
