/-! ===== steps: many, as, greet, tell ===== -/
theorem Gd.of {σ σ' : XS} (h : Gd σ) (K : Ks σ σ') (h1 : gI σ' 0 8 = gI σ' 24 0) (h2 : gI σ' 15 0 = gI σ' 24 41) (h3 : gI σ' 24 21 = gI σ 24 21) (h4 : gI σ' 24 22 = gI σ 24 22) (h5 : gI σ' 24 25 = gI σ 24 25) : Gd σ' :=
  (h.w.k K).d h1 h2 (h3.trans h.1.2.2.2.2.1) (h4.trans h.1.2.2.2.2.2.1) (h5.trans h.1.2.2.2.2.2.2)
theorem fin1 {σ : XS} (h : Gd σ) (x : Int32) : Gd (sI (sI σ 0 8 x) 24 0 x) := by
  refine h.of ((Ks.I rfl).tr (Ks.I rfl)) ?_ ?_ ?_ ?_ ?_ <;> simp [gI_sI]
  exact h.1.2.2.2.1
theorem fin2 {σ : XS} (h : Gd σ) (y x : Int32) : Gd (sI (sI (sI σ 0 8 y) 0 8 x) 24 0 x) := by
  refine h.of (((Ks.I rfl).tr (Ks.I rfl)).tr (Ks.I rfl)) ?_ ?_ ?_ ?_ ?_ <;> simp [gI_sI]
  exact h.1.2.2.2.1
theorem wRef {σ : XS} (h : Gd σ) (r : Int32) : PX8_refused r (sI σ 0 8 0) (fun r2 σ2 => r = r2 ∧ Gd σ2) := fun σ2 e => by
  subst e
  exact ⟨rfl, fin1 h 0⟩
theorem wFail {σ : XS} (h : Gd σ) (f r : Int32) (hr : r = -10 - f) {y : Int32} : PX8_failed f (sI (sI σ 0 8 y) 0 8 f) (fun r2 σ2 => r = r2 ∧ Gd σ2) := fun σ2 e => by
  subst e
  exact ⟨hr, fin2 h _ f⟩
theorem wX5_count {σ : XS} {k : Nat} {post : Int32 → Prop} (hk : k < 4) (h : post (gI σ 5 k)) : PX5_count (nI k) σ post := by
  unfold PX5_count
  refine rng (n := 4) rfl (by decide) (fun q => ⟨q, by rw [nI_clamp (by omega)]; exact h⟩) (fun q => absurd (vp_in_nI hk (by decide)) q)
theorem st34 {σ : XS} (h : Gd σ) : S34 Gd σ := by
  intro a1
  obtain ⟨hA, hB, -⟩ := id h
  unfold PX7_many
  have hM : ∀ r1 : Int32, (a1 = 0 → r1 = gI σ 24 2) → (a1 = 1 → r1 = gI σ 24 1) → (a1 = 2 → r1 = gI σ 24 10) → (a1 = 3 → r1 = gI σ 24 14) → (a1 = 4 → r1 = gI σ 24 18) → (a1 = 5 → r1 = gI σ 24 30) → (¬ a1 = 0 → ¬ a1 = 1 → ¬ a1 = 2 → ¬ a1 = 3 → ¬ a1 = 4 → ¬ a1 = 5 → r1 = -2) → PX8_many a1 σ (fun r2 => r1 = r2 ∧ Gd σ) :=
    fun r1 h0 h1 h2 h3 h4 h5 h6 => ⟨fun q => ⟨h0 q, h⟩, fun q => ⟨h1 q, h⟩, fun q => ⟨h2 q, h⟩, fun q => ⟨h3 q, h⟩, fun q => ⟨h4 q, h⟩, fun q => ⟨h5 q, h⟩, fun q0 q1 q2 q3 q4 q5 => ⟨h6 q0 q1 q2 q3 q4 q5, h⟩⟩
  have e0 := hB.2.2.2.2.2.2.1
  have e1 := hB.2.2.2.2.2.2.2.1
  have e2 := hB.2.2.2.2.2.2.2.2.1
  have e3 := hB.2.2.2.2.2.2.2.2.2.1
  refine ⟨fun q => ?_, fun q => ?_, fun q => ?_, fun q => ?_, fun q => ?_, fun q => ?_, fun q0 q1 q2 q3 q4 q5 => ?_⟩
  · subst q; refine hM _ (fun _ => hA.1) ?_ ?_ ?_ ?_ ?_ ?_ <;> intro z <;> exact absurd z (by decide)
  · subst q; refine hM _ ?_ (fun _ => hA.2.1) ?_ ?_ ?_ ?_ ?_
    all_goals first | (intro z; exact absurd z (by decide)) | (intro _ z; exact absurd z (by decide))
  · subst q
    refine wX5_count (k := 2) (by decide) (hM _ ?_ ?_ (fun _ => e2) ?_ ?_ ?_ ?_)
    all_goals first | (intro z; exact absurd z (by decide)) | (intro _ _ z; exact absurd z (by decide))
  · subst q
    refine wX5_count (k := 1) (by decide) (hM _ ?_ ?_ ?_ (fun _ => e1) ?_ ?_ ?_)
    all_goals first | (intro z; exact absurd z (by decide)) | (intro _ _ _ z; exact absurd z (by decide))
  · subst q
    refine wX5_count (k := 0) (by decide) (hM _ ?_ ?_ ?_ ?_ (fun _ => e0) ?_ ?_)
    all_goals first | (intro z; exact absurd z (by decide)) | (intro _ _ _ _ z; exact absurd z (by decide))
  · subst q
    refine wX5_count (k := 3) (by decide) (hM _ ?_ ?_ ?_ ?_ ?_ (fun _ => e3) ?_)
    all_goals first | (intro z; exact absurd z (by decide)) | (intro _ _ _ _ _ z; exact absurd z (by decide))
  · exact hM _ (fun z => absurd z q0) (fun z => absurd z q1) (fun z => absurd z q2) (fun z => absurd z q3) (fun z => absurd z q4) (fun z => absurd z q5) (fun _ _ _ _ _ _ => rfl)
theorem kd_lt (k : Nat) (a : Int32) (h : vp_in a 3) : kd k < a ↔ ¬ a ≤ kd k := by
  rw [Int32.lt_iff_toInt_lt, Int32.le_iff_toInt_le]
  omega
theorem st31 {σ : XS} (h : Gd σ) : S31 Gd σ := by
  intro a1 a2
  unfold PX7_as
  intro σ1 e1
  have K1 : Ks σ σ1 := by rw [e1]; exact Ks.I rfl
  obtain ⟨hA, hB, hC, -⟩ := h.w.k K1
  refine wX7_personOf hA hB hC (fun q => ?_) (fun j b q ej hj x1 x2 x3 x4 x5 => ?_)
  · refine ⟨fun _ => ?_, nofun⟩
    unfold PX8_as
    exact wX8_noPerson hB (fun z => absurd z q) (fun _ => ⟨fun z => absurd z (by decide), fun _ => by rw [e1]; exact wRef h (-1)⟩)
  · refine ⟨nofun, fun w hw => ?_⟩
    cases hw
    have hj5 : j < 5 := by have := hB.p; omega
    have hO : ¬ vp_in a2 3 → PX8_as a1 a2 σ1 (fun r2 σ2 => (-2 : Int32) = r2 ∧ Gd σ2) := by
      intro z
      unfold PX8_as
      refine wX8_noPerson hB (fun _ => ⟨fun _ => ?_, fun z => absurd rfl z⟩) (fun z => absurd q z)
      refine wIn (n := 3) (by decide) (fun w => absurd w z) (fun _ => ⟨fun _ => ?_, fun w => absurd rfl w⟩)
      rw [e1]
      exact wRef h (-2)
    have h3 : (3 : Int32) = nI 3 := rfl
    refine ⟨fun z => hO (fun w => vin_lo w z), fun z => ⟨fun z2 => ?_, fun z2 => hO (fun w => z2 ?_)⟩⟩
    · have hin : vp_in a2 3 := by
        rw [vp_in_iff]
        rw [Int32.lt_iff_toInt_lt] at z
        rw [Int32.le_iff_toInt_le] at z2
        have : (2 : Int32).toInt = 2 := by decide
        have : (0 : Int32).toInt = 0 := by decide
        omega
      have key : ∀ k : Int32, k = kd (gK σ1 b) → ((a2 ≤ k → PX8_as a1 a2 σ1 (fun r2 σ2 => (1 : Int32) = r2 ∧ Gd σ2)) ∧ (¬ a2 ≤ k → PX7_fails 2 σ1 (fun r1 σ2 => PX8_as a1 a2 σ2 (fun r2 σ3 => r1 = r2 ∧ Gd σ3)))) := by
        intro k ek
        refine ⟨fun w => ?_, fun w => ?_⟩
        · unfold PX8_as
          refine wX8_noPerson hB (fun _ => ⟨fun _ => ?_, fun z => absurd rfl z⟩) (fun z => absurd q z)
          refine wIn (n := 3) (by decide) (fun _ => ⟨fun w => absurd w (by decide), fun _ => ?_⟩) (fun w => absurd hin w)
          rw [ej, nI_clamp (by omega)]
          refine ⟨vp_in_nI hj5 (by decide), fun w2 => ?_, fun _ => ?_⟩
          · rw [x3, kd_lt _ _ hin, ← ek] at w2
            exact absurd w w2
          · rw [e1]; exact wRef h 1
        · intro σ2 e2
          have K2 : Ks σ σ2 := by rw [e2]; exact K1.tr (Ks.I rfl)
          obtain ⟨hA2, hB2, hC2, -⟩ := h.w.k K2
          have r25 : gI σ2 25 j = gI σ1 25 j := by rw [e2, gI_sI]; simp
          have q2 : vp_in a1 (vN σ2 24 2) := by
            have : vN σ2 24 2 = vN σ1 24 2 := by unfold vN; rw [e2, gI_sI]; simp
            rw [this]; exact q
          unfold PX8_as
          refine wX8_noPerson hB2 (fun _ => ⟨fun _ => ?_, fun z => absurd rfl z⟩) (fun z => absurd q2 z)
          refine wIn (n := 3) (by decide) (fun _ => ⟨fun w => absurd w (by decide), fun _ => ?_⟩) (fun w => absurd hin w)
          rw [ej, nI_clamp (by omega)]
          refine ⟨vp_in_nI hj5 (by decide), fun _ => ?_, fun w2 => ?_⟩
          · rw [e2, e1]; exact wFail h 2 _ rfl
          · rw [r25, x3, kd_lt _ _ hin, ← ek] at w2
            exact absurd w w2
      refine ⟨x2, x2.2, fun k => ?_, fun k => ?_, fun k => ?_⟩
      · exact key 0 (by rw [k]; rfl)
      · exact key 1 (by rw [k]; rfl)
      · exact key 2 (by rw [k]; rfl)
    · rw [vp_in_iff] at w
      rw [Int32.le_iff_toInt_le]
      have : (2 : Int32).toInt = 2 := by decide
      omega
theorem fin3 {σ σ' : XS} (h : Gd σ) (K : Ks σ σ') (h0 : gI σ' 0 8 = gI σ 0 8) (h1 : gI σ' 24 0 = gI σ 24 0) (h2 : gI σ' 15 0 = gI σ' 24 41) (h3 : gI σ' 24 21 = gI σ 24 21) (h4 : gI σ' 24 22 = gI σ 24 22) (h5 : gI σ' 24 25 = gI σ 24 25) : Gd σ' :=
  h.of K (h0.trans (h.1.2.2.1.trans h1.symm)) h2 h3 h4 h5
theorem st30 {σ : XS} (h : Gd σ) : S30 Gd σ := by
  intro a1
  obtain ⟨hA, hB, hC, -⟩ := h.w
  have ht := h.1.2.2.2.1
  unfold PX7_greet
  refine wX7_personOf hA hB hC (fun q => ?_) (fun j b q ej hj x1 x2 x3 x4 x5 => ?_)
  · refine ⟨fun _ => ?_, nofun⟩
    unfold PX8_greet
    exact wX8_noPerson hB (fun z => absurd z q) (fun _ => ⟨fun z => absurd z (by decide), fun _ => ⟨rfl, h⟩⟩)
  · refine ⟨nofun, fun w hw => ?_⟩
    cases hw
    have hj5 : j < 5 := by have := hB.p; omega
    have key : ∀ (x : Int32) (r1 : Int32), (gI σ 25 j = 2 → x = 5 ∧ r1 = 70) → (¬ gI σ 25 j = 2 → x = 4 ∧ r1 = a1) → PX8_greet a1 (sI σ 15 0 (31 * gI σ 15 0 + x)) (fun r2 σ2 => r1 = r2 ∧ Gd σ2) := by
      intro x r1 h2 h4
      obtain ⟨σ1, e1⟩ : ∃ z, z = sI σ 15 0 (31 * gI σ 15 0 + x) := ⟨_, rfl⟩
      rw [← e1]
      have K1 : Ks σ σ1 := by rw [e1]; exact Ks.I rfl
      obtain ⟨-, hB1, -, -⟩ := h.w.k K1
      have q1 : vp_in a1 (vN σ1 24 2) := by
        have : vN σ1 24 2 = vN σ 24 2 := by unfold vN; rw [e1, gI_sI]; simp
        rw [this]; exact q
      have r25 : gI σ1 25 j = gI σ 25 j := by rw [e1, gI_sI]; simp
      have hin : vp_in a1 5 := vin_mono q1 (by have := hB1.p; omega)
      unfold PX8_greet
      refine wX8_noPerson hB1 (fun _ => ⟨fun _ => ⟨hin, ?_⟩, fun z => absurd rfl z⟩) (fun z => absurd q1 z)
      have ea : a1.toNatClampNeg = j := by rw [ej, nI_clamp (by omega)]
      rw [ea, r25]
      refine ⟨fun z => ?_, fun z => ?_⟩
      · intro σ2 e2
        obtain ⟨z1, z2⟩ := h2 z
        have r2 : gI σ2 25 j = gI σ 25 j := by rw [e2, gI_sI, ← r25]; simp
        rw [r2]
        refine ⟨hin, fun _ => ⟨z2, ?_⟩, fun w => absurd z w⟩
        subst e2; subst e1; subst z1
        refine fin3 h ((Ks.I rfl).tr (Ks.I rfl)) ?_ ?_ ?_ ?_ ?_ ?_ <;> simp [gI_sI, ht]
      · intro σ2 e2
        obtain ⟨z1, z2⟩ := h4 z
        have r2 : gI σ2 25 j = gI σ 25 j := by rw [e2, gI_sI, ← r25]; simp
        rw [r2]
        refine ⟨hin, fun w => absurd w z, fun _ => ⟨z2, ?_⟩⟩
        subst e2; subst e1; subst z1
        refine fin3 h ((Ks.I rfl).tr (Ks.I rfl)) ?_ ?_ ?_ ?_ ?_ ?_ <;> simp [gI_sI, ht]
    refine ⟨x2, x2.2, fun k => ?_, fun k => ?_, fun k => ?_⟩
    · intro σ1 e1
      rw [e1]
      exact key 4 _ (fun z => by rw [x3, k] at z; exact absurd z (by decide)) (fun _ => ⟨rfl, rfl⟩)
    · intro σ1 e1
      rw [e1]
      exact key 4 _ (fun z => by rw [x3, k] at z; exact absurd z (by decide)) (fun _ => ⟨rfl, rfl⟩)
    · intro σ1 e1
      rw [e1]
      exact key 5 _ (fun _ => ⟨rfl, rfl⟩) (fun z => by rw [x3, k] at z; exact absurd rfl z)
