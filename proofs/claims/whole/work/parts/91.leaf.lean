/-! ===== what the small methods ask ===== -/
theorem GB.p {σ : XS} (h : GB σ) : gI σ 24 2 = nI (vN σ 24 2) ∧ vN σ 24 2 < 6 := cnt h.1 (by decide)
theorem GB.q {σ : XS} (h : GB σ) : gI σ 24 1 = nI (vN σ 24 1) ∧ vN σ 24 1 < 7 := cnt h.2.1 (by decide)
theorem GB.s {σ : XS} (h : GB σ) : gI σ 24 10 = nI (vN σ 24 10) ∧ vN σ 24 10 < 25 := cnt h.2.2.1 (by decide)
theorem GB.m {σ : XS} (h : GB σ) : gI σ 24 14 = nI (vN σ 24 14) ∧ vN σ 24 14 < 7 := cnt h.2.2.2.1 (by decide)
theorem GB.c {σ : XS} (h : GB σ) : gI σ 24 18 = nI (vN σ 24 18) ∧ vN σ 24 18 < 7 := cnt h.2.2.2.2.1 (by decide)
theorem GB.r {σ : XS} (h : GB σ) : gI σ 24 30 = nI (vN σ 24 30) ∧ vN σ 24 30 < 9 := cnt h.2.2.2.2.2.1 (by decide)
section LF
variable {σ : XS} {a : Int32} {post : Int32 → Prop}
theorem wX8_noPerson (hB : GB σ) (h1 : vp_in a (vN σ 24 2) → post 0) (h0 : ¬ vp_in a (vN σ 24 2) → post 1) : PX8_noPerson a σ post := by
  unfold PX8_noPerson
  have hp := hB.p
  refine wIn (n := vN σ 24 2) (by rw [hp.1]; rw [show vN σ 24 2 = vN σ 24 2 from rfl]; exact cN _ (by omega)) (fun q => ?_) (fun q => ?_)
  · exact ⟨fun z => absurd z (by decide), fun _ => h1 q⟩
  · exact ⟨fun _ => h0 q, fun z => absurd rfl z⟩
theorem wX8_noPlace (hB : GB σ) (h1 : vp_in a (vN σ 24 1) → post 0) (h0 : ¬ vp_in a (vN σ 24 1) → post 1) : PX8_noPlace a σ post := by
  unfold PX8_noPlace
  have hp := hB.q
  refine wIn (n := vN σ 24 1) (by rw [hp.1]; exact cN _ (by omega)) (fun q => ?_) (fun q => ?_)
  · exact ⟨fun z => absurd z (by decide), fun _ => h1 q⟩
  · exact ⟨fun _ => h0 q, fun z => absurd rfl z⟩
theorem wX8_isNight (h1 : vp_in a 40 → post 1) (h0 : ¬ vp_in a 40 → post 0) : PX8_isNight a σ post := by
  unfold PX8_isNight
  exact wIn (n := 40) (by decide) (fun q => ⟨rfl, h1 q⟩) (fun q => ⟨rfl, h0 q⟩)
theorem wX8_noSheet (h1 : vp_in a 4 → post 0) (h0 : ¬ vp_in a 4 → post 1) : PX8_noSheet a σ post := by
  unfold PX8_noSheet
  refine wIn (n := 4) (by decide) (fun q => ?_) (fun q => ?_)
  · exact ⟨fun z => absurd z (by decide), fun _ => h1 q⟩
  · exact ⟨fun _ => h0 q, fun z => absurd rfl z⟩
theorem wX7_isNight (h1 : vp_in a 40 → post 1) (h0 : ¬ vp_in a 40 → post 0) : PX7_isNight a σ post := rng (by decide) (by decide) h1 h0
theorem wX7_isLane (h1 : vp_in a 3 → post 1) (h0 : ¬ vp_in a 3 → post 0) : PX7_isLane a σ post := rng (by decide) (by decide) h1 h0
theorem wX7_isGum (h1 : vp_in a 8 → post 1) (h0 : ¬ vp_in a 8 → post 0) : PX7_isGum a σ post := rng (by decide) (by decide) h1 h0
theorem wX7_isPlace (hA : gI σ 0 6 = gI σ 24 2 ∧ gI σ 0 7 = gI σ 24 1) (hB : GB σ) (h1 : vp_in a (vN σ 24 1) → post 1) (h0 : ¬ vp_in a (vN σ 24 1) → post 0) : PX7_isPlace a σ post := by
  have hp := hB.q
  exact rng (hA.2.trans hp.1) (by omega) h1 h0
theorem vin2 {a : Int32} : vp_in a 2 ↔ a = 0 ∨ a = 1 := by
  constructor
  · intro h
    obtain ⟨j, hj, rfl⟩ := vp_in_of h (by decide)
    rcases (show j = 0 ∨ j = 1 by omega) with rfl | rfl
    · exact Or.inl rfl
    · exact Or.inr rfl
  · rintro (rfl | rfl)
    · exact vp_in_nI (n := 0) (by decide) (by decide)
    · exact vp_in_nI (n := 1) (by decide) (by decide)
theorem wX7_isEither (h1 : vp_in a 2 → post 1) (h0 : ¬ vp_in a 2 → post 0) : PX7_isEither a σ post := by
  unfold PX7_isEither
  refine ⟨fun q => h1 (vin2.mpr (Or.inl q)), fun q => ⟨fun q2 => h1 (vin2.mpr (Or.inr q2)), fun q2 => h0 (fun z => ?_)⟩⟩
  rcases vin2.mp z with z | z
  · exact q z
  · exact q2 z
theorem wX7_sheetOf {post : Option Nat → Prop} (h1 : ∀ j, j < 4 → a = nI j → post (some (16 + 2 * j))) (h0 : ¬ vp_in a 4 → post none) : PX7_sheetOf a σ post := by
  unfold PX7_sheetOf
  refine rng (n := 4) (by decide) (by decide) (fun q => ⟨q, ?_⟩) h0
  obtain ⟨j, hj, rfl⟩ := vp_in_of q (by decide)
  rw [nI_clamp (by omega)]
  exact h1 j hj rfl
theorem wX7_personOf {post : Option Nat → Prop} (hA : gI σ 0 6 = gI σ 24 2 ∧ gI σ 0 7 = gI σ 24 1) (hB : GB σ) (hC : GC σ) (h0 : ¬ vp_in a (vN σ 24 2) → post none) (h1 : ∀ j b, vp_in a (vN σ 24 2) → a = nI j → j < vN σ 24 2 → gP σ j = some b → isPe σ b → gI σ 25 j = kd (gK σ b) → gI σ 26 j = gV σ b → vp_in (gV σ b) 4 → post (some b)) : PX7_personOf a σ post := by
  unfold PX7_personOf
  have hp := hB.p
  refine rng (n := vN σ 24 2) (hA.1.trans hp.1) (by omega) (fun q => ?_) h0
  obtain ⟨j, hj, rfl⟩ := vp_in_of q (by omega)
  obtain ⟨b, e1, e2, e3, e4, e5⟩ := hC j hj
  refine ⟨fun z => absurd z ?_, fun _ => ⟨vp_in_nI (by omega) (by decide), ?_⟩⟩
  · have : (5 : Int32) = nI 5 := rfl
    rw [this]
    exact nI_ge (by omega) (by decide)
  · rw [nI_clamp (by omega), e1]
    exact h1 j b q rfl hj e1 e2 e3 e4 e5
theorem kd3 {b : Nat} (h : isPe σ b) : (gK σ b = 4 ∧ kd (gK σ b) = 0) ∨ (gK σ b = 2 ∧ kd (gK σ b) = 1) ∨ (gK σ b = 0 ∧ kd (gK σ b) = 2) := by
  rcases h.2 with h | h | h <;> rw [h]
  · exact Or.inl ⟨rfl, rfl⟩
  · exact Or.inr (Or.inl ⟨rfl, rfl⟩)
  · exact Or.inr (Or.inr ⟨rfl, rfl⟩)
theorem add4 (x : Int32) : x + 4 = 4 + x := Int32.add_comm x 4
/-- the gum that a person leaves, by its class -/
theorem wLeaves {b : Nat} (hb : isPe σ b) {night : Int32} {P4 P2 P0 : Prop} (h : ∀ k, k = kd (gK σ b) → ((k = 0 → gumv k (gV σ b) night = gV σ b → P4) ∧ (k = 1 → gumv k (gV σ b) night = fickle (gV σ b) night → P2) ∧ (k = 2 → gumv k (gV σ b) night = 4 + fickle (gV σ b) night → P0))) : isPe σ b ∧ (gK σ b = 4 ∨ gK σ b = 2 ∨ gK σ b = 0) ∧ (gK σ b = 4 → P4) ∧ (gK σ b = 2 → P2) ∧ (gK σ b = 0 → P0) := by
  refine ⟨hb, hb.2, fun q => ?_, fun q => ?_, fun q => ?_⟩
  · have e : kd (gK σ b) = 0 := by rw [q]; rfl
    exact (h _ rfl).1 e (by rw [e]; rfl)
  · have e : kd (gK σ b) = 1 := by rw [q]; rfl
    exact (h _ rfl).2.1 e (by rw [e]; rfl)
  · have e : kd (gK σ b) = 2 := by rw [q]; rfl
    exact (h _ rfl).2.2 e (by rw [e]; rfl)
theorem wX8_gumOf {j : Nat} {night : Int32} (hj : j < 5) (h : post (gumv (gI σ 25 j) (gI σ 26 j) night)) : PX8_gumOf (nI j) night σ post := by
  unfold PX8_gumOf
  have hi : vp_in (nI j) 5 := vp_in_nI hj (by decide)
  rw [nI_clamp (by omega)]
  refine ⟨hi, fun q => ⟨hi, ?_⟩, fun q => ⟨hi, by decide, by decide, fun x ex => ⟨hi, fun q2 => ?_, fun q2 => ?_⟩⟩⟩
  · unfold gumv at h
    rw [if_pos q] at h
    exact h
  · unfold gumv at h
    rw [if_neg q, if_pos q2] at h
    rw [ex]
    exact h
  · unfold gumv at h
    rw [if_neg q, if_neg q2] at h
    rw [ex]
    exact h
end LF
/-! ===== steps that only read ===== -/
theorem st32 {σ : XS} (h : Gd σ) : S32 Gd σ := by
  unfold S32 PX7_trace PX8_trace
  exact ⟨h.1.2.2.2.1, h⟩
theorem st33 {σ : XS} (h : Gd σ) : S33 Gd σ := by
  unfold S33 PX7_fault PX8_fault
  exact ⟨h.1.2.2.1, h⟩
theorem st1 {σ : XS} (h : Gd σ) : S1 Gd σ := by
  intro a1 a2
  obtain ⟨hA0, hB, hC, -⟩ := id h
  have hA : gI σ 0 6 = gI σ 24 2 ∧ gI σ 0 7 = gI σ 24 1 := ⟨hA0.1, hA0.2.1⟩
  unfold PX7_ofPerson
  refine wX7_personOf hA hB hC (fun q => ?_) (fun j b q ej hj e1 e2 e3 e4 e5 => ?_)
  · refine ⟨fun _ => ?_, nofun⟩
    unfold PX8_ofPerson
    exact wX8_noPerson hB (fun z => absurd z q) (fun _ => ⟨fun z => absurd z (by decide), fun _ => ⟨rfl, h⟩⟩)
  · refine ⟨nofun, fun w hw => ?_⟩
    cases hw
    have hj5 : j < 5 := by have := hB.p; omega
    have hM : ∀ r1 : Int32, (a2 = 0 → r1 = gI σ 25 j) → (a2 = 1 → r1 = gI σ 26 j) → (¬ vp_in a2 2 → r1 = -2) → PX8_ofPerson a1 a2 σ (fun r2 => r1 = r2 ∧ Gd σ) := by
      intro r1 h0 h1 h2
      unfold PX8_ofPerson
      refine wX8_noPerson hB (fun _ => ⟨fun _ => ⟨fun z => ?_, fun z => ⟨fun z2 => ?_, fun z2 => ?_⟩⟩, fun z => absurd rfl z⟩) (fun z => absurd q z)
      · rw [ej, nI_clamp (by omega)]
        exact ⟨vp_in_nI hj5 (by decide), h0 z, h⟩
      · rw [ej, nI_clamp (by omega)]
        exact ⟨vp_in_nI hj5 (by decide), h1 z2, h⟩
      · exact ⟨h2 (fun w => (vin2.mp w).elim z z2), h⟩
    refine wX7_isEither (fun z => ⟨fun w => absurd w (by decide), fun _ => ⟨fun z0 => ?_, fun z0 => ?_⟩⟩) (fun z => ⟨fun _ => ?_, fun w => absurd rfl w⟩)
    · subst z0
      refine ⟨e2, e2.2, fun k => ?_, fun k => ?_, fun k => ?_⟩ <;> refine hM _ (fun _ => ?_) (fun w => absurd w (by decide)) (fun w => absurd z w)
      · rw [e3, k]; rfl
      · rw [e3, k]; rfl
      · rw [e3, k]; rfl
    · exact ⟨e2, hM _ (fun w => absurd w z0) (fun _ => e4.symm) (fun w => absurd z w)⟩
    · exact hM _ (fun w => absurd (vin2.mpr (Or.inl w)) z) (fun w => absurd (vin2.mpr (Or.inr w)) z) (fun _ => rfl)
theorem st2 {σ : XS} (h : Gd σ) : S2 Gd σ := by
  intro a1 a2
  obtain ⟨hA0, hB, hC, -⟩ := id h
  have hA : gI σ 0 6 = gI σ 24 2 ∧ gI σ 0 7 = gI σ 24 1 := ⟨hA0.1, hA0.2.1⟩
  unfold PX7_gum
  refine wX7_personOf hA hB hC (fun q => ?_) (fun j b q ej hj e1 e2 e3 e4 e5 => ?_)
  · refine ⟨fun _ => ?_, nofun⟩
    unfold PX8_gum
    exact wX8_noPerson hB (fun z => absurd z q) (fun _ => ⟨fun z => absurd z (by decide), fun _ => ⟨rfl, h⟩⟩)
  · refine ⟨nofun, fun w hw => ?_⟩
    cases hw
    have hj5 : j < 5 := by have := hB.p; omega
    have hM : ∀ r1 : Int32, (vp_in a2 40 → r1 = gumv (gI σ 25 j) (gI σ 26 j) a2) → (¬ vp_in a2 40 → r1 = -2) → PX8_gum a1 a2 σ (fun r2 => r1 = r2 ∧ Gd σ) := by
      intro r1 h0 h2
      unfold PX8_gum
      refine wX8_noPerson hB (fun _ => ⟨fun _ => ?_, fun z => absurd rfl z⟩) (fun z => absurd q z)
      refine wX8_isNight (fun z => ⟨fun w => absurd w (by decide), fun _ => ?_⟩) (fun z => ⟨fun _ => ⟨h2 z, h⟩, fun w => absurd rfl w⟩)
      rw [ej]
      exact wX8_gumOf hj5 ⟨h0 z, h⟩
    refine wX7_isNight (fun z => ⟨fun w => absurd w (by decide), fun _ => ?_⟩) (fun z => ⟨fun _ => hM _ (fun w => absurd w z) (fun _ => rfl), fun w => absurd rfl w⟩)
    refine wLeaves e2 (night := a2) (fun k ek => ⟨fun k0 g => ?_, fun k0 g => ?_, fun k0 g => ?_⟩)
    · exact ⟨e2, hM _ (fun _ => by rw [e3, e4, ← ek]; exact g.symm) (fun w => absurd z w)⟩
    · exact ⟨e2, by decide, by decide, hM _ (fun _ => by rw [e3, e4, ← ek]; exact g.symm) (fun w => absurd z w)⟩
    · have k9 : gK σ b = 0 := by
        rcases kd3 e2 with ⟨x, y⟩ | ⟨x, y⟩ | ⟨x, y⟩
        · rw [ek, y] at k0; exact absurd k0 (by decide)
        · rw [ek, y] at k0; exact absurd k0 (by decide)
        · exact x
      refine ⟨e2, k9, fun _ => ⟨e2, by decide, by decide, hM _ (fun _ => ?_) (fun w => absurd z w)⟩⟩
      rw [e3, e4, ← ek, g, ← add4]
      rfl
