theorem st5 {σ : XS} (h : Gd σ) : S5 Gd σ := by
  intro a1 a2 a3
  have hw := h.w
  obtain ⟨hA, hB, hC, hDs, hDm, hDc, hDr, hU, -, -⟩ := id hw
  have hq := hB.q
  have hp := hB.p
  have cc := hB.c
  have cs := hB.s
  have cm := hB.m
  have cr := hB.r
  have hUn : ∀ r : Int32, (¬ vp_in a1 (vN σ 24 1) → r = -1) → (¬ vp_in a2 (vN σ 24 1) → r = -1) → (a1 = a2 → r = -1) → (vp_in a1 (vN σ 24 1) → vp_in a2 (vN σ 24 1) → ¬ a1 = a2 → ¬ vp_in a3 40 → r = -2) → (vp_in a1 (vN σ 24 1) → vp_in a2 (vN σ 24 1) → ¬ a1 = a2 → vp_in a3 40 → gI σ 24 14 = 6 ∧ r = -4) → PX8_move a1 a2 a3 σ (fun r2 σ2 => r = r2 ∧ Gd σ2) := by
    intro r w1 w2 w3 w4 w5
    unfold PX8_move
    refine wX8_noPlace hB (fun q1 => ⟨fun _ => wX8_noPlace hB (fun q2 => ⟨fun _ => ⟨fun q3 => ⟨w3 q3, h⟩, fun q3 => wX8_isNight (fun q4 => ⟨fun w => absurd w (by decide), fun _ => ⟨fun q5 => ⟨(w5 q1 q2 q3 q4).2, h⟩, fun q5 => absurd (w5 q1 q2 q3 q4).1 q5⟩⟩) (fun q4 => ⟨fun _ => ⟨w4 q1 q2 q3 q4, h⟩, fun w => absurd rfl w⟩)⟩, fun w => absurd rfl w⟩) (fun q2 => ⟨fun w => absurd w (by decide), fun _ => ⟨w2 q2, h⟩⟩), fun w => absurd rfl w⟩) (fun q1 => ⟨fun w => absurd w (by decide), fun _ => ⟨w1 q1, h⟩⟩)
  unfold PX7_move
  refine wX7_isPlace hA hB (fun q1 => ⟨fun w => absurd w (by decide), fun _ => ?_⟩) (fun q1 => ⟨fun _ => hUn (-1) (fun _ => rfl) (fun _ => rfl) (fun _ => rfl) (fun w => absurd w q1) (fun w => absurd w q1), fun w => absurd rfl w⟩)
  refine wX7_isPlace hA hB (fun q2 => ⟨fun w => absurd w (by decide), fun _ => ⟨fun q3 => hUn (-1) (fun _ => rfl) (fun _ => rfl) (fun _ => rfl) (fun _ _ w => absurd q3 w) (fun _ _ w => absurd q3 w), fun q3 => ?_⟩⟩) (fun q2 => ⟨fun _ => hUn (-1) (fun _ => rfl) (fun _ => rfl) (fun _ => rfl) (fun _ w => absurd w q2) (fun _ w => absurd w q2), fun w => absurd rfl w⟩)
  refine wX7_isNight (fun q4 => ⟨fun w => absurd w (by decide), fun _ => ?_⟩) (fun q4 => ⟨fun _ => hUn (-2) (fun w => absurd q1 w) (fun w => absurd q2 w) (fun w => absurd w q3) (fun _ _ _ _ => rfl) (fun _ _ _ w => absurd w q4), fun w => absurd rfl w⟩)
  obtain ⟨k1, k2, k3⟩ := hw.ck (κ := 1) (by decide)
  refine wIsFull (κ := 1) (by decide) k1 (by have : mx 1 = 6 := rfl; omega) (fun hf => ⟨fun w => absurd w (by decide), fun _ => hUn (-4) (fun w => absurd q1 w) (fun w => absurd q2 w) (fun w => absurd w q3) (fun _ _ _ w => absurd q4 w) (fun _ _ _ _ => ⟨(full_eq (m := 6) cm.1 (by decide) (by omega)).mpr hf, rfl⟩)⟩) (fun hf => ⟨fun _ => ?_, fun w => absurd rfl w⟩)
  refine hw.add (κ := 1) (by decide) q4 (fun σ1 hR => ?_)
  have hmx : vN σ 24 14 < 6 := hf
  have K1 := hR.1
  have m1 : ∀ k, gI σ1 24 k = gI σ 24 k := fun k => K1.1 24 k rfl
  have c1 : gI σ1 24 14 = nI (vN σ 24 14) := (m1 14).trans cm.1
  unfold PX8_move
  refine wX8_noPlace' ((m1 1).trans hq.1) hq.2 (fun _ => ⟨fun _ => wX8_noPlace' ((m1 1).trans hq.1) hq.2 (fun _ => ⟨fun _ => ⟨fun w => absurd w q3, fun _ => wX8_isNight (fun _ => ⟨fun w => absurd w (by decide), fun _ => ⟨fun w => absurd ((full_eq (m := 6) c1 (by decide) (by omega)).mp w) (by omega), fun _ => ?_⟩⟩) (fun w => absurd q4 w)⟩, fun w => absurd rfl w⟩) (fun w => absurd q2 w), fun w => absurd rfl w⟩) (fun w => absurd q1 w)
  rw [c1]
  refine ⟨pk_in _ 6 hmx, fun σ6 e6 => ?_⟩
  rw [nI_clamp (by omega)] at e6
  have ce6 : gI σ6 24 14 = nI (vN σ 24 14) := by rw [e6, gI_sIj _ _ (by decide)]; exact c1
  rw [ce6]
  refine ⟨pk_in _ 6 hmx, fun σ7 e7 => ?_⟩
  rw [nI_clamp (by omega)] at e7
  have ce7 : gI σ7 24 14 = nI (vN σ 24 14) := by rw [e7, gI_sIj _ _ (by decide)]; exact ce6
  rw [ce7]
  refine ⟨pk_in _ 6 hmx, fun σ8 e8 => ?_⟩
  rw [nI_clamp (by omega)] at e8
  have ce8 : gI σ8 24 14 = nI (vN σ 24 14) := by rw [e8, gI_sIj _ _ (by decide)]; exact ce7
  rw [ce8]
  intro σ9 e9
  refine ⟨by rw [e9, gI_sIe, pk_m1']; rfl, ?_⟩
  have K2 : KK mdw σ1 σ9 := by rw [e9, e8, e7, e6]; exact (KK.I rfl).tr ((KK.I rfl).tr ((KK.I rfl).tr (KK.I rfl)))
  have o : ∀ j, j ≠ 24 → j ≠ 32 → j ≠ 33 → j ≠ 34 → ∀ k, gI σ9 j k = gI σ1 j k := by
    intro j m n0 n1 n2 k
    rw [e9, gI_sIj _ _ m, e8, gI_sIj _ _ n2, e7, gI_sIj _ _ n1, e6, gI_sIj _ _ n0]
  have o24 : ∀ k, k ≠ 14 → gI σ9 24 k = gI σ 24 k := by
    intro k n
    rw [e9, gI_sIk _ _ n, e8, gI_sIj _ _ (by decide), e7, gI_sIj _ _ (by decide), e6, gI_sIj _ _ (by decide), m1]
  have ec : gI σ9 24 14 = nI (vN σ 24 14 + 1) := by rw [e9, gI_sIe, nI_1]
  have v1 : vN σ9 24 1 = vN σ 24 1 := by unfold vN; rw [o24 1 (by decide)]
  have v2 : vN σ9 24 2 = vN σ 24 2 := by unfold vN; rw [o24 2 (by decide)]
  have v10 : vN σ9 24 10 = vN σ 24 10 := by unfold vN; rw [o24 10 (by decide)]
  have v14 : vN σ9 24 14 = vN σ 24 14 + 1 := by show (gI σ9 24 14).toNatClampNeg = _; rw [ec, nI_clamp (by omega)]
  have v18 : vN σ9 24 18 = vN σ 24 18 := by unfold vN; rw [o24 18 (by decide)]
  have v30 : vN σ9 24 30 = vN σ 24 30 := by unfold vN; rw [o24 30 (by decide)]
  have oo : ∀ j, j ≠ 24 → j ≠ 32 → j ≠ 33 → j ≠ 34 → (∀ k, stw j k = false) → ∀ k, gI σ9 j k = gI σ j k := fun j m n0 n1 n2 hs k => (o j m n0 n1 n2 k).trans (K1.1 j k (hs k))
  have r : ∀ j, j ≠ 24 → j ≠ 32 → j ≠ 33 → j ≠ 34 → (∀ k, stw j k = false) → gI σ9 j = gI σ j := fun j m n0 n1 n2 hs => by funext k; exact oo j m n0 n1 n2 hs k
  have g : ∀ s, s ≠ 7 + vN σ 24 14 → gI σ9 6 s = gI σ 6 s ∧ gI σ9 7 s = gI σ 7 s ∧ gI σ9 8 s = gI σ 8 s ∧ gI σ9 9 s = gI σ 9 s := by
    intro s hs
    rw [o 6 (by decide) (by decide) (by decide) (by decide), o 7 (by decide) (by decide) (by decide) (by decide), o 8 (by decide) (by decide) (by decide) (by decide), o 9 (by decide) (by decide) (by decide) (by decide)]
    exact hR.g (by show s ≠ 7 + vN σ 24 14; omega)
  refine h.one (κ := 1) (by decide) hf hR K2 ?_ ?_ ?_ ?_ ?_ ?_
  · intro j hj
    match j, hj with
    | 0, _ => exact o24 18 (by decide)
    | 1, _ => exact ec
    | 2, _ => exact o24 10 (by decide)
    | 3, _ => exact o24 30 (by decide)
    | j + 4, h => exact absurd h (by omega)
  · intro k hk
    rw [v10] at hk
    have gg := g (14 + k) (by omega)
    exact bS.t (hDs k hk) v1 v2 (r 25 (by decide) (by decide) (by decide) (by decide) (fun _ => rfl)) (r 26 (by decide) (by decide) (by decide) (by decide) (fun _ => rfl)) (oo 29 (by decide) (by decide) (by decide) (by decide) (fun _ => rfl) k) (oo 30 (by decide) (by decide) (by decide) (by decide) (fun _ => rfl) k) (oo 31 (by decide) (by decide) (by decide) (by decide) (fun _ => rfl) k) gg.1 gg.2.1 gg.2.2.1 gg.2.2.2
  · intro k hk
    rw [v14] at hk
    by_cases e : k = vN σ 24 14
    · obtain ⟨n6, n7, n8, n9⟩ := hR.n (s := (7 + k)) (by show (7 + k) = 7 + vN σ 24 14; omega)
      rw [← o 6 (by decide) (by decide) (by decide) (by decide)] at n6
      rw [← o 7 (by decide) (by decide) (by decide) (by decide)] at n7
      rw [← o 8 (by decide) (by decide) (by decide) (by decide)] at n8
      rw [← o 9 (by decide) (by decide) (by decide) (by decide)] at n9
      have x32 : gI σ9 32 k = a1 := by rw [e9, gI_sIj _ _ (by decide), e8, gI_sIj _ _ (by decide), e7, gI_sIj _ _ (by decide), e6, e, gI_sIe]
      have x33 : gI σ9 33 k = a2 := by rw [e9, gI_sIj _ _ (by decide), e8, gI_sIj _ _ (by decide), e7, e, gI_sIe]
      have x34 : gI σ9 34 k = a3 := by rw [e9, gI_sIj _ _ (by decide), e8, e, gI_sIe]
      exact ⟨by rw [x32, v1]; exact q1, by rw [x33, v1]; exact q2, by rw [x34]; exact q4, by rw [x34]; exact n6, by rw [x32]; exact n7, by rw [x33]; exact n8⟩
    · have gg := g (7 + k) (by omega)
      refine bM.t (hDm k (by omega)) v1 ?_ ?_ ?_ gg.1 gg.2.1 gg.2.2.1
      · rw [e9, gI_sIj _ _ (by decide), e8, gI_sIj _ _ (by decide), e7, gI_sIj _ _ (by decide), e6, gI_sIk _ _ e]; exact K1.1 32 k rfl
      · rw [e9, gI_sIj _ _ (by decide), e8, gI_sIj _ _ (by decide), e7, gI_sIk _ _ e, e6, gI_sIj _ _ (by decide)]; exact K1.1 33 k rfl
      · rw [e9, gI_sIj _ _ (by decide), e8, gI_sIk _ _ e, e7, gI_sIj _ _ (by decide), e6, gI_sIj _ _ (by decide)]; exact K1.1 34 k rfl
  · intro k hk
    rw [v18] at hk
    have gg := g k (by omega)
    exact bC.t (hDc k hk) v1 (oo 35 (by decide) (by decide) (by decide) (by decide) (fun _ => rfl) k) (oo 36 (by decide) (by decide) (by decide) (by decide) (fun _ => rfl) k) gg.1 gg.2.1
  · intro k hk
    rw [v30] at hk
    have gg := g (39 + k) (by omega)
    exact bR.t (hDr k hk) v1 (oo 40 (by decide) (by decide) (by decide) (by decide) (fun _ => rfl) k) (oo 41 (by decide) (by decide) (by decide) (by decide) (fun _ => rfl) k) (oo 42 (by decide) (by decide) (by decide) (by decide) (fun _ => rfl) k) (oo 43 (by decide) (by decide) (by decide) (by decide) (fun _ => rfl) k) gg.1 gg.2.1 gg.2.2.1 gg.2.2.2
  · intro j k hj hk
    rw [v10] at hj hk
    rw [r 29 (by decide) (by decide) (by decide) (by decide) (fun _ => rfl), r 30 (by decide) (by decide) (by decide) (by decide) (fun _ => rfl), r 31 (by decide) (by decide) (by decide) (by decide) (fun _ => rfl)]
    exact hU j k hj hk
theorem st16 {σ : XS} (h : Gd σ) : S16 Gd σ := by
  intro a1 a2 a3 a4
  have hw := h.w
  obtain ⟨hA, hB, hC, hDs, hDm, hDc, hDr, hU, -, -⟩ := id hw
  have hq := hB.q
  have hp := hB.p
  have cc := hB.c
  have cs := hB.s
  have cm := hB.m
  have cr := hB.r
  have hUn : ∀ r : Int32, (¬ vp_in a1 (vN σ 24 1) → r = -1) → (vp_in a1 (vN σ 24 1) → (¬ vp_in a2 40 ∨ ¬ vp_in a3 10 ∨ (¬ vp_in a4 8 ∧ ¬ a4 = 9)) → r = -2) → (vp_in a1 (vN σ 24 1) → vp_in a2 40 → vp_in a3 10 → (vp_in a4 8 ∨ a4 = 9) → gI σ 24 30 = 8 ∧ r = -4) → PX8_reading a1 a2 a3 a4 σ (fun r2 σ2 => r = r2 ∧ Gd σ2) := by
    intro r w1 w2 w3
    unfold PX8_reading
    refine wX8_noPlace hB (fun q1 => ⟨fun _ => wX8_isNight (fun q2 => ⟨fun w => absurd w (by decide), fun _ => ?_⟩) (fun q2 => ⟨fun _ => ⟨w2 q1 (Or.inl q2), h⟩, fun w => absurd rfl w⟩), fun w => absurd rfl w⟩) (fun q1 => ⟨fun w => absurd w (by decide), fun _ => ⟨w1 q1, h⟩⟩)
    refine wIn (n := 10) (by decide) (fun q3 => ⟨fun w => absurd w (by decide), fun _ => ?_⟩) (fun q3 => ⟨fun _ => ⟨w2 q1 (Or.inr (Or.inl q3)), h⟩, fun w => absurd rfl w⟩)
    refine wIn (n := 8) (by decide) (fun q4 => ⟨fun w => absurd w (by decide), fun _ => ⟨fun _ => ⟨(w3 q1 q2 q3 (Or.inl q4)).2, h⟩, fun w => absurd (w3 q1 q2 q3 (Or.inl q4)).1 w⟩⟩) (fun q4 => ⟨fun _ => ⟨fun q5 => ⟨fun _ => ⟨(w3 q1 q2 q3 (Or.inr q5)).2, h⟩, fun w => absurd (w3 q1 q2 q3 (Or.inr q5)).1 w⟩, fun q5 => ⟨w2 q1 (Or.inr (Or.inr ⟨q4, q5⟩)), h⟩⟩, fun w => absurd rfl w⟩)
  unfold PX7_reading
  refine wX7_isPlace hA hB (fun q1 => ⟨fun w => absurd w (by decide), fun _ => ?_⟩) (fun q1 => ⟨fun _ => hUn (-1) (fun _ => rfl) (fun w => absurd w q1) (fun w => absurd w q1), fun w => absurd rfl w⟩)
  have hOut : (¬ vp_in a2 40 ∨ ¬ vp_in a3 10 ∨ (¬ vp_in a4 8 ∧ ¬ a4 = 9)) → PX8_reading a1 a2 a3 a4 σ (fun r2 σ2 => (-2 : Int32) = r2 ∧ Gd σ2) := by
    intro hno
    refine hUn (-2) (fun w => absurd q1 w) (fun _ _ => rfl) (fun _ z2 z3 z4 => ?_)
    rcases hno with w | w | w
    · exact absurd z2 w
    · exact absurd z3 w
    · rcases z4 with z4 | z4
      · exact absurd z4 w.1
      · exact absurd z4 w.2
  refine wX7_isNight (fun q2 => ⟨fun w => absurd w (by decide), fun _ => ?_⟩) (fun q2 => ⟨fun _ => hOut (Or.inl q2), fun w => absurd rfl w⟩)
  have h9 : ∀ {P Q : Prop}, (vp_in a3 10 → P) → (¬ vp_in a3 10 → Q) → ((a3 < 0 → Q) ∧ (¬ a3 < 0 → ((a3 ≤ 9 → P) ∧ (¬ a3 ≤ 9 → Q)))) := by
    intro P Q hP hQ
    have k := inS (a := a3) (n := 9) (by decide) 9 rfl
    refine ⟨fun z => hQ (fun w => vin_lo w z), fun z => ⟨fun z2 => hP (k.mp ⟨?_, z2⟩), fun z2 => hQ (fun w => z2 (k.mpr w).2)⟩⟩
    rw [Int32.lt_iff_toInt_lt] at z
    rw [Int32.le_iff_toInt_le]
    omega
  refine h9 (fun q3 => ?_) (fun q3 => hOut (Or.inr (Or.inl q3)))
  have main : (vp_in a4 8 ∨ a4 = 9) → PX5_isFull (3 : Int32) σ (fun r9 => ((r9 = 0 → (PX5_add (3 : Int32) a2 a1 a3 a4 σ (fun r1 σ1 => PX8_reading a1 a2 a3 a4 σ1 (fun r2 σ2 => r1 = r2 ∧ Gd σ2)))) ∧ (¬ r9 = 0 → PX8_reading a1 a2 a3 a4 σ (fun r2 σ2 => (-4 : Int32) = r2 ∧ Gd σ2)))) := by
    intro q4
    have q10 : vp_in a4 10 := by
      rcases q4 with q4 | q4
      · exact vin_mono q4 (by decide)
      · rw [q4]; exact pk_in 9 10 (by decide)
    obtain ⟨k1, k2, k3⟩ := hw.ck (κ := 3) (by decide)
    refine wIsFull (κ := 3) (by decide) k1 (by have : mx 3 = 8 := rfl; omega) (fun hf => ⟨fun w => absurd w (by decide), fun _ => hUn (-4) (fun w => absurd q1 w) (fun _ w => ?_) (fun _ _ _ _ => ⟨(full_eq (m := 8) cr.1 (by decide) (by omega)).mpr hf, rfl⟩)⟩) (fun hf => ⟨fun _ => ?_, fun w => absurd rfl w⟩)
    · rcases w with w | w | w
      · exact absurd q2 w
      · exact absurd q3 w
      · rcases q4 with z4 | z4
        · exact absurd z4 w.1
        · exact absurd z4 w.2
    refine hw.add (κ := 3) (by decide) q2 (fun σ1 hR => ?_)
    have hmx : vN σ 24 30 < 8 := hf
    have K1 := hR.1
    have m1 : ∀ k, gI σ1 24 k = gI σ 24 k := fun k => K1.1 24 k rfl
    have c1 : gI σ1 24 30 = nI (vN σ 24 30) := (m1 30).trans cr.1
    unfold PX8_reading
    refine wX8_noPlace' ((m1 1).trans hq.1) hq.2 (fun _ => ⟨fun _ => wX8_isNight (fun _ => ⟨fun w => absurd w (by decide), fun _ => ?_⟩) (fun w => absurd q2 w), fun w => absurd rfl w⟩) (fun w => absurd q1 w)
    refine wIn (n := 10) (by decide) (fun _ => ⟨fun w => absurd w (by decide), fun _ => ?_⟩) (fun w => absurd q3 w)
    have nf : ¬ gI σ1 24 30 = 8 := fun w => absurd ((full_eq (m := 8) c1 (by decide) (by omega)).mp w) (by omega)
    refine wIn (n := 8) (by decide) (fun q8 => ⟨fun w => absurd w (by decide), fun _ => ⟨fun w => absurd w nf, fun _ => ?_⟩⟩) (fun q8 => ⟨fun _ => ⟨fun q9 => ⟨fun w => absurd w nf, fun _ => ?_⟩, fun q9 => q4.elim (fun w => absurd w q8) (fun w => absurd w q9)⟩, fun w => absurd rfl w⟩)
    · rw [c1]
      refine ⟨pk_in _ 8 hmx, fun σ6 e6 => ?_⟩
      rw [nI_clamp (by omega)] at e6
      have ce6 : gI σ6 24 30 = nI (vN σ 24 30) := by rw [e6, gI_sIj _ _ (by decide)]; exact c1
      rw [ce6]
      refine ⟨pk_in _ 8 hmx, fun σ7 e7 => ?_⟩
      rw [nI_clamp (by omega)] at e7
      have ce7 : gI σ7 24 30 = nI (vN σ 24 30) := by rw [e7, gI_sIj _ _ (by decide)]; exact ce6
      rw [ce7]
      refine ⟨pk_in _ 8 hmx, fun σ8 e8 => ?_⟩
      rw [nI_clamp (by omega)] at e8
      have ce8 : gI σ8 24 30 = nI (vN σ 24 30) := by rw [e8, gI_sIj _ _ (by decide)]; exact ce7
      rw [ce8]
      refine ⟨pk_in _ 8 hmx, fun σ9 e9 => ?_⟩
      rw [nI_clamp (by omega)] at e9
      have ce9 : gI σ9 24 30 = nI (vN σ 24 30) := by rw [e9, gI_sIj _ _ (by decide)]; exact ce8
      rw [ce9]
      intro σ10 e10
      refine ⟨by rw [e10, gI_sIe, pk_m1']; rfl, ?_⟩
      have K2 : KK mdw σ1 σ10 := by rw [e10, e9, e8, e7, e6]; exact (KK.I rfl).tr ((KK.I rfl).tr ((KK.I rfl).tr ((KK.I rfl).tr (KK.I rfl))))
      have o : ∀ j, j ≠ 24 → j ≠ 40 → j ≠ 41 → j ≠ 42 → j ≠ 43 → ∀ k, gI σ10 j k = gI σ1 j k := by
        intro j m n0 n1 n2 n3 k
        rw [e10, gI_sIj _ _ m, e9, gI_sIj _ _ n3, e8, gI_sIj _ _ n2, e7, gI_sIj _ _ n1, e6, gI_sIj _ _ n0]
      have o24 : ∀ k, k ≠ 30 → gI σ10 24 k = gI σ 24 k := by
        intro k n
        rw [e10, gI_sIk _ _ n, e9, gI_sIj _ _ (by decide), e8, gI_sIj _ _ (by decide), e7, gI_sIj _ _ (by decide), e6, gI_sIj _ _ (by decide), m1]
      have ec : gI σ10 24 30 = nI (vN σ 24 30 + 1) := by rw [e10, gI_sIe, nI_1]
      have v1 : vN σ10 24 1 = vN σ 24 1 := by unfold vN; rw [o24 1 (by decide)]
      have v2 : vN σ10 24 2 = vN σ 24 2 := by unfold vN; rw [o24 2 (by decide)]
      have v10 : vN σ10 24 10 = vN σ 24 10 := by unfold vN; rw [o24 10 (by decide)]
      have v14 : vN σ10 24 14 = vN σ 24 14 := by unfold vN; rw [o24 14 (by decide)]
      have v18 : vN σ10 24 18 = vN σ 24 18 := by unfold vN; rw [o24 18 (by decide)]
      have v30 : vN σ10 24 30 = vN σ 24 30 + 1 := by show (gI σ10 24 30).toNatClampNeg = _; rw [ec, nI_clamp (by omega)]
      have oo : ∀ j, j ≠ 24 → j ≠ 40 → j ≠ 41 → j ≠ 42 → j ≠ 43 → (∀ k, stw j k = false) → ∀ k, gI σ10 j k = gI σ j k := fun j m n0 n1 n2 n3 hs k => (o j m n0 n1 n2 n3 k).trans (K1.1 j k (hs k))
      have r : ∀ j, j ≠ 24 → j ≠ 40 → j ≠ 41 → j ≠ 42 → j ≠ 43 → (∀ k, stw j k = false) → gI σ10 j = gI σ j := fun j m n0 n1 n2 n3 hs => by funext k; exact oo j m n0 n1 n2 n3 hs k
      have g : ∀ s, s ≠ 39 + vN σ 24 30 → gI σ10 6 s = gI σ 6 s ∧ gI σ10 7 s = gI σ 7 s ∧ gI σ10 8 s = gI σ 8 s ∧ gI σ10 9 s = gI σ 9 s := by
        intro s hs
        rw [o 6 (by decide) (by decide) (by decide) (by decide) (by decide), o 7 (by decide) (by decide) (by decide) (by decide) (by decide), o 8 (by decide) (by decide) (by decide) (by decide) (by decide), o 9 (by decide) (by decide) (by decide) (by decide) (by decide)]
        exact hR.g (by show s ≠ 39 + vN σ 24 30; omega)
      refine h.one (κ := 3) (by decide) hf hR K2 ?_ ?_ ?_ ?_ ?_ ?_
      · intro j hj
        match j, hj with
        | 0, _ => exact o24 18 (by decide)
        | 1, _ => exact o24 14 (by decide)
        | 2, _ => exact o24 10 (by decide)
        | 3, _ => exact ec
        | j + 4, h => exact absurd h (by omega)
      · intro k hk
        rw [v10] at hk
        have gg := g (14 + k) (by omega)
        exact bS.t (hDs k hk) v1 v2 (r 25 (by decide) (by decide) (by decide) (by decide) (by decide) (fun _ => rfl)) (r 26 (by decide) (by decide) (by decide) (by decide) (by decide) (fun _ => rfl)) (oo 29 (by decide) (by decide) (by decide) (by decide) (by decide) (fun _ => rfl) k) (oo 30 (by decide) (by decide) (by decide) (by decide) (by decide) (fun _ => rfl) k) (oo 31 (by decide) (by decide) (by decide) (by decide) (by decide) (fun _ => rfl) k) gg.1 gg.2.1 gg.2.2.1 gg.2.2.2
      · intro k hk
        rw [v14] at hk
        have gg := g (7 + k) (by omega)
        exact bM.t (hDm k hk) v1 (oo 32 (by decide) (by decide) (by decide) (by decide) (by decide) (fun _ => rfl) k) (oo 33 (by decide) (by decide) (by decide) (by decide) (by decide) (fun _ => rfl) k) (oo 34 (by decide) (by decide) (by decide) (by decide) (by decide) (fun _ => rfl) k) gg.1 gg.2.1 gg.2.2.1
      · intro k hk
        rw [v18] at hk
        have gg := g k (by omega)
        exact bC.t (hDc k hk) v1 (oo 35 (by decide) (by decide) (by decide) (by decide) (by decide) (fun _ => rfl) k) (oo 36 (by decide) (by decide) (by decide) (by decide) (by decide) (fun _ => rfl) k) gg.1 gg.2.1
      · intro k hk
        rw [v30] at hk
        by_cases e : k = vN σ 24 30
        · obtain ⟨n6, n7, n8, n9⟩ := hR.n (s := (39 + k)) (by show (39 + k) = 39 + vN σ 24 30; omega)
          rw [← o 6 (by decide) (by decide) (by decide) (by decide) (by decide)] at n6
          rw [← o 7 (by decide) (by decide) (by decide) (by decide) (by decide)] at n7
          rw [← o 8 (by decide) (by decide) (by decide) (by decide) (by decide)] at n8
          rw [← o 9 (by decide) (by decide) (by decide) (by decide) (by decide)] at n9
          have x40 : gI σ10 40 k = a1 := by rw [e10, gI_sIj _ _ (by decide), e9, gI_sIj _ _ (by decide), e8, gI_sIj _ _ (by decide), e7, gI_sIj _ _ (by decide), e6, e, gI_sIe]
          have x41 : gI σ10 41 k = a2 := by rw [e10, gI_sIj _ _ (by decide), e9, gI_sIj _ _ (by decide), e8, gI_sIj _ _ (by decide), e7, e, gI_sIe]
          have x42 : gI σ10 42 k = a3 := by rw [e10, gI_sIj _ _ (by decide), e9, gI_sIj _ _ (by decide), e8, e, gI_sIe]
          have x43 : gI σ10 43 k = a4 := by rw [e10, gI_sIj _ _ (by decide), e9, e, gI_sIe]
          exact ⟨by rw [x40, v1]; exact q1, by rw [x41]; exact q2, by rw [x42]; exact q3, by rw [x43]; exact q10, by rw [x41]; exact n6, by rw [x40]; exact n7, by rw [x42]; exact n8, by rw [x43]; exact n9⟩
        · have gg := g (39 + k) (by omega)
          refine bR.t (hDr k (by omega)) v1 ?_ ?_ ?_ ?_ gg.1 gg.2.1 gg.2.2.1 gg.2.2.2
          · rw [e10, gI_sIj _ _ (by decide), e9, gI_sIj _ _ (by decide), e8, gI_sIj _ _ (by decide), e7, gI_sIj _ _ (by decide), e6, gI_sIk _ _ e]; exact K1.1 40 k rfl
          · rw [e10, gI_sIj _ _ (by decide), e9, gI_sIj _ _ (by decide), e8, gI_sIj _ _ (by decide), e7, gI_sIk _ _ e, e6, gI_sIj _ _ (by decide)]; exact K1.1 41 k rfl
          · rw [e10, gI_sIj _ _ (by decide), e9, gI_sIj _ _ (by decide), e8, gI_sIk _ _ e, e7, gI_sIj _ _ (by decide), e6, gI_sIj _ _ (by decide)]; exact K1.1 42 k rfl
          · rw [e10, gI_sIj _ _ (by decide), e9, gI_sIk _ _ e, e8, gI_sIj _ _ (by decide), e7, gI_sIj _ _ (by decide), e6, gI_sIj _ _ (by decide)]; exact K1.1 43 k rfl
      · intro j k hj hk
        rw [v10] at hj hk
        rw [r 29 (by decide) (by decide) (by decide) (by decide) (by decide) (fun _ => rfl), r 30 (by decide) (by decide) (by decide) (by decide) (by decide) (fun _ => rfl), r 31 (by decide) (by decide) (by decide) (by decide) (by decide) (fun _ => rfl)]
        exact hU j k hj hk
    · rw [c1]
      refine ⟨pk_in _ 8 hmx, fun σ6 e6 => ?_⟩
      rw [nI_clamp (by omega)] at e6
      have ce6 : gI σ6 24 30 = nI (vN σ 24 30) := by rw [e6, gI_sIj _ _ (by decide)]; exact c1
      rw [ce6]
      refine ⟨pk_in _ 8 hmx, fun σ7 e7 => ?_⟩
      rw [nI_clamp (by omega)] at e7
      have ce7 : gI σ7 24 30 = nI (vN σ 24 30) := by rw [e7, gI_sIj _ _ (by decide)]; exact ce6
      rw [ce7]
      refine ⟨pk_in _ 8 hmx, fun σ8 e8 => ?_⟩
      rw [nI_clamp (by omega)] at e8
      have ce8 : gI σ8 24 30 = nI (vN σ 24 30) := by rw [e8, gI_sIj _ _ (by decide)]; exact ce7
      rw [ce8]
      refine ⟨pk_in _ 8 hmx, fun σ9 e9 => ?_⟩
      rw [nI_clamp (by omega)] at e9
      have ce9 : gI σ9 24 30 = nI (vN σ 24 30) := by rw [e9, gI_sIj _ _ (by decide)]; exact ce8
      rw [ce9]
      intro σ10 e10
      refine ⟨by rw [e10, gI_sIe, pk_m1']; rfl, ?_⟩
      have K2 : KK mdw σ1 σ10 := by rw [e10, e9, e8, e7, e6]; exact (KK.I rfl).tr ((KK.I rfl).tr ((KK.I rfl).tr ((KK.I rfl).tr (KK.I rfl))))
      have o : ∀ j, j ≠ 24 → j ≠ 40 → j ≠ 41 → j ≠ 42 → j ≠ 43 → ∀ k, gI σ10 j k = gI σ1 j k := by
        intro j m n0 n1 n2 n3 k
        rw [e10, gI_sIj _ _ m, e9, gI_sIj _ _ n3, e8, gI_sIj _ _ n2, e7, gI_sIj _ _ n1, e6, gI_sIj _ _ n0]
      have o24 : ∀ k, k ≠ 30 → gI σ10 24 k = gI σ 24 k := by
        intro k n
        rw [e10, gI_sIk _ _ n, e9, gI_sIj _ _ (by decide), e8, gI_sIj _ _ (by decide), e7, gI_sIj _ _ (by decide), e6, gI_sIj _ _ (by decide), m1]
      have ec : gI σ10 24 30 = nI (vN σ 24 30 + 1) := by rw [e10, gI_sIe, nI_1]
      have v1 : vN σ10 24 1 = vN σ 24 1 := by unfold vN; rw [o24 1 (by decide)]
      have v2 : vN σ10 24 2 = vN σ 24 2 := by unfold vN; rw [o24 2 (by decide)]
      have v10 : vN σ10 24 10 = vN σ 24 10 := by unfold vN; rw [o24 10 (by decide)]
      have v14 : vN σ10 24 14 = vN σ 24 14 := by unfold vN; rw [o24 14 (by decide)]
      have v18 : vN σ10 24 18 = vN σ 24 18 := by unfold vN; rw [o24 18 (by decide)]
      have v30 : vN σ10 24 30 = vN σ 24 30 + 1 := by show (gI σ10 24 30).toNatClampNeg = _; rw [ec, nI_clamp (by omega)]
      have oo : ∀ j, j ≠ 24 → j ≠ 40 → j ≠ 41 → j ≠ 42 → j ≠ 43 → (∀ k, stw j k = false) → ∀ k, gI σ10 j k = gI σ j k := fun j m n0 n1 n2 n3 hs k => (o j m n0 n1 n2 n3 k).trans (K1.1 j k (hs k))
      have r : ∀ j, j ≠ 24 → j ≠ 40 → j ≠ 41 → j ≠ 42 → j ≠ 43 → (∀ k, stw j k = false) → gI σ10 j = gI σ j := fun j m n0 n1 n2 n3 hs => by funext k; exact oo j m n0 n1 n2 n3 hs k
      have g : ∀ s, s ≠ 39 + vN σ 24 30 → gI σ10 6 s = gI σ 6 s ∧ gI σ10 7 s = gI σ 7 s ∧ gI σ10 8 s = gI σ 8 s ∧ gI σ10 9 s = gI σ 9 s := by
        intro s hs
        rw [o 6 (by decide) (by decide) (by decide) (by decide) (by decide), o 7 (by decide) (by decide) (by decide) (by decide) (by decide), o 8 (by decide) (by decide) (by decide) (by decide) (by decide), o 9 (by decide) (by decide) (by decide) (by decide) (by decide)]
        exact hR.g (by show s ≠ 39 + vN σ 24 30; omega)
      refine h.one (κ := 3) (by decide) hf hR K2 ?_ ?_ ?_ ?_ ?_ ?_
      · intro j hj
        match j, hj with
        | 0, _ => exact o24 18 (by decide)
        | 1, _ => exact o24 14 (by decide)
        | 2, _ => exact o24 10 (by decide)
        | 3, _ => exact ec
        | j + 4, h => exact absurd h (by omega)
      · intro k hk
        rw [v10] at hk
        have gg := g (14 + k) (by omega)
        exact bS.t (hDs k hk) v1 v2 (r 25 (by decide) (by decide) (by decide) (by decide) (by decide) (fun _ => rfl)) (r 26 (by decide) (by decide) (by decide) (by decide) (by decide) (fun _ => rfl)) (oo 29 (by decide) (by decide) (by decide) (by decide) (by decide) (fun _ => rfl) k) (oo 30 (by decide) (by decide) (by decide) (by decide) (by decide) (fun _ => rfl) k) (oo 31 (by decide) (by decide) (by decide) (by decide) (by decide) (fun _ => rfl) k) gg.1 gg.2.1 gg.2.2.1 gg.2.2.2
      · intro k hk
        rw [v14] at hk
        have gg := g (7 + k) (by omega)
        exact bM.t (hDm k hk) v1 (oo 32 (by decide) (by decide) (by decide) (by decide) (by decide) (fun _ => rfl) k) (oo 33 (by decide) (by decide) (by decide) (by decide) (by decide) (fun _ => rfl) k) (oo 34 (by decide) (by decide) (by decide) (by decide) (by decide) (fun _ => rfl) k) gg.1 gg.2.1 gg.2.2.1
      · intro k hk
        rw [v18] at hk
        have gg := g k (by omega)
        exact bC.t (hDc k hk) v1 (oo 35 (by decide) (by decide) (by decide) (by decide) (by decide) (fun _ => rfl) k) (oo 36 (by decide) (by decide) (by decide) (by decide) (by decide) (fun _ => rfl) k) gg.1 gg.2.1
      · intro k hk
        rw [v30] at hk
        by_cases e : k = vN σ 24 30
        · obtain ⟨n6, n7, n8, n9⟩ := hR.n (s := (39 + k)) (by show (39 + k) = 39 + vN σ 24 30; omega)
          rw [← o 6 (by decide) (by decide) (by decide) (by decide) (by decide)] at n6
          rw [← o 7 (by decide) (by decide) (by decide) (by decide) (by decide)] at n7
          rw [← o 8 (by decide) (by decide) (by decide) (by decide) (by decide)] at n8
          rw [← o 9 (by decide) (by decide) (by decide) (by decide) (by decide)] at n9
          have x40 : gI σ10 40 k = a1 := by rw [e10, gI_sIj _ _ (by decide), e9, gI_sIj _ _ (by decide), e8, gI_sIj _ _ (by decide), e7, gI_sIj _ _ (by decide), e6, e, gI_sIe]
          have x41 : gI σ10 41 k = a2 := by rw [e10, gI_sIj _ _ (by decide), e9, gI_sIj _ _ (by decide), e8, gI_sIj _ _ (by decide), e7, e, gI_sIe]
          have x42 : gI σ10 42 k = a3 := by rw [e10, gI_sIj _ _ (by decide), e9, gI_sIj _ _ (by decide), e8, e, gI_sIe]
          have x43 : gI σ10 43 k = a4 := by rw [e10, gI_sIj _ _ (by decide), e9, e, gI_sIe]
          exact ⟨by rw [x40, v1]; exact q1, by rw [x41]; exact q2, by rw [x42]; exact q3, by rw [x43]; exact q10, by rw [x41]; exact n6, by rw [x40]; exact n7, by rw [x42]; exact n8, by rw [x43]; exact n9⟩
        · have gg := g (39 + k) (by omega)
          refine bR.t (hDr k (by omega)) v1 ?_ ?_ ?_ ?_ gg.1 gg.2.1 gg.2.2.1 gg.2.2.2
          · rw [e10, gI_sIj _ _ (by decide), e9, gI_sIj _ _ (by decide), e8, gI_sIj _ _ (by decide), e7, gI_sIj _ _ (by decide), e6, gI_sIk _ _ e]; exact K1.1 40 k rfl
          · rw [e10, gI_sIj _ _ (by decide), e9, gI_sIj _ _ (by decide), e8, gI_sIj _ _ (by decide), e7, gI_sIk _ _ e, e6, gI_sIj _ _ (by decide)]; exact K1.1 41 k rfl
          · rw [e10, gI_sIj _ _ (by decide), e9, gI_sIj _ _ (by decide), e8, gI_sIk _ _ e, e7, gI_sIj _ _ (by decide), e6, gI_sIj _ _ (by decide)]; exact K1.1 42 k rfl
          · rw [e10, gI_sIj _ _ (by decide), e9, gI_sIk _ _ e, e8, gI_sIj _ _ (by decide), e7, gI_sIj _ _ (by decide), e6, gI_sIj _ _ (by decide)]; exact K1.1 43 k rfl
      · intro j k hj hk
        rw [v10] at hj hk
        rw [r 29 (by decide) (by decide) (by decide) (by decide) (by decide) (fun _ => rfl), r 30 (by decide) (by decide) (by decide) (by decide) (by decide) (fun _ => rfl), r 31 (by decide) (by decide) (by decide) (by decide) (by decide) (fun _ => rfl)]
        exact hU j k hj hk
  refine wX7_isGum (fun q4 => ⟨fun w => absurd w (by decide), fun _ => main (Or.inl q4)⟩) (fun q4 => ⟨fun _ => ⟨fun q5 => main (Or.inr q5), fun q5 => hOut (Or.inr (Or.inr ⟨q4, q5⟩))⟩, fun w => absurd rfl w⟩)
