theorem st3 {σ : XS} (h : Gd σ) : S3 Gd σ := by
  intro a1 a2 a3
  have hw := h.w
  obtain ⟨hA, hB, hC, hDs, hDm, hDc, hDr, hU, -, -⟩ := id hw
  have hq := hB.q
  have hp := hB.p
  have cc := hB.c
  have cs := hB.s
  have cm := hB.m
  have cr := hB.r
  have hUn : ∀ r : Int32, (¬ vp_in a1 (vN σ 24 2) → r = -1) → (¬ vp_in a2 (vN σ 24 1) → r = -1) → (vp_in a1 (vN σ 24 2) → vp_in a2 (vN σ 24 1) → ¬ vp_in a3 40 → r = -2) → (vp_in a1 (vN σ 24 2) → vp_in a2 (vN σ 24 1) → vp_in a3 40 → ∀ j, j < vN σ 24 10 → gI σ 31 j = a3 → (gI σ 29 j = a1 ∨ gI σ 30 j = a2) → r = -3) → (vp_in a1 (vN σ 24 2) → vp_in a2 (vN σ 24 1) → vp_in a3 40 → (∀ j, j < vN σ 24 10 → gI σ 31 j = a3 → ¬ gI σ 29 j = a1 ∧ ¬ gI σ 30 j = a2) → gI σ 24 10 = 24 ∧ r = -4) → PX8_sit a1 a2 a3 σ (fun r2 σ2 => r = r2 ∧ Gd σ2) := by
    intro r w1 w2 w3 w4 w5
    unfold PX8_sit
    refine wX8_noPerson hB (fun q1 => ⟨fun _ => wX8_noPlace hB (fun q2 => ⟨fun _ => wX8_isNight (fun q4 => ⟨fun w => absurd w (by decide), fun _ => ?_⟩) (fun q4 => ⟨fun _ => ⟨w3 q1 q2 q4, h⟩, fun w => absurd rfl w⟩), fun w => absurd rfl w⟩) (fun q2 => ⟨fun w => absurd w (by decide), fun _ => ⟨w2 q2, h⟩⟩), fun w => absurd rfl w⟩) (fun q1 => ⟨fun w => absurd w (by decide), fun _ => ⟨w1 q1, h⟩⟩)
    exact wX8_maySit ⟨cs.1, by omega⟩ (fun z => ⟨fun w => absurd w (by decide), fun _ => ⟨fun _ => ⟨(w5 q1 q2 q4 z).2, h⟩, fun w => absurd (w5 q1 q2 q4 z).1 w⟩⟩) (fun j hj z1 z2 => ⟨fun _ => ⟨w4 q1 q2 q4 j hj z1 z2, h⟩, fun w => absurd rfl w⟩)
  unfold PX7_sit
  refine wX7_personOf hA hB hC (fun q1 => ⟨fun _ => hUn (-1) (fun _ => rfl) (fun _ => rfl) (fun w => absurd w q1) (fun w => absurd w q1) (fun w => absurd w q1), nofun⟩) (fun p b q1 ep hpP e1 e2 e3 e4 e5 => ⟨nofun, fun w hw9 => ?_⟩)
  cases hw9
  refine wX7_isPlace hA hB (fun q2 => ⟨fun w => absurd w (by decide), fun _ => ?_⟩) (fun q2 => ⟨fun _ => hUn (-1) (fun _ => rfl) (fun _ => rfl) (fun _ w => absurd w q2) (fun _ w => absurd w q2) (fun _ w => absurd w q2), fun w => absurd rfl w⟩)
  refine wX7_isNight (fun q4 => ⟨fun w => absurd w (by decide), fun _ => ?_⟩) (fun q4 => ⟨fun _ => hUn (-2) (fun w => absurd q1 w) (fun w => absurd q2 w) (fun _ _ _ => rfl) (fun _ _ w => absurd w q4) (fun _ _ w => absurd w q4), fun w => absurd rfl w⟩)
  refine wX7_maySit hw (fun hms => ⟨fun w => absurd w (by decide), fun _ => ?_⟩) (fun j hj z1 z2 => ⟨fun _ => hUn (-3) (fun w => absurd q1 w) (fun w => absurd q2 w) (fun _ _ w => absurd q4 w) (fun _ _ _ _ _ _ _ => rfl) (fun _ _ _ w => absurd z2 (fun z2 => z2.elim (w j hj z1).1 (w j hj z1).2)), fun w => absurd rfl w⟩)
  obtain ⟨k1, k2, k3⟩ := hw.ck (κ := 2) (by decide)
  refine wIsFull (κ := 2) (by decide) k1 (by have : mx 2 = 24 := rfl; omega) (fun hf => ⟨fun w => absurd w (by decide), fun _ => hUn (-4) (fun w => absurd q1 w) (fun w => absurd q2 w) (fun _ _ w => absurd q4 w) (fun _ _ _ j hj z1 z2 => absurd z2 (fun z2 => z2.elim (hms j hj z1).1 (hms j hj z1).2)) (fun _ _ _ _ => ⟨(full_eq (m := 24) cs.1 (by decide) (by omega)).mpr hf, rfl⟩)⟩) (fun hf => ⟨fun _ => ?_, fun w => absurd rfl w⟩)
  have main : ∀ g, g = gumv (gI σ 25 p) (gI σ 26 p) a3 → PX5_add (2 : Int32) a3 a2 a1 g σ (fun r1 σ1 => PX8_sit a1 a2 a3 σ1 (fun r2 σ2 => r1 = r2 ∧ Gd σ2)) := by
    intro gm hgm
    refine hw.add (κ := 2) (by decide) q4 (fun σ1 hR => ?_)
    have hmx : vN σ 24 10 < 24 := hf
    have K1 := hR.1
    have m1 : ∀ k, gI σ1 24 k = gI σ 24 k := fun k => K1.1 24 k rfl
    have c1 : gI σ1 24 10 = nI (vN σ 24 10) := (m1 10).trans cs.1
    have w10 : vN σ1 24 10 = vN σ 24 10 := by unfold vN; rw [m1]
    have s29 : ∀ k, gI σ1 29 k = gI σ 29 k := fun k => K1.1 29 k rfl
    have s30 : ∀ k, gI σ1 30 k = gI σ 30 k := fun k => K1.1 30 k rfl
    have s31 : ∀ k, gI σ1 31 k = gI σ 31 k := fun k => K1.1 31 k rfl
    unfold PX8_sit
    refine wX8_noPerson' ((m1 2).trans hp.1) hp.2 (fun _ => ⟨fun _ => wX8_noPlace' ((m1 1).trans hq.1) hq.2 (fun _ => ⟨fun _ => wX8_isNight (fun _ => ⟨fun w => absurd w (by decide), fun _ => ?_⟩) (fun w => absurd q4 w), fun w => absurd rfl w⟩) (fun w => absurd q2 w), fun w => absurd rfl w⟩) (fun w => absurd q1 w)
    refine wX8_maySit ⟨by rw [w10]; exact c1, by omega⟩ (fun _ => ⟨fun w => absurd w (by decide), fun _ => ⟨fun w => absurd ((full_eq (m := 24) c1 (by decide) (by omega)).mp w) (by omega), fun _ => ?_⟩⟩) (fun j hj z1 z2 => ?_)
    · unfold PX8_sitDown
      rw [c1]
      refine ⟨pk_in _ 25 (Nat.lt_succ_of_lt hmx), fun σ6 e6 => ?_⟩
      rw [nI_clamp (by omega)] at e6
      have ce6 : gI σ6 24 10 = nI (vN σ 24 10) := by rw [e6, gI_sIj _ _ (by decide)]; exact c1
      rw [ce6]
      refine ⟨pk_in _ 25 (Nat.lt_succ_of_lt hmx), fun σ7 e7 => ?_⟩
      rw [nI_clamp (by omega)] at e7
      have ce7 : gI σ7 24 10 = nI (vN σ 24 10) := by rw [e7, gI_sIj _ _ (by decide)]; exact ce6
      rw [ce7]
      refine ⟨pk_in _ 25 (Nat.lt_succ_of_lt hmx), fun σ8 e8 => ?_⟩
      rw [nI_clamp (by omega)] at e8
      have ce8 : gI σ8 24 10 = nI (vN σ 24 10) := by rw [e8, gI_sIj _ _ (by decide)]; exact ce7
      rw [ce8]
      intro σ9 e9
      refine ⟨by rw [e9, gI_sIe, pk_m1']; rfl, ?_⟩
      have K2 : KK mdw σ1 σ9 := by rw [e9, e8, e7, e6]; exact (KK.I rfl).tr ((KK.I rfl).tr ((KK.I rfl).tr (KK.I rfl)))
      have o : ∀ j, j ≠ 24 → j ≠ 29 → j ≠ 30 → j ≠ 31 → ∀ k, gI σ9 j k = gI σ1 j k := by
        intro j m n0 n1 n2 k
        rw [e9, gI_sIj _ _ m, e8, gI_sIj _ _ n2, e7, gI_sIj _ _ n1, e6, gI_sIj _ _ n0]
      have o24 : ∀ k, k ≠ 10 → gI σ9 24 k = gI σ 24 k := by
        intro k n
        rw [e9, gI_sIk _ _ n, e8, gI_sIj _ _ (by decide), e7, gI_sIj _ _ (by decide), e6, gI_sIj _ _ (by decide), m1]
      have ec : gI σ9 24 10 = nI (vN σ 24 10 + 1) := by rw [e9, gI_sIe, nI_1]
      have v1 : vN σ9 24 1 = vN σ 24 1 := by unfold vN; rw [o24 1 (by decide)]
      have v2 : vN σ9 24 2 = vN σ 24 2 := by unfold vN; rw [o24 2 (by decide)]
      have v10 : vN σ9 24 10 = vN σ 24 10 + 1 := by show (gI σ9 24 10).toNatClampNeg = _; rw [ec, nI_clamp (by omega)]
      have v14 : vN σ9 24 14 = vN σ 24 14 := by unfold vN; rw [o24 14 (by decide)]
      have v18 : vN σ9 24 18 = vN σ 24 18 := by unfold vN; rw [o24 18 (by decide)]
      have v30 : vN σ9 24 30 = vN σ 24 30 := by unfold vN; rw [o24 30 (by decide)]
      have oo : ∀ j, j ≠ 24 → j ≠ 29 → j ≠ 30 → j ≠ 31 → (∀ k, stw j k = false) → ∀ k, gI σ9 j k = gI σ j k := fun j m n0 n1 n2 hs k => (o j m n0 n1 n2 k).trans (K1.1 j k (hs k))
      have r : ∀ j, j ≠ 24 → j ≠ 29 → j ≠ 30 → j ≠ 31 → (∀ k, stw j k = false) → gI σ9 j = gI σ j := fun j m n0 n1 n2 hs => by funext k; exact oo j m n0 n1 n2 hs k
      have g : ∀ s, s ≠ 14 + vN σ 24 10 → gI σ9 6 s = gI σ 6 s ∧ gI σ9 7 s = gI σ 7 s ∧ gI σ9 8 s = gI σ 8 s ∧ gI σ9 9 s = gI σ 9 s := by
        intro s hs
        rw [o 6 (by decide) (by decide) (by decide) (by decide), o 7 (by decide) (by decide) (by decide) (by decide), o 8 (by decide) (by decide) (by decide) (by decide), o 9 (by decide) (by decide) (by decide) (by decide)]
        exact hR.g (by show s ≠ 14 + vN σ 24 10; omega)
      refine h.one (κ := 2) (by decide) hf hR K2 ?_ ?_ ?_ ?_ ?_ ?_
      · intro j hj
        match j, hj with
        | 0, _ => exact o24 18 (by decide)
        | 1, _ => exact o24 14 (by decide)
        | 2, _ => exact ec
        | 3, _ => exact o24 30 (by decide)
        | j + 4, h => exact absurd h (by omega)
      · intro k hk
        rw [v10] at hk
        by_cases e : k = vN σ 24 10
        · obtain ⟨n6, n7, n8, n9⟩ := hR.n (s := (14 + k)) (by show (14 + k) = 14 + vN σ 24 10; omega)
          rw [← o 6 (by decide) (by decide) (by decide) (by decide)] at n6
          rw [← o 7 (by decide) (by decide) (by decide) (by decide)] at n7
          rw [← o 8 (by decide) (by decide) (by decide) (by decide)] at n8
          rw [← o 9 (by decide) (by decide) (by decide) (by decide)] at n9
          have x29 : gI σ9 29 k = a1 := by rw [e9, gI_sIj _ _ (by decide), e8, gI_sIj _ _ (by decide), e7, gI_sIj _ _ (by decide), e6, e, gI_sIe]
          have x30 : gI σ9 30 k = a2 := by rw [e9, gI_sIj _ _ (by decide), e8, gI_sIj _ _ (by decide), e7, e, gI_sIe]
          have x31 : gI σ9 31 k = a3 := by rw [e9, gI_sIj _ _ (by decide), e8, e, gI_sIe]
          have vv : vN σ9 29 k = p := by show (gI σ9 29 k).toNatClampNeg = p; rw [x29, ep, nI_clamp (by omega)]
          exact ⟨by rw [x29, v2]; exact q1, by rw [x30, v1]; exact q2, by rw [x31]; exact q4, by rw [x31]; exact n6, by rw [x30]; exact n7, by rw [x29]; exact n8, by rw [x31, vv, r 25 (by decide) (by decide) (by decide) (by decide) (fun _ => rfl), r 26 (by decide) (by decide) (by decide) (by decide) (fun _ => rfl), ← hgm]; exact n9⟩
        · have gg := g (14 + k) (by omega)
          refine bS.t (hDs k (by omega)) v1 v2 (r 25 (by decide) (by decide) (by decide) (by decide) (fun _ => rfl)) (r 26 (by decide) (by decide) (by decide) (by decide) (fun _ => rfl)) ?_ ?_ ?_ gg.1 gg.2.1 gg.2.2.1 gg.2.2.2
          · rw [e9, gI_sIj _ _ (by decide), e8, gI_sIj _ _ (by decide), e7, gI_sIj _ _ (by decide), e6, gI_sIk _ _ e]; exact K1.1 29 k rfl
          · rw [e9, gI_sIj _ _ (by decide), e8, gI_sIj _ _ (by decide), e7, gI_sIk _ _ e, e6, gI_sIj _ _ (by decide)]; exact K1.1 30 k rfl
          · rw [e9, gI_sIj _ _ (by decide), e8, gI_sIk _ _ e, e7, gI_sIj _ _ (by decide), e6, gI_sIj _ _ (by decide)]; exact K1.1 31 k rfl
      · intro k hk
        rw [v14] at hk
        have gg := g (7 + k) (by omega)
        exact bM.t (hDm k hk) v1 (oo 32 (by decide) (by decide) (by decide) (by decide) (fun _ => rfl) k) (oo 33 (by decide) (by decide) (by decide) (by decide) (fun _ => rfl) k) (oo 34 (by decide) (by decide) (by decide) (by decide) (fun _ => rfl) k) gg.1 gg.2.1 gg.2.2.1
      · intro k hk
        rw [v18] at hk
        have gg := g k (by omega)
        exact bC.t (hDc k hk) v1 (oo 35 (by decide) (by decide) (by decide) (by decide) (fun _ => rfl) k) (oo 36 (by decide) (by decide) (by decide) (by decide) (fun _ => rfl) k) gg.1 gg.2.1
      · intro k hk
        rw [v30] at hk
        have gg := g (39 + k) (by omega)
        exact bR.t (hDr k hk) v1 (oo 40 (by decide) (by decide) (by decide) (by decide) (fun _ => rfl) k) (oo 41 (by decide) (by decide) (by decide) (by decide) (fun _ => rfl) k) (oo 42 (by decide) (by decide) (by decide) (by decide) (fun _ => rfl) k) (oo 43 (by decide) (by decide) (by decide) (by decide) (fun _ => rfl) k) gg.1 gg.2.1 gg.2.2.1 gg.2.2.2
      · intro j k hj hk en ew
        rw [v10] at hj hk
        have new : ∀ k, k = vN σ 24 10 → gI σ9 29 k = a1 ∧ gI σ9 30 k = a2 ∧ gI σ9 31 k = a3 := by
          intro k e
          refine ⟨?_, ?_, ?_⟩
          · rw [e9, gI_sIj _ _ (by decide), e8, gI_sIj _ _ (by decide), e7, gI_sIj _ _ (by decide), e6, e, gI_sIe]
          · rw [e9, gI_sIj _ _ (by decide), e8, gI_sIj _ _ (by decide), e7, e, gI_sIe]
          · rw [e9, gI_sIj _ _ (by decide), e8, e, gI_sIe]
        have old : ∀ k, ¬ k = vN σ 24 10 → gI σ9 29 k = gI σ 29 k ∧ gI σ9 30 k = gI σ 30 k ∧ gI σ9 31 k = gI σ 31 k := by
          intro k e
          refine ⟨?_, ?_, ?_⟩
          · rw [e9, gI_sIj _ _ (by decide), e8, gI_sIj _ _ (by decide), e7, gI_sIj _ _ (by decide), e6, gI_sIk _ _ e]; exact s29 k
          · rw [e9, gI_sIj _ _ (by decide), e8, gI_sIj _ _ (by decide), e7, gI_sIk _ _ e, e6, gI_sIj _ _ (by decide)]; exact s30 k
          · rw [e9, gI_sIj _ _ (by decide), e8, gI_sIk _ _ e, e7, gI_sIj _ _ (by decide), e6, gI_sIj _ _ (by decide)]; exact s31 k
        by_cases ej : j = vN σ 24 10
        · by_cases ek : k = vN σ 24 10
          · omega
          · obtain ⟨x1, x2, x3⟩ := new j ej
            obtain ⟨y1, y2, y3⟩ := old k ek
            rw [x1, x2, y1, y2] at ew
            rw [x3, y3] at en
            have := hms k (by omega) en.symm
            exact ew.elim (fun w => absurd w.symm this.1) (fun w => absurd w.symm this.2)
        · by_cases ek : k = vN σ 24 10
          · obtain ⟨x1, x2, x3⟩ := old j ej
            obtain ⟨y1, y2, y3⟩ := new k ek
            rw [x1, x2, y1, y2] at ew
            rw [x3, y3] at en
            have := hms j (by omega) en
            exact ew.elim (fun w => absurd w this.1) (fun w => absurd w this.2)
          · obtain ⟨x1, x2, x3⟩ := old j ej
            obtain ⟨y1, y2, y3⟩ := old k ek
            rw [x1, x2, y1, y2] at ew
            rw [x3, y3] at en
            exact hU j k (by omega) (by omega) en ew
    · rw [w10] at hj
      rw [s31] at z1
      rw [s29, s30] at z2
      exact absurd z2 (fun z2 => z2.elim (hms j hj z1).1 (hms j hj z1).2)
  refine wLeaves e2 (night := a3) (fun k ek => ⟨fun k0 g => ?_, fun k0 g => ?_, fun k0 g => ?_⟩)
  · exact ⟨e2, main _ (by rw [e3, e4, ← ek]; exact g.symm)⟩
  · exact ⟨e2, by decide, by decide, main _ (by rw [e3, e4, ← ek]; exact g.symm)⟩
  · have k9 : gK σ b = 0 := by
      rcases kd3 e2 with ⟨x, y⟩ | ⟨x, y⟩ | ⟨x, y⟩
      · rw [ek, y] at k0; exact absurd k0 (by decide)
      · rw [ek, y] at k0; exact absurd k0 (by decide)
      · exact x
    refine ⟨e2, k9, fun _ => ⟨e2, by decide, by decide, main _ ?_⟩⟩
    rw [e3, e4, ← ek, g, ← add4]
    rfl
