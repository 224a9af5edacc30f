theorem AddR.g {σ σ' : XS} {κ c T : Nat} {lv : Nat → Prop} {a2 a3 a4 a5 : Int32} (h : AddR σ κ c T lv a2 a3 a4 a5 σ') {s : Nat} (hs : s ≠ fs κ + c) : gI σ' 6 s = gI σ 6 s ∧ gI σ' 7 s = gI σ 7 s ∧ gI σ' 8 s = gI σ 8 s ∧ gI σ' 9 s = gI σ 9 s := by
  obtain ⟨-, -, b6, b7, b8, b9, -⟩ := h
  rw [b6, b7, b8, b9, if_neg hs, if_neg hs, if_neg hs, if_neg hs]
  exact ⟨rfl, rfl, rfl, rfl⟩
theorem AddR.n {σ σ' : XS} {κ c T : Nat} {lv : Nat → Prop} {a2 a3 a4 a5 : Int32} (h : AddR σ κ c T lv a2 a3 a4 a5 σ') {s : Nat} (hs : s = fs κ + c) : gI σ' 6 s = a2 ∧ gI σ' 7 s = a3 ∧ gI σ' 8 s = a4 ∧ gI σ' 9 s = a5 := by
  obtain ⟨-, -, b6, b7, b8, b9, -⟩ := h
  rw [b6, b7, b8, b9, if_pos hs, if_pos hs, if_pos hs, if_pos hs]
  exact ⟨rfl, rfl, rfl, rfl⟩
theorem pk_m1' (n : Nat) : nI n + 1 - 1 = nI n := by
  rw [nI_1, show (1 : Int32) = nI 1 from rfl, pk_sub (by omega)]
  rfl
theorem full_eq {x : Int32} {c m : Nat} (hx : x = nI c) (hm : m < 100) (hc : c ≤ m) : (x = nI m ↔ m ≤ c) := by
  rw [hx, nI_eq (by omega) (by omega)]
  omega
theorem st7 {σ : XS} (h : Gd σ) : S7 Gd σ := by
  intro a1 a2
  have hw := h.w
  obtain ⟨hA, hB, hC, hDs, hDm, hDc, hDr, hU, -, -⟩ := id hw
  have hq := hB.q
  have hc := hB.c
  have cs := hB.s
  have cm := hB.m
  have cr := hB.r
  unfold PX7_scrape
  have hUn : ¬ vp_in a1 (vN σ 24 1) → PX8_scrape a1 a2 σ (fun r2 σ2 => (-1 : Int32) = r2 ∧ Gd σ2) := by
    intro q
    unfold PX8_scrape
    exact wX8_noPlace hB (fun w => absurd w q) (fun _ => ⟨fun w => absurd w (by decide), fun _ => ⟨rfl, h⟩⟩)
  refine wX7_isPlace hA hB (fun q1 => ⟨fun w => absurd w (by decide), fun _ => ?_⟩) (fun q1 => ⟨fun _ => hUn q1, fun w => absurd rfl w⟩)
  refine wX7_isNight (fun q2 => ⟨fun w => absurd w (by decide), fun _ => ?_⟩) (fun q2 => ⟨fun _ => ?_, fun w => absurd rfl w⟩)
  · obtain ⟨k1, k2, k3⟩ := hw.ck (κ := 0) (by decide)
    refine wIsFull (κ := 0) (by decide) k1 (by have : mx 0 = 6 := rfl; omega) (fun hf => ⟨fun w => absurd w (by decide), fun _ => ?_⟩) (fun hf => ⟨fun _ => ?_, fun w => absurd rfl w⟩)
    · unfold PX8_scrape
      refine wX8_noPlace hB (fun _ => ⟨fun _ => wX8_isNight (fun _ => ⟨fun w => absurd w (by decide), fun _ => ⟨fun _ => ⟨rfl, h⟩, fun w => absurd ((full_eq (m := 6) hc.1 (by decide) (by omega)).mpr hf) w⟩⟩) (fun w => absurd q2 w), fun w => absurd rfl w⟩) (fun w => absurd q1 w)
    · refine hw.add (κ := 0) (by decide) q2 (fun σ1 hR => ?_)
      have hmx : vN σ 24 18 < 6 := hf
      have K1 := hR.1
      have m1 : ∀ k, gI σ1 24 k = gI σ 24 k := fun k => K1.1 24 k rfl
      have c18 : gI σ1 24 18 = nI (vN σ 24 18) := (m1 18).trans hc.1
      unfold PX8_scrape
      refine wX8_noPlace' ((m1 1).trans hq.1) hq.2 (fun _ => ⟨fun _ => wX8_isNight (fun _ => ⟨fun w => absurd w (by decide), fun _ => ⟨fun w => absurd ((full_eq (m := 6) c18 (by decide) (by omega)).mp w) (by omega), fun _ => ?_⟩⟩) (fun w => absurd q2 w), fun w => absurd rfl w⟩) (fun w => absurd q1 w)
      rw [c18]
      refine ⟨pk_in _ 6 hmx, fun σ6 e6 => ?_⟩
      rw [nI_clamp (by omega)] at e6
      have c6 : gI σ6 24 18 = nI (vN σ 24 18) := by rw [e6, gI_sIj _ _ (by decide)]; exact c18
      rw [c6]
      refine ⟨pk_in _ 6 hmx, fun σ7 e7 => ?_⟩
      rw [nI_clamp (by omega)] at e7
      have c7 : gI σ7 24 18 = nI (vN σ 24 18) := by rw [e7, gI_sIj _ _ (by decide)]; exact c6
      rw [c7]
      intro σ8 e8
      refine ⟨by rw [e8, gI_sIe, pk_m1']; rfl, ?_⟩
      have K2 : KK mdw σ1 σ8 := by rw [e8, e7, e6]; exact (KK.I rfl).tr ((KK.I rfl).tr (KK.I rfl))
      have o : ∀ j, j ≠ 24 → j ≠ 35 → j ≠ 36 → ∀ k, gI σ8 j k = gI σ1 j k := by
        intro j n1 n2 n3 k
        rw [e8, gI_sIj _ _ n1, e7, gI_sIj _ _ n3, e6, gI_sIj _ _ n2]
      have o24 : ∀ k, k ≠ 18 → gI σ8 24 k = gI σ 24 k := by
        intro k n
        rw [e8, gI_sIk _ _ n, e7, gI_sIj _ _ (by decide), e6, gI_sIj _ _ (by decide), m1]
      have e18 : gI σ8 24 18 = nI (vN σ 24 18 + 1) := by rw [e8, gI_sIe, nI_1]
      have v1 : vN σ8 24 1 = vN σ 24 1 := by unfold vN; rw [o24 1 (by decide)]
      have v2 : vN σ8 24 2 = vN σ 24 2 := by unfold vN; rw [o24 2 (by decide)]
      have v10 : vN σ8 24 10 = vN σ 24 10 := by unfold vN; rw [o24 10 (by decide)]
      have v14 : vN σ8 24 14 = vN σ 24 14 := by unfold vN; rw [o24 14 (by decide)]
      have v30 : vN σ8 24 30 = vN σ 24 30 := by unfold vN; rw [o24 30 (by decide)]
      have v18 : vN σ8 24 18 = vN σ 24 18 + 1 := by show (gI σ8 24 18).toNatClampNeg = _; rw [e18, nI_clamp (by omega)]
      have oo : ∀ j, j ≠ 24 → j ≠ 35 → j ≠ 36 → (∀ k, stw j k = false) → ∀ k, gI σ8 j k = gI σ j k := fun j n1 n2 n3 hs k => (o j n1 n2 n3 k).trans (K1.1 j k (hs k))
      have r : ∀ j, j ≠ 24 → j ≠ 35 → j ≠ 36 → (∀ k, stw j k = false) → gI σ8 j = gI σ j := fun j n1 n2 n3 hs => by funext k; exact oo j n1 n2 n3 hs k
      have g : ∀ s, s ≠ vN σ 24 18 → gI σ8 6 s = gI σ 6 s ∧ gI σ8 7 s = gI σ 7 s ∧ gI σ8 8 s = gI σ 8 s ∧ gI σ8 9 s = gI σ 9 s := by
        intro s hs
        rw [o 6 (by decide) (by decide) (by decide), o 7 (by decide) (by decide) (by decide), o 8 (by decide) (by decide) (by decide), o 9 (by decide) (by decide) (by decide)]
        exact hR.g (by show s ≠ 0 + vN σ 24 18; omega)
      refine h.one (κ := 0) (by decide) hf hR K2 ?_ ?_ ?_ ?_ ?_ ?_
      · intro j hj
        match j, hj with
        | 0, _ => exact e18
        | 1, _ => exact o24 14 (by decide)
        | 2, _ => exact o24 10 (by decide)
        | 3, _ => exact o24 30 (by decide)
        | j + 4, h => exact absurd h (by omega)
      · intro k hk
        rw [v10] at hk
        have gg := g (14 + k) (by omega)
        exact bS.t (hDs k hk) v1 v2 (r 25 (by decide) (by decide) (by decide) (fun _ => rfl)) (r 26 (by decide) (by decide) (by decide) (fun _ => rfl)) (oo 29 (by decide) (by decide) (by decide) (fun _ => rfl) k) (oo 30 (by decide) (by decide) (by decide) (fun _ => rfl) k) (oo 31 (by decide) (by decide) (by decide) (fun _ => rfl) k) gg.1 gg.2.1 gg.2.2.1 gg.2.2.2
      · intro k hk
        rw [v14] at hk
        have gg := g (7 + k) (by omega)
        exact bM.t (hDm k hk) v1 (oo 32 (by decide) (by decide) (by decide) (fun _ => rfl) k) (oo 33 (by decide) (by decide) (by decide) (fun _ => rfl) k) (oo 34 (by decide) (by decide) (by decide) (fun _ => rfl) k) gg.1 gg.2.1 gg.2.2.1
      · intro k hk
        rw [v18] at hk
        by_cases e : k = vN σ 24 18
        · obtain ⟨n6, n7, -, -⟩ := hR.n (s := k) (by show k = 0 + vN σ 24 18; omega)
          have x35 : gI σ8 35 k = a1 := by rw [e8, gI_sIj _ _ (by decide), e7, gI_sIj _ _ (by decide), e6, e, gI_sIe]
          have x36 : gI σ8 36 k = a2 := by rw [e8, gI_sIj _ _ (by decide), e7, e, gI_sIe]
          refine ⟨?_, ?_, ?_, ?_⟩
          · rw [x35, v1]; exact q1
          · rw [x36]; exact q2
          · rw [x36, o 6 (by decide) (by decide) (by decide)]; exact n6
          · rw [x35, o 7 (by decide) (by decide) (by decide)]; exact n7
        · have gg := g k e
          refine bC.t (hDc k (by omega)) v1 ?_ ?_ gg.1 gg.2.1
          · rw [e8, gI_sIj _ _ (by decide), e7, gI_sIj _ _ (by decide), e6, gI_sIk _ _ e]; exact K1.1 35 k rfl
          · rw [e8, gI_sIj _ _ (by decide), e7, gI_sIk _ _ e, e6, gI_sIj _ _ (by decide)]; exact K1.1 36 k rfl
      · intro k hk
        rw [v30] at hk
        have gg := g (39 + k) (by omega)
        exact bR.t (hDr k hk) v1 (oo 40 (by decide) (by decide) (by decide) (fun _ => rfl) k) (oo 41 (by decide) (by decide) (by decide) (fun _ => rfl) k) (oo 42 (by decide) (by decide) (by decide) (fun _ => rfl) k) (oo 43 (by decide) (by decide) (by decide) (fun _ => rfl) k) gg.1 gg.2.1 gg.2.2.1 gg.2.2.2
      · intro j k hj hk
        rw [v10] at hj hk
        rw [r 29 (by decide) (by decide) (by decide) (fun _ => rfl), r 30 (by decide) (by decide) (by decide) (fun _ => rfl), r 31 (by decide) (by decide) (by decide) (fun _ => rfl)]
        exact hU j k hj hk
  · unfold PX8_scrape
    exact wX8_noPlace hB (fun _ => ⟨fun _ => wX8_isNight (fun w => absurd w q2) (fun _ => ⟨fun _ => ⟨rfl, h⟩, fun w => absurd rfl w⟩), fun w => absurd rfl w⟩) (fun w => absurd q1 w)
