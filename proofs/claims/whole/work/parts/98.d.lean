/-! ===== Gd after a change of the story ===== -/
def ptw (j k : Nat) : Bool := (stw j k || (j == 29 || (j == 30 || (j == 31 || (j == 32 || (j == 33 || (j == 34 || (j == 35 || (j == 36 || (j == 40 || (j == 41 || (j == 42 || (j == 43 || (j == 24 && (k == 10 || (k == 14 || (k == 18 || k == 30)))))))))))))))))
theorem stw_ptw (j k : Nat) (h : ptw j k = false) : stw j k = false := by
  unfold ptw at h
  simp only [Bool.or_eq_false_iff] at h
  exact h.1
theorem shw_ptw (j : Nat) (h : shw j = true) (k : Nat) : ptw j k = false := by
  unfold shw at h
  simp only [Bool.or_eq_true, beq_iff_eq] at h
  rcases h with rfl | rfl | rfl | rfl | rfl | rfl | rfl | rfl | rfl | rfl | rfl <;> rfl
theorem Gd.put {σ σ2 : XS} (h : Gd σ) (K : KK ptw σ σ2) (hB : GB σ2) (hDs : GDs σ2) (hDm : GDm σ2) (hDc : GDc σ2) (hDr : GDr σ2) (hU : GU σ2) (hO : GO σ2) : Gd σ2 := by
  obtain ⟨hA, -, hC, -, -, -, -, -, -, hS⟩ := h
  have pP : ∀ k, gP σ2 k = gP σ k := fun k => by unfold gP; rw [K.2]
  have pA : gA σ2 = gA σ := by unfold gA; rw [K.2]
  have pK : ∀ k, gK σ2 k = gK σ k := fun k => by unfold gK; rw [K.2]
  have pV : ∀ k, gV σ2 k = gV σ k := fun k => by unfold gV; rw [K.2]
  have r25 : gI σ2 25 = gI σ 25 := K.row (fun _ => rfl)
  have r26 : gI σ2 26 = gI σ 26 := K.row (fun _ => rfl)
  have v2 : vN σ2 24 2 = vN σ 24 2 := by unfold vN; rw [K.1 24 2 rfl]
  refine ⟨?_, hB, ?_, hDs, hDm, hDc, hDr, hU, hO, ?_⟩
  · unfold GA at hA ⊢
    rw [K.1 0 6 rfl, K.1 24 2 rfl, K.1 0 7 rfl, K.1 24 1 rfl, K.1 0 8 rfl, K.1 24 0 rfl, K.1 15 0 rfl, K.1 24 41 rfl, K.1 24 21 rfl, K.1 24 22 rfl, K.1 24 25 rfl]
    exact hA
  · intro p hp
    rw [v2] at hp
    obtain ⟨a, e1, e2, e3, e4, e5⟩ := hC p hp
    refine ⟨a, by rw [pP]; exact e1, ?_, by rw [r25, pK]; exact e3, by rw [r26, pV]; exact e4, by rw [pV]; exact e5⟩
    unfold isPe at e2 ⊢
    rw [pA, pK]; exact e2
  · exact hS.z (fun j k hs => K.1 j k (shw_ptw j hs k))
def mc (κ : Nat) : Nat := match κ with | 0 => 18 | 1 => 14 | 2 => 10 | _ => 30
theorem Gw.ck {σ : XS} (hw : Gw σ) {κ : Nat} (h4 : κ < 4) : gI σ 5 κ = nI (vN σ 24 (mc κ)) ∧ gI σ 24 (mc κ) = nI (vN σ 24 (mc κ)) ∧ vN σ 24 (mc κ) ≤ mx κ := by
  obtain ⟨-, hB, -⟩ := hw
  have e0 := hB.2.2.2.2.2.2.1
  have e1 := hB.2.2.2.2.2.2.2.1
  have e2 := hB.2.2.2.2.2.2.2.2.1
  have e3 := hB.2.2.2.2.2.2.2.2.2.1
  have c0 := hB.c
  have c1 := hB.m
  have c2 := hB.s
  have c3 := hB.r
  match κ, h4 with
  | 0, _ => exact ⟨e0.trans c0.1, c0.1, by show vN σ 24 18 ≤ 6; omega⟩
  | 1, _ => exact ⟨e1.trans c1.1, c1.1, by show vN σ 24 14 ≤ 6; omega⟩
  | 2, _ => exact ⟨e2.trans c2.1, c2.1, by show vN σ 24 10 ≤ 24; omega⟩
  | 3, _ => exact ⟨e3.trans c3.1, c3.1, by show vN σ 24 30 ≤ 8; omega⟩
  | κ + 4, h => exact absurd h (by omega)
theorem live_iff {σ : XS} (hc : ∀ κ, κ < 4 → vN σ 24 (mc κ) ≤ mx κ) (s : Nat) : live σ s ↔ s < fs (kdN s) + vN σ 24 (mc (kdN s)) := by
  have c0 : vN σ 24 18 ≤ 6 := hc 0 (by decide)
  have c1 : vN σ 24 14 ≤ 6 := hc 1 (by decide)
  have c2 : vN σ 24 10 ≤ 24 := hc 2 (by decide)
  have c3 : vN σ 24 30 ≤ 8 := hc 3 (by decide)
  unfold live
  by_cases a : s < 7
  · have e : kdN s = 0 := by unfold kdN; rw [if_pos a]
    rw [e]
    show _ ↔ s < 0 + vN σ 24 18
    omega
  by_cases b : s < 14
  · have e : kdN s = 1 := by unfold kdN; rw [if_neg a, if_pos b]
    rw [e]
    show _ ↔ s < 7 + vN σ 24 14
    omega
  by_cases c : s < 39
  · have e : kdN s = 2 := by unfold kdN; rw [if_neg a, if_neg b, if_pos c]
    rw [e]
    show _ ↔ s < 14 + vN σ 24 10
    omega
  · have e : kdN s = 3 := by unfold kdN; rw [if_neg a, if_neg b, if_neg c]
    rw [e]
    show _ ↔ s < 39 + vN σ 24 30
    omega
theorem Gw.lv {σ : XS} (hw : Gw σ) {s : Nat} (h : live σ s) : s < 47 ∧ vp_in (gI σ 6 s) 40 := by
  obtain ⟨-, hB, -, hDs, hDm, hDc, hDr, -⟩ := hw
  have c0 := hB.c
  have c1 := hB.m
  have c2 := hB.s
  have c3 := hB.r
  rcases h with h | ⟨h1, h⟩ | ⟨h1, h⟩ | ⟨h1, h⟩
  · have := hDc s h
    exact ⟨by omega, by rw [this.2.2.1]; exact this.2.1⟩
  · have := hDm (s - 7) (by omega)
    rw [show 7 + (s - 7) = s by omega] at this
    exact ⟨by omega, by rw [this.2.2.2.1]; exact this.2.2.1⟩
  · have := hDs (s - 14) (by omega)
    rw [show 14 + (s - 14) = s by omega] at this
    exact ⟨by omega, by rw [this.2.2.2.1]; exact this.2.2.1⟩
  · have := hDr (s - 39) (by omega)
    rw [show 39 + (s - 39) = s by omega] at this
    exact ⟨by omega, by rw [this.2.2.2.2.1]; exact this.2.1⟩
theorem Gw.o {σ : XS} (hw : Gw σ) : GOc σ (tot σ) (live σ) ∧ tot σ ≤ 47 := by
  have : GOc σ (tot σ) (live σ) := hw.2.2.2.2.2.2.2.2.1
  exact ⟨this, this.le (fun s hs => (hw.lv hs).1)⟩
theorem GOc.go {σ σ' : XS} {T : Nat} {lv : Nat → Prop} (h : GOc σ T lv) (hT : T < 100) (r4 : gI σ' 4 6 = gI σ 4 6) (r6 : gI σ' 6 = gI σ 6) (r10 : gI σ' 10 = gI σ 10) (hl : ∀ s, live σ' s ↔ lv s) : GO σ' := by
  have ht : tot σ' = T := by
    unfold tot vN
    rw [r4, h.1, nI_clamp (by omega)]
  have v : ∀ i, vN σ' 10 i = vN σ 10 i := fun i => by unfold vN; rw [r10]
  refine ⟨by rw [ht, r4]; exact h.1, fun i hi => ?_, fun i j hij hj => ?_, fun s hs => ?_⟩
  · rw [ht] at hi
    rw [r10, v, hl]; exact h.2.1 i hi
  · rw [ht] at hj
    rw [v, v, key6 r6, key6 r6]; exact h.2.2.1 i j hij hj
  · rw [hl] at hs
    obtain ⟨i, hi, e⟩ := h.2.2.2 s hs
    exact ⟨i, by rw [ht]; exact hi, by rw [v]; exact e⟩
/-- fewer than before -/
theorem Gd.sub {σ σ2 : XS} (h : Gd σ) (K : KK stw σ σ2) {κ l : Nat} (h4 : κ < 4) (hl : l ≤ vN σ 24 (mc κ)) (r6 : gI σ2 6 = gI σ 6) (r7 : gI σ2 7 = gI σ 7) (r8 : gI σ2 8 = gI σ 8) (r9 : gI σ2 9 = gI σ 9) (h5 : ∀ j, gI σ2 5 j = if j = κ then nI l else gI σ 5 j) {T' : Nat} (hT : T' < 100) (hO : GOc σ2 T' (fun s => live σ s ∧ tbK κ l s)) : Gd (sI σ2 24 (mc κ) (nI l)) := by
  obtain ⟨σ3, e3⟩ : ∃ z, z = sI σ2 24 (mc κ) (nI l) := ⟨_, rfl⟩
  rw [← e3]
  have hw := h.w
  have hck : ∀ j, j < 4 → gI σ 5 j = nI (vN σ 24 (mc j)) ∧ gI σ 24 (mc j) = nI (vN σ 24 (mc j)) ∧ vN σ 24 (mc j) ≤ mx j := fun j hj => hw.ck hj
  have mci : ∀ j, j < 4 → (mc j = mc κ ↔ j = κ) := by
    intro j hj
    refine ⟨fun e => ?_, fun e => by rw [e]⟩
    revert e
    match j, hj, κ, h4 with
    | 0, _, 0, _ | 1, _, 1, _ | 2, _, 2, _ | 3, _, 3, _ => intro _; rfl
    | 0, _, 1, _ | 0, _, 2, _ | 0, _, 3, _ | 1, _, 0, _ | 1, _, 2, _ | 1, _, 3, _ | 2, _, 0, _ | 2, _, 1, _ | 2, _, 3, _ | 3, _, 0, _ | 3, _, 1, _ | 3, _, 2, _ => intro e; exact absurd e (by decide)
    | j + 4, h, _, _ => exact absurd h (by omega)
    | _, _, k + 4, h => exact absurd h (by omega)
  have K3 : KK ptw σ σ3 := by
    refine (K.mono stw_ptw).tr ?_
    rw [e3]
    refine KK.I ?_
    match κ, h4 with
    | 0, _ | 1, _ | 2, _ | 3, _ => rfl
    | κ + 4, h => exact absurd h (by omega)
  have c24 : ∀ j, j < 4 → gI σ3 24 (mc j) = nI (if j = κ then l else vN σ 24 (mc j)) := by
    intro j hj
    rw [e3, gI_upd]
    by_cases e : j = κ
    · rw [if_pos ((mci j hj).mpr e), if_pos e]
    · rw [if_neg (fun w => e ((mci j hj).mp w)), if_neg e]
      exact (K.1 24 (mc j) (by
        match j, hj with
        | 0, _ | 1, _ | 2, _ | 3, _ => rfl
        | κ + 4, h => exact absurd h (by omega))).trans (hck j hj).2.1
  have m40 : ∀ j, mx j < 48 := fun j => by have := fs_lt j; omega
  have v24 : ∀ j, j < 4 → vN σ3 24 (mc j) = if j = κ then l else vN σ 24 (mc j) := by
    intro j hj
    have hb : (if j = κ then l else vN σ 24 (mc j)) ≤ vN σ 24 (mc j) := by
      by_cases e : j = κ
      · rw [if_pos e, e]; exact hl
      · rw [if_neg e]; omega
    have := (hck j hj).2.2
    have := m40 j
    show (gI σ3 24 (mc j)).toNatClampNeg = _
    rw [c24 j hj, nI_clamp (by omega)]
  have le24 : ∀ j, j < 4 → vN σ3 24 (mc j) ≤ vN σ 24 (mc j) := by
    intro j hj
    rw [v24 j hj]
    by_cases e : j = κ
    · rw [if_pos e, e]; exact hl
    · rw [if_neg e]; omega
  have h53 : ∀ j, j < 4 → gI σ3 5 j = gI σ3 24 (mc j) := by
    intro j hj
    rw [c24 j hj, e3, gI_sIj _ _ (by decide), h5]
    by_cases e : j = κ
    · rw [if_pos e, if_pos e]
    · rw [if_neg e, if_neg e]; exact (hck j hj).1
  have q6 : gI σ3 6 = gI σ 6 := by rw [← r6, e3]; funext k; exact gI_sIj _ _ (by decide)
  have q7 : gI σ3 7 = gI σ 7 := by rw [← r7, e3]; funext k; exact gI_sIj _ _ (by decide)
  have q8 : gI σ3 8 = gI σ 8 := by rw [← r8, e3]; funext k; exact gI_sIj _ _ (by decide)
  have q9 : gI σ3 9 = gI σ 9 := by rw [← r9, e3]; funext k; exact gI_sIj _ _ (by decide)
  have qr : ∀ j, j ≠ 24 → (∀ k, stw j k = false) → gI σ3 j = gI σ j := by
    intro j n hs
    funext k
    rw [e3, gI_sIj _ _ n]; exact K.1 j k (hs k)
  have r25 := qr 25 (by decide) (fun _ => rfl)
  have r26 := qr 26 (by decide) (fun _ => rfl)
  have r29 := qr 29 (by decide) (fun _ => rfl)
  have r30 := qr 30 (by decide) (fun _ => rfl)
  have r31 := qr 31 (by decide) (fun _ => rfl)
  have r32 := qr 32 (by decide) (fun _ => rfl)
  have r33 := qr 33 (by decide) (fun _ => rfl)
  have r34 := qr 34 (by decide) (fun _ => rfl)
  have r35 := qr 35 (by decide) (fun _ => rfl)
  have r36 := qr 36 (by decide) (fun _ => rfl)
  have r40 := qr 40 (by decide) (fun _ => rfl)
  have r41 := qr 41 (by decide) (fun _ => rfl)
  have r42 := qr 42 (by decide) (fun _ => rfl)
  have r43 := qr 43 (by decide) (fun _ => rfl)
  have v1 : vN σ3 24 1 = vN σ 24 1 := by unfold vN; rw [K3.1 24 1 rfl]
  have v2 : vN σ3 24 2 = vN σ 24 2 := by unfold vN; rw [K3.1 24 2 rfl]
  have v29 : ∀ i, vN σ3 29 i = vN σ 29 i := fun i => by unfold vN; rw [r29]
  obtain ⟨-, hB, -, hDs, hDm, hDc, hDr, hU, -, -⟩ := id h
  have inr : ∀ j, j < 4 → ∀ N, vp_in (gI σ 24 (mc j)) N → N < 100 → vp_in (gI σ3 24 (mc j)) N := by
    intro j hj N hN hN2
    have a1 := (hck j hj).2.1
    have a2 := le24 j hj
    have a3 := vin_lt hN
    rw [c24 j hj, ← v24 j hj]
    exact vp_in_nI (by unfold vN at *; omega) (by omega)
  refine h.put K3 ?_ ?_ ?_ ?_ ?_ ?_ ?_
  · refine ⟨?_, ?_, inr 2 (by decide) 25 hB.2.2.1 (by decide), inr 1 (by decide) 7 hB.2.2.2.1 (by decide), inr 0 (by decide) 7 hB.2.2.2.2.1 (by decide), inr 3 (by decide) 9 hB.2.2.2.2.2.1 (by decide), h53 0 (by decide), h53 1 (by decide), h53 2 (by decide), h53 3 (by decide), ?_⟩
    · rw [K3.1 24 2 rfl]; exact hB.1
    · rw [K3.1 24 1 rfl]; exact hB.2.1
    · rw [K3.1 24 2 rfl, K3.1 24 1 rfl]; exact hB.2.2.2.2.2.2.2.2.2.2
  · intro k hk
    have := hDs k (Nat.lt_of_lt_of_le hk (le24 2 (by decide)))
    rw [r29, r30, r31, q6, q7, q8, q9, r25, r26, v29, v1, v2]; exact this
  · intro k hk
    have := hDm k (Nat.lt_of_lt_of_le hk (le24 1 (by decide)))
    rw [r32, r33, r34, q6, q7, q8, v1]; exact this
  · intro k hk
    have := hDc k (Nat.lt_of_lt_of_le hk (le24 0 (by decide)))
    rw [r35, r36, q6, q7, v1]; exact this
  · intro k hk
    have := hDr k (Nat.lt_of_lt_of_le hk (le24 3 (by decide)))
    rw [r40, r41, r42, r43, q6, q7, q8, q9, v1]; exact this
  · intro j k hj hk
    rw [r29, r30, r31]
    exact hU j k (Nat.lt_of_lt_of_le hj (le24 2 (by decide))) (Nat.lt_of_lt_of_le hk (le24 2 (by decide)))
  · refine hO.go hT ?_ ?_ ?_ (fun s => ?_)
    · rw [e3, gI_sIj _ _ (by decide)]
    · rw [e3]; funext k; exact gI_sIj _ _ (by decide)
    · rw [e3]; funext k; exact gI_sIj _ _ (by decide)
    · rw [live_iff (fun j hj => Nat.le_trans (le24 j hj) (hck j hj).2.2), live_iff (fun j hj => (hck j hj).2.2), v24 _ (kdN4 s)]
      unfold tbK
      by_cases e : kdN s = κ
      · rw [if_pos e, e]
        refine ⟨fun w => ⟨by omega, fun q => by omega⟩, fun w => ?_⟩
        have := w.2
        by_cases q : fs κ + l ≤ s
        · exact absurd ⟨rfl, q⟩ this
        · omega
      · rw [if_neg e]
        exact ⟨fun w => ⟨w, fun q => e q.1⟩, fun w => w.1⟩
theorem backs {σ : XS} (h : Gd σ) {κ : Nat} (h4 : κ < 4) (a1 : Int32) : PX5_takeBack (nI κ) a1 σ (fun r1 σ1 => PX8_in a1.toInt64 (0 : Int64) ((gI σ1 24 (mc κ)).toInt64) σ1 (fun r => ((r = 0 → (r1 = (-2 : Int32) ∧ Gd σ1)) ∧ (¬ r = 0 → (∀ σ3 : XS, σ3 = sI σ1 24 (mc κ) ((gI σ1 24 (mc κ)) - a1) → (r1 = gI σ3 24 (mc κ) ∧ Gd σ3)))))) := by
  have hw := h.w
  obtain ⟨c1, c2, c3⟩ := hw.ck h4
  obtain ⟨hO, hT⟩ := hw.o
  have m40 := fs_lt κ
  have m24 : mx κ ≤ 24 := by
    match κ, h4 with
    | 0, _ | 1, _ | 2, _ | 3, _ => decide
    | κ + 4, h => exact absurd h (by omega)
  have f24 : stw 24 (mc κ) = false := rfl
  refine wBack h4 c1 (by omega) (by omega) hO (fun s hs => by have := (hw.lv hs).1; omega) (fun k σ' hk ek hR => ?_) (fun hno => ?_)
  · obtain ⟨K, b5, b6, b7, b8, b9, T', hO'⟩ := hR
    rw [(K.1 24 (mc κ) f24).trans c2]
    refine wIn (n := vN σ 24 (mc κ) + 1) (cN0 _ (by omega)) (fun _ => ⟨fun w => absurd w (by decide), fun _ σ3 e3 => ?_⟩) (fun w => absurd (ek ▸ vp_in_nI (by omega) (by omega)) w)
    rw [ek, pk_sub hk] at e3
    refine ⟨by rw [e3, gI_sIe], ?_⟩
    rw [e3]
    refine h.sub K h4 (by omega) b6 b7 b8 b9 b5 (T' := T') ?_ hO'
    have := hO'.le (N := 48) (fun s hs => by have := (hw.lv hs.1).1; omega)
    omega
  · rw [c2]
    refine wIn (n := vN σ 24 (mc κ) + 1) (cN0 _ (by omega)) (fun w => absurd w hno) (fun _ => ⟨fun _ => ⟨rfl, h⟩, fun w => absurd rfl w⟩)
