/-! ===== what the play hangs on ===== -/
def agb (j k : Nat) : Bool := (j == 25 || (j == 26 || (j == 29 || (j == 30 || (j == 31 || (j == 32 || (j == 33 || (j == 34 || (j == 35 || (j == 36 || (j == 40 || (j == 41 || (j == 42 || (j == 43 || (j == 24 && (k == 10 || (k == 14 || (k == 18 || (k == 21 || (k == 22 || (k == 23 || (k == 24 || (k == 25 || (k == 26 || k == 30))))))))))))))))))))))))
def AG (τ τ' : XS) : Prop := ∀ j k, agb j k = true → gI τ' j k = gI τ j k
theorem AG.rf (τ : XS) : AG τ τ := fun _ _ _ => rfl
theorem AG.sm {τ τ' : XS} (h : AG τ τ') : AG τ' τ := fun j k q => (h j k q).symm
theorem AG.tr {τ τ1 τ2 : XS} (h : AG τ τ1) (h2 : AG τ1 τ2) : AG τ τ2 := fun j k q => (h2 j k q).trans (h j k q)
theorem AG.I {τ : XS} {j k : Nat} {x : Int32} (hs : agb j k = false) : AG τ (sI τ j k x) := by
  intro j' k' h
  rw [gI_sI]
  by_cases hq : j' = j ∧ k' = k
  · rw [hq.1, hq.2, hs] at h; cases h
  · rw [if_neg hq]
theorem KK.ag {b : Nat → Nat → Bool} {τ τ' : XS} (h : KK b τ τ') (hb : ∀ j k, b j k = true → agb j k = false) : AG τ τ' := by
  intro j k q
  refine h.1 j k ?_
  cases e : b j k with
  | false => rfl
  | true => rw [hb j k e] at q; cases q
theorem cw_ag (j k : Nat) (h : cw j k = true) : agb j k = false := by
  unfold cw at h
  simp only [Bool.or_eq_true, beq_iff_eq] at h
  rcases h with rfl | rfl | rfl <;> rfl
theorem mw_ag (j k : Nat) (h : mw j k = true) : agb j k = false := by
  unfold mw at h
  simp only [Bool.or_eq_true, beq_iff_eq] at h
  rcases h with rfl | rfl | rfl <;> rfl
theorem AG.row {τ τ' : XS} (h : AG τ τ') {j : Nat} (hj : ∀ k, agb j k = true) : gI τ' j = gI τ j := by
  funext k
  exact h j k (hj k)
theorem AG.v {τ τ' : XS} (h : AG τ τ') {j k : Nat} (hj : agb j k = true) : vN τ' j k = vN τ j k := by unfold vN; rw [h j k hj]
theorem AG.ev {τ τ' : XS} (h : AG τ τ') : evM τ' = evM τ := by
  funext s
  unfold evM
  rw [h.v (j := 24) (k := 18) rfl, h.v (j := 24) (k := 14) rfl, h.v (j := 24) (k := 26) rfl, h.v (j := 24) (k := 23) rfl, h.v (j := 24) (k := 24) rfl, h.v (j := 35) (k := s) rfl, h.v (j := 32) (k := s - 7) rfl, h.v (j := 33) (k := s - 7) rfl, h.v (j := 30) (k := s - 14) rfl]
theorem AG.woo {τ τ' : XS} (h : AG τ τ') : wo τ' = wo τ := by
  unfold wo
  rw [h 24 21 rfl, h.v (j := 24) (k := 21) rfl]
theorem AG.ms {τ τ' : XS} (h : AG τ τ') : MS τ' = MS τ := by
  have hn : ∀ n, nS τ' n = nS τ n := by
    intro n
    have v36 : ∀ k, vN τ' 36 k = vN τ 36 k := fun k => h.v rfl
    have v34 : ∀ k, vN τ' 34 k = vN τ 34 k := fun k => h.v rfl
    have v31 : ∀ k, vN τ' 31 k = vN τ 31 k := fun k => h.v rfl
    unfold nS aS xS bS' yS sS
    rw [h.woo, h.v (j := 24) (k := 18) rfl, h.v (j := 24) (k := 14) rfl, h.v (j := 24) (k := 10) rfl, h 24 25 rfl, h 24 22 rfl]
    simp only [v36, v34, v31]
  funext N
  induction N with
  | zero => rfl
  | succ N ih =>
    show MS τ' N ++ nS τ' N = MS τ N ++ nS τ N
    rw [ih, hn]
theorem AG.md {τ τ' : XS} (h : AG τ τ') (hM : Md τ) : Md τ' := by
  have r30 := h.row (j := 30) (fun _ => rfl)
  have r31 := h.row (j := 31) (fun _ => rfl)
  have r32 := h.row (j := 32) (fun _ => rfl)
  have r33 := h.row (j := 33) (fun _ => rfl)
  have r34 := h.row (j := 34) (fun _ => rfl)
  have r35 := h.row (j := 35) (fun _ => rfl)
  have r36 := h.row (j := 36) (fun _ => rfl)
  unfold Md at hM ⊢
  rw [h.v (j := 24) (k := 18) rfl, h.v (j := 24) (k := 14) rfl, h.v (j := 24) (k := 10) rfl, h 24 18 rfl, h 24 14 rfl, h 24 10 rfl, h 24 21 rfl, h 24 22 rfl, h 24 23 rfl, h 24 24 rfl, h 24 25 rfl, h 24 26 rfl, r30, r31, r32, r33, r34, r35, r36]
  exact hM
theorem MS_lab {τ : XS} (hM : Md τ) {N : Nat} (hN : N ≤ 40) : lab (vN τ 24 10) (play ((MS τ N).map (evM τ)) ch0) := by
  refine lab_play _ _ (lab0 _) (fun e he e2 => ?_)
  obtain ⟨s, hs, rfl⟩ := List.mem_map.mp he
  have q := ((MS_mem hM N hN).mp hs).1
  by_cases a : s < 7
  · rw [evM_a a] at e2; omega
  · by_cases b : s < 14
    · rw [evM_b (by omega) b] at e2; omega
    · have : (evM τ s).2.2 = s - 14 := by unfold evM; rw [if_neg a, if_neg b]
      rw [this]
      have c6 := hM.1.2
      have m6 := hM.2.1.2
      rcases q with w | w | w | w | w <;> omega
/-! ===== the states of a run, played ===== -/
theorem mN_a {τ : XS} {s : Nat} (h : s < 7) (h2 : s < vN τ 24 18) : mN τ s = vN τ 36 s := by unfold mN; rw [if_pos h, if_pos h2]
theorem mN_x {τ : XS} {s : Nat} (h : s < 7) (h2 : ¬ s < vN τ 24 18) : mN τ s = vN τ 24 25 := by unfold mN; rw [if_pos h, if_neg h2]
theorem mN_b {τ : XS} {s : Nat} (h : 7 ≤ s) (h1 : s < 14) (h2 : s < 7 + vN τ 24 14) : mN τ s = vN τ 34 (s - 7) := by unfold mN; rw [if_neg (by omega), if_pos h1, if_pos h2]
theorem mN_y {τ : XS} {s : Nat} (h : 7 ≤ s) (h1 : s < 14) (h2 : ¬ s < 7 + vN τ 24 14) : mN τ s = vN τ 24 22 := by unfold mN; rw [if_neg (by omega), if_pos h1, if_neg h2]
theorem mN_s {τ : XS} {s : Nat} (h : 14 ≤ s) : mN τ s = vN τ 31 (s - 14) := by unfold mN; rw [if_neg (by omega), if_neg (by omega)]
theorem evC_a {σ : XS} {s : Nat} (h : s < 7) : evC σ s = (0, vN σ 7 s, 0) := by unfold evC; rw [if_pos h]
theorem evC_b {σ : XS} {s : Nat} (h : 7 ≤ s) (h1 : s < 14) : evC σ s = (1, vN σ 7 s, vN σ 8 s) := by unfold evC; rw [if_neg (by omega), if_pos h1]
theorem evC_s {σ : XS} {s : Nat} (h : 14 ≤ s) (h1 : s < 39) : evC σ s = (2, vN σ 7 s, s - 14) := by unfold evC; rw [if_neg (by omega), if_neg (by omega), if_pos h1]
theorem evM_a' {τ : XS} {s : Nat} (h : s < 7) (h2 : s < vN τ 24 18) : evM τ s = (0, vN τ 35 s, 0) := by unfold evM; rw [if_pos h, if_pos h2]
theorem evM_x' {τ : XS} {s : Nat} (h : s < 7) (h2 : ¬ s < vN τ 24 18) : evM τ s = (0, vN τ 24 26, 0) := by unfold evM; rw [if_pos h, if_neg h2]
theorem evM_b' {τ : XS} {s : Nat} (h : 7 ≤ s) (h1 : s < 14) (h2 : s < 7 + vN τ 24 14) : evM τ s = (1, vN τ 32 (s - 7), vN τ 33 (s - 7)) := by unfold evM; rw [if_neg (by omega), if_pos h1, if_pos h2, if_pos h2]
theorem evM_y' {τ : XS} {s : Nat} (h : 7 ≤ s) (h1 : s < 14) (h2 : ¬ s < 7 + vN τ 24 14) : evM τ s = (1, vN τ 24 23, vN τ 24 24) := by unfold evM; rw [if_neg (by omega), if_pos h1, if_neg h2, if_neg h2]
theorem evM_s' {τ : XS} {s : Nat} (h : 14 ≤ s) : evM τ s = (2, vN τ 30 (s - 14), s - 14) := by unfold evM; rw [if_neg (by omega), if_neg (by omega)]
theorem Gd.md {σ : XS} (h : Gd σ) : Md σ := by
  have hw := h.w
  obtain ⟨-, hB, -, hDs, hDm, hDc, -⟩ := id hw
  have hq := hB.q
  have cc := hB.c
  have cs := hB.s
  have cm := hB.m
  refine ⟨⟨cc.1, by omega⟩, ⟨cm.1, by omega⟩, ⟨cs.1, by omega⟩, fun k hk => ?_, fun k hk => ?_, fun k hk => ?_, Or.inl h.1.2.2.2.2.2.2, Or.inl h.1.2.2.2.2.2.1, Or.inl h.1.2.2.2.2.1⟩
  · have := hDc k hk
    exact ⟨vin_mono this.1 (by omega), this.2.1⟩
  · have := hDm k hk
    exact ⟨vin_mono this.1 (by omega), vin_mono this.2.1 (by omega), this.2.2.1⟩
  · have := hDs k hk
    exact ⟨vin_mono this.2.1 (by omega), this.2.2.1⟩
theorem Gd.lk {σ : XS} (h : Gd σ) : Lk σ σ (live σ) 100 := by
  have hw := h.w
  obtain ⟨-, hB, -, hDs, hDm, hDc, -⟩ := id hw
  have cc := hB.c
  have cs := hB.s
  have cm := hB.m
  have x25 := h.1.2.2.2.2.2.2
  have x22 := h.1.2.2.2.2.2.1
  have x21 := h.1.2.2.2.2.1
  have hwo : wo σ = 100 := by unfold wo; rw [if_pos x21]
  have mi : ∀ s, mM σ s → s < vN σ 24 18 ∨ (7 ≤ s ∧ s < 7 + vN σ 24 14) ∨ (14 ≤ s ∧ s < 14 + vN σ 24 10) := by
    intro s q
    rcases q with w | w | w | w | w
    · exact Or.inl w
    · exact absurd x25 w.2
    · exact Or.inr (Or.inl w)
    · exact absurd x22 w.2
    · exact Or.inr (Or.inr ⟨w.1, w.2.1⟩)
  refine ⟨fun s hs => ⟨fun w => ?_, fun w => ?_⟩, fun s q => ?_⟩
  · rcases w.1 with w | w | w | w
    · exact Or.inl w
    · exact Or.inr (Or.inr (Or.inl w))
    · exact Or.inr (Or.inr (Or.inr (Or.inr ⟨w.1, w.2, by rw [hwo]; omega⟩)))
    · omega
  · refine ⟨?_, by omega⟩
    rcases mi s w with w | w | w
    · exact Or.inl w
    · exact Or.inr (Or.inl w)
    · exact Or.inr (Or.inr (Or.inl w))
  · rcases mi s q with w | w | w
    · have d := hDc s w
      rw [mN_a (by omega) w, evC_a (by omega), evM_a' (by omega) w]
      unfold vN
      rw [d.2.2.1, d.2.2.2]
      exact ⟨rfl, rfl⟩
    · have d := hDm (s - 7) (by omega)
      rw [show 7 + (s - 7) = s by omega] at d
      have n14 : s < 14 := by omega
      rw [mN_b w.1 n14 w.2, evC_b w.1 n14, evM_b' w.1 n14 w.2]
      unfold vN
      rw [d.2.2.2.1, d.2.2.2.2.1, d.2.2.2.2.2]
      exact ⟨rfl, rfl⟩
    · have d := hDs (s - 14) (by omega)
      rw [show 14 + (s - 14) = s by omega] at d
      rw [mN_s w.1, evC_s w.1 (by omega), evM_s' w.1]
      unfold vN
      rw [d.2.2.2.1, d.2.2.2.2.1]
      exact ⟨rfl, rfl⟩
theorem Gd.okE {σ : XS} (h : Gd σ) {s : Nat} (hs : live σ s) : okE σ s ∧ vp_in (gI σ 6 s) 40 := by
  have hw := h.w
  obtain ⟨a, b⟩ := hw.lv hs
  obtain ⟨-, hB, -, hDs, hDm, hDc, -⟩ := id hw
  have hq := hB.q
  have cc := hB.c
  have cs := hB.s
  have cm := hB.m
  refine ⟨⟨by omega, fun h39 => ?_, fun h7 h14 => ?_⟩, b⟩
  · have : vp_in (gI σ 7 s) 6 := by
      rcases hs with w | ⟨w1, w⟩ | ⟨w1, w⟩ | ⟨w1, w⟩
      · have d := hDc s w
        rw [d.2.2.2]; exact vin_mono d.1 (by omega)
      · have d := hDm (s - 7) (by omega)
        rw [show 7 + (s - 7) = s by omega] at d
        rw [d.2.2.2.2.1]; exact vin_mono d.1 (by omega)
      · have d := hDs (s - 14) (by omega)
        rw [show 14 + (s - 14) = s by omega] at d
        rw [d.2.2.2.2.1]; exact vin_mono d.2.1 (by omega)
      · omega
    exact cnt this (by decide)
  · have : vp_in (gI σ 8 s) 6 := by
      rcases hs with w | ⟨w1, w⟩ | ⟨w1, w⟩ | ⟨w1, w⟩
      · omega
      · have d := hDm (s - 7) (by omega)
        rw [show 7 + (s - 7) = s by omega] at d
        rw [d.2.2.2.2.2]; exact vin_mono d.2.1 (by omega)
      · omega
      · omega
    exact cnt this (by decide)
theorem to_mem {σ : XS} {T m e : Nat} {lv : Nat → Prop} (hO : GOc σ T lv) (hl : ∀ s, lv s → s < 48) (hm : m ≤ T) (h1 : ∀ i, i < m → vN σ 6 (vN σ 10 i) ≤ e) (h2 : m = T ∨ e < vN σ 6 (vN σ 10 m)) (s : Nat) : s ∈ ordL σ m ↔ lv s ∧ vN σ 6 s ≤ e := by
  rw [ord_mem]
  constructor
  · rintro ⟨i, hi, rfl⟩
    exact ⟨(hO.2.1 i (by omega)).2, h1 i hi⟩
  · rintro ⟨a, b⟩
    obtain ⟨i, hi, rfl⟩ := hO.2.2.2 s a
    refine ⟨i, ?_, rfl⟩
    by_cases q : i < m
    · exact q
    · exfalso
      rcases h2 with h2 | h2
      · omega
      · have hle : key σ (vN σ 10 m) ≤ key σ (vN σ 10 i) := by
          by_cases e : i = m
          · rw [e]; exact Nat.le_refl _
          · exact Nat.le_of_lt (hO.2.2.1 m i (by omega) hi)
        have x1 := hl _ a
        unfold key at hle
        omega
/-- both sides play to the end of a night -/
theorem Gd.pl {σ : XS} (h : Gd σ) {e : Nat} (he : e < 40) {post : XS → Prop} (hk : ∀ τ, KK cw σ τ → Gd τ → rp 12 13 14 25 τ (play ((MS σ (e + 1)).map (evM σ)) ch0) → post τ) : PX5_playTo (nI e) σ post := by
  have hw := h.w
  obtain ⟨hO, hT⟩ := hw.o
  have hl48 : ∀ s, live σ s → s < 48 := fun s hs => by have := (hw.lv hs).1; omega
  have hp := ev_prs h.md hO h.lk (fun s hs => vin_lt (h.okE hs).2)
  refine wPlayTo (by omega) hO (fun s hs => h.okE hs) hp he (fun m τ hm K h1 h2 hr => hk τ K ?_ ?_)
  · have Ks1 : Ks σ τ := by
      refine ⟨fun j k hs => K.1 j k ?_, by rw [K.2]⟩
      unfold scr at hs
      unfold cw
      simp only [Bool.or_eq_false_iff] at hs ⊢
      exact ⟨hs.2.1, hs.2.2.1, hs.2.2.2.1⟩
    exact fin3 h Ks1 (K.1 0 8 rfl) (K.1 24 0 rfl) (by rw [K.1 15 0 rfl, K.1 24 41 rfl]; exact h.1.2.2.2.1) (K.1 24 21 rfl) (K.1 24 22 rfl) (K.1 24 25 rfl)
  · rw [← ev_play h.md hO h.lk hm he (fun s _ => to_mem hO hl48 hm h1 h2 s)]
    exact hr.mono (Nat.le_trans (evL_le σ 100 hm) hp)
theorem Gd.gt {σ : XS} (h : Gd σ) {e : Nat} (he : e < 40) {post : XS → Prop} (hk : ∀ τ, KK mw σ τ → Gd τ → rp 37 38 39 25 τ (play ((MS σ (e + 1)).map (evM σ)) ch0) → post τ) : PX8_goTo (nI e) σ post := by
  refine wGoTo h.md he (fun τ K hr => hk τ K ?_ (rp.mono hr (prs25 h.md (e + 1))))
  have Ks1 : Ks σ τ := by
    refine ⟨fun j k hs => K.1 j k ?_, by rw [K.2]⟩
    unfold scr at hs
    unfold mw
    simp only [Bool.or_eq_false_iff] at hs ⊢
    exact ⟨hs.2.2.2.2.2.2.1, hs.2.2.2.2.2.2.2.1, hs.2.2.2.2.2.2.2.2.1⟩
  exact fin3 h Ks1 (K.1 0 8 rfl) (K.1 24 0 rfl) (by rw [K.1 15 0 rfl, K.1 24 41 rfl]; exact h.1.2.2.2.1) (K.1 24 21 rfl) (K.1 24 22 rfl) (K.1 24 25 rfl)
