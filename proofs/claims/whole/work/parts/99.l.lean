/-! ===== the class's rows and the reference's, one more counted ===== -/
def LV (τ : XS) (s : Nat) : Prop := s < vN τ 24 18 ∨ (s = vN τ 24 18 ∧ gI τ 24 25 ≠ -9) ∨ (7 ≤ s ∧ s < 7 + vN τ 24 14) ∨ (s = 7 + vN τ 24 14 ∧ gI τ 24 22 ≠ -9) ∨ (14 ≤ s ∧ s < 14 + vN τ 24 10) ∨ (39 ≤ s ∧ s < 39 + vN τ 24 30)
def RE (σ τ : XS) : Prop := (∀ s, s < vN τ 24 18 → gI σ 6 s = gI τ 36 s ∧ gI σ 7 s = gI τ 35 s) ∧ (gI τ 24 25 ≠ -9 → gI σ 6 (vN τ 24 18) = gI τ 24 25 ∧ gI σ 7 (vN τ 24 18) = gI τ 24 26) ∧ (∀ k, k < vN τ 24 14 → gI σ 6 (7 + k) = gI τ 34 k ∧ gI σ 7 (7 + k) = gI τ 32 k ∧ gI σ 8 (7 + k) = gI τ 33 k) ∧ (gI τ 24 22 ≠ -9 → gI σ 6 (7 + vN τ 24 14) = gI τ 24 22 ∧ gI σ 7 (7 + vN τ 24 14) = gI τ 24 23 ∧ gI σ 8 (7 + vN τ 24 14) = gI τ 24 24) ∧ (∀ k, k < vN τ 24 10 → gI σ 6 (14 + k) = gI τ 31 k ∧ gI σ 7 (14 + k) = gI τ 30 k ∧ gI σ 9 (14 + k) = gM τ k) ∧ (∀ k, k < vN τ 24 30 → gI σ 6 (39 + k) = gI τ 41 k ∧ gI σ 7 (39 + k) = gI τ 40 k ∧ gI σ 8 (39 + k) = gI τ 42 k ∧ gI σ 9 (39 + k) = gI τ 43 k)
theorem Lks.of {σ τ : XS} {T lo : Nat} {lv : Nat → Prop} (hM : MdR τ) (hT : T ≤ 48) (hO : GOc σ T lv) (hR : RE σ τ) (hlv : ∀ s, lv s ↔ LV τ s) (hlo : ∀ s, s < 39 → (s ≠ lo ↔ (14 ≤ s → s - 14 ≠ wo τ))) (h5 : gI σ 5 2 = gI τ 24 10) : Lks σ τ T lo lv := by
  obtain ⟨⟨⟨c1, c2⟩, ⟨m1, m2⟩, ⟨n1, n2⟩, hc, hm, hs, hx, hy, hwo⟩, ⟨r1, r2⟩, hr, hp⟩ := id hM
  obtain ⟨A, X, B, Y, S, R⟩ := hR
  refine ⟨hT, hO, ⟨fun s h39 => ?_, fun s w => ?_⟩, fun s hls => ?_, h5.trans n1, fun j hj => (S j hj).2.2, fun s h39 => ?_, R⟩
  · rw [hlv, hlo s h39]
    constructor
    · rintro ⟨w, z⟩
      rcases w with w | w | w | w | w | w
      · exact Or.inl w
      · exact Or.inr (Or.inl w)
      · exact Or.inr (Or.inr (Or.inl w))
      · exact Or.inr (Or.inr (Or.inr (Or.inl w)))
      · exact Or.inr (Or.inr (Or.inr (Or.inr ⟨w.1, w.2, z w.1⟩)))
      · omega
    · intro w
      rcases w with w | w | w | w | w
      · exact ⟨Or.inl w, fun _ => by omega⟩
      · exact ⟨Or.inr (Or.inl w), fun _ => by omega⟩
      · exact ⟨Or.inr (Or.inr (Or.inl w)), fun _ => by omega⟩
      · exact ⟨Or.inr (Or.inr (Or.inr (Or.inl w))), fun _ => by omega⟩
      · exact ⟨Or.inr (Or.inr (Or.inr (Or.inr (Or.inl ⟨w.1, w.2.1⟩)))), fun _ => w.2.2⟩
  · rcases w with w | ⟨w, z⟩ | w | ⟨w, z⟩ | w
    · rw [mN_a (by omega) w, evC_a (by omega), evM_a' (by omega) w]
      unfold vN
      rw [(A s w).1, (A s w).2]
      exact ⟨rfl, rfl⟩
    · rw [mN_x (by omega) (by omega), evC_a (by omega), evM_x' (by omega) (by omega), w]
      have q := X z
      refine ⟨?_, ?_⟩
      · show (gI σ 6 (vN τ 24 18)).toNatClampNeg = _
        rw [q.1]; rfl
      · show (0, (gI σ 7 (vN τ 24 18)).toNatClampNeg, 0) = _
        rw [q.2]; rfl
    · have q := B (s - 7) (by omega)
      rw [show 7 + (s - 7) = s by omega] at q
      rw [mN_b w.1 (by omega) w.2, evC_b w.1 (by omega), evM_b' w.1 (by omega) w.2]
      unfold vN
      rw [q.1, q.2.1, q.2.2]
      exact ⟨rfl, rfl⟩
    · have q := Y z
      rw [← w] at q
      rw [mN_y (by omega) (by omega) (by omega), evC_b (by omega) (by omega), evM_y' (by omega) (by omega) (by omega)]
      unfold vN
      rw [q.1, q.2.1, q.2.2]
      exact ⟨rfl, rfl⟩
    · have q := S (s - 14) (by omega)
      rw [show 14 + (s - 14) = s by omega] at q
      rw [mN_s w.1, evC_s w.1 (by omega), evM_s' w.1]
      unfold vN
      rw [q.1, q.2.1]
      exact ⟨rfl, rfl⟩
  · rcases (hlv s).mp hls with w | ⟨w, z⟩ | w | ⟨w, z⟩ | w | w
    · have a : vp_in (gI σ 7 s) 6 := by rw [(A s w).2]; exact (hc s w).1
      have b : vp_in (gI σ 6 s) 40 := by rw [(A s w).1]; exact (hc s w).2
      exact ⟨⟨by omega, fun _ => cnt a (by decide), fun _ _ => by omega⟩, vin_lt b, fun _ _ => by omega⟩
    · have q := X z
      rw [← w] at q
      rcases hx with e | ⟨e1, e2⟩
      · exact absurd e z
      · have a : vp_in (gI σ 7 s) 6 := by rw [q.2]; exact e2
        have b : vp_in (gI σ 6 s) 40 := by rw [q.1]; exact e1
        exact ⟨⟨by omega, fun _ => cnt a (by decide), fun _ _ => by omega⟩, vin_lt b, fun _ _ => by omega⟩
    · have q := B (s - 7) (by omega)
      rw [show 7 + (s - 7) = s by omega] at q
      have z := hm (s - 7) (by omega)
      have a : vp_in (gI σ 7 s) 6 := by rw [q.2.1]; exact z.1
      have a' : vp_in (gI σ 8 s) 6 := by rw [q.2.2]; exact z.2.1
      have b : vp_in (gI σ 6 s) 40 := by rw [q.1]; exact z.2.2
      exact ⟨⟨by omega, fun _ => cnt a (by decide), fun _ _ => cnt a' (by decide)⟩, vin_lt b, fun _ _ => by omega⟩
    · have q := Y z
      rw [← w] at q
      rcases hy with e | ⟨e1, e2, e3⟩
      · exact absurd e z
      · have a : vp_in (gI σ 7 s) 6 := by rw [q.2.1]; exact e2
        have a' : vp_in (gI σ 8 s) 6 := by rw [q.2.2]; exact e3
        have b : vp_in (gI σ 6 s) 40 := by rw [q.1]; exact e1
        exact ⟨⟨by omega, fun _ => cnt a (by decide), fun _ _ => cnt a' (by decide)⟩, vin_lt b, fun _ _ => by omega⟩
    · have q := S (s - 14) (by omega)
      rw [show 14 + (s - 14) = s by omega] at q
      have z := hs (s - 14) (by omega)
      have a : vp_in (gI σ 7 s) 6 := by rw [q.2.1]; exact z.1
      have b : vp_in (gI σ 6 s) 40 := by rw [q.1]; exact z.2
      exact ⟨⟨by omega, fun _ => cnt a (by decide), fun _ _ => by omega⟩, vin_lt b, fun _ _ => by omega⟩
    · have q := R (s - 39) (by omega)
      rw [show 39 + (s - 39) = s by omega] at q
      have z := hr (s - 39) (by omega)
      have b : vp_in (gI σ 6 s) 40 := by rw [q.1]; exact z.2.1
      exact ⟨⟨by omega, fun _ => by omega, fun _ _ => by omega⟩, vin_lt b, fun _ _ => by omega⟩
  · rw [hlv]
    unfold LV
    omega
theorem Gd.mr {σ : XS} (h : Gd σ) : MdR σ := by
  obtain ⟨-, hB, -, hDs, -, -, hDr, -⟩ := h.w
  have hq := hB.q
  have hp := hB.p
  have cr := hB.r
  refine ⟨h.md, ⟨cr.1, by omega⟩, fun k hk => ?_, fun k hk => vin_mono (hDs k hk).1 (by omega)⟩
  have := hDr k hk
  exact ⟨vin_mono this.1 (by omega), this.2.1, this.2.2.1⟩
theorem Gd.re {σ : XS} (h : Gd σ) : RE σ σ := by
  obtain ⟨-, hB, -, hDs, hDm, hDc, hDr, -⟩ := h.w
  refine ⟨fun s hs => ?_, fun w => absurd h.1.2.2.2.2.2.2 w, fun k hk => ?_, fun w => absurd h.1.2.2.2.2.2.1 w, fun k hk => ?_, fun k hk => ?_⟩
  · have := hDc s hs
    exact ⟨this.2.2.1, this.2.2.2⟩
  · have := hDm k hk
    exact ⟨this.2.2.2.1, this.2.2.2.2.1, this.2.2.2.2.2⟩
  · have := hDs k hk
    exact ⟨this.2.2.2.1, this.2.2.2.2.1, this.2.2.2.2.2.2⟩
  · have := hDr k hk
    exact ⟨this.2.2.2.2.1, this.2.2.2.2.2.1, this.2.2.2.2.2.2.1, this.2.2.2.2.2.2.2⟩
/-! ===== one more, and back ===== -/
def scw (j k : Nat) : Bool := (stw j k || cw j k)
theorem stw_scw (j k : Nat) (h : scw j k = false) : stw j k = false := by
  unfold scw at h
  exact (Bool.or_eq_false_iff.mp h).1
theorem cw_scw (j k : Nat) (h : scw j k = false) : cw j k = false := by
  unfold scw at h
  exact (Bool.or_eq_false_iff.mp h).2
theorem Gd.nl {σ : XS} (h : Gd σ) {κ s : Nat} (h4 : κ < 4) (hs : live σ s) : s ≠ fs κ + vN σ 24 (mc κ) := by
  intro e
  have hck := fun j (hj : j < 4) => (h.w.ck hj).2.2
  have k := kd_of h4 (hck κ h4)
  rw [live_iff hck, e, k] at hs
  omega
theorem GOc.kk {σ σ' : XS} {T : Nat} {lv : Nat → Prop} (h : GOc σ T lv) (K : KK cw σ σ') : GOc σ' T lv := by
  have r6 : gI σ' 6 = gI σ 6 := K.row (fun _ => rfl)
  have v : ∀ i, vN σ' 10 i = vN σ 10 i := fun i => by unfold vN; rw [K.1 10 i rfl]
  refine ⟨by rw [K.1 4 6 rfl]; exact h.1, fun i hi => ?_, fun i j hij hj => ?_, fun s hs => ?_⟩
  · rw [K.1 10 i rfl, v]; exact h.2.1 i hi
  · rw [v, v, key6 r6, key6 r6]; exact h.2.2.1 i j hij hj
  · obtain ⟨i, hi, e⟩ := h.2.2.2 s hs
    exact ⟨i, hi, by rw [v]; exact e⟩
theorem Gd.again {σ σ1 σ2 σ3 : XS} (h : Gd σ) {κ : Nat} (h4 : κ < 4) {a2 a3 a4 a5 : Int32} (hR : AddR σ κ (vN σ 24 (mc κ)) (tot σ) (live σ) a2 a3 a4 a5 σ1) (K : KK cw σ1 σ2) (hT : TbR σ2 κ (vN σ 24 (mc κ)) (fun s => live σ s ∨ s = fs κ + vN σ 24 (mc κ)) σ3) : Gd σ3 ∧ KK scw σ σ3 := by
  have hw := h.w
  obtain ⟨hA, hB, hC, hDs, hDm, hDc, hDr, hU, -, -⟩ := id hw
  obtain ⟨K1, b5, b6, b7, b8, b9, hO1⟩ := id hR
  obtain ⟨K3, d5, d6, d7, d8, d9, T', hO3⟩ := hT
  have Kall : KK scw σ σ3 := ((K1.mono stw_scw).tr (K.mono cw_scw)).tr (K3.mono stw_scw)
  refine ⟨?_, Kall⟩
  have hck := fun j (hj : j < 4) => (hw.ck hj).2.2
  obtain ⟨k1, k2, k3⟩ := hw.ck h4
  have kd9 := kd_of h4 k3
  have r5 : gI σ3 5 = gI σ 5 := by
    funext j
    rw [d5, K.1 5 j rfl, b5]
    by_cases e : j = κ
    · rw [if_pos e, e, k1]
    · rw [if_neg e, if_neg e]
  have rw69 : ∀ s, live σ s → gI σ3 6 s = gI σ 6 s ∧ gI σ3 7 s = gI σ 7 s ∧ gI σ3 8 s = gI σ 8 s ∧ gI σ3 9 s = gI σ 9 s := by
    intro s hs
    have ne := h.nl h4 hs
    obtain ⟨x6, x7, x8, x9⟩ := hR.g ne
    rw [d6, d7, d8, d9, K.1 6 s rfl, K.1 7 s rfl, K.1 8 s rfl, K.1 9 s rfl]
    exact ⟨x6, x7, x8, x9⟩
  obtain ⟨ρ, eρ⟩ : ∃ ρ, ρ = sR (sR (sR σ 12 (gI σ3 12)) 13 (gI σ3 13)) 14 (gI σ3 14) := ⟨_, rfl⟩
  have Kρ : Ks σ ρ := by rw [eρ]; exact ((Ks.R (fun _ => rfl)).tr (Ks.R (fun _ => rfl))).tr (Ks.R (fun _ => rfl))
  have gρ : ∀ j k, j ≠ 12 → j ≠ 13 → j ≠ 14 → gI ρ j k = gI σ j k := by
    intro j k n1 n2 n3
    rw [eρ, gI_row' _ _ n3, gI_row' _ _ n2, gI_row' _ _ n1]
  have Gρ : Gd ρ := fin3 h Kρ (gρ 0 8 (by decide) (by decide) (by decide)) (gρ 24 0 (by decide) (by decide) (by decide)) (by rw [gρ 15 0 (by decide) (by decide) (by decide), gρ 24 41 (by decide) (by decide) (by decide)]; exact h.1.2.2.2.1) (gρ 24 21 (by decide) (by decide) (by decide)) (gρ 24 22 (by decide) (by decide) (by decide)) (gρ 24 25 (by decide) (by decide) (by decide))
  have Kp : KK ptw ρ σ3 := by
    refine ⟨fun j k hs => ?_, ?_⟩
    · by_cases n1 : j = 12
      · subst n1; rw [eρ, gI_row' _ _ (by decide), gI_row' _ _ (by decide), gI_row]
      by_cases n2 : j = 13
      · subst n2; rw [eρ, gI_row' _ _ (by decide), gI_row]
      by_cases n3 : j = 14
      · subst n3; rw [eρ, gI_row]
      rw [gρ j k n1 n2 n3]
      refine Kall.1 j k ?_
      unfold scw cw
      rw [stw_ptw j k hs]
      simp [n1, n2, n3]
    · rw [Kall.2, eρ]; rfl
  have v24 : ∀ k, vN σ3 24 k = vN σ 24 k := fun k => by unfold vN; rw [Kall.1 24 k (by unfold scw stw cw; simp)]
  have c24 : ∀ k, gI σ3 24 k = gI σ 24 k := fun k => Kall.1 24 k (by unfold scw stw cw; simp)
  have rr : ∀ j, 25 ≤ j → gI σ3 j = gI σ j := by
    intro j hj
    refine Kall.row (fun k => ?_)
    unfold scw stw cw
    have e5 : (j == 5) = false := by simp; omega
    have e6 : (j == 6) = false := by simp; omega
    have e7 : (j == 7) = false := by simp; omega
    have e8 : (j == 8) = false := by simp; omega
    have e9 : (j == 9) = false := by simp; omega
    have e10 : (j == 10) = false := by simp; omega
    have e4 : (j == 4) = false := by simp; omega
    have e12 : (j == 12) = false := by simp; omega
    have e13 : (j == 13) = false := by simp; omega
    have e14 : (j == 14) = false := by simp; omega
    rw [e5, e6, e7, e8, e9, e10, e4, e12, e13, e14]; rfl
  have hlive : ∀ s, live σ3 s ↔ live σ s := fun s => by unfold live; rw [v24, v24, v24, v24]
  have l48 : ∀ s, (live σ s ∨ s = fs κ + vN σ 24 (mc κ)) → s < 48 := by
    intro s hs
    rcases hs with hs | hs
    · have := (hw.lv hs).1; omega
    · have := fs_lt κ; omega
  refine Gρ.put Kp ?_ ?_ ?_ ?_ ?_ ?_ ?_
  · unfold GB at hB ⊢
    rw [c24, c24, c24, c24, c24, c24, r5]; exact hB
  · intro k hk
    rw [v24] at hk
    obtain ⟨x6, x7, x8, x9⟩ := rw69 (14 + k) (Or.inr (Or.inr (Or.inl ⟨by omega, by omega⟩)))
    rw [rr 29 (by decide), rr 30 (by decide), rr 31 (by decide), rr 25 (by decide), rr 26 (by decide), v24, v24, x6, x7, x8, x9, show vN σ3 29 k = vN σ 29 k by unfold vN; rw [rr 29 (by decide)]]
    exact hDs k hk
  · intro k hk
    rw [v24] at hk
    obtain ⟨x6, x7, x8, x9⟩ := rw69 (7 + k) (Or.inr (Or.inl ⟨by omega, by omega⟩))
    rw [rr 32 (by decide), rr 33 (by decide), rr 34 (by decide), v24, x6, x7, x8]
    exact hDm k hk
  · intro k hk
    rw [v24] at hk
    obtain ⟨x6, x7, x8, x9⟩ := rw69 k (Or.inl hk)
    rw [rr 35 (by decide), rr 36 (by decide), v24, x6, x7]
    exact hDc k hk
  · intro k hk
    rw [v24] at hk
    obtain ⟨x6, x7, x8, x9⟩ := rw69 (39 + k) (Or.inr (Or.inr (Or.inr ⟨by omega, by omega⟩)))
    rw [rr 40 (by decide), rr 41 (by decide), rr 42 (by decide), rr 43 (by decide), v24, x6, x7, x8, x9]
    exact hDr k hk
  · intro j k hj hk
    rw [v24] at hj hk
    rw [rr 29 (by decide), rr 30 (by decide), rr 31 (by decide)]
    exact hU j k hj hk
  · refine hO3.go (by have := hO3.le (N := 48) (fun s hs => l48 s hs.1); omega) rfl rfl rfl (fun s => ?_)
    rw [hlive]
    unfold tbK
    constructor
    · intro hs
      refine ⟨Or.inl hs, fun w => ?_⟩
      rw [live_iff hck, w.1] at hs
      omega
    · rintro ⟨hs | hs, w⟩
      · exact hs
      · exact absurd ⟨by rw [hs]; exact kd9, by omega⟩ w
theorem wIsSoWith {σ τ : XS} (h : Gd σ) {κ : Nat} (h4 : κ < 4) {a2 a3 a4 : Int32} {post : Int32 → XS → Prop} {a5 : Int32} (hn : vp_in a2 40) (hg : κ = 2 → ∃ p, a4 = nI p ∧ p < vN σ 24 2 ∧ a5 = gumv (gI σ 25 p) (gI σ 26 p) a2) (hg0 : κ ≠ 2 → a5 = 0) (hM : MdR τ) (hS : ∀ σ1, AddR σ κ (vN σ 24 (mc κ)) (tot σ) (live σ) a2 a3 a4 a5 σ1 → Lks σ1 τ (tot σ + 1) 100 (fun s => live σ s ∨ s = fs κ + vN σ 24 (mc κ))) (hk : ∀ σ', Gd σ' → KK scw σ σ' → post (b01 (soB τ)) σ') : PX7_isSoWith (nI κ) a2 a3 a4 σ post := by
  have hw := h.w
  have go : PX5_add (nI κ) a2 a3 a4 a5 σ (fun _ σ10 => (PX5_isSoWithout (-9 : Int32) σ10 (fun r11 σ12 => (PX5_takeBack (nI κ) (1 : Int32) σ12 (fun _ σ14 => (narrow .boolean (.int r11) = .int r11 ∧ post r11 σ14)))))) := by
    refine hw.add h4 hn (fun σ1 hR => wSoC hM (hS σ1 hR) (Or.inl ⟨rfl, rfl⟩) (fun σ2 K => ?_))
    obtain ⟨k1, k2, k3⟩ := hw.ck h4
    have hO2 := GOc.kk hR.2.2.2.2.2.2 K
    have l48 : ∀ s, (live σ s ∨ s = fs κ + vN σ 24 (mc κ)) → s < 48 := by
      intro s hs
      rcases hs with hs | hs
      · have := (hw.lv hs).1; omega
      · have := fs_lt κ; omega
    have m24 : mx κ ≤ 24 := by
      match κ, h4 with
      | 0, _ => decide
      | 1, _ => decide
      | 2, _ => decide
      | 3, _ => decide
      | κ + 4, h => exact absurd h (by omega)
    refine wBack (c := vN σ 24 (mc κ) + 1) h4 ?_ (by omega) (hO2.le l48) hO2 l48 (fun k σ3 hkc ek hT => ?_) (fun w => ?_)
    · rw [K.1 5 κ rfl, hR.2.1, if_pos rfl]
    · obtain rfl : 1 = k := by
        have e : nI 1 = nI k := ek
        rw [nI_eq (by decide) (by omega)] at e
        exact e
      rw [show vN σ 24 (mc κ) + 1 - 1 = vN σ 24 (mc κ) by omega] at hT
      obtain ⟨g, Kg⟩ := h.again h4 hR K hT
      refine ⟨?_, hk σ3 g Kg⟩
      cases soB τ <;> rfl
    · exact absurd (pk_in 1 (vN σ 24 (mc κ) + 1 + 1) (by omega)) w
  unfold PX7_isSoWith
  refine ⟨fun e => ?_, fun e => ?_⟩
  · obtain rfl : κ = 2 := by
      have e' : nI κ = nI 2 := e
      rw [nI_eq (by omega) (by decide)] at e'
      exact e'
    obtain ⟨p, ep, hp, eg⟩ := hg rfl
    rw [ep] at go ⊢
    refine wX7_gumLeft hw hp ?_
    rw [← eg]
    exact go
  · have n2 : κ ≠ 2 := fun w => e (by rw [w]; rfl)
    rw [hg0 n2] at go
    exact go
