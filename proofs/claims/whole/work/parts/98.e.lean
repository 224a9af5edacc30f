theorem st4 {σ : XS} (h : Gd σ) : S4 Gd σ := fun a1 => backs h (κ := 2) (by decide) a1
theorem st6 {σ : XS} (h : Gd σ) : S6 Gd σ := fun a1 => backs h (κ := 1) (by decide) a1
theorem st8 {σ : XS} (h : Gd σ) : S8 Gd σ := fun a1 => backs h (κ := 0) (by decide) a1
theorem st17 {σ : XS} (h : Gd σ) : S17 Gd σ := fun a1 => backs h (κ := 3) (by decide) a1
/-! ===== one more ===== -/
theorem wX8_noPerson' {σ : XS} {a : Int32} {P : Nat} {post : Int32 → Prop} (hp : gI σ 24 2 = nI P) (h6 : P < 6) (h1 : vp_in a P → post 0) (h0 : ¬ vp_in a P → post 1) : PX8_noPerson a σ post := by
  unfold PX8_noPerson
  refine wIn (n := P) (by rw [hp]; exact cN _ (by omega)) (fun q => ?_) (fun q => ?_)
  · exact ⟨fun z => absurd z (by decide), fun _ => h1 q⟩
  · exact ⟨fun _ => h0 q, fun z => absurd rfl z⟩
theorem wX8_noPlace' {σ : XS} {a : Int32} {P : Nat} {post : Int32 → Prop} (hp : gI σ 24 1 = nI P) (h6 : P < 7) (h1 : vp_in a P → post 0) (h0 : ¬ vp_in a P → post 1) : PX8_noPlace a σ post := by
  unfold PX8_noPlace
  refine wIn (n := P) (by rw [hp]; exact cN _ (by omega)) (fun q => ?_) (fun q => ?_)
  · exact ⟨fun z => absurd z (by decide), fun _ => h1 q⟩
  · exact ⟨fun _ => h0 q, fun z => absurd rfl z⟩
def bS (σ : XS) (k : Nat) : Prop := vp_in (gI σ 29 k) (vN σ 24 2) ∧ vp_in (gI σ 30 k) (vN σ 24 1) ∧ vp_in (gI σ 31 k) 40 ∧ gI σ 6 (14 + k) = gI σ 31 k ∧ gI σ 7 (14 + k) = gI σ 30 k ∧ gI σ 8 (14 + k) = gI σ 29 k ∧ gI σ 9 (14 + k) = gumv (gI σ 25 (vN σ 29 k)) (gI σ 26 (vN σ 29 k)) (gI σ 31 k)
def bM (σ : XS) (k : Nat) : Prop := vp_in (gI σ 32 k) (vN σ 24 1) ∧ vp_in (gI σ 33 k) (vN σ 24 1) ∧ vp_in (gI σ 34 k) 40 ∧ gI σ 6 (7 + k) = gI σ 34 k ∧ gI σ 7 (7 + k) = gI σ 32 k ∧ gI σ 8 (7 + k) = gI σ 33 k
def bC (σ : XS) (k : Nat) : Prop := vp_in (gI σ 35 k) (vN σ 24 1) ∧ vp_in (gI σ 36 k) 40 ∧ gI σ 6 k = gI σ 36 k ∧ gI σ 7 k = gI σ 35 k
def bR (σ : XS) (k : Nat) : Prop := vp_in (gI σ 40 k) (vN σ 24 1) ∧ vp_in (gI σ 41 k) 40 ∧ vp_in (gI σ 42 k) 10 ∧ vp_in (gI σ 43 k) 10 ∧ gI σ 6 (39 + k) = gI σ 41 k ∧ gI σ 7 (39 + k) = gI σ 40 k ∧ gI σ 8 (39 + k) = gI σ 42 k ∧ gI σ 9 (39 + k) = gI σ 43 k
theorem bS.t {σ τ : XS} {k : Nat} (h : bS σ k) (v1 : vN τ 24 1 = vN σ 24 1) (v2 : vN τ 24 2 = vN σ 24 2) (r25 : gI τ 25 = gI σ 25) (r26 : gI τ 26 = gI σ 26) (e29 : gI τ 29 k = gI σ 29 k) (e30 : gI τ 30 k = gI σ 30 k) (e31 : gI τ 31 k = gI σ 31 k) (e6 : gI τ 6 (14 + k) = gI σ 6 (14 + k)) (e7 : gI τ 7 (14 + k) = gI σ 7 (14 + k)) (e8 : gI τ 8 (14 + k) = gI σ 8 (14 + k)) (e9 : gI τ 9 (14 + k) = gI σ 9 (14 + k)) : bS τ k := by
  have v29 : vN τ 29 k = vN σ 29 k := by unfold vN; rw [e29]
  unfold bS at h ⊢
  rw [v1, v2, r25, r26, v29, e29, e30, e31, e6, e7, e8, e9]; exact h
theorem bM.t {σ τ : XS} {k : Nat} (h : bM σ k) (v1 : vN τ 24 1 = vN σ 24 1) (e32 : gI τ 32 k = gI σ 32 k) (e33 : gI τ 33 k = gI σ 33 k) (e34 : gI τ 34 k = gI σ 34 k) (e6 : gI τ 6 (7 + k) = gI σ 6 (7 + k)) (e7 : gI τ 7 (7 + k) = gI σ 7 (7 + k)) (e8 : gI τ 8 (7 + k) = gI σ 8 (7 + k)) : bM τ k := by
  unfold bM at h ⊢
  rw [v1, e32, e33, e34, e6, e7, e8]; exact h
theorem bC.t {σ τ : XS} {k : Nat} (h : bC σ k) (v1 : vN τ 24 1 = vN σ 24 1) (e35 : gI τ 35 k = gI σ 35 k) (e36 : gI τ 36 k = gI σ 36 k) (e6 : gI τ 6 k = gI σ 6 k) (e7 : gI τ 7 k = gI σ 7 k) : bC τ k := by
  unfold bC at h ⊢
  rw [v1, e35, e36, e6, e7]; exact h
theorem bR.t {σ τ : XS} {k : Nat} (h : bR σ k) (v1 : vN τ 24 1 = vN σ 24 1) (e40 : gI τ 40 k = gI σ 40 k) (e41 : gI τ 41 k = gI σ 41 k) (e42 : gI τ 42 k = gI σ 42 k) (e43 : gI τ 43 k = gI σ 43 k) (e6 : gI τ 6 (39 + k) = gI σ 6 (39 + k)) (e7 : gI τ 7 (39 + k) = gI σ 7 (39 + k)) (e8 : gI τ 8 (39 + k) = gI σ 8 (39 + k)) (e9 : gI τ 9 (39 + k) = gI σ 9 (39 + k)) : bR τ k := by
  unfold bR at h ⊢
  rw [v1, e40, e41, e42, e43, e6, e7, e8, e9]; exact h
theorem Gw.add {σ : XS} (hw : Gw σ) {κ : Nat} (h4 : κ < 4) {a2 a3 a4 a5 : Int32} {post : Int32 → XS → Prop} (hn : vp_in a2 40) (h : ∀ σ', AddR σ κ (vN σ 24 (mc κ)) (tot σ) (live σ) a2 a3 a4 a5 σ' → post (nI (vN σ 24 (mc κ))) σ') : PX5_add (nI κ) a2 a3 a4 a5 σ post := by
  obtain ⟨c1, c2, c3⟩ := hw.ck h4
  obtain ⟨hO, hT⟩ := hw.o
  refine wAdd h4 c1 c3 hT hO (fun s hs => ?_) hn h
  obtain ⟨a, b⟩ := hw.lv hs
  refine ⟨by omega, b, fun e => ?_⟩
  rw [live_iff (fun j hj => (hw.ck hj).2.2), ← e] at hs
  exact hs
def mdw (j k : Nat) : Bool := (j == 29 || (j == 30 || (j == 31 || (j == 32 || (j == 33 || (j == 34 || (j == 35 || (j == 36 || (j == 40 || (j == 41 || (j == 42 || (j == 43 || (j == 24 && (k == 10 || (k == 14 || (k == 18 || k == 30))))))))))))))))
theorem mdw_ptw (j k : Nat) (h : ptw j k = false) : mdw j k = false := by
  unfold ptw at h
  unfold mdw
  simp only [Bool.or_eq_false_iff] at h ⊢
  exact h.2
/-- one more than before, on both sides -/
theorem Gd.one {σ σ1 σ2 : XS} (h : Gd σ) {κ : Nat} (h4 : κ < 4) {a2 a3 a4 a5 : Int32} (hc : vN σ 24 (mc κ) < mx κ) (hR : AddR σ κ (vN σ 24 (mc κ)) (tot σ) (live σ) a2 a3 a4 a5 σ1) (K : KK mdw σ1 σ2) (hm : ∀ j, j < 4 → gI σ2 24 (mc j) = if j = κ then nI (vN σ 24 (mc κ) + 1) else gI σ 24 (mc j)) (hDs : ∀ k, k < vN σ2 24 10 → bS σ2 k) (hDm : ∀ k, k < vN σ2 24 14 → bM σ2 k) (hDc : ∀ k, k < vN σ2 24 18 → bC σ2 k) (hDr : ∀ k, k < vN σ2 24 30 → bR σ2 k) (hU : GU σ2) : Gd σ2 := by
  have hw := h.w
  obtain ⟨K1, b5, b6, b7, b8, b9, hO⟩ := hR
  have K2 : KK ptw σ σ2 := (K1.mono stw_ptw).tr (K.mono mdw_ptw)
  have hck : ∀ j, j < 4 → gI σ 5 j = nI (vN σ 24 (mc j)) ∧ gI σ 24 (mc j) = nI (vN σ 24 (mc j)) ∧ vN σ 24 (mc j) ≤ mx j := fun j hj => hw.ck hj
  have m40 : ∀ j, mx j < 48 := fun j => by have := fs_lt j; omega
  have v24 : ∀ j, j < 4 → vN σ2 24 (mc j) = if j = κ then vN σ 24 (mc κ) + 1 else vN σ 24 (mc j) := by
    intro j hj
    show (gI σ2 24 (mc j)).toNatClampNeg = _
    rw [hm j hj]
    by_cases e : j = κ
    · rw [if_pos e, if_pos e, nI_clamp (by have := m40 κ; omega)]
    · rw [if_neg e, if_neg e]; rfl
  have le : ∀ j, j < 4 → vN σ2 24 (mc j) ≤ mx j := by
    intro j hj
    rw [v24 j hj]
    by_cases e : j = κ
    · rw [if_pos e, e]; omega
    · rw [if_neg e]; exact (hck j hj).2.2
  have inr : ∀ j, j < 4 → vp_in (gI σ2 24 (mc j)) (mx j + 1) := by
    intro j hj
    have a1 := le j hj
    have a2 := m40 j
    have : gI σ2 24 (mc j) = nI (vN σ2 24 (mc j)) := by
      rw [hm j hj, v24 j hj]
      by_cases e : j = κ
      · rw [if_pos e, if_pos e]
      · rw [if_neg e, if_neg e]; exact (hck j hj).2.1
    rw [this]
    exact vp_in_nI (by omega) (by omega)
  have h53 : ∀ j, j < 4 → gI σ2 5 j = gI σ2 24 (mc j) := by
    intro j hj
    rw [K.1 5 j rfl, b5, hm j hj]
    by_cases e : j = κ
    · rw [if_pos e, if_pos e]
    · rw [if_neg e, if_neg e, (hck j hj).1, (hck j hj).2.1]
  obtain ⟨-, hB, -⟩ := id h
  refine h.put K2 ?_ hDs hDm hDc hDr hU ?_
  · refine ⟨?_, ?_, inr 2 (by decide), inr 1 (by decide), inr 0 (by decide), inr 3 (by decide), h53 0 (by decide), h53 1 (by decide), h53 2 (by decide), h53 3 (by decide), ?_⟩
    · rw [K2.1 24 2 rfl]; exact hB.1
    · rw [K2.1 24 1 rfl]; exact hB.2.1
    · rw [K2.1 24 2 rfl, K2.1 24 1 rfl]; exact hB.2.2.2.2.2.2.2.2.2.2
  · have hT := hw.o.2
    refine hO.go (by omega) (K.1 4 6 rfl) (K.row (fun _ => rfl)) (K.row (fun _ => rfl)) (fun s => ?_)
    have kk := kd_of h4 (c := vN σ 24 (mc κ)) (by omega)
    rw [live_iff le, live_iff (fun j hj => (hck j hj).2.2), v24 _ (kdN4 s)]
    by_cases e : kdN s = κ
    · rw [if_pos e, e]; omega
    · rw [if_neg e]
      refine ⟨Or.inl, fun w => ?_⟩
      rcases w with w | w
      · exact w
      · rw [w, kk] at e; exact absurd rfl e
