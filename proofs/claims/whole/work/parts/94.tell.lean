/-! ===== tell ===== -/
def mk15 (n : Int32) (σ : XS) : XS := sI σ 15 0 (31 * gI σ 15 0 + n)
def tr41 (n : Int32) (σ : XS) : XS := sI σ 24 41 (31 * gI σ 24 41 + n)
theorem isPe_mk {σ : XS} {b : Nat} (n : Int32) (h : isPe σ b) : isPe (mk15 n σ) b := h
theorem wSaysP {σ : XS} {b : Nat} {post : Int32 → XS → Prop} (hb : isPe σ b) (h : post (gV σ b) (mk15 1 σ)) : PX4_saysPlainly b σ post := by
  unfold PX4_saysPlainly PX6_mark
  intro σ1 e1
  subst e1
  exact ⟨hb, h⟩
theorem wSays4 {σ : XS} {b : Nat} {post : Int32 → XS → Prop} (hb : isPe σ b) (h : post (gV σ b) (mk15 1 σ)) : PX4_says b σ post :=
  ⟨hb, hb.2, fun _ => wSaysP hb h, fun _ => wSaysP hb h, fun _ => wSaysP hb h⟩
theorem wSays2 {σ : XS} {b : Nat} {post : Int32 → XS → Prop} (hb : isPe σ b) (hk : gK σ b = 2 ∨ gK σ b = 0) (h : post (gV σ b + 100) (mk15 1 (mk15 2 σ))) : PX2_says b σ post := by
  unfold PX2_says PX6_mark
  intro σ1 e1
  subst e1
  exact ⟨hb, hk, fun _ => wSays4 (σ := mk15 2 σ) hb h, fun _ => wSays4 (σ := mk15 2 σ) hb h⟩
theorem wSays0 {σ : XS} {b : Nat} {post : Int32 → XS → Prop} (hb : isPe σ b) (hk : gK σ b = 0) (h : post (gV σ b + 100 + gV σ b) (mk15 1 (mk15 1 (mk15 2 (mk15 3 σ))))) : PX0_says b σ post := by
  unfold PX0_says PX6_mark
  intro σ1 e1
  subst e1
  exact ⟨hb, hk, fun _ => wSays2 (σ := mk15 3 σ) hb (Or.inr hk) ⟨hb, hk, fun _ => wSaysP (σ := mk15 1 (mk15 2 (mk15 3 σ))) hb h⟩⟩
theorem wTell {σ : XS} {a : Int32} {j : Nat} {post : Int32 → XS → Prop} (hB : GB σ) (q : vp_in a (vN σ 24 2)) (ea : a.toNatClampNeg = j) (h0 : gI σ 25 j = 0 → post (gI σ 26 j) (tr41 1 σ)) (h1 : gI σ 25 j = 1 → post (gI σ 26 j + 100) (tr41 1 (tr41 2 σ))) (h2 : gI σ 25 j = 2 → post (2 * gI σ 26 j + 100) (tr41 1 (tr41 1 (tr41 2 (tr41 3 σ))))) (hk : gI σ 25 j = 0 ∨ gI σ 25 j = 1 ∨ gI σ 25 j = 2) : PX8_tell a σ post := by
  have hin : vp_in a 5 := vin_mono q (by have := hB.p; omega)
  have r26 : ∀ n σ', gI (tr41 n σ') 26 j = gI σ' 26 j := fun n σ' => by unfold tr41; rw [gI_sI]; simp
  unfold PX8_tell
  refine wX8_noPerson hB (fun _ => ⟨fun _ => ⟨hin, fun x ex => ?_⟩, fun z => absurd rfl z⟩) (fun z => absurd q z)
  rw [ea] at ex ⊢
  unfold PX8_traced
  rcases hk with k | k | k
  · rw [k] at ex; subst ex
    refine ⟨fun z => absurd z (by decide), fun _ => ⟨fun _ => fun σ1 e1 => ⟨fun z => absurd z (by decide), fun _ => ⟨hin, fun y ey => ⟨fun _ => ?_, fun z => absurd rfl z⟩⟩⟩, fun z => absurd (by decide) z⟩⟩
    rw [ey, e1]
    have := h0 k
    rw [← r26 1 σ] at this
    exact this
  · rw [k] at ex; subst ex
    refine ⟨fun z => absurd z (by decide), fun _ => ⟨fun z => absurd z (by decide), fun _ => fun σ1 e1 σ2 e2 => ⟨fun z => absurd z (by decide), fun _ => ⟨hin, fun y ey => ⟨fun z => absurd z (by decide), fun _ => ⟨fun _ => ?_, fun z => absurd rfl z⟩⟩⟩⟩⟩⟩
    rw [ey, e2, e1]
    have := h1 k
    rw [← r26 2 σ, ← r26 1 (tr41 2 σ)] at this
    exact this
  · rw [k] at ex; subst ex
    refine ⟨fun _ => fun σ1 e1 => ⟨fun z => absurd z (by decide), fun _ => fun σ2 e2 σ3 e3 => ⟨fun _ => fun σ4 e4 => ⟨hin, fun y ey => ⟨fun z => absurd z (by decide), fun _ => ⟨fun z => absurd z (by decide), fun _ => ?_⟩⟩⟩, fun z => absurd rfl z⟩⟩, fun z => absurd rfl z⟩
    rw [ey, e4, e3, e2, e1]
    have := h2 k
    rw [← r26 3 σ, ← r26 2 (tr41 3 σ), ← r26 1 (tr41 2 (tr41 3 σ)), ← r26 1 (tr41 1 (tr41 2 (tr41 3 σ)))] at this
    exact this
theorem tell2 : ∀ f, f < 4 → nI f + 100 + nI f = 2 * nI f + 100 := by decide +kernel
theorem Kmk {σ : XS} (n : Int32) : Ks σ (mk15 n σ) := Ks.I rfl
theorem Ktr {σ : XS} (n : Int32) : Ks σ (tr41 n σ) := Ks.I rfl
theorem st29 {σ : XS} (h : Gd σ) : S29 Gd σ := by
  intro a1
  obtain ⟨hA, hB, hC, -⟩ := h.w
  have ht := h.1.2.2.2.1
  unfold PX7_tell
  refine wX7_personOf hA hB hC (fun q => ?_) (fun j b q ej hj x1 x2 x3 x4 x5 => ?_)
  · refine ⟨fun _ => ?_, nofun⟩
    unfold PX8_tell
    exact wX8_noPerson hB (fun z => absurd z q) (fun _ => ⟨fun z => absurd z (by decide), fun _ => ⟨rfl, h⟩⟩)
  · refine ⟨nofun, fun w hw => ?_⟩
    cases hw
    have ea : a1.toNatClampNeg = j := by
      have := hB.p
      rw [ej, nI_clamp (by omega)]
    have r2 : ∀ n σ', vN (mk15 n σ') 24 2 = vN σ' 24 2 := fun n σ' => by unfold vN mk15; rw [gI_sI]; simp
    have r25 : ∀ n σ', gI (mk15 n σ') 25 j = gI σ' 25 j := fun n σ' => by unfold mk15; rw [gI_sI]; simp
    have r26 : ∀ n σ', gI (mk15 n σ') 26 j = gI σ' 26 j := fun n σ' => by unfold mk15; rw [gI_sI]; simp
    refine ⟨x2, x2.2, fun k => ?_, fun k => ?_, fun k => ?_⟩
    · have k0 : gI σ 25 j = 0 := by rw [x3, k]; rfl
      refine wSays4 x2 ?_
      refine wTell (h.w.k (Kmk 1)).2.1 (by rw [r2]; exact q) ea (fun _ => ⟨?_, ?_⟩) (fun z => ?_) (fun z => ?_) (by rw [r25]; exact Or.inl k0)
      · rw [r26]; exact x4.symm
      · refine fin3 h ((Kmk 1).tr (Ktr 1)) ?_ ?_ ?_ ?_ ?_ ?_ <;> simp [mk15, tr41, gI_sI, ht]
      · rw [r25, k0] at z; exact absurd z (by decide)
      · rw [r25, k0] at z; exact absurd z (by decide)
    · have k0 : gI σ 25 j = 1 := by rw [x3, k]; rfl
      refine wSays2 x2 (Or.inl k) ?_
      refine wTell (h.w.k ((Kmk 2).tr (Kmk 1))).2.1 (by rw [r2, r2]; exact q) ea (fun z => ?_) (fun _ => ⟨?_, ?_⟩) (fun z => ?_) (by rw [r25, r25]; exact Or.inr (Or.inl k0))
      · rw [r25, r25, k0] at z; exact absurd z (by decide)
      · rw [r26, r26, x4]
      · refine fin3 h ((((Kmk 2).tr (Kmk 1)).tr (Ktr 2)).tr (Ktr 1)) ?_ ?_ ?_ ?_ ?_ ?_ <;> simp [mk15, tr41, gI_sI, ht]
      · rw [r25, r25, k0] at z; exact absurd z (by decide)
    · have k0 : gI σ 25 j = 2 := by rw [x3, k]; rfl
      refine wSays0 x2 k ?_
      refine wTell (h.w.k ((((Kmk 3).tr (Kmk 2)).tr (Kmk 1)).tr (Kmk 1))).2.1 (by rw [r2, r2, r2, r2]; exact q) ea (fun z => ?_) (fun z => ?_) (fun _ => ⟨?_, ?_⟩) (by rw [r25, r25, r25, r25]; exact Or.inr (Or.inr k0))
      · rw [r25, r25, r25, r25, k0] at z; exact absurd z (by decide)
      · rw [r25, r25, r25, r25, k0] at z; exact absurd z (by decide)
      · rw [r26, r26, r26, r26, x4]
        obtain ⟨f, hf, ef⟩ := vp_in_of x5 (by decide)
        rw [ef]
        exact tell2 f hf
      · refine fin3 h ((((((((Kmk 3).tr (Kmk 2)).tr (Kmk 1)).tr (Kmk 1)).tr (Ktr 3)).tr (Ktr 2)).tr (Ktr 1)).tr (Ktr 1)) ?_ ?_ ?_ ?_ ?_ ?_ <;> simp [mk15, tr41, gI_sI, ht]
