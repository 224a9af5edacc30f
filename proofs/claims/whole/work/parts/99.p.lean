/-! ===== one sitting more, meant ===== -/
def tS (σ : XS) (c : Nat) (p a n : Int32) : XS := sI (sI (sI (sI σ 29 c p) 30 c a) 31 c n) 24 10 (nI c + 1)
theorem tS_o (σ : XS) (c : Nat) (p a n : Int32) {j i : Nat} (h1 : j ≠ 29) (h2 : j ≠ 30) (h3 : j ≠ 31) (h4 : j ≠ 24) : gI (tS σ c p a n) j i = gI σ j i := by
  unfold tS
  rw [gI_sIj _ _ h4, gI_sIj _ _ h3, gI_sIj _ _ h2, gI_sIj _ _ h1]
theorem tS_24 (σ : XS) (c : Nat) (p a n : Int32) {i : Nat} (h : i ≠ 10) : gI (tS σ c p a n) 24 i = gI σ 24 i := by
  unfold tS
  rw [gI_sIk _ _ h, gI_sIj _ _ (by decide), gI_sIj _ _ (by decide), gI_sIj _ _ (by decide)]
theorem tS_c (σ : XS) (c : Nat) (p a n : Int32) : gI (tS σ c p a n) 24 10 = nI (c + 1) := by
  unfold tS
  rw [gI_sIe, nI_1]
theorem tS_29 (σ : XS) (c : Nat) (p a n : Int32) (i : Nat) : gI (tS σ c p a n) 29 i = if i = c then p else gI σ 29 i := by
  unfold tS
  rw [gI_sIj _ _ (by decide), gI_sIj _ _ (by decide), gI_sIj _ _ (by decide), gI_upd]
theorem tS_30 (σ : XS) (c : Nat) (p a n : Int32) (i : Nat) : gI (tS σ c p a n) 30 i = if i = c then a else gI σ 30 i := by
  unfold tS
  rw [gI_sIj _ _ (by decide), gI_sIj _ _ (by decide), gI_upd, gI_sIj _ _ (by decide)]
theorem tS_31 (σ : XS) (c : Nat) (p a n : Int32) (i : Nat) : gI (tS σ c p a n) 31 i = if i = c then n else gI σ 31 i := by
  unfold tS
  rw [gI_sIj _ _ (by decide), gI_upd, gI_sIj _ _ (by decide), gI_sIj _ _ (by decide)]
theorem tS_v (σ : XS) (c : Nat) (p a n : Int32) (hc : c < 100) : vN (tS σ c p a n) 24 10 = c + 1 := by
  unfold vN
  rw [tS_c, nI_clamp (by omega)]
theorem tS_v24 (σ : XS) (c : Nat) (p a n : Int32) {i : Nat} (h : i ≠ 10) : vN (tS σ c p a n) 24 i = vN σ 24 i := by
  unfold vN
  rw [tS_24 _ _ _ _ _ h]
theorem mrS {σ : XS} (h : Gd σ) {c : Nat} (hc : c = vN σ 24 10) {p a n : Int32} (hp : vp_in p 5) (ha : vp_in a 6) (hn : vp_in n 40) : MdR (tS σ c p a n) := by
  have cs := h.w.2.1.s
  obtain ⟨⟨hC, hM, hS, A, B, D, X, Y, W⟩, hR, E, F⟩ := h.mr
  have v18 := tS_v24 σ c p a n (i := 18) (by decide)
  have v14 := tS_v24 σ c p a n (i := 14) (by decide)
  have v30 := tS_v24 σ c p a n (i := 30) (by decide)
  have v10 := tS_v σ c p a n (by omega)
  refine ⟨⟨?_, ?_, ?_, ?_, ?_, ?_, ?_, ?_, ?_⟩, ?_, ?_, ?_⟩
  · rw [v18, tS_24 _ _ _ _ _ (by decide)]; exact hC
  · rw [v14, tS_24 _ _ _ _ _ (by decide)]; exact hM
  · rw [v10, tS_c]; exact ⟨rfl, by omega⟩
  · intro k hk; rw [v18] at hk
    rw [tS_o _ _ _ _ _ (by decide) (by decide) (by decide) (by decide), tS_o _ _ _ _ _ (by decide) (by decide) (by decide) (by decide)]; exact A k hk
  · intro k hk; rw [v14] at hk
    rw [tS_o _ _ _ _ _ (by decide) (by decide) (by decide) (by decide), tS_o _ _ _ _ _ (by decide) (by decide) (by decide) (by decide), tS_o _ _ _ _ _ (by decide) (by decide) (by decide) (by decide)]; exact B k hk
  · intro k hk; rw [v10] at hk
    rw [tS_30, tS_31]
    by_cases e : k = c
    · rw [if_pos e, if_pos e]; exact ⟨ha, hn⟩
    · rw [if_neg e, if_neg e]; exact D k (by omega)
  · rw [tS_24 _ _ _ _ _ (by decide), tS_24 _ _ _ _ _ (by decide)]; exact X
  · rw [tS_24 _ _ _ _ _ (by decide), tS_24 _ _ _ _ _ (by decide), tS_24 _ _ _ _ _ (by decide)]; exact Y
  · rw [tS_24 _ _ _ _ _ (by decide)]; exact W
  · rw [v30, tS_24 _ _ _ _ _ (by decide)]; exact hR
  · intro k hk; rw [v30] at hk
    rw [tS_o _ _ _ _ _ (by decide) (by decide) (by decide) (by decide), tS_o _ _ _ _ _ (by decide) (by decide) (by decide) (by decide), tS_o _ _ _ _ _ (by decide) (by decide) (by decide) (by decide)]; exact E k hk
  · intro k hk; rw [v10] at hk
    rw [tS_29]
    by_cases e : k = c
    · rw [if_pos e]; exact hp
    · rw [if_neg e]; exact F k (by omega)
theorem gM_tS (σ : XS) (c : Nat) (p a n : Int32) (k : Nat) : gM (tS σ c p a n) k = if k = c then gumv (gI σ 25 p.toNatClampNeg) (gI σ 26 p.toNatClampNeg) n else gM σ k := by
  unfold gM vN
  rw [tS_29, tS_31, tS_o σ c p a n (j := 25) (by decide) (by decide) (by decide) (by decide), tS_o σ c p a n (j := 26) (by decide) (by decide) (by decide) (by decide)]
  by_cases e : k = c
  · rw [if_pos e, if_pos e, if_pos e]
  · rw [if_neg e, if_neg e, if_neg e]
theorem lksS {σ : XS} (h : Gd σ) {c : Nat} (hc : c = vN σ 24 10) {p : Nat} {a n : Int32} (hp : p < 5) (ha : vp_in a 6) (hn : vp_in n 40) (σ1 : XS) (hR : AddR σ 2 (vN σ 24 (mc 2)) (tot σ) (live σ) n a (nI p) (gumv (gI σ 25 p) (gI σ 26 p) n) σ1) : Lks σ1 (tS σ c (nI p) a n) (tot σ + 1) 100 (fun s => live σ s ∨ s = fs 2 + vN σ 24 (mc 2)) := by
  have cs := h.w.2.1.s
  have x25 : gI (tS σ c (nI p) a n) 24 25 = -9 := by rw [tS_24 _ _ _ _ _ (by decide)]; exact h.1.2.2.2.2.2.2
  have x22 : gI (tS σ c (nI p) a n) 24 22 = -9 := by rw [tS_24 _ _ _ _ _ (by decide)]; exact h.1.2.2.2.2.2.1
  have x21 : gI (tS σ c (nI p) a n) 24 21 = -9 := by rw [tS_24 _ _ _ _ _ (by decide)]; exact h.1.2.2.2.2.1
  obtain ⟨hO, hT⟩ := h.w.o
  have v18 := tS_v24 σ c (nI p) a n (i := 18) (by decide)
  have v14 := tS_v24 σ c (nI p) a n (i := 14) (by decide)
  have v30 := tS_v24 σ c (nI p) a n (i := 30) (by decide)
  have v10 := tS_v σ c (nI p) a n (by omega)
  have hwo : wo (tS σ c (nI p) a n) = 100 := by unfold wo; rw [if_pos x21]
  have efs : fs 2 + vN σ 24 (mc 2) = 14 + vN σ 24 10 := rfl
  obtain ⟨A, -, B, -, S, R⟩ := h.re
  have g : ∀ s, live σ s → gI σ1 6 s = gI σ 6 s ∧ gI σ1 7 s = gI σ 7 s ∧ gI σ1 8 s = gI σ 8 s ∧ gI σ1 9 s = gI σ 9 s := fun s hs => hR.g (h.nl (by decide) hs)
  refine Lks.of (mrS h hc (pk_in p 5 hp) ha hn) (by omega) hR.2.2.2.2.2.2 ⟨fun s hs => ?_, fun w => absurd x25 w, fun k hk => ?_, fun w => absurd x22 w, fun k hk => ?_, fun k hk => ?_⟩ (fun s => ?_) (fun s _ => ?_) ?_
  · rw [v18] at hs
    obtain ⟨x6, x7, x8, x9⟩ := g s (Or.inl hs)
    rw [x6, x7, tS_o _ _ _ _ _ (by decide) (by decide) (by decide) (by decide), tS_o _ _ _ _ _ (by decide) (by decide) (by decide) (by decide)]; exact A s hs
  · rw [v14] at hk
    obtain ⟨x6, x7, x8, x9⟩ := g (7 + k) (Or.inr (Or.inl ⟨by omega, by omega⟩))
    rw [x6, x7, x8, tS_o _ _ _ _ _ (by decide) (by decide) (by decide) (by decide), tS_o _ _ _ _ _ (by decide) (by decide) (by decide) (by decide), tS_o _ _ _ _ _ (by decide) (by decide) (by decide) (by decide)]; exact B k hk
  · rw [v10] at hk
    rw [tS_31, tS_30, gM_tS]
    by_cases e : k = c
    · obtain ⟨y6, y7, y8, y9⟩ := hR.n (s := 14 + k) (by rw [efs, e, hc])
      rw [if_pos e, if_pos e, if_pos e, nI_clamp (by omega)]
      exact ⟨y6, y7, y9⟩
    · obtain ⟨x6, x7, x8, x9⟩ := g (14 + k) (Or.inr (Or.inr (Or.inl ⟨by omega, by omega⟩)))
      rw [if_neg e, if_neg e, if_neg e, x6, x7, x9]
      exact S k (by omega)
  · rw [v30] at hk
    obtain ⟨x6, x7, x8, x9⟩ := g (39 + k) (Or.inr (Or.inr (Or.inr ⟨by omega, by omega⟩)))
    rw [x6, x7, x8, x9, tS_o _ _ _ _ _ (by decide) (by decide) (by decide) (by decide), tS_o _ _ _ _ _ (by decide) (by decide) (by decide) (by decide), tS_o _ _ _ _ _ (by decide) (by decide) (by decide) (by decide), tS_o _ _ _ _ _ (by decide) (by decide) (by decide) (by decide)]; exact R k hk
  · unfold LV live
    rw [v18, v14, v10, v30, x25, x22, efs]
    constructor
    · rintro ((w | w | w | w) | w)
      · exact Or.inl w
      · exact Or.inr (Or.inr (Or.inl w))
      · exact Or.inr (Or.inr (Or.inr (Or.inr (Or.inl ⟨w.1, by omega⟩))))
      · exact Or.inr (Or.inr (Or.inr (Or.inr (Or.inr w))))
      · exact Or.inr (Or.inr (Or.inr (Or.inr (Or.inl ⟨by omega, by omega⟩))))
    · rintro (w | ⟨-, w⟩ | w | ⟨-, w⟩ | w | w)
      · exact Or.inl (Or.inl w)
      · exact absurd rfl w
      · exact Or.inl (Or.inr (Or.inl w))
      · exact absurd rfl w
      · rcases (show s < 14 + vN σ 24 10 ∨ s = 14 + vN σ 24 10 by omega) with z | z
        · exact Or.inl (Or.inr (Or.inr (Or.inl ⟨w.1, z⟩)))
        · exact Or.inr z
      · exact Or.inl (Or.inr (Or.inr (Or.inr w)))
  · rw [hwo]; omega
  · rw [tS_c, hR.2.1, if_pos rfl, hc]; rfl
theorem tS_ag {σ σ' : XS} (h : AG σ σ') (c : Nat) (p a n : Int32) : AG (tS σ c p a n) (tS σ' c p a n) := (((h.c 29 c p).c 30 c a).c 31 c n).c 24 10 (nI c + 1)
/-! what the reference leaves beyond its rows -/
def bq (c j k : Nat) : Bool := (mw j k || ((j == 29 || (j == 30 || j == 31)) && k == c))
def QK (c : Nat) (σ σ' : XS) : Prop := (∀ j k, bq c j k = false → gI σ' j k = gI σ j k) ∧ σ'.2.2 = σ.2.2
theorem QK.rf {c : Nat} (σ : XS) : QK c σ σ := ⟨fun _ _ _ => rfl, rfl⟩
theorem QK.tr {c : Nat} {σ σ1 σ2 : XS} (h : QK c σ σ1) (h2 : QK c σ1 σ2) : QK c σ σ2 := ⟨fun j k hs => (h2.1 j k hs).trans (h.1 j k hs), h2.2.trans h.2⟩
theorem bq_mw {c j k : Nat} (h : bq c j k = false) : mw j k = false := by
  unfold bq at h
  exact (Bool.or_eq_false_iff.mp h).1
theorem bq_c {c j k : Nat} (h : bq c j k = false) : ¬ ((j = 29 ∨ j = 30 ∨ j = 31) ∧ k = c) := by
  unfold bq at h
  have := (Bool.or_eq_false_iff.mp h).2
  intro w
  rw [Bool.and_eq_false_iff] at this
  rcases this with z | z
  · rcases w.1 with e | e | e <;> rw [e] at z <;> cases z
  · rw [w.2] at z; simp at z
theorem QK.of {c : Nat} {σ σ' : XS} (h : KK mw σ σ') : QK c σ σ' := ⟨fun j k hs => h.1 j k (bq_mw hs), by rw [h.2]⟩
theorem QK.g {c : Nat} {σ σ' : XS} (h : QK c σ σ') {j k : Nat} (h1 : mw j k = false) (h2 : ¬ ((j = 29 ∨ j = 30 ∨ j = 31) ∧ k = c)) : gI σ' j k = gI σ j k := by
  refine h.1 j k ?_
  unfold bq
  rw [h1, Bool.false_or]
  cases z : ((j == 29 || (j == 30 || j == 31)) && k == c) with
  | false => rfl
  | true =>
    simp only [Bool.and_eq_true, Bool.or_eq_true, beq_iff_eq] at z
    exact absurd z h2
theorem QK.agS {c : Nat} {σ σ' : XS} (h : QK c σ σ') (p a n : Int32) : AG (tS σ c p a n) (tS σ' c p a n) := by
  intro j k q
  have m0 : mw j k = false := by
    cases z : mw j k with
    | false => rfl
    | true => rw [mw_ag j k z] at q; cases q
  by_cases e9 : j = 29
  · subst e9
    rw [tS_29, tS_29]
    by_cases e : k = c
    · rw [if_pos e, if_pos e]
    · rw [if_neg e, if_neg e]; exact h.g m0 (fun w => e w.2)
  by_cases e0 : j = 30
  · subst e0
    rw [tS_30, tS_30]
    by_cases e : k = c
    · rw [if_pos e, if_pos e]
    · rw [if_neg e, if_neg e]; exact h.g m0 (fun w => e w.2)
  by_cases e1 : j = 31
  · subst e1
    rw [tS_31, tS_31]
    by_cases e : k = c
    · rw [if_pos e, if_pos e]
    · rw [if_neg e, if_neg e]; exact h.g m0 (fun w => e w.2)
  by_cases e4 : j = 24
  · subst e4
    by_cases e : k = 10
    · subst e; rw [tS_c, tS_c]
    · rw [tS_24 _ _ _ _ _ e, tS_24 _ _ _ _ _ e]
      exact h.g m0 (fun w => by omega)
  · rw [tS_o _ _ _ _ _ e9 e0 e1 e4, tS_o _ _ _ _ _ e9 e0 e1 e4]
    exact h.g m0 (fun w => by omega)
/-- one sitting made, looked at, and taken back -/
theorem QK.back {c : Nat} {σ σ' σ2 : XS} {p a n : Int32} (e10 : gI σ 24 10 = nI c) (hl : ∀ j k, mw j k = false → gI σ' j k = gI (tS σ c p a n) j k) (h2 : σ'.2.2 = σ.2.2) (e : σ2 = sI σ' 24 10 (gI σ' 24 10 - 1)) : QK c σ σ2 := by
  refine ⟨fun j k hs => ?_, by rw [e]; exact h2⟩
  have m0 := bq_mw hs
  have nc := bq_c hs
  rw [e]
  by_cases w : j = 24 ∧ k = 10
  · rw [w.1, w.2, gI_sIe, hl 24 10 rfl, tS_c, e10, nI_pred]
  · rw [gI_sI, if_neg w, hl j k m0]
    by_cases e9 : j = 29
    · subst e9; rw [tS_29, if_neg (fun z => nc ⟨Or.inl rfl, z⟩)]
    by_cases e0 : j = 30
    · subst e0; rw [tS_30, if_neg (fun z => nc ⟨Or.inr (Or.inl rfl), z⟩)]
    by_cases e1 : j = 31
    · subst e1; rw [tS_31, if_neg (fun z => nc ⟨Or.inr (Or.inr rfl), z⟩)]
    by_cases e4 : j = 24
    · subst e4; rw [tS_24 _ _ _ _ _ (fun z => w ⟨rfl, z⟩)]
    · rw [tS_o _ _ _ _ _ e9 e0 e1 e4]
theorem Gd.off {σ σ' : XS} (h : Gd σ) (K : QK (vN σ 24 10) σ σ') : Gd σ' := by
  have hw := h.w
  obtain ⟨hA, hB, hC, hDs, hDm, hDc, hDr, hU, hO, -⟩ := id hw
  obtain ⟨c, ec⟩ : ∃ c, c = vN σ 24 10 := ⟨_, rfl⟩
  rw [← ec] at K
  obtain ⟨ρ, eρ⟩ : ∃ ρ : XS, ρ = ((sR (sR (sR σ 37 (gI σ' 37)) 38 (gI σ' 38)) 39 (gI σ' 39)).1, σ'.2) := ⟨_, rfl⟩
  have gρ : ∀ j k, j ≠ 37 → j ≠ 38 → j ≠ 39 → gI ρ j k = gI σ j k := by
    intro j k n1 n2 n3
    rw [eρ]
    show gI (sR (sR (sR σ 37 (gI σ' 37)) 38 (gI σ' 38)) 39 (gI σ' 39)) j k = _
    rw [gI_row' _ _ n3, gI_row' _ _ n2, gI_row' _ _ n1]
  have gρ7 : ∀ j k, (j = 37 ∨ j = 38 ∨ j = 39) → gI ρ j k = gI σ' j k := by
    intro j k w
    rw [eρ]
    show gI (sR (sR (sR σ 37 (gI σ' 37)) 38 (gI σ' 38)) 39 (gI σ' 39)) j k = _
    rcases w with rfl | rfl | rfl
    · rw [gI_row' _ _ (by decide), gI_row' _ _ (by decide), gI_row]
    · rw [gI_row' _ _ (by decide), gI_row]
    · rw [gI_row]
  have Kρ : Ks σ ρ := by
    refine ⟨fun j k hs => gρ j k (fun e => ?_) (fun e => ?_) (fun e => ?_), by rw [eρ]; exact K.2⟩ <;> (rw [e] at hs; cases hs)
  have Gρ : Gd ρ := fin3 h Kρ (gρ 0 8 (by decide) (by decide) (by decide)) (gρ 24 0 (by decide) (by decide) (by decide)) (by rw [gρ 15 0 (by decide) (by decide) (by decide), gρ 24 41 (by decide) (by decide) (by decide)]; exact h.1.2.2.2.1) (gρ 24 21 (by decide) (by decide) (by decide)) (gρ 24 22 (by decide) (by decide) (by decide)) (gρ 24 25 (by decide) (by decide) (by decide))
  have mwn : ∀ j k, j ≠ 37 → j ≠ 38 → j ≠ 39 → mw j k = false := by
    intro j k n1 n2 n3
    unfold mw
    simp [n1, n2, n3]
  have o : ∀ j k, j ≠ 37 → j ≠ 38 → j ≠ 39 → ¬ ((j = 29 ∨ j = 30 ∨ j = 31) ∧ k = c) → gI σ' j k = gI σ j k := fun j k n1 n2 n3 nc => K.g (mwn j k n1 n2 n3) nc
  have Kp : KK ptw ρ σ' := by
    refine ⟨fun j k hs => ?_, by rw [eρ]⟩
    by_cases w : j = 37 ∨ j = 38 ∨ j = 39
    · rw [gρ7 j k w]
    · rw [gρ j k (fun e => w (Or.inl e)) (fun e => w (Or.inr (Or.inl e))) (fun e => w (Or.inr (Or.inr e)))]
      refine o j k (fun e => w (Or.inl e)) (fun e => w (Or.inr (Or.inl e))) (fun e => w (Or.inr (Or.inr e))) (fun z => ?_)
      rcases z.1 with e | e | e <;> (rw [e] at hs; cases hs)
  have c24 : ∀ k, gI σ' 24 k = gI σ 24 k := fun k => o 24 k (by decide) (by decide) (by decide) (fun z => by omega)
  have v24 : ∀ k, vN σ' 24 k = vN σ 24 k := fun k => by unfold vN; rw [c24]
  have rr : ∀ j, j ≠ 37 → j ≠ 38 → j ≠ 39 → j ≠ 29 → j ≠ 30 → j ≠ 31 → gI σ' j = gI σ j := fun j n1 n2 n3 n4 n5 n6 => by funext k; exact o j k n1 n2 n3 (fun z => by omega)
  have r5 := rr 5 (by decide) (by decide) (by decide) (by decide) (by decide) (by decide)
  have r6 := rr 6 (by decide) (by decide) (by decide) (by decide) (by decide) (by decide)
  have r7 := rr 7 (by decide) (by decide) (by decide) (by decide) (by decide) (by decide)
  have r8 := rr 8 (by decide) (by decide) (by decide) (by decide) (by decide) (by decide)
  have r9 := rr 9 (by decide) (by decide) (by decide) (by decide) (by decide) (by decide)
  have sk : ∀ k, k < c → gI σ' 29 k = gI σ 29 k ∧ gI σ' 30 k = gI σ 30 k ∧ gI σ' 31 k = gI σ 31 k := fun k hk => ⟨o 29 k (by decide) (by decide) (by decide) (fun z => by omega), o 30 k (by decide) (by decide) (by decide) (fun z => by omega), o 31 k (by decide) (by decide) (by decide) (fun z => by omega)⟩
  refine Gρ.put Kp ?_ ?_ ?_ ?_ ?_ ?_ ?_
  · unfold GB at hB ⊢
    rw [c24, c24, c24, c24, c24, c24, r5]; exact hB
  · intro k hk
    rw [v24] at hk
    obtain ⟨s1, s2, s3⟩ := sk k (by omega)
    rw [s1, s2, s3, rr 25 (by decide) (by decide) (by decide) (by decide) (by decide) (by decide), rr 26 (by decide) (by decide) (by decide) (by decide) (by decide) (by decide), v24, v24, r6, r7, r8, r9, show vN σ' 29 k = vN σ 29 k by unfold vN; rw [s1]]
    exact hDs k hk
  · intro k hk
    rw [v24] at hk
    rw [rr 32 (by decide) (by decide) (by decide) (by decide) (by decide) (by decide), rr 33 (by decide) (by decide) (by decide) (by decide) (by decide) (by decide), rr 34 (by decide) (by decide) (by decide) (by decide) (by decide) (by decide), v24, r6, r7, r8]
    exact hDm k hk
  · intro k hk
    rw [v24] at hk
    rw [rr 35 (by decide) (by decide) (by decide) (by decide) (by decide) (by decide), rr 36 (by decide) (by decide) (by decide) (by decide) (by decide) (by decide), v24, r6, r7]
    exact hDc k hk
  · intro k hk
    rw [v24] at hk
    rw [rr 40 (by decide) (by decide) (by decide) (by decide) (by decide) (by decide), rr 41 (by decide) (by decide) (by decide) (by decide) (by decide) (by decide), rr 42 (by decide) (by decide) (by decide) (by decide) (by decide) (by decide), rr 43 (by decide) (by decide) (by decide) (by decide) (by decide) (by decide), v24, r6, r7, r8, r9]
    exact hDr k hk
  · intro j k hj hk
    rw [v24] at hj hk
    obtain ⟨s1, s2, s3⟩ := sk j (by omega)
    obtain ⟨t1, t2, t3⟩ := sk k (by omega)
    rw [s1, s2, s3, t1, t2, t3]
    exact hU j k hj hk
  · have ho : GOc σ (tot σ) (live σ) := hO
    refine ho.go (by have := hw.o.2; omega) (o 4 6 (by decide) (by decide) (by decide) (fun z => by omega)) r6 (rr 10 (by decide) (by decide) (by decide) (by decide) (by decide) (by decide)) (fun s => ?_)
    unfold live
    rw [v24, v24, v24, v24]
