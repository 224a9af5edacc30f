/-! ===== what if: states that are meant, not made ===== -/
theorem AG.c {τ τ' : XS} (h : AG τ τ') (j k : Nat) (x : Int32) : AG (sI τ j k x) (sI τ' j k x) := by
  intro j' k' q
  rw [gI_sI, gI_sI]
  by_cases e : j' = j ∧ k' = k
  · rw [if_pos e, if_pos e]
  · rw [if_neg e, if_neg e]; exact h j' k' q
theorem scw_ag (j k : Nat) (h : scw j k = true) : agb j k = false := by
  unfold scw stw at h
  simp only [Bool.or_eq_true, Bool.and_eq_true, beq_iff_eq] at h
  rcases h with (rfl | rfl | rfl | rfl | rfl | rfl | ⟨rfl, rfl⟩) | h
  · rfl
  · rfl
  · rfl
  · rfl
  · rfl
  · rfl
  · rfl
  · exact cw_ag j k h
theorem Gd.cwk {σ τ : XS} (h : Gd σ) (K : KK cw σ τ) : Gd τ := by
  have Ks1 : Ks σ τ := by
    refine ⟨fun j k hs => K.1 j k ?_, by rw [K.2]⟩
    unfold scr at hs
    unfold cw
    simp only [Bool.or_eq_false_iff] at hs ⊢
    exact ⟨hs.2.1, hs.2.2.1, hs.2.2.2.1⟩
  exact fin3 h Ks1 (K.1 0 8 rfl) (K.1 24 0 rfl) (by rw [K.1 15 0 rfl, K.1 24 41 rfl]; exact h.1.2.2.2.1) (K.1 24 21 rfl) (K.1 24 22 rfl) (K.1 24 25 rfl)
theorem MdR.of {σ τ : XS} (h : MdR σ) (t : ∀ j k, j ≠ 24 → gI τ j k = gI σ j k) (t24 : ∀ k, k < 21 ∨ 26 < k → gI τ 24 k = gI σ 24 k) (x : gI τ 24 25 = -9 ∨ (vp_in (gI τ 24 25) 40 ∧ vp_in (gI τ 24 26) 6)) (y : gI τ 24 22 = -9 ∨ (vp_in (gI τ 24 22) 40 ∧ vp_in (gI τ 24 23) 6 ∧ vp_in (gI τ 24 24) 6)) (w : gI τ 24 21 = -9 ∨ vp_in (gI τ 24 21) 25) : MdR τ := by
  obtain ⟨⟨hc, hm, hs, a, b, d, -, -, -⟩, hr, e, f⟩ := h
  have v : ∀ k, k < 21 ∨ 26 < k → vN τ 24 k = vN σ 24 k := fun k hk => by unfold vN; rw [t24 k hk]
  refine ⟨⟨?_, ?_, ?_, ?_, ?_, ?_, x, y, w⟩, ?_, ?_, ?_⟩
  · rw [v 18 (by omega), t24 18 (by omega)]; exact hc
  · rw [v 14 (by omega), t24 14 (by omega)]; exact hm
  · rw [v 10 (by omega), t24 10 (by omega)]; exact hs
  · intro k hk; rw [v 18 (by omega)] at hk; rw [t 35 k (by decide), t 36 k (by decide)]; exact a k hk
  · intro k hk; rw [v 14 (by omega)] at hk; rw [t 32 k (by decide), t 33 k (by decide), t 34 k (by decide)]; exact b k hk
  · intro k hk; rw [v 10 (by omega)] at hk; rw [t 30 k (by decide), t 31 k (by decide)]; exact d k hk
  · rw [v 30 (by omega), t24 30 (by omega)]; exact hr
  · intro k hk; rw [v 30 (by omega)] at hk; rw [t 40 k (by decide), t 41 k (by decide), t 42 k (by decide)]; exact e k hk
  · intro k hk; rw [v 10 (by omega)] at hk; rw [t 29 k (by decide)]; exact f k hk
theorem gM_t {σ τ : XS} (t : ∀ j k, j ≠ 24 → gI τ j k = gI σ j k) (k : Nat) : gM τ k = gM σ k := by
  have e : vN τ 29 k = vN σ 29 k := by unfold vN; rw [t 29 k (by decide)]
  unfold gM
  rw [e, t 25 _ (by decide), t 26 _ (by decide), t 31 k (by decide)]
theorem RE.of {σ σ1 τ : XS} (h : Gd σ) (g : ∀ s, live σ s → gI σ1 6 s = gI σ 6 s ∧ gI σ1 7 s = gI σ 7 s ∧ gI σ1 8 s = gI σ 8 s ∧ gI σ1 9 s = gI σ 9 s) (t : ∀ j k, j ≠ 24 → gI τ j k = gI σ j k) (t24 : ∀ k, k < 21 ∨ 26 < k → gI τ 24 k = gI σ 24 k) (x : gI τ 24 25 ≠ -9 → gI σ1 6 (vN σ 24 18) = gI τ 24 25 ∧ gI σ1 7 (vN σ 24 18) = gI τ 24 26) (y : gI τ 24 22 ≠ -9 → gI σ1 6 (7 + vN σ 24 14) = gI τ 24 22 ∧ gI σ1 7 (7 + vN σ 24 14) = gI τ 24 23 ∧ gI σ1 8 (7 + vN σ 24 14) = gI τ 24 24) : RE σ1 τ := by
  obtain ⟨A, -, B, -, S, R⟩ := h.re
  have v : ∀ k, k < 21 ∨ 26 < k → vN τ 24 k = vN σ 24 k := fun k hk => by unfold vN; rw [t24 k hk]
  refine ⟨fun s hs => ?_, ?_, fun k hk => ?_, ?_, fun k hk => ?_, fun k hk => ?_⟩
  · rw [v 18 (by omega)] at hs
    obtain ⟨x6, x7, x8, x9⟩ := g s (Or.inl hs)
    rw [x6, x7, t 36 s (by decide), t 35 s (by decide)]; exact A s hs
  · rw [v 18 (by omega)]; exact x
  · rw [v 14 (by omega)] at hk
    obtain ⟨x6, x7, x8, x9⟩ := g (7 + k) (Or.inr (Or.inl ⟨by omega, by omega⟩))
    rw [x6, x7, x8, t 34 k (by decide), t 32 k (by decide), t 33 k (by decide)]; exact B k hk
  · rw [v 14 (by omega)]; exact y
  · rw [v 10 (by omega)] at hk
    obtain ⟨x6, x7, x8, x9⟩ := g (14 + k) (Or.inr (Or.inr (Or.inl ⟨by omega, by omega⟩)))
    rw [x6, x7, x9, t 31 k (by decide), t 30 k (by decide), gM_t t]; exact S k hk
  · rw [v 30 (by omega)] at hk
    obtain ⟨x6, x7, x8, x9⟩ := g (39 + k) (Or.inr (Or.inr (Or.inr ⟨by omega, by omega⟩)))
    rw [x6, x7, x8, x9, t 41 k (by decide), t 40 k (by decide), t 42 k (by decide), t 43 k (by decide)]; exact R k hk
/-! never -/
def tN (σ : XS) (k : Nat) : XS := sI σ 24 21 (nI k)
theorem tN_t (σ : XS) (k : Nat) : (∀ j i, j ≠ 24 → gI (tN σ k) j i = gI σ j i) ∧ (∀ i, i ≠ 21 → gI (tN σ k) 24 i = gI σ 24 i) ∧ gI (tN σ k) 24 21 = nI k :=
  ⟨fun _ _ h => gI_sIj _ _ h, fun _ h => gI_sIk _ _ h, gI_sIe _ _ _ _⟩
theorem mrN {σ : XS} (h : Gd σ) {k : Nat} (hk : k < 25) : MdR (tN σ k) := by
  obtain ⟨t, t24, e⟩ := tN_t σ k
  refine h.mr.of t (fun i hi => t24 i (by omega)) (Or.inl ?_) (Or.inl ?_) (Or.inr ?_)
  · rw [t24 25 (by decide)]; exact h.1.2.2.2.2.2.2
  · rw [t24 22 (by decide)]; exact h.1.2.2.2.2.2.1
  · rw [e]; exact pk_in k 25 hk
theorem lksN {σ : XS} (h : Gd σ) {k : Nat} (hk : k < 25) : Lks σ (tN σ k) (tot σ) (14 + k) (live σ) := by
  obtain ⟨t, t24, e⟩ := tN_t σ k
  have x25 : gI (tN σ k) 24 25 = -9 := by rw [t24 25 (by decide)]; exact h.1.2.2.2.2.2.2
  have x22 : gI (tN σ k) 24 22 = -9 := by rw [t24 22 (by decide)]; exact h.1.2.2.2.2.2.1
  obtain ⟨hO, hT⟩ := h.w.o
  have v : ∀ i, i ≠ 21 → vN (tN σ k) 24 i = vN σ 24 i := fun i hi => by unfold vN; rw [t24 i hi]
  have hwo : wo (tN σ k) = k := by
    unfold wo vN
    rw [e, if_neg (nI_ne9 (by omega)), nI_clamp (by omega)]
  refine Lks.of (mrN h hk) (by omega) hO (RE.of h (fun s _ => ⟨rfl, rfl, rfl, rfl⟩) t (fun i hi => t24 i (by omega)) (fun w => absurd x25 w) (fun w => absurd x22 w)) (fun s => ?_) (fun s _ => ?_) ?_
  · unfold LV live
    rw [v 18 (by decide), v 14 (by decide), v 10 (by decide), v 30 (by decide), x25, x22]
    constructor
    · rintro (w | w | w | w)
      · exact Or.inl w
      · exact Or.inr (Or.inr (Or.inl w))
      · exact Or.inr (Or.inr (Or.inr (Or.inr (Or.inl w))))
      · exact Or.inr (Or.inr (Or.inr (Or.inr (Or.inr w))))
    · rintro (w | ⟨-, w⟩ | w | ⟨-, w⟩ | w | w)
      · exact Or.inl w
      · exact absurd rfl w
      · exact Or.inr (Or.inl w)
      · exact absurd rfl w
      · exact Or.inr (Or.inr (Or.inl w))
      · exact Or.inr (Or.inr (Or.inr w))
  · rw [hwo]; omega
  · rw [t24 10 (by decide)]; exact h.w.2.1.2.2.2.2.2.2.2.2.1
def stF (F : Nat → Bool) : Nat → Int32 → Int32 := fun k s => if F k = true then s ||| bit1 k else s
theorem stF_s (F : Nat → Bool) (m : Nat) : fd (stF F) (m + 1) 0 = if F m = true then fd (stF F) m 0 ||| bit1 m else fd (stF F) m 0 := rfl
theorem neverC {σ0 : XS} (h0 : Gd σ0) {F : Nat → Bool} (hF : ∀ k, k < vN σ0 24 10 → soB (tN σ0 k) = F k) {post : Int32 → XS → Prop} {kx : Int32 → Int32 → XS → Prop} (hk : ∀ σ', Gd σ' → KK scw σ0 σ' → kx (fd (stF F) (vN σ0 24 10) 0) (nI (vN σ0 24 10)) σ') : ∀ (n m : Nat) (σ : XS), m ≤ vN σ0 24 10 → vN σ0 24 10 < m + n → Gd σ → KK scw σ0 σ → LX7_never_14 post kx n (fd (stF F) m 0) (nI m) σ := by
  have cs := h0.w.2.1.s
  intro n
  induction n with
  | zero => intro m σ h1 h2; omega
  | succ n ih =>
    intro m σ h1 h2 g K
    have ev : vN σ 24 10 = vN σ0 24 10 := by unfold vN; rw [K.1 24 10 rfl]
    rw [LX7_never_14]
    refine wX5_count (k := 2) (by decide) ?_
    rw [g.w.cs, ev, nI_leI (by omega) (by omega)]
    refine ⟨fun h => ?_, fun h => ?_⟩
    · obtain rfl : m = vN σ0 24 10 := by omega
      exact hk σ g K
    · refine wSoC (mrN g (k := m) (by omega)) (lksN g (by omega)) (Or.inr ⟨m, ?_, rfl, rfl⟩) (fun σ' K' => ?_)
      · have : vN (tN σ m) 24 10 = vN σ 24 10 := by unfold vN; rw [(tN_t σ m).2.1 10 (by decide)]
        omega
      · have eF : soB (tN σ m) = F m := (soB_ag ((K.ag scw_ag).c 24 21 (nI m))).trans (hF m (by omega))
        rw [eF]
        have q := ih (m + 1) σ' (by omega) (by omega) (g.cwk K') (K.tr (K'.mono cw_scw))
        rw [stF_s] at q
        cases eb : F m with
        | false =>
          refine ⟨fun _ x ex => ?_, fun w => absurd rfl w⟩
          rw [eb] at q
          rw [ex, nI_1]
          exact q
        | true =>
          refine ⟨fun w => absurd w (by decide), fun _ x ex y ey => ?_⟩
          rw [eb] at q
          rw [ex, ey, nI_1]
          exact q
/-! the reference's loops: only scratch changes -/
def bF (f : Nat → Bool) (j k : Nat) : Bool := (mw j k || (j == 24 && f k))
theorem mw_bF (f : Nat → Bool) (j k : Nat) (h : bF f j k = false) : mw j k = false := by
  unfold bF at h
  exact (Bool.or_eq_false_iff.mp h).1
theorem KK.bI {f : Nat → Bool} {σ : XS} {k : Nat} {x : Int32} (h : f k = true) : KK (bF f) σ (sI σ 24 k x) := KK.I (by unfold bF; rw [h]; rfl)
theorem KK.agF {f : Nat → Bool} {σ0 σ τ0 τ : XS} (K : KK (bF f) σ0 σ) (e : ∀ k, f k = true → gI τ 24 k = gI τ0 24 k) (t0 : ∀ j k, ¬ (j = 24 ∧ f k = true) → gI τ0 j k = gI σ0 j k) (t : ∀ j k, ¬ (j = 24 ∧ f k = true) → gI τ j k = gI σ j k) : AG τ0 τ := by
  intro j k q
  by_cases w : j = 24 ∧ f k = true
  · rw [w.1]; exact e k w.2
  · rw [t0 j k w, t j k w]
    refine K.1 j k ?_
    unfold bF
    rw [Bool.or_eq_false_iff]
    refine ⟨?_, ?_⟩
    · cases z : mw j k with
      | false => rfl
      | true => rw [mw_ag j k z] at q; cases q
    · cases z : (j == 24 && f k) with
      | false => rfl
      | true =>
        rw [Bool.and_eq_true, beq_iff_eq] at z
        exact absurd z w
def f6 (k : Nat) : Bool := (k == 21 || (k == 22 || (k == 23 || (k == 24 || (k == 25 || k == 26)))))
theorem wMean {σ σ' : XS} {post : XS → Prop} (h : Gd σ) (K : KK (bF f6) σ σ') (hk : ∀ σ2, Gd σ2 → post σ2) : PX8_meanNothing σ' post := by
  intro σ1 e1 σ2 e2 σ3 e3
  refine hk σ3 ?_
  have Ks0 : Ks σ σ' := by
    refine ⟨fun j k hs => K.1 j k ?_, by rw [K.2]⟩
    cases z : bF f6 j k with
    | false => rfl
    | true =>
      exfalso
      unfold bF mw f6 at z
      simp only [Bool.or_eq_true, Bool.and_eq_true, beq_iff_eq] at z
      rcases z with (rfl | rfl | rfl) | ⟨rfl, rfl | rfl | rfl | rfl | rfl | rfl⟩ <;> cases hs
  have Ks1 : Ks σ σ3 := by
    rw [e3, e2, e1]
    exact ((Ks0.tr (Ks.I rfl)).tr (Ks.I rfl)).tr (Ks.I rfl)
  have g : ∀ j k, j ≠ 24 → gI σ3 j k = gI σ' j k := fun j k hj => by rw [e3, gI_sIj _ _ hj, e2, gI_sIj _ _ hj, e1, gI_sIj _ _ hj]
  have g24 : ∀ k, k ≠ 21 → k ≠ 22 → k ≠ 25 → gI σ3 24 k = gI σ' 24 k := fun k a b c => by rw [e3, gI_sIk _ _ c, e2, gI_sIk _ _ b, e1, gI_sIk _ _ a]
  refine fin3 h Ks1 ?_ ?_ ?_ ?_ ?_ ?_
  · rw [g 0 8 (by decide)]; exact K.1 0 8 rfl
  · rw [g24 0 (by decide) (by decide) (by decide)]; exact K.1 24 0 rfl
  · rw [g 15 0 (by decide), g24 41 (by decide) (by decide) (by decide), K.1 15 0 rfl, K.1 24 41 rfl]; exact h.1.2.2.2.1
  · rw [h.1.2.2.2.2.1, e3, gI_sIk _ _ (by decide), e2, gI_sIk _ _ (by decide), e1, gI_sIe]
  · rw [h.1.2.2.2.2.2.1, e3, gI_sIk _ _ (by decide), e2, gI_sIe]
  · rw [h.1.2.2.2.2.2.2, e3, gI_sIe]
theorem f6_mono {f : Nat → Bool} (hf : ∀ k, f k = true → f6 k = true) {σ σ' : XS} (K : KK (bF f) σ σ') : KK (bF f6) σ σ' := by
  refine K.mono (fun j k hs => ?_)
  unfold bF at hs ⊢
  rw [Bool.or_eq_false_iff] at hs ⊢
  refine ⟨hs.1, ?_⟩
  cases z : f k with
  | false => rw [Bool.and_false]
  | true => have := hs.2; rw [hf k z] at this; rw [this]
def f21 (k : Nat) : Bool := k == 21
theorem neverM {σ0 : XS} (h0 : Gd σ0) {F : Nat → Bool} (hF : ∀ k, k < vN σ0 24 10 → soB (tN σ0 k) = F k) {post : Int32 → XS → Prop} {kx : Int32 → Int32 → XS → Prop} (hk : ∀ σ', KK (bF f21) σ0 σ' → kx (fd (stF F) (vN σ0 24 10) 0) (nI (vN σ0 24 10)) σ') : ∀ (n m : Nat) (σ : XS), m ≤ vN σ0 24 10 → vN σ0 24 10 < m + n → KK (bF f21) σ0 σ → LX8_never_14 post kx n (fd (stF F) m 0) (nI m) σ := by
  have cs := h0.w.2.1.s
  intro n
  induction n with
  | zero => intro m σ h1 h2; omega
  | succ n ih =>
    intro m σ h1 h2 K
    rw [LX8_never_14, K.1 24 10 rfl, cs.1, nI_leI (by omega) (by omega)]
    refine ⟨fun h => ?_, fun h σ3 e3 => ?_⟩
    · obtain rfl : m = vN σ0 24 10 := by omega
      exact hk σ K
    · have ag : AG (tN σ0 m) σ3 := by
        refine K.agF (fun k hk => ?_) (fun j k w => ?_) (fun j k w => ?_)
        · unfold f21 at hk
          rw [beq_iff_eq] at hk
          rw [hk, e3, gI_sIe, (tN_t σ0 m).2.2]
        · unfold tN
          rw [gI_sI, if_neg (fun z => w ⟨z.1, by unfold f21; rw [z.2]; rfl⟩)]
        · rw [e3, gI_sI, if_neg (fun z => w ⟨z.1, by unfold f21; rw [z.2]; rfl⟩)]
      refine wAreSo (ag.mr (mrN h0 (by omega))) (fun σ' K' => ?_)
      rw [soB_ag ag, hF m (by omega)]
      have K3 : KK (bF f21) σ σ3 := by rw [e3]; exact KK.bI rfl
      have q := ih (m + 1) σ' (by omega) (by omega) ((K.tr K3).tr (K'.mono (mw_bF _)))
      rw [stF_s] at q
      cases eb : F m with
      | false =>
        refine ⟨fun _ x ex y ey => ?_, fun w => absurd rfl w⟩
        rw [eb] at q
        rw [ex, ey, nI_1, or0]
        exact q
      | true =>
        refine ⟨fun w => absurd w (by decide), fun _ x ex y ey => ?_⟩
        rw [eb] at q
        rw [ex, ey, nI_1]
        exact q
theorem st21 {σ : XS} (h : Gd σ) : S21 Gd σ := by
  have hw := h.w
  obtain ⟨hA, hB, -⟩ := id hw
  have cs := hB.s
  unfold S21 PX7_never
  refine wX7_hasHall hA hB (fun q => ⟨fun w => absurd w (by decide), fun _ => ?_⟩) (fun q => ⟨fun _ => ?_, fun w => absurd rfl w⟩)
  · refine neverC h (F := fun k => soB (tN σ k)) (fun _ _ => rfl) (fun σ1 g K => ?_) 1000 0 σ (by omega) (by omega) h (KK.rf σ)
    unfold PX8_never
    refine ⟨fun w => absurd ((K.1 24 2 rfl).symm.trans w) q, fun _ => ?_⟩
    have ev : vN σ1 24 10 = vN σ 24 10 := by unfold vN; rw [K.1 24 10 rfl]
    refine neverM g (F := fun k => soB (tN σ k)) (fun k _ => soB_ag ((K.ag scw_ag).c 24 21 (nI k))) (fun σ2 K2 => ?_) 1000 0 σ1 (by omega) (by omega) (KK.rf σ1)
    refine wMean g (f6_mono (fun k hk => ?_) K2) (fun σ3 g3 => ⟨by rw [ev], g3⟩)
    unfold f21 at hk
    rw [beq_iff_eq] at hk
    rw [hk]; rfl
  · unfold PX8_never
    exact ⟨fun _ => ⟨rfl, h⟩, fun w => absurd q w⟩
