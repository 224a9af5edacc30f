/-! ===== layers, chair, under ===== -/
theorem wHeightAt {σ : XS} {c : Ch} {n p : Nat} {post : Int32 → Prop} (hr : rp 12 13 14 n σ c) (hp : p < 6) (h : post (nI (c.2.1 (c.1 p)))) : PX1_heightAt (nI p) σ post := by
  unfold PX1_heightAt
  obtain ⟨e, hq⟩ := hr.1 p hp
  obtain ⟨e2, hh⟩ := hr.2.1 (c.1 p) hq
  refine wChairIn hp ?_
  rw [e, nI_clamp (by omega), e2]
  exact ⟨fun w => absurd w (nI_ne9 (by omega)), fun _ => ⟨pk_in _ 6 hq, h⟩⟩
theorem KK.v1 {b : Nat → Nat → Bool} {σ τ : XS} (K : KK b σ τ) (hb : b 24 1 = false) : vN τ 24 1 = vN σ 24 1 := by unfold vN; rw [K.1 24 1 hb]
/-- a call that plays: the class to the night, then the reference -/
theorem Gd.two {σ τ : XS} (h : Gd σ) (hg : Gd τ) (K : KK cw σ τ) {e : Nat} (he : e < 40) {post : XS → Prop} (hk : ∀ τ', KK mw τ τ' → Gd τ' → rp 37 38 39 25 τ' (play ((MS σ (e + 1)).map (evM σ)) ch0) → post τ') : PX8_goTo (nI e) τ post := by
  have ag : AG σ τ := K.ag cw_ag
  refine hg.gt he (fun τ' K' g' hr => hk τ' K' g' ?_)
  rw [← ag.ms, ← ag.ev]; exact hr
theorem st9 {σ : XS} (h : Gd σ) : S9 Gd σ := by
  intro a1 a2
  have hw := h.w
  obtain ⟨hA, hB, -⟩ := id hw
  have hq := hB.q
  unfold PX7_layers
  refine wX7_isPlace hA hB (fun q1 => ⟨fun w => absurd w (by decide), fun _ => ?_⟩) (fun q1 => ⟨fun _ => ?_, fun w => absurd rfl w⟩)
  · obtain ⟨p, hp, ep⟩ := vp_in_of q1 (by omega)
    have hp6 : p < 6 := by omega
    refine wX7_isNight (fun q2 => ⟨fun w => absurd w (by decide), fun _ => ?_⟩) (fun q2 => ⟨fun _ => ?_, fun w => absurd rfl w⟩)
    · obtain ⟨e, he, ee⟩ := vp_in_of q2 (by decide)
      rw [ee]
      refine h.pl he (fun τ K g hr => ?_)
      rw [ep]
      refine wHeightAt hr hp6 ?_
      unfold PX8_layers
      refine wX8_noPlace g.2.1 (fun _ => ⟨fun _ => ?_, fun w => absurd rfl w⟩) (fun w => absurd (by rw [K.v1 rfl, ← ep]; exact q1) w)
      refine wX8_isNight (fun _ => ⟨fun w => absurd w (by decide), fun _ => ?_⟩) (fun w => absurd (by rw [← ee]; exact q2) w)
      refine h.two g K he (fun τ' K' g' hr' => ?_)
      obtain ⟨b1, b2⟩ := hr'.1 p hp6
      obtain ⟨b3, b4⟩ := hr'.2.1 _ b2
      rw [nI_clamp (by omega), b1, nI_clamp (by omega), b3]
      exact ⟨pk_in p 6 hp6, pk_in _ 6 b2, rfl, g'⟩
    · unfold PX8_layers
      exact wX8_noPlace hB (fun _ => ⟨fun _ => wX8_isNight (fun w => absurd w q2) (fun _ => ⟨fun _ => ⟨rfl, h⟩, fun w => absurd rfl w⟩), fun w => absurd rfl w⟩) (fun w => absurd q1 w)
  · unfold PX8_layers
    exact wX8_noPlace hB (fun w => absurd w q1) (fun _ => ⟨fun w => absurd w (by decide), fun _ => ⟨rfl, h⟩⟩)
theorem st11 {σ : XS} (h : Gd σ) : S11 Gd σ := by
  intro a1 a2
  have hw := h.w
  obtain ⟨hA, hB, -⟩ := id hw
  have hq := hB.q
  unfold PX7_chair
  refine wX7_isPlace hA hB (fun q1 => ⟨fun w => absurd w (by decide), fun _ => ?_⟩) (fun q1 => ⟨fun _ => ?_, fun w => absurd rfl w⟩)
  · obtain ⟨p, hp, ep⟩ := vp_in_of q1 (by omega)
    have hp6 : p < 6 := by omega
    refine wX7_isNight (fun q2 => ⟨fun w => absurd w (by decide), fun _ => ?_⟩) (fun q2 => ⟨fun _ => ?_, fun w => absurd rfl w⟩)
    · obtain ⟨e, he, ee⟩ := vp_in_of q2 (by decide)
      rw [ee]
      refine h.pl he (fun τ K g hr => ?_)
      rw [ep]
      refine wChairIn hp6 ?_
      rw [(hr.1 p hp6).1]
      unfold PX8_chair
      refine wX8_noPlace g.2.1 (fun _ => ⟨fun _ => ?_, fun w => absurd rfl w⟩) (fun w => absurd (by rw [K.v1 rfl, ← ep]; exact q1) w)
      refine wX8_isNight (fun _ => ⟨fun w => absurd w (by decide), fun _ => ?_⟩) (fun w => absurd (by rw [← ee]; exact q2) w)
      refine h.two g K he (fun τ' K' g' hr' => ?_)
      rw [nI_clamp (by omega), (hr'.1 p hp6).1]
      exact ⟨pk_in p 6 hp6, rfl, g'⟩
    · unfold PX8_chair
      exact wX8_noPlace hB (fun _ => ⟨fun _ => wX8_isNight (fun w => absurd w q2) (fun _ => ⟨fun _ => ⟨rfl, h⟩, fun w => absurd rfl w⟩), fun w => absurd rfl w⟩) (fun w => absurd q1 w)
  · unfold PX8_chair
    exact wX8_noPlace hB (fun w => absurd w q1) (fun _ => ⟨fun w => absurd w (by decide), fun _ => ⟨rfl, h⟩⟩)
theorem wX8_layerAt {σ : XS} {c : Ch} {n p k : Nat} {post : Int32 → Prop} (hr : rp 37 38 39 n σ c) (hn : n ≤ 25) (hp : p < 6) (hk : k < 2 ^ 31) (h1 : k < c.2.1 (c.1 p) → post (nI (c.2.2 (c.1 p) k))) (h0 : ¬ k < c.2.1 (c.1 p) → post (-9)) : PX8_layerAt (nI p) (nI k) σ post := by
  unfold PX8_layerAt
  obtain ⟨e, hq⟩ := hr.1 p hp
  obtain ⟨e2, hh⟩ := hr.2.1 (c.1 p) hq
  rw [nI_clamp (by omega), e]
  refine ⟨pk_in p 6 hp, fun x1 e1 => ?_⟩
  subst e1
  rw [nI_clamp (by omega), e2, nI_leI (by omega) hk]
  refine ⟨pk_in _ 6 hq, fun w => h0 (by omega), fun w => ?_⟩
  rw [show (25 : Int32) * nI (c.1 p) + nI k = nI (25 * c.1 p + k) by rw [show (25 : Int32) = nI 25 from rfl, pk_mul, nI_add], nI_clamp (by omega), hr.2.2 _ hq k (by omega)]
  exact ⟨pk_in (25 * c.1 p + k) 150 (by omega), h1 (by omega)⟩
def gM (τ : XS) (j : Nat) : Int32 := gumv (gI τ 25 (vN τ 29 j)) (gI τ 26 (vN τ 29 j)) (gI τ 31 j)
theorem wX8_gumBy {σ : XS} {j : Nat} {post : Int32 → Prop} (hj : j < 25) (hp : vp_in (gI σ 29 j) 5) (h : post (gM σ j)) : PX8_gumBy (nI j) σ post := by
  unfold PX8_gumBy
  obtain ⟨z1, z2⟩ := cnt hp (by decide)
  have v := pk_in j 25 hj
  rw [nI_clamp (by omega), z1]
  exact ⟨v, v, wX8_gumOf z2 h⟩
theorem gM_ag {τ τ' : XS} (h : AG τ τ') (j : Nat) : gM τ' j = gM τ j := by
  unfold gM
  rw [h.v (j := 29) (k := j) rfl, h 25 _ rfl, h 26 _ rfl, h 31 j rfl]
theorem st10 {σ : XS} (h : Gd σ) : S10 Gd σ := by
  intro a1 a2 a3 a4
  have hw := h.w
  obtain ⟨hA, hB, -, hDs, -⟩ := id hw
  have hq := hB.q
  have hp5 := hB.p
  have cs := hB.s
  have hUn : ∀ r : Int32, (¬ vp_in a1 (vN σ 24 1) ∨ ¬ 0 ≤ a3 → r = -1) → (vp_in a1 (vN σ 24 1) → 0 ≤ a3 → r = -2) → (¬ vp_in a1 (vN σ 24 1) ∨ ¬ 0 ≤ a3 ∨ ¬ vp_in a2 40 ∨ ¬ vp_in a4 2) → PX8_under a1 a2 a3 a4 σ (fun r2 σ2 => r = r2 ∧ Gd σ2) := by
    intro r w1 w2 w3
    unfold PX8_under
    refine wX8_noPlace hB (fun q1 => ⟨fun _ => ⟨fun q2 => wX8_isNight (fun q3 => ⟨fun w => absurd w (by decide), fun _ => ?_⟩) (fun q3 => ⟨fun _ => ⟨w2 q1 q2, h⟩, fun w => absurd rfl w⟩), fun q2 => ⟨w1 (Or.inr q2), h⟩⟩, fun w => absurd rfl w⟩) (fun q1 => ⟨fun w => absurd w (by decide), fun _ => ⟨w1 (Or.inl q1), h⟩⟩)
    refine wIn (n := 2) (by decide) (fun q4 => ?_) (fun q4 => ⟨fun _ => ⟨w2 q1 q2, h⟩, fun w => absurd rfl w⟩)
    rcases w3 with w | w | w | w
    · exact absurd q1 w
    · exact absurd q2 w
    · exact absurd q3 w
    · exact absurd q4 w
  unfold PX7_under
  refine wX7_isPlace hA hB (fun q1 => ⟨fun w => absurd w (by decide), fun _ => ⟨fun q0 => ?_, fun q0 => hUn (-1) (fun _ => rfl) (fun _ w => absurd w q0) (Or.inr (Or.inl q0))⟩⟩) (fun q1 => ⟨fun _ => hUn (-1) (fun _ => rfl) (fun w => absurd w q1) (Or.inl q1), fun w => absurd rfl w⟩)
  have hOut : (¬ vp_in a2 40 ∨ ¬ vp_in a4 2) → PX8_under a1 a2 a3 a4 σ (fun r2 σ2 => (-2 : Int32) = r2 ∧ Gd σ2) := fun w => hUn (-2) (fun z => absurd z (fun z => z.elim (fun z => z q1) (fun z => z q0))) (fun _ _ => rfl) (Or.inr (Or.inr w))
  refine wX7_isNight (fun q2 => ⟨fun w => absurd w (by decide), fun _ => ?_⟩) (fun q2 => ⟨fun _ => hOut (Or.inl q2), fun w => absurd rfl w⟩)
  refine wX7_isEither (fun q4 => ⟨fun w => absurd w (by decide), fun _ => ?_⟩) (fun q4 => ⟨fun _ => hOut (Or.inr q4), fun w => absurd rfl w⟩)
  obtain ⟨p, hp, ep⟩ := vp_in_of q1 (by omega)
  have hp6 : p < 6 := by omega
  obtain ⟨e, he, ee⟩ := vp_in_of q2 (by decide)
  obtain ⟨k, hk, ek⟩ := nI_of (x := a3) (by
    rw [Int32.lt_iff_toInt_lt]
    rw [Int32.le_iff_toInt_le] at q0
    omega)
  rw [ee]
  refine h.pl he (fun τ K g hr => ?_)
  have ag : AG σ τ := K.ag cw_ag
  have hlab := MS_lab h.md (N := e + 1) (by omega)
  have hM : ∀ r : Int32, (k < (play ((MS σ (e + 1)).map (evM σ)) ch0).2.1 ((play ((MS σ (e + 1)).map (evM σ)) ch0).1 p) → (a4 = 1 → r = nI ((play ((MS σ (e + 1)).map (evM σ)) ch0).2.2 ((play ((MS σ (e + 1)).map (evM σ)) ch0).1 p) k)) ∧ (¬ a4 = 1 → r = gM σ ((play ((MS σ (e + 1)).map (evM σ)) ch0).2.2 ((play ((MS σ (e + 1)).map (evM σ)) ch0).1 p) k))) → (¬ k < (play ((MS σ (e + 1)).map (evM σ)) ch0).2.1 ((play ((MS σ (e + 1)).map (evM σ)) ch0).1 p) → r = -9) → PX8_under a1 (nI e) a3 a4 τ (fun r2 σ2 => r = r2 ∧ Gd σ2) := by
    intro r w1 w2
    unfold PX8_under
    refine wX8_noPlace g.2.1 (fun _ => ⟨fun _ => ⟨fun _ => wX8_isNight (fun _ => ⟨fun w => absurd w (by decide), fun _ => ?_⟩) (fun w => absurd (by rw [← ee]; exact q2) w), fun w => absurd q0 w⟩, fun w => absurd rfl w⟩) (fun w => absurd (by rw [K.v1 rfl]; exact q1) w)
    refine wIn (n := 2) (by decide) (fun _ => ⟨fun w => absurd w (by decide), fun _ => ?_⟩) (fun w => absurd q4 w)
    refine h.two g K he (fun τ' K' g' hr' => ?_)
    rw [ep, ek]
    refine wX8_layerAt hr' (Nat.le_refl _) hp6 hk (fun z => ?_) (fun z => ⟨fun w => absurd w (by decide), fun _ => ⟨w2 z, g'⟩⟩)
    have hlt := hlab _ _ z
    refine ⟨fun _ => ⟨fun z4 => ⟨(w1 z).1 z4, g'⟩, fun z4 => ?_⟩, fun w => absurd (nI_pos' (by omega)) w⟩
    have ag' : AG σ τ' := ag.tr (K'.ag mw_ag)
    refine wX8_gumBy (by omega) ?_ ⟨?_, g'⟩
    · rw [ag' 29 _ rfl]
      exact vin_mono (hDs _ hlt).1 (by omega)
    · rw [gM_ag ag']; exact (w1 z).2 z4
  rw [ep, ek]
  refine wLayerAt hr (Nat.le_refl _) hp6 hk (fun z => ?_) (fun z => ⟨fun _ => ?_, fun w => absurd rfl w⟩)
  · have hlt := hlab _ _ z
    rw [← ep, ← ek]
    refine ⟨fun w => absurd w (nI_ne9 (by omega)), fun _ => ⟨fun z4 => hM _ (fun _ => ⟨fun _ => rfl, fun w => absurd z4 w⟩) (fun w => absurd z w), fun z4 => ?_⟩⟩
    refine wX5_gum (N := vN σ 24 10) (by rw [K.1 5 2 rfl]; exact hw.cs) (by omega) hlt ?_
    refine hM _ (fun _ => ⟨fun w => absurd w z4, fun _ => ?_⟩) (fun w => absurd z w)
    rw [K.1 9 _ rfl]
    exact (hDs _ hlt).2.2.2.2.2.2
  · rw [← ep, ← ek]
    exact hM _ (fun w => absurd w z) (fun _ => rfl)
