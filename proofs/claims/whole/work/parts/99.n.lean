/-! ===== scraped ===== -/
def tX (σ : XS) (n p : Int32) : XS := sI (sI σ 24 25 n) 24 26 p
theorem tX_t (σ : XS) (n p : Int32) : (∀ j i, j ≠ 24 → gI (tX σ n p) j i = gI σ j i) ∧ (∀ i, i ≠ 25 → i ≠ 26 → gI (tX σ n p) 24 i = gI σ 24 i) ∧ gI (tX σ n p) 24 25 = n ∧ gI (tX σ n p) 24 26 = p := by
  refine ⟨fun j i h => ?_, fun i h1 h2 => ?_, ?_, ?_⟩ <;> unfold tX
  · rw [gI_sIj _ _ h, gI_sIj _ _ h]
  · rw [gI_sIk _ _ h2, gI_sIk _ _ h1]
  · rw [gI_sIk _ _ (by decide), gI_sIe]
  · rw [gI_sIe]
theorem mrX {σ : XS} (h : Gd σ) {n p : Int32} (hn : vp_in n 40) (hp : vp_in p 6) : MdR (tX σ n p) := by
  obtain ⟨t, t24, e25, e26⟩ := tX_t σ n p
  refine h.mr.of t (fun i hi => t24 i (by omega) (by omega)) (Or.inr ⟨by rw [e25]; exact hn, by rw [e26]; exact hp⟩) (Or.inl ?_) (Or.inl ?_)
  · rw [t24 22 (by decide) (by decide)]; exact h.1.2.2.2.2.2.1
  · rw [t24 21 (by decide) (by decide)]; exact h.1.2.2.2.2.1
theorem lksX {σ : XS} (h : Gd σ) {n p a4 a5 : Int32} (hn : vp_in n 40) (hp : vp_in p 6) (σ1 : XS) (hR : AddR σ 0 (vN σ 24 (mc 0)) (tot σ) (live σ) n p a4 a5 σ1) : Lks σ1 (tX σ n p) (tot σ + 1) 100 (fun s => live σ s ∨ s = fs 0 + vN σ 24 (mc 0)) := by
  obtain ⟨t, t24, e25, e26⟩ := tX_t σ n p
  have x25 : gI (tX σ n p) 24 25 ≠ -9 := by rw [e25]; exact vne9 hn
  have x22 : gI (tX σ n p) 24 22 = -9 := by rw [t24 22 (by decide) (by decide)]; exact h.1.2.2.2.2.2.1
  have x21 : gI (tX σ n p) 24 21 = -9 := by rw [t24 21 (by decide) (by decide)]; exact h.1.2.2.2.2.1
  obtain ⟨hO, hT⟩ := h.w.o
  have v : ∀ i, i ≠ 25 → i ≠ 26 → vN (tX σ n p) 24 i = vN σ 24 i := fun i hi hj => by unfold vN; rw [t24 i hi hj]
  have hwo : wo (tX σ n p) = 100 := by unfold wo; rw [if_pos x21]
  have efs : fs 0 + vN σ 24 (mc 0) = vN σ 24 18 := Nat.zero_add _
  refine Lks.of (mrX h hn hp) (by omega) hR.2.2.2.2.2.2 (RE.of h (fun s hs => hR.g (h.nl (by decide) hs)) t (fun i hi => t24 i (by omega) (by omega)) (fun _ => ?_) (fun w => absurd x22 w)) (fun s => ?_) (fun s _ => ?_) ?_
  · obtain ⟨y6, y7, y8, y9⟩ := hR.n (s := vN σ 24 18) efs.symm
    rw [e25, e26]
    exact ⟨y6, y7⟩
  · unfold LV live
    rw [v 18 (by decide) (by decide), v 14 (by decide) (by decide), v 10 (by decide) (by decide), v 30 (by decide) (by decide), x22, efs]
    constructor
    · rintro ((w | w | w | w) | w)
      · exact Or.inl w
      · exact Or.inr (Or.inr (Or.inl w))
      · exact Or.inr (Or.inr (Or.inr (Or.inr (Or.inl w))))
      · exact Or.inr (Or.inr (Or.inr (Or.inr (Or.inr w))))
      · exact Or.inr (Or.inl ⟨w, x25⟩)
    · rintro (w | ⟨w, -⟩ | w | ⟨-, w⟩ | w | w)
      · exact Or.inl (Or.inl w)
      · exact Or.inr w
      · exact Or.inl (Or.inr (Or.inl w))
      · exact absurd rfl w
      · exact Or.inl (Or.inr (Or.inr (Or.inl w)))
      · exact Or.inl (Or.inr (Or.inr (Or.inr w)))
  · rw [hwo]; omega
  · rw [t24 10 (by decide) (by decide), hR.2.1, if_neg (by decide)]; exact h.w.2.1.2.2.2.2.2.2.2.2.1
theorem scrapedC {σ0 : XS} (h0 : Gd σ0) {nn : Int32} (hn : vp_in nn 40) {F : Nat → Bool} (hF : ∀ k, k < vN σ0 24 1 → soB (tX σ0 nn (nI k)) = F k) {post : Int32 → XS → Prop} {kx : Int32 → Int32 → XS → Prop} (hk : ∀ σ', Gd σ' → KK scw σ0 σ' → kx (fd (stF F) (vN σ0 24 1) 0) (nI (vN σ0 24 1)) σ') : ∀ (n m : Nat) (σ : XS), m ≤ vN σ0 24 1 → vN σ0 24 1 < m + n → Gd σ → KK scw σ0 σ → LX7_scraped_24 nn post kx n (fd (stF F) m 0) (nI m) σ := by
  have cq := h0.w.2.1.q
  intro n
  induction n with
  | zero => intro m σ h1 h2; omega
  | succ n ih =>
    intro m σ h1 h2 g K
    have e1 : gI σ 0 7 = nI (vN σ0 24 1) := by rw [g.1.2.1, K.1 24 1 rfl]; exact cq.1
    rw [LX7_scraped_24, e1, nI_leI (by omega) (by omega)]
    refine ⟨fun h => ?_, fun h => ?_⟩
    · obtain rfl : m = vN σ0 24 1 := by omega
      exact hk σ g K
    · have v6 : vp_in (nI m) 6 := pk_in m 6 (by omega)
      refine wIsSoWith (κ := 0) (a5 := 0) g (by decide) hn (fun w => absurd w (by decide)) (fun _ => rfl) (mrX g hn v6) (fun σ1 hR => lksX g hn v6 σ1 hR) (fun σ' g' K' => ?_)
      have eF : soB (tX σ nn (nI m)) = F m := (soB_ag (((K.ag scw_ag).c 24 25 nn).c 24 26 (nI m))).trans (hF m (by omega))
      rw [eF]
      have q := ih (m + 1) σ' (by omega) (by omega) g' (K.tr K')
      rw [stF_s] at q
      cases eb : F m with
      | false =>
        refine ⟨fun _ x ex => ?_, fun w => absurd rfl w⟩
        rw [eb] at q
        rw [ex, nI_1]
        exact q
      | true =>
        refine ⟨fun w => absurd w (by decide), fun _ x ex y ey => ?_⟩
        rw [eb] at q
        rw [ex, ey, nI_1]
        exact q
def fX (k : Nat) : Bool := (k == 25 || k == 26)
theorem fX_6 (k : Nat) (h : fX k = true) : f6 k = true := by
  unfold fX at h
  simp only [Bool.or_eq_true, beq_iff_eq] at h
  rcases h with rfl | rfl <;> rfl
theorem scrapedM {σ0 : XS} (h0 : Gd σ0) {nn : Int32} (hn : vp_in nn 40) {F : Nat → Bool} (hF : ∀ k, k < vN σ0 24 1 → soB (tX σ0 nn (nI k)) = F k) {post : Int32 → XS → Prop} {kx : Int32 → Int32 → XS → Prop} (hk : ∀ σ', KK (bF fX) σ0 σ' → kx (fd (stF F) (vN σ0 24 1) 0) (nI (vN σ0 24 1)) σ') : ∀ (n m : Nat) (σ : XS), m ≤ vN σ0 24 1 → vN σ0 24 1 < m + n → KK (bF fX) σ0 σ → gI σ 24 25 = nn → LX8_scraped_29 nn post kx n (fd (stF F) m 0) (nI m) σ := by
  have cq := h0.w.2.1.q
  intro n
  induction n with
  | zero => intro m σ h1 h2; omega
  | succ n ih =>
    intro m σ h1 h2 K e25
    rw [LX8_scraped_29, K.1 24 1 rfl, cq.1, nI_leI (by omega) (by omega)]
    refine ⟨fun h => ?_, fun h σ3 e3 => ?_⟩
    · obtain rfl : m = vN σ0 24 1 := by omega
      exact hk σ K
    · have v6 : vp_in (nI m) 6 := pk_in m 6 (by omega)
      obtain ⟨t, t24, x25, x26⟩ := tX_t σ0 nn (nI m)
      have e25' : gI σ3 24 25 = nn := by rw [e3, gI_sIk _ _ (by decide)]; exact e25
      have ag : AG (tX σ0 nn (nI m)) σ3 := by
        refine K.agF (fun k hk => ?_) (fun j k w => ?_) (fun j k w => ?_)
        · unfold fX at hk
          simp only [Bool.or_eq_true, beq_iff_eq] at hk
          rcases hk with rfl | rfl
          · rw [x25, e25']
          · rw [x26, e3, gI_sIe]
        · by_cases z : j = 24
          · subst z
            refine t24 k (fun z => w ⟨rfl, ?_⟩) (fun z => w ⟨rfl, ?_⟩) <;> rw [z] <;> rfl
          · exact t j k z
        · rw [e3, gI_sI, if_neg (fun z => w ⟨z.1, by rw [z.2]; rfl⟩)]
      refine wAreSo (ag.mr (mrX h0 hn v6)) (fun σ' K' => ?_)
      rw [soB_ag ag, hF m (by omega)]
      have K3 : KK (bF fX) σ σ3 := by rw [e3]; exact KK.bI rfl
      have q := ih (m + 1) σ' (by omega) (by omega) ((K.tr K3).tr (K'.mono (mw_bF _))) (by rw [K'.1 24 25 rfl]; exact e25')
      rw [stF_s] at q
      cases eb : F m with
      | false =>
        refine ⟨fun _ x ex y ey => ?_, fun w => absurd rfl w⟩
        rw [eb] at q
        rw [ex, ey, nI_1, or0]
        exact q
      | true =>
        refine ⟨fun w => absurd w (by decide), fun _ x ex y ey => ?_⟩
        rw [eb] at q
        rw [ex, ey, nI_1]
        exact q
theorem st20 {σ : XS} (h : Gd σ) : S20 Gd σ := by
  intro a1
  have hw := h.w
  obtain ⟨hA, hB, -⟩ := id hw
  have cq := hB.q
  unfold PX7_scraped
  refine wX7_isNight (fun hn => ⟨fun w => absurd w (by decide), fun _ => ?_⟩) (fun hn => ⟨fun _ => ?_, fun w => absurd rfl w⟩)
  · refine wX7_hasHall hA hB (fun q => ⟨fun w => absurd w (by decide), fun _ => ?_⟩) (fun q => ⟨fun _ => ?_, fun w => absurd rfl w⟩)
    · refine scrapedC h hn (F := fun k => soB (tX σ a1 (nI k))) (fun _ _ => rfl) (fun σ1 g K => ?_) 1000 0 σ (by omega) (by omega) h (KK.rf σ)
      unfold PX8_scraped
      refine wX8_isNight (fun _ => ⟨fun w => absurd w (by decide), fun _ => ⟨fun w => absurd ((K.1 24 2 rfl).symm.trans w) q, fun _ σ4 e4 => ?_⟩⟩) (fun w => absurd hn w)
      have ev : vN σ1 24 1 = vN σ 24 1 := by unfold vN; rw [K.1 24 1 rfl]
      refine scrapedM g hn (F := fun k => soB (tX σ a1 (nI k))) (fun k _ => soB_ag (((K.ag scw_ag).c 24 25 a1).c 24 26 (nI k))) (fun σ2 K2 => ?_) 1000 0 σ4 (by omega) (by omega) (by rw [e4]; exact KK.bI rfl) (by rw [e4, gI_sIe])
      exact wMean g (f6_mono fX_6 K2) (fun σ3 g3 => ⟨by rw [ev], g3⟩)
    · unfold PX8_scraped
      exact wX8_isNight (fun _ => ⟨fun w => absurd w (by decide), fun _ => ⟨fun _ => ⟨rfl, h⟩, fun w => absurd q w⟩⟩) (fun w => absurd hn w)
  · unfold PX8_scraped
    exact wX8_isNight (fun w => absurd w hn) (fun _ => ⟨fun _ => ⟨rfl, h⟩, fun w => absurd rfl w⟩)
