/-! ===== hall: the reference reads the persons ===== -/
def kcd (x : Int32) : Int32 := if x = 115 then 0 else if x = 102 then 1 else 2
/-- so many persons are read -/
def RdI (f : Nat → Int32) (K : Nat) (τ0 : XS) (p : Nat) (τ : XS) : Prop := KK rw5 τ0 τ ∧ gI τ 24 5 = nI (2 + 3 * p) ∧ gI τ 24 6 = nI K ∧ gI τ 24 7 = nI p ∧ ∀ i, i < p → gI τ 27 i = kcd (f (3 * i + 3)) ∧ gI τ 28 i = f (3 * i + 4) - 48
theorem gO_0 (x : Int32) : gO 0 x ↔ x = 104 := by unfold gO; rw [if_pos rfl]
theorem gO_1 (x : Int32) : gO 1 x ↔ ∃ v, 50 ≤ v ∧ v ≤ 54 ∧ x = nI v := by unfold gO; rw [if_neg (by decide), if_pos rfl]
theorem gO_a {p : Nat} (hp : p < 5) (x : Int32) : gO (2 + 3 * p) x ↔ x = 59 := by unfold gO; rw [if_neg (by omega), if_neg (by omega), if_neg (by omega), if_pos (by omega)]
theorem gO_b {p : Nat} (hp : p < 5) (x : Int32) : gO (3 + 3 * p) x ↔ (x = 115 ∨ x = 102 ∨ x = 98) := by unfold gO; rw [if_neg (by omega), if_neg (by omega), if_neg (by omega), if_neg (by omega), if_pos (by omega)]
theorem gO_c {p : Nat} (hp : p < 5) (x : Int32) : gO (4 + 3 * p) x ↔ ∃ v, 48 ≤ v ∧ v ≤ 51 ∧ x = nI v := by unfold gO; rw [if_neg (by omega), if_neg (by omega), if_neg (by omega), if_neg (by omega), if_neg (by omega)]
theorem gO_17 (x : Int32) : ¬ gO 17 x := by unfold gO; rw [if_neg (by decide), if_neg (by decide), if_pos (by decide)]; exact id
theorem okT_s {f : Nat → Int32} {m : Nat} (h : okT f m) (g : gO m (f m)) : okT f (m + 1) := by
  intro i hi
  by_cases e : i = m
  · rw [e]; exact g
  · exact h i (by omega)
theorem wPerson {τ0 τ : XS} {f : Nat → Int32} {b N K p : Nat} {post : Int32 → XS → Prop} (hN : N ≤ 60) (hb : b + N ≤ 240) (hf : ∀ k, k < N → gI τ0 48 (b + k) = f k) (hp : p ≤ 5) (h : RdI f K τ0 p τ) (ho : okT f (2 + 3 * p)) (hle : 2 + 3 * p ≤ N) (h17 : p = 5 → 17 < N) (hpn : ¬ (2 < N ∧ (N - 2) % 3 = 0) ∨ 2 + 3 * p < N) (h1 : ∀ τ', RdI f K τ0 (p + 1) τ' → p < 5 → okT f (5 + 3 * p) → 5 + 3 * p ≤ N → post 1 τ') (h0 : ∀ w τ', FF f N w → KK rw5 τ0 τ' → gI τ' 24 5 = nI w → post 0 τ') : PX8_readsPerson (nI b) (nI N) τ post := by
  obtain ⟨K0, r5, r6, r7, rr⟩ := h
  unfold PX8_readsPerson
  have hfk : ∀ σ', KK rw5 τ0 σ' → ∀ k, k < N → gI σ' 48 (b + k) = f k := fun σ' K' k hk => by rw [K'.1 48 _ rfl]; exact hf k hk
  have e7 : (gI τ 24 7 = 5) ↔ p = 5 := by rw [r7]; exact nI_eq (b := 5) (by omega) (by decide)
  rw [e7]
  refine ⟨fun z => ?_, fun z => ?_⟩
  · subst z
    exact h0 17 τ ⟨by have := h17 rfl; omega, ho, fun _ => gO_17 _, fun e => by have := h17 rfl; omega⟩ K0 r5
  · have p5 : p < 5 := by omega
    -- at the end or at a wrong code
    have bad : ∀ (w : Nat) (σ' : XS), 2 + 3 * p ≤ w → w ≤ 4 + 3 * p → okT f w → w ≤ N → (w < N → ¬ gO w (f w)) → KK rw5 τ0 σ' → gI σ' 24 5 = nI w → post 0 σ' := by
      intro w σ' hw1 hw2 how hwN hg K' e'
      refine h0 w σ' ⟨hwN, how, hg, fun e => ?_⟩ K' e'
      rintro ⟨a1, a2⟩
      rcases hpn with z2 | z2
      · exact z2 ⟨a1, a2⟩
      · omega
    refine wCodeAt r5 (by omega) hN hb (hfk τ K0) ⟨fun c1 => ?_, fun c1 => ?_⟩
    · obtain ⟨k1, f1⟩ := cA_no (v := 59) (by decide) c1
      have ho1 : okT f (3 + 3 * p) := by
        have := okT_s ho ((gO_a p5 _).mpr f1)
        rw [show 2 + 3 * p + 1 = 3 + 3 * p by omega] at this; exact this
      intro σ4 e4
      rw [r5, nI_1, show 2 + 3 * p + 1 = 3 + 3 * p by omega] at e4
      have K4 : KK rw5 τ0 σ4 := K0.tr (by rw [e4]; exact KK.I rfl)
      have s5 : gI σ4 24 5 = nI (3 + 3 * p) := by rw [e4, gI_sIe]
      refine wCodeAt s5 (by omega) hN hb (hfk σ4 K4) ?_
      have body : ∀ r5' : Int32, r5' = cA f N (3 + 3 * p) → (r5' = 115 ∨ r5' = 102 ∨ r5' = 98) → ∀ σ7 : XS, σ7 = sI σ4 24 5 (gI σ4 24 5 + 1) → PX8_figure (nI b) (nI N) (0 : Int32) (3 : Int32) σ7 (fun r8 σ9 => ((0 ≤ r8 → ((r5' = (115 : Int32) → (vp_in (gI σ9 24 7) 5 ∧ ∀ σ19 : XS, σ19 = sI σ9 27 (gI σ9 24 7).toNatClampNeg (0 : Int32) → (vp_in (gI σ19 24 7) 5 ∧ ∀ σ20 : XS, σ20 = sI σ19 28 (gI σ19 24 7).toNatClampNeg r8 → (∀ σ21 : XS, σ21 = sI σ20 24 7 ((gI σ20 24 7) + (1 : Int32)) → post (1 : Int32) σ21)))) ∧ (¬ r5' = (115 : Int32) → ((r5' = (102 : Int32) → (vp_in (gI σ9 24 7) 5 ∧ ∀ σ16 : XS, σ16 = sI σ9 27 (gI σ9 24 7).toNatClampNeg (1 : Int32) → (vp_in (gI σ16 24 7) 5 ∧ ∀ σ17 : XS, σ17 = sI σ16 28 (gI σ16 24 7).toNatClampNeg r8 → (∀ σ18 : XS, σ18 = sI σ17 24 7 ((gI σ17 24 7) + (1 : Int32)) → post (1 : Int32) σ18)))) ∧ (¬ r5' = (102 : Int32) → (vp_in (gI σ9 24 7) 5 ∧ ∀ σ13 : XS, σ13 = sI σ9 27 (gI σ9 24 7).toNatClampNeg (2 : Int32) → (vp_in (gI σ13 24 7) 5 ∧ ∀ σ14 : XS, σ14 = sI σ13 28 (gI σ13 24 7).toNatClampNeg r8 → (∀ σ15 : XS, σ15 = sI σ14 24 7 ((gI σ14 24 7) + (1 : Int32)) → post (1 : Int32) σ15)))))))) ∧ (¬ 0 ≤ r8 → post (0 : Int32) σ9))) := by
        intro r5' er hk3 σ7 e7'
        rw [s5, nI_1, show 3 + 3 * p + 1 = 4 + 3 * p by omega] at e7'
        have kN : 3 + 3 * p < N ∧ f (3 + 3 * p) = r5' := by
          rcases hk3 with w | w | w <;> rw [w] at er ⊢
          · exact cA_no (v := 115) (by decide) er.symm
          · exact cA_no (v := 102) (by decide) er.symm
          · exact cA_no (v := 98) (by decide) er.symm
        have ho2 : okT f (4 + 3 * p) := by
          have := okT_s ho1 ((gO_b p5 _).mpr (by rw [kN.2]; exact hk3))
          rw [show 3 + 3 * p + 1 = 4 + 3 * p by omega] at this; exact this
        have K7 : KK rw5 τ0 σ7 := K4.tr (by rw [e7']; exact KK.I rfl)
        have t5 : gI σ7 24 5 = nI (4 + 3 * p) := by rw [e7', gI_sIe]
        refine wFigure (lo := 0) (hi := 3) t5 (by omega) hN hb (hfk σ7 K7) (by decide) (by decide) (fun v _ v3 k3 fv => ?_) (fun hno => ?_)
        · obtain ⟨σ9, e9⟩ : ∃ z, z = sI σ7 24 5 (nI (4 + 3 * p + 1)) := ⟨_, rfl⟩
          rw [← e9]
          have K9 : KK rw5 τ0 σ9 := K7.tr (by rw [e9]; exact KK.I rfl)
          have ho3 : okT f (5 + 3 * p) := by
            have := okT_s ho2 ((gO_c p5 _).mpr ⟨48 + v, by omega, by omega, fv⟩)
            rw [show 4 + 3 * p + 1 = 5 + 3 * p by omega] at this; exact this
          have up : ∀ j k, ¬ (j = 24 ∧ k = 5) → gI σ9 j k = gI τ j k := by
            intro j k nz
            rw [e9, gI_sI, if_neg nz, e7', gI_sI, if_neg nz, e4, gI_sI, if_neg nz]
          have c7 : gI σ9 24 7 = nI p := by rw [up 24 7 (by omega)]; exact r7
          have v5 : vp_in (nI p) 5 := pk_in p 5 p5
          have fin : ∀ kc : Int32, kc = kcd r5' → (vp_in (gI σ9 24 7) 5 ∧ ∀ σ19 : XS, σ19 = sI σ9 27 (gI σ9 24 7).toNatClampNeg kc → (vp_in (gI σ19 24 7) 5 ∧ ∀ σ20 : XS, σ20 = sI σ19 28 (gI σ19 24 7).toNatClampNeg (nI v) → (∀ σ21 : XS, σ21 = sI σ20 24 7 ((gI σ20 24 7) + (1 : Int32)) → post (1 : Int32) σ21))) := by
            intro kc ekc
            rw [c7, nI_clamp (by omega)]
            refine ⟨v5, fun σ19 e19 => ?_⟩
            have c19 : gI σ19 24 7 = nI p := by rw [e19, gI_sIj _ _ (by decide)]; exact c7
            rw [c19, nI_clamp (by omega)]
            refine ⟨v5, fun σ20 e20 σ21 e21 => ?_⟩
            have c20 : gI σ20 24 7 = nI p := by rw [e20, gI_sIj _ _ (by decide)]; exact c19
            rw [c20, nI_1] at e21
            refine h1 σ21 ⟨?_, ?_, ?_, ?_, fun i hi => ?_⟩ p5 ho3 (by omega)
            · rw [e21, e20, e19]
              exact ((K9.tr (KK.I rfl)).tr (KK.I rfl)).tr (KK.I rfl)
            · rw [e21, gI_sIk _ _ (by decide), e20, gI_sIj _ _ (by decide), e19, gI_sIj _ _ (by decide), e9, gI_sIe]
              congr 1
              omega
            · rw [e21, gI_sIk _ _ (by decide), e20, gI_sIj _ _ (by decide), e19, gI_sIj _ _ (by decide), up 24 6 (by omega)]; exact r6
            · rw [e21, gI_sIe]
            · rw [e21, gI_sIj _ _ (by decide), gI_sIj _ _ (by decide), e20, gI_sIj _ _ (by decide), gI_upd, e19, gI_upd, gI_sIj _ _ (by decide), up 27 i (by omega), up 28 i (by omega)]
              by_cases ei : i = p
              · rw [if_pos ei, if_pos ei, ei, ekc, show 3 * p + 3 = 3 + 3 * p by omega, kN.2, show 3 * p + 4 = 4 + 3 * p by omega, fv, show (48 : Int32) = nI 48 from rfl, pk_sub (by omega), show 48 + v - 48 = v by omega]
                exact ⟨rfl, rfl⟩
              · rw [if_neg ei, if_neg ei]; exact rr i (by omega)
          refine ⟨fun _ => ⟨fun q => fin 0 (by rw [q]; rfl), fun q => ⟨fun q2 => fin 1 (by rw [q2]; rfl), fun q2 => fin 2 ?_⟩⟩, fun w => absurd (nI_pos' (by omega)) w⟩
          unfold kcd
          rw [if_neg q, if_neg q2]
        · refine ⟨fun w => absurd w (by decide), fun _ => bad (4 + 3 * p) _ (by omega) (by omega) ho2 (by omega) (fun hlt hg => ?_) (K7.tr (KK.I rfl)) (by rw [gI_sIe])⟩
          obtain ⟨v, a1, a2, a3⟩ := (gO_c p5 _).mp hg
          exact hno hlt (v - 48) (by omega) (by omega) (by rw [show 48 + (v - 48) = v by omega]; exact a3)
      refine ⟨fun c2 => body _ rfl (Or.inl c2), fun c2 => ⟨fun c3 => body _ rfl (Or.inr (Or.inl c3)), fun c3 => ⟨fun c4 => body _ rfl (Or.inr (Or.inr c4)), fun c4 => ?_⟩⟩⟩
      refine bad (3 + 3 * p) σ4 (by omega) (by omega) ho1 (by omega) (fun hlt hg => ?_) K4 s5
      unfold cA at c2 c3 c4
      rw [if_pos hlt] at c2 c3 c4
      rcases (gO_b p5 _).mp hg with w | w | w
      · exact c2 w
      · exact c3 w
      · exact c4 w
    · refine bad (2 + 3 * p) τ (by omega) (by omega) ho hle (fun hlt hg => ?_) K0 r5
      unfold cA at c1
      rw [if_pos hlt] at c1
      exact c1 ((gO_a p5 _).mp hg)
theorem readsL {τ0 : XS} {f : Nat → Int32} {b N K : Nat} {post : Int32 → XS → Prop} {kx : Int32 → XS → Prop} (hN : N ≤ 60) (hb : b + N ≤ 240) (hf : ∀ k, k < N → gI τ0 48 (b + k) = f k) (h1 : ∀ p τ', SS f N → N = 2 + 3 * p → p ≤ 5 → RdI f K τ0 p τ' → kx 1 τ') (h0 : ∀ w τ', FF f N w → KK rw5 τ0 τ' → gI τ' 24 5 = nI w → kx 0 τ') : ∀ (n p : Nat) (τ : XS), p ≤ 5 → 7 < p + n → RdI f K τ0 p τ → okT f (2 + 3 * p) → 2 + 3 * p ≤ N → LX8_readsHall_80 (nI b) (nI N) post kx n 1 τ := by
  intro n
  induction n with
  | zero => intro p τ hp h2; omega
  | succ n ih =>
    intro p τ hp h2 h ho hle
    obtain ⟨n', rfl⟩ : ∃ n', n = n' + 1 := ⟨n - 1, by omega⟩
    rw [LX8_readsHall_80]
    have e7 : (gI τ 24 7 = 0) ↔ p = 0 := by rw [h.2.2.2.1]; exact nI_eq (b := 0) (by omega) (by decide)
    have e5 : nI N ≤ gI τ 24 5 ↔ N ≤ 2 + 3 * p := by rw [h.2.1, nI_leI (by omega) (by omega)]
    rw [e7, e5]
    have good : ∀ τ', RdI f K τ0 (p + 1) τ' → p < 5 → okT f (5 + 3 * p) → 5 + 3 * p ≤ N → LX8_readsHall_80 (nI b) (nI N) post kx (n' + 1) 1 τ' := by
      intro τ' h' p5 ho' hle'
      exact ih (p + 1) τ' (by omega) (by omega) h' (by rw [show 2 + 3 * (p + 1) = 5 + 3 * p by omega]; exact ho') (by omega)
    have bad : ∀ w τ', FF f N w → KK rw5 τ0 τ' → gI τ' 24 5 = nI w → LX8_readsHall_80 (nI b) (nI N) post kx (n' + 1) 0 τ' := by
      intro w τ' hF K' e'
      rw [LX8_readsHall_80]
      exact ⟨fun _ => h0 w τ' hF K' e', fun z => absurd rfl z⟩
    refine ⟨fun z => absurd z (by decide), fun _ => ⟨fun z => ?_, fun z => ⟨fun z2 => ?_, fun z2 => ?_⟩⟩⟩
    · refine wPerson hN hb hf hp h ho hle (fun e => by omega) ?_ good bad
      by_cases q : 2 + 3 * p < N
      · exact Or.inr q
      · exact Or.inl (fun w => by omega)
    · have eN : N = 2 + 3 * p := by omega
      refine h1 p τ ⟨by rw [eN]; exact ho, by omega, by omega⟩ eN hp h
    · exact wPerson hN hb hf hp h ho hle (fun e => by omega) (Or.inr (by omega)) good bad
theorem wReads {τ0 : XS} {f : Nat → Int32} {b N : Nat} {post : Int32 → XS → Prop} (hN : N ≤ 60) (hb : b + N ≤ 240) (hf : ∀ k, k < N → gI τ0 48 (b + k) = f k) (h1 : ∀ K p τ', SS f N → N = 2 + 3 * p → p ≤ 5 → 2 ≤ K → K ≤ 6 → f 1 = nI (48 + K) → RdI f K τ0 p τ' → post 1 τ') (h0 : ∀ w τ', FF f N w → KK rw5 τ0 τ' → gI τ' 24 5 = nI w → post 0 τ') : PX8_readsHall (nI b) (nI N) τ0 post := by
  unfold PX8_readsHall
  intro σ1 e1 σ2 e2
  have K2 : KK rw5 τ0 σ2 := by rw [e2, e1]; exact (KK.I rfl).tr (KK.I rfl)
  have r5 : gI σ2 24 5 = nI 0 := by rw [e2, gI_sIk _ _ (by decide), e1, gI_sIe]; rfl
  have r7 : gI σ2 24 7 = nI 0 := by rw [e2, gI_sIe]; rfl
  have hfk : ∀ σ', KK rw5 τ0 σ' → ∀ k, k < N → gI σ' 48 (b + k) = f k := fun σ' K' k hk => by rw [K'.1 48 _ rfl]; exact hf k hk
  have bad : ∀ w τ', FF f N w → KK rw5 τ0 τ' → gI τ' 24 5 = nI w → ∀ q : Int32 → XS → Prop, (∀ σ', post 0 σ' → q 0 σ') → q 0 τ' := fun w τ' hF K' e' q hq => hq _ (h0 w τ' hF K' e')
  refine wCodeAt r5 (by omega) hN hb (hfk σ2 K2) ⟨fun c1 => ⟨fun z => absurd z (by decide), fun _ σ62 e62 => ⟨fun z => absurd z (by decide), fun _ => ?_⟩⟩, fun c1 => ⟨fun _ σ6 e6 => ⟨fun _ σ8 e8 => ?_, fun z => absurd rfl z⟩, fun z => absurd rfl z⟩⟩
  · obtain ⟨k0, f0⟩ := cA_no (v := 104) (by decide) c1
    rw [r5, nI_1] at e62
    have K62 : KK rw5 τ0 σ62 := K2.tr (by rw [e62]; exact KK.I rfl)
    have s5 : gI σ62 24 5 = nI 1 := by rw [e62, gI_sIe]
    have ho1 : okT f 1 := okT_s (m := 0) (fun i hi => by omega) ((gO_0 _).mpr f0)
    refine wFigure (lo := 2) (hi := 6) s5 (by decide) hN hb (hfk σ62 K62) (by decide) (by decide) (fun v v2 v6 k1 fv => ?_) (fun hno => ?_)
    · intro σ72 e72
      have s6 : gI σ72 24 6 = nI v := by rw [e72, gI_sIe]
      have K72 : KK rw5 τ0 σ72 := K62.tr (by rw [e72]; exact (KK.I rfl).tr (KK.I rfl))
      have ho2 : okT f 2 := okT_s ho1 ((gO_1 _).mpr ⟨48 + v, by omega, by omega, fv⟩)
      rw [s6]
      refine ⟨fun z => absurd z (nI_nle (by omega) (by omega)), fun _ => ?_⟩
      refine readsL hN hb hf (fun p τ' hS eN hp hR => ⟨rfl, h1 v p τ' hS eN hp v2 v6 fv hR⟩) (fun w τ' hF K' e' => ⟨rfl, h0 w τ' hF K' e'⟩) 1000 0 σ72 (by omega) (by omega) ⟨K72, ?_, s6, ?_, fun i hi => by omega⟩ ho2 (by omega)
      · rw [e72, gI_sIk _ _ (by decide), gI_sIe]
      · rw [e72, gI_sIk _ _ (by decide), gI_sIk _ _ (by decide), e62, gI_sIk _ _ (by decide)]; exact r7
    · intro σ72 e72
      have s6 : gI σ72 24 6 = -9 := by rw [e72, gI_sIe]
      have K72 : KK rw5 τ0 σ72 := K62.tr (by rw [e72]; exact (KK.I rfl).tr (KK.I rfl))
      rw [s6]
      refine ⟨fun _ => ?_, fun z => absurd (by decide) z⟩
      rw [LX8_readsHall_80]
      refine ⟨fun _ => ⟨rfl, h0 1 σ72 ⟨by omega, ho1, fun hlt hg => ?_, fun e => fun w => by omega⟩ K72 (by rw [e72, gI_sIk _ _ (by decide), gI_sIe])⟩, fun z => absurd rfl z⟩
      obtain ⟨v, a1, a2, a3⟩ := (gO_1 _).mp hg
      exact hno hlt (v - 48) (by omega) (by omega) (by rw [show 48 + (v - 48) = v by omega]; exact a3)
  · rw [r5, show (0 : Int32) = nI 0 from rfl, nI_add] at e6
    have K8 : KK rw5 τ0 σ8 := K2.tr (by rw [e8, e6]; exact (KK.I rfl).tr (KK.I rfl))
    have s6 : gI σ8 24 6 = -9 := by rw [e8, gI_sIe]
    rw [s6]
    refine ⟨fun _ => ?_, fun z => absurd (by decide) z⟩
    rw [LX8_readsHall_80]
    refine ⟨fun _ => ⟨rfl, h0 0 σ8 ⟨by omega, fun i hi => by omega, fun hlt hg => ?_, fun e => fun w => by omega⟩ K8 (by rw [e8, gI_sIk _ _ (by decide), e6, gI_sIe])⟩, fun z => absurd rfl z⟩
    unfold cA at c1
    rw [if_pos hlt] at c1
    exact c1 ((gO_0 _).mp hg)
