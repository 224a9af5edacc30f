/-! ===== hall: a new hall ===== -/
def OpI (f : Nat → Int32) (τb : XS) (p : Nat) (σ : XS) : Prop := (∀ j k, ¬ (j = 0 ∧ k = 6) → gI σ j k = gI τb j k) ∧ gI σ 0 6 = nI p ∧ ∀ i, i < p → ∃ a, gP σ i = some a ∧ isPe σ a ∧ kd (gK σ a) = kcd (f (3 * i + 3)) ∧ gV σ a = f (3 * i + 4) - 48
theorem openL {τb : XS} {f : Nat → Int32} {u j N P L : Nat} (hu : u ≠ 0) (hL : gI τb u 1 = nI L) (h60 : L ≤ 60) (hN : j + N ≤ L) (eN : N = 2 + 3 * P) (hP : P ≤ 5) (hf : ∀ k, k < N → gI τb (u + 1) (j + k) = f k) (ho : okT f N) {post : XS → Prop} {kx : Int32 → XS → Prop} (hk : ∀ x σ', OpI f τb P σ' → kx x σ') : ∀ (n p : Nat) (σ : XS), p ≤ P → P < p + n → OpI f τb p σ → LX7_open_34 u (nI j) (nI N) post kx n (nI (2 + 3 * p)) σ := by
  intro n
  induction n with
  | zero => intro p σ h1 h2; omega
  | succ n ih =>
    intro p σ h1 h2 hI
    obtain ⟨g, e6, pe⟩ := id hI
    rw [LX7_open_34, nI_leI (by omega) (by omega), e6, show (5 : Int32) = nI 5 from rfl, nI_leI (by decide) (by omega), nI_add, nI_1, nI_2]
    refine ⟨fun z => ?_, fun z => ⟨fun z2 => by omega, fun z2 => ?_⟩⟩
    · obtain rfl : p = P := by omega
      exact hk _ σ hI
    · have hp : p < P := by omega
      have hLσ : gI σ u 1 = nI L := by rw [g u 1 (fun w => hu w.1)]; exact hL
      have rd : ∀ k, k < N → gI σ (u + 1) (j + k) = f k := fun k hk => by rw [g (u + 1) (j + k) (fun w => by omega)]; exact hf k hk
      refine wRead hLσ h60 rfl (by omega) (wRead hLσ h60 rfl (by omega) (fun x9 e9 => ?_))
      rw [show j + (2 + 3 * p) + 2 = j + (3 * p + 4) by omega, rd (3 * p + 4) (by omega)] at e9
      rw [show j + (2 + 3 * p) + 1 = j + (3 * p + 3) by omega, rd (3 * p + 3) (by omega)]
      have made : ∀ c : Nat, (c = 4 ∨ c = 2 ∨ c = 0) → kd c = kcd (f (3 * p + 3)) → ∀ (b : Nat) (σ2 : XS), b ∉ gA σ → σ2 = sN σ b c → PX4_init b x9 σ2 (fun σ11 => (∃ w12, some b = some w12 ∧ (vp_in (nI p) 5 ∧ isPe σ11 w12 ∧ ∀ σ13 : XS, σ13 = sP σ11 (nI p).toNatClampNeg (some w12) → (∀ σ14 : XS, σ14 = sI σ13 0 6 ((gI σ13 0 6) + (1 : Int32)) → (∀ x15 : Int32, x15 = nI (2 + 3 * p) + 3 → LX7_open_34 u (nI j) (nI N) post kx n x15 σ14))))) := by
        intro c hc hkd b σ2 hb e2
        have pe2 : isPe σ2 b := by
          rw [e2]
          refine ⟨by rw [gA_sN]; exact List.mem_append_right _ (List.mem_singleton.mpr rfl), ?_⟩
          rw [gK_sN, if_pos rfl]; exact hc
        refine ⟨pe2, fun σ3 e3 => ⟨b, rfl, pk_in p 5 (by omega), ?_, fun σ13 e13 σ14 e14 x15 e15 => ?_⟩⟩
        · rw [e3]; exact pe2
        · rw [nI_clamp (by omega)] at e13
          have c13 : gI σ13 0 6 = nI p := by rw [e13, e3, e2]; exact e6
          rw [c13, nI_1] at e14
          rw [e15, nI_3, show 2 + 3 * p + 3 = 2 + 3 * (p + 1) by omega]
          have eA : gA σ14 = gA σ ++ [b] := by rw [e14, e13, e3, e2]; rfl
          have eK : ∀ a, gK σ14 a = if a = b then c else gK σ a := by
            intro a
            rw [e14, gK_sI, e13, gK_sP, e3, gK_sV, e2, gK_sN]
          have eV : ∀ a, gV σ14 a = if a = b then x9 else gV σ a := by
            intro a
            rw [e14, gV_sI, e13, gV_sP, e3, gV_sV, e2, gV_sN]
            by_cases z : a = b
            · rw [if_pos z, if_pos z]
            · rw [if_neg z, if_neg z, if_neg z]
          have eP : ∀ i, gP σ14 i = if i = p then some b else gP σ i := by
            intro i
            rw [e14, gP_sI, e13, gP_sP, e3, gP_sV, e2, gP_sN]
          refine ih (p + 1) σ14 (by omega) (by omega) ⟨fun j' k' nz => ?_, by rw [e14, gI_sIe], fun i hi => ?_⟩
          · rw [e14, gI_sI, if_neg nz, e13, e3, e2]
            exact g j' k' nz
          · by_cases ei : i = p
            · refine ⟨b, by rw [eP, if_pos ei], ⟨by rw [eA]; exact List.mem_append_right _ (List.mem_singleton.mpr rfl), by rw [eK, if_pos rfl]; exact hc⟩, ?_, ?_⟩
              · rw [eK, if_pos rfl, ei]; exact hkd
              · rw [eV, if_pos rfl, ei]; exact e9
            · obtain ⟨a, q1, q2, q3, q4⟩ := pe i (by omega)
              have nab : ¬ a = b := fun z => hb (by rw [← z]; exact q2.1)
              refine ⟨a, by rw [eP, if_neg ei]; exact q1, ⟨by rw [eA]; exact List.mem_append_left _ q2.1, by rw [eK, if_neg nab]; exact q2.2⟩, ?_, ?_⟩
              · rw [eK, if_neg nab]; exact q3
              · rw [eV, if_neg nab]; exact q4
      have code := (gO_b (p := p) (by omega) _).mp (ho (3 + 3 * p) (by omega))
      rw [show 3 + 3 * p = 3 * p + 3 by omega] at code
      unfold PX7_personBy
      refine ⟨fun q b σ2 hb e2 => ?_, fun q b σ2 hb e2 => ?_, fun q q2 b σ2 hb e2 => ?_⟩
      · exact made 0 (Or.inr (Or.inr rfl)) (by rw [q]; rfl) b σ2 hb e2
      · exact made 2 (Or.inr (Or.inl rfl)) (by rw [q]; rfl) b σ2 hb e2
      · refine made 4 (Or.inl rfl) ?_ b σ2 hb e2
        rcases code with w | w | w
        · rw [w]; rfl
        · exact absurd w q2
        · exact absurd w q
def hw0 (j k : Nat) : Bool := (j == 5 || (j == 25 || (j == 26 || (j == 27 || (j == 28 || ((j == 4 && k == 6) || ((j == 0 && (k == 6 || (k == 7 || k == 8))) || (j == 24 && (k == 0 || (k == 1 || (k == 2 || (k == 5 || (k == 6 || (k == 7 || (k == 10 || (k == 14 || (k == 18 || k == 30)))))))))))))))))
theorem shw_hw (j : Nat) (h : shw j = true) (k : Nat) : hw0 j k = false := by
  unfold shw at h
  simp only [Bool.or_eq_true, beq_iff_eq] at h
  rcases h with rfl | rfl | rfl | rfl | rfl | rfl | rfl | rfl | rfl | rfl | rfl <;> rfl
theorem hw0_g {j k : Nat} (h : hw0 j k = false) : ¬ j = 5 ∧ ¬ (j = 4 ∧ k = 6) ∧ ¬ (j = 0 ∧ (k = 6 ∨ k = 7)) ∧ ¬ (j = 0 ∧ k = 8) ∧ rw5 j k = false := by
  refine ⟨fun e => ?_, fun e => ?_, fun e => ?_, fun e => ?_, ?_⟩
  · rw [e] at h; cases h
  · rw [e.1, e.2] at h; cases h
  · rcases e.2 with e2 | e2 <;> (rw [e.1, e2] at h; cases h)
  · rw [e.1, e.2] at h; cases h
  · cases z : rw5 j k with
    | false => rfl
    | true =>
      exfalso
      unfold rw5 at z
      simp only [Bool.or_eq_true, Bool.and_eq_true, beq_iff_eq] at z
      rcases z with z | z | ⟨z, z2 | z2 | z2⟩
      · rw [z] at h; cases h
      · rw [z] at h; cases h
      · rw [z, z2] at h; cases h
      · rw [z, z2] at h; cases h
      · rw [z, z2] at h; cases h
theorem Gd.hall {σ ρ : XS} (h : Gd σ) {P K : Nat} (hP : 1 ≤ P) (hP5 : P ≤ 5) (hK : 2 ≤ K) (hK6 : K ≤ 6) (S : ∀ j k, hw0 j k = false → gI ρ j k = gI σ j k) (e06 : gI ρ 0 6 = nI P) (e07 : gI ρ 0 7 = nI K) (e08 : gI ρ 0 8 = 0) (e46 : gI ρ 4 6 = 0) (e5 : ∀ k, k < 4 → gI ρ 5 k = 0) (m0 : gI ρ 24 0 = 0) (m1 : gI ρ 24 1 = nI K) (m2 : gI ρ 24 2 = nI P) (m10 : gI ρ 24 10 = 0) (m14 : gI ρ 24 14 = 0) (m18 : gI ρ 24 18 = 0) (m30 : gI ρ 24 30 = 0) (hC : ∀ i, i < P → ∃ a, gP ρ i = some a ∧ isPe ρ a ∧ gI ρ 25 i = kd (gK ρ a) ∧ gI ρ 26 i = gV ρ a ∧ vp_in (gV ρ a) 4) : Gd ρ := by
  have z0 : (0 : Int32).toNatClampNeg = 0 := by decide
  have v10 : vN ρ 24 10 = 0 := by unfold vN; rw [m10]; exact z0
  have v14 : vN ρ 24 14 = 0 := by unfold vN; rw [m14]; exact z0
  have v18 : vN ρ 24 18 = 0 := by unfold vN; rw [m18]; exact z0
  have v30 : vN ρ 24 30 = 0 := by unfold vN; rw [m30]; exact z0
  have v2 : vN ρ 24 2 = P := by unfold vN; rw [m2, nI_clamp (by omega)]
  have vt : tot ρ = 0 := by unfold tot vN; rw [e46]; exact z0
  have i0 : ∀ n, 0 < n → n < 100 → vp_in (0 : Int32) n := fun n h1 h2 => vp_in_nI (n := 0) h1 (by omega)
  refine ⟨?_, ?_, ?_, ?_, ?_, ?_, ?_, ?_, ?_, ?_⟩
  · refine ⟨by rw [e06, m2], by rw [e07, m1], by rw [e08, m0], ?_, ?_, ?_, ?_⟩
    · rw [S 15 0 rfl, S 24 41 rfl]; exact h.1.2.2.2.1
    · rw [S 24 21 rfl]; exact h.1.2.2.2.2.1
    · rw [S 24 22 rfl]; exact h.1.2.2.2.2.2.1
    · rw [S 24 25 rfl]; exact h.1.2.2.2.2.2.2
  · refine ⟨by rw [m2]; exact pk_in P 6 (by omega), by rw [m1]; exact pk_in K 7 (by omega), by rw [m10]; exact i0 25 (by decide) (by decide), by rw [m14]; exact i0 7 (by decide) (by decide), by rw [m18]; exact i0 7 (by decide) (by decide), by rw [m30]; exact i0 9 (by decide) (by decide), by rw [e5 0 (by decide), m18], by rw [e5 1 (by decide), m14], by rw [e5 2 (by decide), m10], by rw [e5 3 (by decide), m30], ?_⟩
    rw [m1, m2]
    exact ⟨fun w => absurd w (nI_ne0 (by omega) (by omega)), fun w => absurd w (nI_ne0 (by omega) (by omega))⟩
  · intro p hp
    rw [v2] at hp
    exact hC p hp
  · intro k hk; rw [v10] at hk; omega
  · intro k hk; rw [v14] at hk; omega
  · intro k hk; rw [v18] at hk; omega
  · intro k hk; rw [v30] at hk; omega
  · intro j k hk; rw [v10] at hk; omega
  · refine ⟨by rw [vt, e46]; rfl, fun i hi => ?_, fun i j _ hj => ?_, fun s hs => ?_⟩
    · rw [vt] at hi; omega
    · rw [vt] at hj; omega
    · unfold live at hs
      rw [v10, v14, v18, v30] at hs
      omega
  · exact h.sh.z (fun j k hs => S j k (shw_hw j hs k))
def rw26 (j _k : Nat) : Bool := (j == 25 || j == 26)
theorem hallL {τ0 : XS} {P : Nat} {f1 f2 f3 f4 f5 : Int32} (h2 : gI τ0 24 2 = nI P) (hP : P ≤ 5) {post : Int32 → XS → Prop} {kx : Int32 → XS → Prop} (hk : ∀ x τ, KK rw26 τ0 τ → (∀ i, i < P → gI τ 25 i = gI τ0 27 i ∧ gI τ 26 i = gI τ0 28 i) → kx x τ) : ∀ (n m : Nat) (τ : XS), m ≤ P → P < m + n → KK rw26 τ0 τ → (∀ i, i < m → gI τ 25 i = gI τ0 27 i ∧ gI τ 26 i = gI τ0 28 i) → LX8_hall_98 f1 f2 f3 f4 f5 post kx n (nI m) τ := by
  intro n
  induction n with
  | zero => intro m τ h1 h3; omega
  | succ n ih =>
    intro m τ h1 h3 K hi
    rw [LX8_hall_98, K.1 24 2 rfl, h2, nI_leI (by omega) (by omega)]
    refine ⟨fun z => ?_, fun z => ?_⟩
    · obtain rfl : m = P := by omega
      exact hk _ τ K hi
    · have v5 : vp_in (nI m) 5 := pk_in m 5 (by omega)
      rw [nI_clamp (by omega)]
      refine ⟨v5, v5, fun σ14 e14 => ⟨v5, v5, fun σ15 e15 x ex => ?_⟩⟩
      rw [K.1 27 m rfl] at e14
      have e28 : gI σ14 28 m = gI τ0 28 m := by rw [e14, gI_sIj _ _ (by decide)]; exact K.1 28 m rfl
      rw [e28] at e15
      rw [ex, nI_1]
      refine ih (m + 1) σ15 (by omega) (by omega) (K.tr (by rw [e15, e14]; exact (KK.I rfl).tr (KK.I rfl))) (fun i hi' => ?_)
      rw [e15, gI_sIj _ _ (by decide), gI_upd, e14, gI_upd, gI_sIj _ _ (by decide)]
      by_cases ei : i = m
      · rw [if_pos ei, if_pos ei, ei]; exact ⟨rfl, rfl⟩
      · rw [if_neg ei, if_neg ei]; exact hi i (by omega)
theorem rw5_ks {σ σ' : XS} (K : KK rw5 σ σ') : Ks σ σ' := by
  refine ⟨fun j k hs => K.1 j k ?_, by rw [K.2]⟩
  cases z : rw5 j k with
  | false => rfl
  | true =>
    exfalso
    unfold rw5 at z
    simp only [Bool.or_eq_true, Bool.and_eq_true, beq_iff_eq] at z
    rcases z with rfl | rfl | ⟨rfl, rfl | rfl | rfl⟩ <;> cases hs
theorem wOpen {σ : XS} {f : Nat → Int32} {u j N P K L : Nat} (hu : 16 ≤ u) (hL : gI σ u 1 = nI L) (h60 : L ≤ 60) (hN : j + N ≤ L) (eN : N = 2 + 3 * P) (hP1 : 1 ≤ P) (hP : P ≤ 5) (hK2 : 2 ≤ K) (hK6 : K ≤ 6) (hf : ∀ k, k < N → gI σ (u + 1) (j + k) = f k) (hfk : f 1 = nI (48 + K)) (ho : okT f N) {post : XS → Prop} (h : ∀ τ, (∀ j k, ¬ j = 5 → ¬ (j = 4 ∧ k = 6) → ¬ (j = 0 ∧ (k = 6 ∨ k = 7)) → gI τ j k = gI σ j k) → (∀ k, k < 4 → gI τ 5 k = 0) → gI τ 4 6 = 0 → gI τ 0 7 = nI K → gI τ 0 6 = nI P → (∀ i, i < P → ∃ a, gP τ i = some a ∧ isPe τ a ∧ kd (gK τ a) = kcd (f (3 * i + 3)) ∧ gV τ a = f (3 * i + 4) - 48) → post τ) : PX7_open u (nI j) (nI N) σ post := by
  unfold PX7_open PX5_clear
  refine wFill (by decide) (fun σ1 e1 => ?_)
  have g1 : ∀ j k, ¬ j = 5 → ¬ (j = 4 ∧ k = 6) → gI σ1 j k = gI σ j k := by
    intro j' k' n1 n2
    rw [e1, gI_sI, if_neg n2, gI_row' _ _ n1]
  have hL1 : gI σ1 u 1 = nI L := by rw [g1 u 1 (by omega) (by omega)]; exact hL
  rw [nI_1]
  refine wRead hL1 h60 rfl (by omega) (fun σ3 e3 σ4 e4 => ?_)
  rw [g1 (u + 1) (j + 1) (by omega) (by omega), hf 1 (by omega), hfk, show (48 : Int32) = nI 48 from rfl, pk_sub (by omega), show 48 + K - 48 = K by omega] at e3
  have e3' : σ3 = sI σ1 0 7 (nI K) := by
    rw [e3, if_neg (fun z => by rw [show (6 : Int32) = nI 6 from rfl, nI_ltI (by decide) (by omega)] at z; omega)]
  have g4 : ∀ j k, ¬ (j = 0 ∧ (k = 6 ∨ k = 7)) → gI σ4 j k = gI σ1 j k := by
    intro j' k' nz
    rw [e4, gI_sI, if_neg (fun w => nz ⟨w.1, Or.inl w.2⟩), e3', gI_sI, if_neg (fun w => nz ⟨w.1, Or.inr w.2⟩)]
  have hL4 : gI σ4 u 1 = nI L := by rw [g4 u 1 (fun w => by omega)]; exact hL1
  refine openL (τb := σ4) (P := P) (f := f) (by omega) hL4 h60 hN eN hP (fun k hk => ?_) ho (fun x σ' hI => ?_) 1000 0 σ4 (by omega) (by omega) ⟨fun _ _ _ => rfl, by rw [e4, gI_sIe]; rfl, fun i hi => by omega⟩
  · rw [g4 (u + 1) (j + k) (fun w => by omega), g1 (u + 1) (j + k) (by omega) (by omega)]; exact hf k hk
  · obtain ⟨g, e6, pe⟩ := hI
    refine h σ' (fun j' k' n1 n2 n3 => ?_) (fun k hk => ?_) ?_ ?_ e6 pe
    · rw [g j' k' (fun w => n3 ⟨w.1, Or.inl w.2⟩), g4 j' k' n3, g1 j' k' n1 n2]
    · rw [g 5 k (fun w => by omega), g4 5 k (fun w => by omega), e1, gI_sIj _ _ (by decide), gI_row, if_pos hk]
    · rw [g 4 6 (fun w => by omega), g4 4 6 (fun w => by omega), e1, gI_sIe]
    · rw [g 0 7 (fun w => by omega), e4, gI_sIk _ _ (by decide), e3', gI_sIe]
theorem st0 {σ : XS} (h : Gd σ) : S0 Gd σ := by
  intro a1 a2 a3 a4
  unfold PX7_hall
  intro σ1 e1
  have hS1 : GS σ1 := h.sh.z (by rw [e1]; exact shw_I rfl)
  refine wX7_sheetOf (fun i hi ei => ⟨nofun, fun u hu => ?_⟩) (fun q => ⟨fun _ => ?_, nofun⟩)
  · cases hu
    have q : vp_in a1 4 := by rw [ei]; exact vp_in_nI hi (by decide)
    have ea : a1.toNatClampNeg = i := by rw [ei, nI_clamp (by omega)]
    refine ⟨isSh_at i hi, ?_⟩
    refine wX7_isLane (fun hl => ⟨fun w => absurd w (by decide), fun _ => ?_⟩) (fun hl => ⟨fun _ => ?_, fun w => absurd rfl w⟩)
    · have hbar : ∀ (σ2 : XS) (P : Int32 → XS → Prop), PX8_cellsBarred a1 a2 a3 a4.toInt64 σ2 (fun r5 σ6 => ((0 ≤ r5 → (PX8_readsHall (((60 : Int32) * a1) + a3) a4 σ6 (fun r8 σ9 => ((r8 = 0 → (PX8_refused ((-100 : Int32) - (gI σ9 24 5)) σ9 (fun r25 σ26 => P r25 σ26))) ∧ (¬ r8 = 0 → (∀ σ11 : XS, σ11 = sI σ9 24 1 (gI σ9 24 6) → (∀ σ12 : XS, σ12 = sI σ11 24 2 (gI σ11 24 7) → LX8_hall_98 a1 a2 a3 a4 r5 P (fun x17 σ18 => (∀ σ19 : XS, σ19 = sI σ18 24 10 (0 : Int32) → (∀ σ20 : XS, σ20 = sI σ19 24 14 (0 : Int32) → (∀ σ21 : XS, σ21 = sI σ20 24 18 (0 : Int32) → (∀ σ22 : XS, σ22 = sI σ21 24 30 (0 : Int32) → (PX8_refused (gI σ22 24 2) σ22 (fun r23 σ24 => P r23 σ24))))))) 1000 (0 : Int32) σ12))))))) ∧ (¬ 0 ≤ r5 → P r5 σ6))) → PX8_hall a1 a2 a3 a4 σ2 P := by
        intro σ2 P hb
        unfold PX8_hall
        refine wX8_noSheet (fun _ => ⟨fun _ => ?_, fun w => absurd rfl w⟩) (fun w => absurd q w)
        exact wIn (n := 3) (by decide) (fun _ => ⟨fun w => absurd w (by decide), fun _ => hb⟩) (fun w => absurd hl w)
      have hfail : ∀ (f : Int32), ¬ 0 ≤ (-10 : Int32) - f → ∀ σ2 : XS, σ2 = sI σ1 0 8 f → (∀ P : Int32 → XS → Prop, PX8_failed f σ2 P → PX8_cellsBarred a1 a2 a3 a4.toInt64 σ2 P) → PX8_hall a1 a2 a3 a4 σ2 (fun r2 σ3 => (-10 : Int32) - f = r2 ∧ Gd σ3) := by
        intro f hf0 σ2 e2 hb
        refine hbar σ2 _ (hb _ ?_)
        intro σ3 e3
        refine ⟨fun w => absurd w hf0, fun _ => ⟨rfl, ?_⟩⟩
        rw [e3, e2, e1]; exact fin2 h _ _
      rcases hS1 i hi with ⟨z1, z2, z3⟩ | ⟨z1, z2, z3, z4, z5⟩
      · refine wFaultAs (fun _ => ⟨fun w => absurd w (by decide), fun _ => wFaultAs (fun _ => ?_) (fun w => absurd z1 w) (fun w => absurd z1 w)⟩) (fun w => absurd z1 w) (fun w => absurd z1 w)
        intro σ2 e2
        refine hfail 1 (by decide) σ2 e2 (fun P hP => wBarred0 q ea ?_ hP)
        rw [e2, gI_sIj _ _ (by decide)]; exact z3
      · obtain ⟨L, hL, eL⟩ := vp_in_of z2 (by decide)
        have r46 : ∀ σ2 : XS, ∀ f, σ2 = sI σ1 0 8 f → gI σ2 46 i = nI L ∧ gI σ2 47 i = gI σ1 (16 + 2 * i) 2 := by
          intro σ2 f e2
          rw [e2, gI_sIj _ _ (by decide), gI_sIj _ _ (by decide), z3, z4]
          exact ⟨eL, rfl⟩
        refine wFaultAs (fun w => absurd w (lane_ne z1)) (fun _ hne => ⟨fun w => absurd w (by decide), fun _ => wFaultAs (fun w => absurd w (lane_ne z1)) (fun _ _ => ?_) (fun _ w => absurd w hne)⟩) (fun _ hne => ⟨fun _ => ⟨fun hn0 => ?_, fun hn0 => ?_⟩, fun w => absurd rfl w⟩)
        · intro σ2 e2
          refine hfail 2 (by decide) σ2 e2 (fun P hP => ?_)
          obtain ⟨r1, r2⟩ := r46 σ2 _ e2
          exact wBarred q ea r1 (by omega) (fun _ => hP) (fun w => absurd (r2.symm.trans w) hne) (fun _ _ w => absurd (r2.symm.trans w) hne) (fun w => absurd (r2.symm.trans w) hne)
        · refine wReaches eL (by omega) (fun j N ej em hle => ⟨fun w => absurd w (by decide), fun _ => ?_⟩) (fun hno => ⟨fun _ => ?_, fun w => absurd rfl w⟩)
          · have hvL : vN σ1 46 i = L := by unfold vN; rw [z3, eL, nI_clamp (by omega)]
            have hu : 16 + 2 * i + 1 = 17 + 2 * i := by omega
            obtain ⟨f, ef⟩ : ∃ f : Nat → Int32, f = fun k => gI σ1 (17 + 2 * i) (j + k) := ⟨_, rfl⟩
            have hf : ∀ k, k < N → gI σ1 48 (60 * i + j + k) = f k := by
              intro k hk
              rw [Nat.add_assoc, ef]
              exact z5 (j + k) (by omega)
            have hf1 : ∀ k, gI σ1 (16 + 2 * i + 1) (j + k) = f k := by
              intro k
              rw [hu, ef]
            -- the reference from a state that keeps the sheets
            have hM : ∀ (σ2 : XS) (P : Int32 → XS → Prop), (∀ j k, shw j = true → gI σ2 j k = gI σ1 j k) → (∀ w τ', FF f N w → KK rw5 σ2 τ' → PX8_refused ((-100 : Int32) - nI w) τ' P) → (∀ K p τ', SS f N → N = 2 + 3 * p → p ≤ 5 → 2 ≤ K → K ≤ 6 → f 1 = nI (48 + K) → RdI f K σ2 p τ' → ∀ ρ, ((∀ j k, hw0 j k = false → gI ρ j k = gI τ' j k) ∧ ρ.2 = τ'.2 ∧ (∀ j k, j = 0 ∨ j = 4 ∨ j = 5 → gI ρ j k = gI τ' j k) ∧ gI ρ 24 0 = 0 ∧ gI ρ 24 1 = nI K ∧ gI ρ 24 2 = nI p ∧ gI ρ 24 10 = 0 ∧ gI ρ 24 14 = 0 ∧ gI ρ 24 18 = 0 ∧ gI ρ 24 30 = 0 ∧ (∀ i, i < p → gI ρ 25 i = gI τ' 27 i ∧ gI ρ 26 i = gI τ' 28 i)) → P (nI p) ρ) → PX8_hall a1 a2 a3 a4 σ2 P := by
              intro σ2 P hsh hF hS
              refine hbar σ2 P ?_
              have t46 : gI σ2 46 i = nI L := by rw [hsh 46 i rfl, z3]; exact eL
              have t47 : gI σ2 47 i = a2 := by rw [hsh 47 i rfl, z4]; exact hne
              refine wBarred q ea t46 (by omega) (fun w => absurd t47 w) (fun _ w => absurd hn0 w) (fun i' m' _ e1 e2 e3 => ⟨fun _ => ?_, fun w => absurd (by decide) w⟩) (fun _ _ w => absurd hle (w j N ej em))
              rw [ei, ej, show (60 : Int32) * nI i + nI j = nI (60 * i + j) by rw [show (60 : Int32) = nI 60 from rfl, pk_mul, nI_add], em]
              refine wReads (f := f) (by omega) (by omega) (fun k hk => by rw [hsh 48 _ rfl]; exact hf k hk) (fun K p τ' s1 s2 s3 s4 s5 s6 hR => ⟨fun w => absurd w (by decide), fun _ σ11 e11 σ12 e12 => ?_⟩) (fun w τ' hw K' e' => ⟨fun _ => by rw [e']; exact hF w τ' hw K', fun w => absurd rfl w⟩)
              have cont := hS K p τ' s1 s2 s3 s4 s5 s6 hR
              obtain ⟨K0, r5, r6, r7, rr⟩ := hR
              rw [r6] at e11
              have q7 : gI σ11 24 7 = nI p := by rw [e11, gI_sIk _ _ (by decide)]; exact r7
              rw [q7] at e12
              have c2 : gI σ12 24 2 = nI p := by rw [e12, gI_sIe]
              have g12 : ∀ j k, ¬ (j = 24 ∧ (k = 1 ∨ k = 2)) → gI σ12 j k = gI τ' j k := by
                intro j' k' nz
                rw [e12, gI_sI, if_neg (fun w => nz ⟨w.1, Or.inr w.2⟩), e11, gI_sI, if_neg (fun w => nz ⟨w.1, Or.inl w.2⟩)]
              refine hallL c2 s3 (fun x σ18 K18 h18 σ19 e19 σ20 e20 σ21 e21 σ22 e22 ρ eρ => ?_) 1000 0 σ12 (by omega) (by omega) (KK.rf _) (fun i hi => by omega)
              have g22 : ∀ j k, ¬ (j = 24 ∧ (k = 10 ∨ k = 14 ∨ k = 18 ∨ k = 30)) → gI σ22 j k = gI σ18 j k := by
                intro j' k' nz
                rw [e22, gI_sI, if_neg (fun w => nz ⟨w.1, Or.inr (Or.inr (Or.inr w.2))⟩), e21, gI_sI, if_neg (fun w => nz ⟨w.1, Or.inr (Or.inr (Or.inl w.2))⟩), e20, gI_sI, if_neg (fun w => nz ⟨w.1, Or.inr (Or.inl w.2)⟩), e19, gI_sI, if_neg (fun w => nz ⟨w.1, Or.inl w.2⟩)]
              have c22 : gI σ22 24 2 = nI p := by rw [g22 24 2 (by omega), K18.1 24 2 rfl]; exact c2
              rw [c22]
              refine cont ρ ⟨fun j' k' nz => ?_, ?_, fun j' k' w => ?_, ?_, ?_, ?_, ?_, ?_, ?_, ?_, fun x hx => ?_⟩
              · have n24 : ∀ k, j' = 24 → k' = k → hw0 24 k = false := fun k w1 w2 => by rw [← w1, ← w2]; exact nz
                have b1 : ¬ (j' = 24 ∧ (k' = 10 ∨ k' = 14 ∨ k' = 18 ∨ k' = 30)) := by
                  rintro ⟨w1, w2 | w2 | w2 | w2⟩
                  · have := n24 10 w1 w2; cases this
                  · have := n24 14 w1 w2; cases this
                  · have := n24 18 w1 w2; cases this
                  · have := n24 30 w1 w2; cases this
                have b2 : ¬ (j' = 24 ∧ (k' = 1 ∨ k' = 2)) := by
                  rintro ⟨w1, w2 | w2⟩
                  · have := n24 1 w1 w2; cases this
                  · have := n24 2 w1 w2; cases this
                have b3 : rw26 j' k' = false := by
                  cases z : rw26 j' k' with
                  | false => rfl
                  | true =>
                    exfalso
                    unfold rw26 at z
                    simp only [Bool.or_eq_true, beq_iff_eq] at z
                    rcases z with z | z <;> (rw [z] at nz; cases nz)
                rw [eρ, gI_sI, if_neg (fun w => by have := n24 0 w.1 w.2; cases this), g22 j' k' b1, K18.1 j' k' b3, g12 j' k' b2]
              · rw [eρ, e22, e21, e20, e19]
                show σ18.2 = τ'.2
                rw [K18.2, e12, e11]; rfl
              · have n24 : ¬ j' = 24 := by omega
                have b3 : rw26 j' k' = false := by rcases w with w | w | w <;> rw [w] <;> rfl
                rw [eρ, gI_sIj _ _ n24, g22 j' k' (fun z => n24 z.1), K18.1 j' k' b3, g12 j' k' (fun z => n24 z.1)]
              · rw [eρ, gI_sIe]
              · rw [eρ, gI_sIk _ _ (by decide), g22 24 1 (by omega), K18.1 24 1 rfl, e12, gI_sIk _ _ (by decide), e11, gI_sIe]
              · rw [eρ, gI_sIk _ _ (by decide)]; exact c22
              · rw [eρ, gI_sIk _ _ (by decide), e22, gI_sIk _ _ (by decide), e21, gI_sIk _ _ (by decide), e20, gI_sIk _ _ (by decide), e19, gI_sIe]
              · rw [eρ, gI_sIk _ _ (by decide), e22, gI_sIk _ _ (by decide), e21, gI_sIk _ _ (by decide), e20, gI_sIe]
              · rw [eρ, gI_sIk _ _ (by decide), e22, gI_sIk _ _ (by decide), e21, gI_sIe]
              · rw [eρ, gI_sIk _ _ (by decide), e22, gI_sIe]
              · have := h18 x hx
                rw [g12 27 x (by omega), g12 28 x (by omega)] at this
                rw [eρ, gI_sIj _ _ (by decide), gI_sIj _ _ (by decide), g22 25 x (by omega), g22 26 x (by omega)]
                exact this
            rw [ej, em]
            have eff : (fun k => gI σ1 (16 + 2 * i + 1) (j + k)) = f := funext hf1
            refine wFirst eL (by omega) hle (fun hs => ⟨fun _ => ?_, fun w => absurd rfl w⟩) (fun w hw => ⟨fun z => absurd z (nI_ne9 (by have := hw.1; omega)), fun _ => ?_⟩)
            · rw [eff] at hs
              have N17 := hs.le
              obtain ⟨-, hs2, hs3⟩ := id hs
              obtain ⟨P, eP⟩ : ∃ P, P = (N - 2) / 3 := ⟨_, rfl⟩
              have eN : N = 2 + 3 * P := by omega
              obtain ⟨v, v1, v2, fv⟩ := (gO_1 _).mp (hs.1 1 (by omega))
              obtain ⟨K, eK⟩ : ∃ K, K = v - 48 := ⟨_, rfl⟩
              have fv' : f 1 = nI (48 + K) := by rw [fv, eK, show 48 + (v - 48) = v by omega]
              refine wOpen (f := f) (u := 16 + 2 * i) (P := P) (K := K) (by omega) eL (by omega) hle eN (by omega) (by omega) (by omega) (by omega) (fun k _ => hf1 k) fv' hs.1 (fun τ g t5 t46 t07 t06 pe => ?_)
              rw [← ej, ← em]
              refine hM τ _ (fun j' k' hsh => ?_) (fun w τ' hF => (hF.no hs).elim) (fun K' p τ' s1 s2 s3 s4 s5 s6 hR ρ hρ => ?_)
              · obtain ⟨y1, y2, y3, y4, y5⟩ := hw0_g (shw_hw j' hsh k')
                exact g j' k' y1 y2 y3
              · obtain rfl : P = p := by omega
                obtain rfl : K = K' := by
                  rw [fv', nI_eq (by omega) (by omega)] at s6
                  omega
                obtain ⟨K0, r5, r6, r7, rr⟩ := hR
                obtain ⟨u1, u2, u3, u4, u5, u6, u7, u8, u9, u10, u11⟩ := hρ
                refine ⟨t06, h.hall (P := P) (K := K) (by omega) (by omega) s4 s5 (fun j' k' hz => ?_) ?_ ?_ ?_ ?_ (fun k hk => ?_) u4 u5 u6 u7 u8 u9 u10 (fun x hx => ?_)⟩
                · obtain ⟨y1, y2, y3, y4, y5⟩ := hw0_g hz
                  rw [u1 j' k' hz, K0.1 j' k' y5, g j' k' y1 y2 y3, e1, gI_sI, if_neg y4]
                · rw [u3 0 6 (Or.inl rfl), K0.1 0 6 rfl]; exact t06
                · rw [u3 0 7 (Or.inl rfl), K0.1 0 7 rfl]; exact t07
                · rw [u3 0 8 (Or.inl rfl), K0.1 0 8 rfl, g 0 8 (by decide) (by decide) (by decide), e1, gI_sIe]
                · rw [u3 4 6 (Or.inr (Or.inl rfl)), K0.1 4 6 rfl]; exact t46
                · rw [u3 5 k (Or.inr (Or.inr rfl)), K0.1 5 k rfl]; exact t5 k hk
                · obtain ⟨a, q1, q2, q3, q4⟩ := pe x hx
                  have e2 : ρ.2 = τ.2 := u2.trans K0.2
                  obtain ⟨x25, x26⟩ := u11 x hx
                  obtain ⟨x27, x28⟩ := rr x hx
                  have gP' : gP ρ x = gP τ x := by unfold gP; rw [e2]
                  have gA' : gA ρ = gA τ := by unfold gA; rw [e2]
                  have gK' : gK ρ a = gK τ a := by unfold gK; rw [e2]
                  have gV' : gV ρ a = gV τ a := by unfold gV; rw [e2]
                  refine ⟨a, by rw [gP']; exact q1, ?_, by rw [x25, x27, gK', q3], by rw [x26, x28, gV', q4], ?_⟩
                  · unfold isPe at q2 ⊢
                    rw [gA', gK']; exact q2
                  · rw [gV', q4]
                    obtain ⟨y, y1, y2, fy⟩ := (gO_c (p := x) (by omega) _).mp (hs.1 (4 + 3 * x) (by omega))
                    rw [show 4 + 3 * x = 3 * x + 4 by omega] at fy
                    rw [fy, show (48 : Int32) = nI 48 from rfl, pk_sub y1]
                    exact vp_in_nI (by omega) (by decide)
            · rw [eff] at hw
              rw [← ej, ← em]
              refine hM σ1 _ (fun _ _ _ => rfl) (fun w' τ' hF' K' ρ eρ => ?_) (fun K' p τ' s1 => (hw.no s1).elim)
              obtain rfl : w = w' := hw.uniq hF'
              refine ⟨rfl, h.of ((show Ks σ σ1 by rw [e1]; exact Ks.I rfl).tr ((rw5_ks K').tr (by rw [eρ]; exact Ks.I rfl))) ?_ ?_ ?_ ?_ ?_⟩
              · rw [eρ, gI_sIj _ _ (by decide), gI_sIe, K'.1 0 8 rfl, e1, gI_sIe]
              · rw [eρ, gI_sIj _ _ (by decide), gI_sIk _ _ (by decide), K'.1 15 0 rfl, K'.1 24 41 rfl, e1, gI_sIj _ _ (by decide), gI_sIj _ _ (by decide)]; exact h.1.2.2.2.1
              · rw [eρ, gI_sIk _ _ (by decide), K'.1 24 21 rfl, e1, gI_sIj _ _ (by decide)]
              · rw [eρ, gI_sIk _ _ (by decide), K'.1 24 22 rfl, e1, gI_sIj _ _ (by decide)]
              · rw [eρ, gI_sIk _ _ (by decide), K'.1 24 25 rfl, e1, gI_sIj _ _ (by decide)]
          · intro σ2 e2
            refine hfail 3 (by decide) σ2 e2 (fun P hP => ?_)
            obtain ⟨r1, r2⟩ := r46 σ2 _ e2
            exact wBarred q ea r1 (by omega) (fun w => absurd (r2.trans hne) w) (fun _ w => absurd hn0 w) (fun i' m' _ e1 e2 e3 => absurd e3 (hno i' m' e1 e2)) (fun _ _ _ => hP)
        · intro σ2 e2
          refine hfail 4 (by decide) σ2 e2 (fun P hP => ?_)
          obtain ⟨r1, r2⟩ := r46 σ2 _ e2
          exact wBarred q ea r1 (by omega) (fun w => absurd (r2.trans hne) w) (fun _ _ => hP) (fun i' m' _ e1 e2 e3 => absurd (by rw [e2]; exact nI_pos' (by omega)) hn0) (fun _ w => absurd w hn0)
    · unfold PX8_hall
      refine wX8_noSheet (fun _ => ⟨fun _ => ?_, fun w => absurd rfl w⟩) (fun w => absurd q w)
      exact wIn (n := 3) (by decide) (fun w => absurd w hl) (fun _ => ⟨fun _ => by rw [e1]; exact wRef h (-2), fun w => absurd rfl w⟩)
  · unfold PX8_hall
    refine wX8_noSheet (fun w => absurd w q) (fun _ => ⟨fun w => absurd w (by decide), fun _ => ?_⟩)
    rw [e1]; exact wRef h (-1)
