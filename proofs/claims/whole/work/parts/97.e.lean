theorem st15 {σ : XS} (h : Gd σ) : S15 Gd σ := by
  intro a1 a2 a3 a4
  unfold PX7_judge
  intro σ1 e1
  have hw : Gw σ1 := h.w.k (by rw [e1]; exact Ks.I rfl)
  obtain ⟨hA, hB, hC, -⟩ := id hw
  have hS1 : GS σ1 := h.sh.z (by rw [e1]; exact shw_I rfl)
  refine wX7_sheetOf (fun i hi ei => ⟨nofun, fun u hu => ?_⟩) (fun q => ⟨fun _ => ?_, nofun⟩)
  · cases hu
    have q : vp_in a1 4 := by rw [ei]; exact vp_in_nI hi (by decide)
    have ea : a1.toNatClampNeg = i := by rw [ei, nI_clamp (by omega)]
    refine ⟨isSh_at i hi, ?_⟩
    have hOut : (¬ vp_in a2 3 ∨ ¬ vp_in a4 21) → PX8_judge a1 a2 a3 a4 σ1 (fun r2 σ2 => (-2 : Int32) = r2 ∧ Gd σ2) := by
      intro hno
      unfold PX8_judge
      refine wX8_noSheet (fun _ => ⟨fun _ => ?_, fun w => absurd rfl w⟩) (fun w => absurd q w)
      refine wIn (n := 3) (by decide) (fun hl => ⟨fun w => absurd w (by decide), fun _ => ?_⟩) (fun hl => ⟨fun _ => by rw [e1]; exact wRef h (-2), fun w => absurd rfl w⟩)
      refine wIn (n := 21) (by decide) (fun hn => absurd hno (by simp [hl, hn])) (fun hn => ⟨fun _ => by rw [e1]; exact wRef h (-2), fun w => absurd rfl w⟩)
    refine wX7_isLane (fun hl => ⟨fun w => absurd w (by decide), fun _ => ?_⟩) (fun hl => ⟨fun _ => hOut (Or.inl hl), fun w => absurd rfl w⟩)
    have h20 : ∀ {P Q : Prop}, (vp_in a4 21 → P) → (¬ vp_in a4 21 → Q) → ((a4 < 0 → Q) ∧ (¬ a4 < 0 → ((a4 ≤ 20 → P) ∧ (¬ a4 ≤ 20 → Q)))) := by
      intro P Q hP hQ
      have k := inS (a := a4) (n := 20) (by decide) 20 rfl
      refine ⟨fun z => hQ (fun w => vin_lo w z), fun z => ⟨fun z2 => hP (k.mp ⟨?_, z2⟩), fun z2 => hQ (fun w => z2 (k.mpr w).2)⟩⟩
      rw [Int32.lt_iff_toInt_lt] at z
      rw [Int32.le_iff_toInt_le]
      omega
    refine h20 (fun hn => ?_) (fun hn => hOut (Or.inr hn))
    obtain ⟨N, hN, eN⟩ := vp_in_of hn (by decide)
    have hMid : ∀ {P : Int32 → XS → Prop}, (gI σ1 24 2 = 0 → PX8_refused (-3) σ1 P) → (¬ gI σ1 24 2 = 0 → PX8_cellsBarred a1 a2 a3 (nI (3 * N)).toInt64 σ1 (fun r10 σ11 => ((0 ≤ r10 → (∀ x13 : Int32, x13 = ((60 : Int32) * a1) + a3 → LX8_judge_94 a1 a2 a3 a4 r10 x13 P (fun x28 σ29 => (PX8_judgeClaims x13 a4 σ29 (fun r30 => (PX8_refused r30 σ29 (fun r31 σ32 => P r31 σ32))))) 1000 (0 : Int32) σ11)) ∧ (¬ 0 ≤ r10 → P r10 σ11)))) → PX8_judge a1 a2 a3 a4 σ1 P := by
      intro P hz hm
      unfold PX8_judge
      refine wX8_noSheet (fun _ => ⟨fun _ => ?_, fun w => absurd rfl w⟩) (fun w => absurd q w)
      refine wIn (n := 3) (by decide) (fun hl => ⟨fun w => absurd w (by decide), fun _ => ?_⟩) (fun w => absurd hl w)
      refine wIn (n := 21) (by decide) (fun hn => ⟨fun w => absurd w (by decide), fun _ => ⟨hz, fun z => ?_⟩⟩) (fun w => absurd hn w)
      have := hm z
      rw [← mul3L N hN, ← eN] at this
      exact this
    refine wX7_hasHall hA hB (fun z => ⟨fun w => absurd w (by decide), fun _ => ?_⟩) (fun z => ⟨fun _ => hMid (fun _ => by rw [e1]; exact wRef h (-3)) (fun w => absurd z w), fun w => absurd rfl w⟩)
    rcases hS1 i hi with ⟨z1, z2, z3⟩ | ⟨z1, z2, z3, z4, z5⟩
    · refine wFaultAs (fun _ => ⟨fun w => absurd w (by decide), fun _ => wFaultAs (fun _ => ?_) (fun w => absurd z1 w) (fun w => absurd z1 w)⟩) (fun w => absurd z1 w) (fun w => absurd z1 w)
      intro σ2 e2
      have hw2 : Gw σ2 := hw.k (by rw [e2]; exact Ks.I rfl)
      have r46 : gI σ2 46 i = -1 := by rw [e2, gI_sIj _ _ (by decide)]; exact z3
      have r2 : gI σ2 24 2 = gI σ1 24 2 := by rw [e2, gI_sIj _ _ (by decide)]
      unfold PX8_judge
      refine wX8_noSheet (fun _ => ⟨fun _ => ?_, fun w => absurd rfl w⟩) (fun w => absurd q w)
      refine wIn (n := 3) (by decide) (fun hl => ⟨fun w => absurd w (by decide), fun _ => ?_⟩) (fun w => absurd hl w)
      refine wIn (n := 21) (by decide) (fun hn => ⟨fun w => absurd w (by decide), fun _ => ⟨fun w => absurd (r2.symm.trans w) z, fun _ => ?_⟩⟩) (fun w => absurd hn w)
      refine wBarred0 q ea r46 ?_
      intro σ3 e3
      refine ⟨fun w => absurd w (by decide), fun _ => ⟨rfl, ?_⟩⟩
      rw [e3, e2, e1]; exact fin2 h _ _
    · obtain ⟨L, hL, eL⟩ := vp_in_of z2 (by decide)
      have hfail : ∀ (f : Int32), ¬ 0 ≤ (-10 : Int32) - f → ∀ σ2 : XS, σ2 = sI σ1 0 8 f → (∀ P : Int32 → XS → Prop, PX8_failed f σ2 P → PX8_cellsBarred a1 a2 a3 (nI (3 * N)).toInt64 σ2 P) → PX8_judge a1 a2 a3 a4 σ2 (fun r2 σ3 => (-10 : Int32) - f = r2 ∧ Gd σ3) := by
        intro f hf0 σ2 e2 hb
        have r2 : gI σ2 24 2 = gI σ1 24 2 := by rw [e2, gI_sIj _ _ (by decide)]
        unfold PX8_judge
        refine wX8_noSheet (fun _ => ⟨fun _ => ?_, fun w => absurd rfl w⟩) (fun w => absurd q w)
        refine wIn (n := 3) (by decide) (fun hl => ⟨fun w => absurd w (by decide), fun _ => ?_⟩) (fun w => absurd hl w)
        refine wIn (n := 21) (by decide) (fun hn => ⟨fun w => absurd w (by decide), fun _ => ⟨fun w => absurd (r2.symm.trans w) z, fun _ => ?_⟩⟩) (fun w => absurd hn w)
        rw [eN, mul3L N hN]
        refine hb _ ?_
        intro σ3 e3
        refine ⟨fun w => absurd w hf0, fun _ => ⟨rfl, ?_⟩⟩
        rw [e3, e2, e1]; exact fin2 h _ _
      have r46 : ∀ σ2 : XS, ∀ f, σ2 = sI σ1 0 8 f → gI σ2 46 i = nI L ∧ gI σ2 47 i = gI σ1 (16 + 2 * i) 2 := by
        intro σ2 f e2
        rw [e2, gI_sIj _ _ (by decide), gI_sIj _ _ (by decide), z3, z4]
        exact ⟨eL, rfl⟩
      refine wFaultAs (fun w => absurd w (lane_ne z1)) (fun _ hne => ⟨fun w => absurd w (by decide), fun _ => wFaultAs (fun w => absurd w (lane_ne z1)) (fun _ _ => ?_) (fun _ w => absurd w hne)⟩) (fun _ hne => ⟨fun _ => ?_, fun w => absurd rfl w⟩)
      · intro σ2 e2
        refine hfail 2 (by decide) σ2 e2 (fun P hP => ?_)
        obtain ⟨r1, r2⟩ := r46 σ2 _ e2
        exact wBarred q ea r1 (by omega) (fun _ => hP) (fun w => absurd (r2.symm.trans w) hne) (fun _ _ w => absurd (r2.symm.trans w) hne) (fun w => absurd (r2.symm.trans w) hne)
      · rw [eN, nI_mul3]
        refine wReaches eL (by omega) (fun j m ej em hle => ⟨fun w => absurd w (by decide), fun _ => ?_⟩) (fun hno => ⟨fun _ => ?_, fun w => absurd rfl w⟩)
        · obtain rfl : 3 * N = m := by
            by_cases hm : m < 2 ^ 31
            · exact (nI_eq (by omega) hm).mp em
            · omega
          rw [ej]
          have hvL : vN σ1 46 i = L := by unfold vN; rw [z3, eL, nI_clamp (by omega)]
          have hf : ∀ k, k < 3 * N → gI σ1 48 (60 * i + j + k) = (fun k => gI σ1 (17 + 2 * i) (j + k)) k := by
            intro k hk
            rw [Nat.add_assoc]
            exact z5 (j + k) (by omega)
          have hu : 16 + 2 * i + 1 = 17 + 2 * i := by omega
          have hM : ∀ (P : Int32 → XS → Prop), ((∃ x, x < N ∧ ¬ okN σ1 (fun k => gI σ1 (17 + 2 * i) (j + k)) x) → PX8_refused (-2) σ1 P) → (∀ r, (∀ x, x < N → okN σ1 (fun k => gI σ1 (17 + 2 * i) (j + k)) x) → resJ σ1 (fun k => gI σ1 (17 + 2 * i) (j + k)) N r → PX8_refused r σ1 P) → PX8_judge a1 a2 a3 a4 σ1 P := by
            intro P hb hg
            refine hMid (fun w => absurd w z) (fun _ => ?_)
            refine wBarred q ea (z3.trans eL) (by omega) (fun w => absurd (z4.trans hne) w) (fun _ w => absurd (nI_pos' (by omega)) w) (fun i' m' _ e1 e2 e3 => ⟨fun _ => ?_, fun w => absurd (by decide) w⟩) (fun _ _ w => absurd hle (w j (3 * N) ej rfl))
            intro y ey
            rw [ei, ej, show (60 : Int32) * nI i + nI j = nI (60 * i + j) by rw [show (60 : Int32) = nI 60 from rfl, pk_mul, nI_add]] at ey
            rw [ey, eN]
            refine arM (m := 0) hB hf (by omega) (fun hall => ?_) (fun x hx hn => hb ⟨x, hx, hn⟩) 1000 (by omega) (by omega) (fun x hx => by omega)
            unfold PX8_judgeClaims
            exact jcO (m := 0) hB hf (by omega) (by omega) (fun w => hg _ hall (Or.inr ⟨rfl, w⟩)) (fun x hx n1 n2 => hg _ hall (Or.inl ⟨x, hx, rfl, n1, n2⟩)) 1000 (by omega) (by omega) (fun x hx => by omega)
          have uniq : ∀ r r', resJ σ1 (fun k => gI σ1 (17 + 2 * i) (j + k)) N r → resJ σ1 (fun k => gI σ1 (17 + 2 * i) (j + k)) N r' → r = r' := by
            rintro r r' (⟨x, hx, rfl, n1, n2⟩ | ⟨rfl, n1⟩) (⟨x', hx', rfl, n1', n2'⟩ | ⟨rfl, n1'⟩)
            · have : x = x' := by
                rcases Nat.lt_trichotomy x x' with l | l | l
                · exact absurd (n2' x l) n1
                · exact l
                · exact absurd (n2 x' l) n1'
              rw [this]
            · exact absurd (n1' x hx) n1
            · exact absurd (n1 x' hx') n1'
            · rfl
          unfold PX7_areClaims
          refine areL (m := 0) hw eL (by omega) (by omega) (fun hall => ⟨fun w => absurd w (by decide), fun _ => ?_⟩) (fun x hx hn => ⟨fun _ => ?_, fun w => absurd rfl w⟩) 1000 (by omega) (by omega) (fun x hx => by omega)
          · rw [hu] at hall
            have fin : ∀ r, resJ σ1 (fun k => gI σ1 (17 + 2 * i) (j + k)) N r → PX8_judge a1 a2 (nI j) (nI N) σ1 (fun r2 σ2 => r = r2 ∧ Gd σ2) := by
              intro r hr
              rw [← ej, ← eN]
              refine hM _ (fun w => ?_) (fun r' _ hr' => ?_)
              · obtain ⟨x, hx, hn⟩ := w
                exact absurd (hall x hx) hn
              · rw [uniq r' r hr' hr, e1]; exact wRef h r
            refine judgeL (m := 0) hw eL (by omega) (by omega) (fun w => ?_) (fun x hx n1 n2 => ?_) 1000 (by omega) (by omega) (fun x hx => by omega)
            · rw [hu] at w
              exact fin _ (Or.inr ⟨rfl, w⟩)
            · rw [hu] at n1 n2
              exact fin _ (Or.inl ⟨x, hx, rfl, n1, n2⟩)
          · rw [hu] at hn
            rw [← ej, ← eN]
            exact hM _ (fun _ => by rw [e1]; exact wRef h (-2)) (fun r hall _ => absurd (hall x hx) hn)
        · intro σ2 e2
          rw [← eN]
          refine hfail 3 (by decide) σ2 e2 (fun P hP => ?_)
          obtain ⟨r1, r2⟩ := r46 σ2 _ e2
          exact wBarred q ea r1 (by omega) (fun w => absurd (r2.trans hne) w) (fun _ w => absurd (nI_pos' (by omega)) w) (fun i' m' _ e1 e2 e3 => absurd e3 (hno i' m' e1 e2)) (fun _ _ _ => hP)
  · unfold PX8_judge
    refine wX8_noSheet (fun w => absurd w q) (fun _ => ⟨fun w => absurd w (by decide), fun _ => ?_⟩)
    rw [e1]; exact wRef h (-1)
