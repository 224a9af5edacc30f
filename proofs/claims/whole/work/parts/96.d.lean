/-! ===== copy ===== -/
theorem cmp_le (x y : Int64) : lg_cmp x y ≤ 0 ↔ x ≤ y := by
  unfold lg_cmp
  by_cases h1 : y < x
  · have h2 : ¬ x ≤ y := by
      rw [Int64.le_iff_toInt_le]
      rw [Int64.lt_iff_toInt_lt] at h1
      omega
    simp [h1, h2]
  · have h2 : x ≤ y := by
      rw [Int64.le_iff_toInt_le]
      rw [Int64.lt_iff_toInt_lt] at h1
      omega
    by_cases h3 : x = y <;> simp [h1, h2, h3]
theorem wBeyond {σ : XS} {a n : Int32} {L : Nat} {post : Int32 → Prop} (hL2 : L ≤ 60) (h1 : ∀ i m : Nat, a = nI i → n = nI m → i + m ≤ L → post 0) (h0 : (∀ i m : Nat, a = nI i → n = nI m → ¬ i + m ≤ L) → post 1) : PX8_isBeyond a n.toInt64 (nI L) σ post := by
  unfold PX8_isBeyond
  rw [cmp_lt, cmp_le]
  have en : n.toInt64 < 0 ↔ n < 0 := by
    rw [Int64.lt_iff_toInt_lt, Int32.lt_iff_toInt_lt]
    simp
  rw [en]
  refine ⟨fun z => h0 (fun i m ei _ hle => ?_), fun z => ⟨fun z2 => h0 (fun i m ei em hle => ?_), fun z2 => ?_⟩⟩
  · rw [ei] at z
    exact nI_pos (by omega) z
  · rw [em] at z2
    exact nI_pos (by omega) z2
  · obtain ⟨i, hi, ei⟩ := nI_of z
    obtain ⟨m, hm, em⟩ := nI_of z2
    rw [ei, em, nI_l hi, nI_l hm, nI_l (by omega), lN_add, pk_lLE (by omega) (by omega)]
    refine ⟨fun z4 => h1 i m ei em z4, fun z4 => h0 (fun i2 m2 e2 e3 hle => z4 ?_)⟩
    have q1 : i = i2 := (nI_eq hi (by omega)).mp (ei.symm.trans e2)
    have q2 : m = m2 := (nI_eq hm (by omega)).mp (em.symm.trans e3)
    omega
def hdS (τ : XS) (b m : Nat) : XS := sR τ 49 (fun k => if k < m then gI τ 48 (b + k) else gI τ 49 k)
def bkS (τ : XS) (b m : Nat) : XS := sR τ 48 (fun k => if b ≤ k ∧ k < b + m then gI τ 49 (k - b) else gI τ 48 k)
theorem hdS0 (τ : XS) (b : Nat) : hdS τ b 0 = τ := by
  unfold hdS
  have e : (fun k => if k < 0 then gI τ 48 (b + k) else gI τ 49 k) = gI τ 49 := by
    funext k
    rw [if_neg (by omega)]
  rw [e, sR_id]
theorem bkS0 (τ : XS) (b : Nat) : bkS τ b 0 = τ := by
  unfold bkS
  have e : (fun k => if b ≤ k ∧ k < b + 0 then gI τ 49 (k - b) else gI τ 48 k) = gI τ 48 := by
    funext k
    rw [if_neg (by omega)]
  rw [e, sR_id]
theorem ix60b (i x m : Nat) : (60 : Int32) * nI i + nI x + nI m = nI (60 * i + x + m) := by
  rw [ix60, nI_add]
theorem copyL1 {i x N : Nat} {f3 f4 : Int32} {post : Int32 → XS → Prop} {kx : Int32 → XS → Prop} {τ : XS} (hi : i < 4) (hN : x + N ≤ 60) (hk : kx (nI N) (hdS τ (60 * i + x) N)) : ∀ (n m : Nat), m ≤ N → N < m + n → LX8_copy_107 (nI i) (nI x) f3 f4 (nI N) post kx n (nI m) (hdS τ (60 * i + x) m) := by
  intro n
  induction n with
  | zero => intro m h1 h2; omega
  | succ n ih =>
    intro m h1 h2
    rw [LX8_copy_107]
    refine ⟨fun h => ?_, fun h => ?_⟩
    · rw [nI_leI (by omega) (by omega)] at h
      obtain rfl : m = N := by omega
      exact hk
    · rw [nI_leI (by omega) (by omega)] at h
      rw [ix60b]
      refine ⟨vp_in_nI (by omega) (by omega), vp_in_nI (by omega) (by omega), fun σ3 e3 x4 e4 => ?_⟩
      rw [e3, e4, nI_1, nI_clamp (by omega), nI_clamp (by omega)]
      have e : sI (hdS τ (60 * i + x) m) 49 m (gI (hdS τ (60 * i + x) m) 48 (60 * i + x + m)) = hdS τ (60 * i + x) (m + 1) := by
        unfold hdS
        rw [gI_row' _ _ (by decide), sI_sR]
        congr 1
        funext k
        unfold upd
        by_cases hk : k = m
        · subst hk; simp
        · have : (k < m + 1) ↔ (k < m) := by omega
          simp [hk, this]
      rw [e]
      exact ih (m + 1) (by omega) (by omega)
theorem copyL2 {i x N : Nat} {f1 f2 : Int32} {post : Int32 → XS → Prop} {kx : Int32 → XS → Prop} {τ : XS} (hi : i < 4) (hN : x + N ≤ 60) (hk : kx (nI N) (bkS τ (60 * i + x) N)) : ∀ (n m : Nat), m ≤ N → N < m + n → LX8_copy_144 f1 f2 (nI i) (nI x) (nI N) post kx n (nI m) (bkS τ (60 * i + x) m) := by
  intro n
  induction n with
  | zero => intro m h1 h2; omega
  | succ n ih =>
    intro m h1 h2
    rw [LX8_copy_144]
    refine ⟨fun h => ?_, fun h => ?_⟩
    · rw [nI_leI (by omega) (by omega)] at h
      obtain rfl : m = N := by omega
      exact hk
    · rw [nI_leI (by omega) (by omega)] at h
      rw [ix60b]
      refine ⟨vp_in_nI (by omega) (by omega), vp_in_nI (by omega) (by omega), fun σ3 e3 x4 e4 => ?_⟩
      rw [e3, e4, nI_1, nI_clamp (by omega), nI_clamp (by omega)]
      have e : sI (bkS τ (60 * i + x) m) 48 (60 * i + x + m) (gI (bkS τ (60 * i + x) m) 49 m) = bkS τ (60 * i + x) (m + 1) := by
        unfold bkS
        rw [gI_row' _ _ (by decide), sI_sR]
        congr 1
        funext k
        unfold upd
        by_cases hk : k = 60 * i + x + m
        · subst hk
          simp
        · have : (60 * i + x ≤ k ∧ k < 60 * i + x + (m + 1)) ↔ (60 * i + x ≤ k ∧ k < 60 * i + x + m) := by omega
          simp [hk, this]
      rw [e]
      exact ih (m + 1) (by omega) (by omega)
theorem st28 {σ : XS} (h : Gd σ) : S28 Gd σ := by
  intro a1 a2 a3 a4 a5
  unfold PX7_copy
  intro σ1 e1
  have hS1 : GS σ1 := h.sh.z (by rw [e1]; exact shw_I rfl)
  have hno1 : ¬ vp_in a1 4 → PX8_copy a1 a2 a3 a4 a5 σ1 (fun r2 σ2 => (-1 : Int32) = r2 ∧ Gd σ2) := by
    intro q
    unfold PX8_copy
    refine wX8_noSheet (fun w => absurd w q) (fun _ => ⟨fun w => absurd w (by decide), fun _ => ?_⟩)
    rw [e1]; exact wRef h (-1)
  refine wX7_sheetOf (fun i hi ei => ⟨nofun, fun u hu => ?_⟩) (fun q => ⟨fun _ => wX7_sheetOf (fun i' hi' ei' => ⟨nofun, fun u hu => ?_⟩) (fun q' => ⟨fun _ => hno1 q, nofun⟩), nofun⟩)
  rotate_left
  · cases hu
    exact ⟨isSh_at i' hi', hno1 q⟩
  cases hu
  have q : vp_in a1 4 := by rw [ei]; exact vp_in_nI hi (by decide)
  have ea : a1.toNatClampNeg = i := by rw [ei, nI_clamp (by omega)]
  refine ⟨isSh_at i hi, ?_⟩
  refine wX7_sheetOf (fun i' hi' ei' => ⟨nofun, fun u hu => ?_⟩) (fun q' => ⟨fun _ => ?_, nofun⟩)
  rotate_left
  · unfold PX8_copy
    refine wX8_noSheet (fun _ => ⟨fun _ => ?_, fun w => absurd rfl w⟩) (fun w => absurd q w)
    refine wX8_noSheet (fun w => absurd w q') (fun _ => ⟨fun w => absurd w (by decide), fun _ => ?_⟩)
    rw [e1]; exact wRef h (-1)
  cases hu
  have q' : vp_in a3 4 := by rw [ei']; exact vp_in_nI hi' (by decide)
  have ea' : a3.toNatClampNeg = i' := by rw [ei', nI_clamp (by omega)]
  refine ⟨isSh_at i' hi', ?_⟩
  -- the reference's way to a failure
  have hM : ∀ (σ2 : XS) (post : Int32 → XS → Prop), (vp_in a1 4 ∧ (((gI σ2 46 i) < 0 → (PX8_failed 1 σ2 (fun r8 σ9 => post r8 σ9))) ∧ (¬ (gI σ2 46 i) < 0 → (vp_in a3 4 ∧ ((0 ≤ (gI σ2 46 i') → (vp_in a1 4 ∧ (vp_in a3 4 ∧ (((gI σ2 47 i) = (gI σ2 47 i') → (vp_in a1 4 ∧ (PX8_isBeyond a2 a5.toInt64 (gI σ2 46 i) σ2 (fun r12 => ((r12 = 0 → (vp_in a3 4 ∧ (PX8_isBeyond a4 a5.toInt64 (gI σ2 46 i') σ2 (fun r16 => ((r16 = 0 → LX8_copy_107 a1 a2 a3 a4 a5 post (fun x21 σ22 => LX8_copy_144 a1 a2 a3 a4 a5 post (fun x26 σ27 => (PX8_refused a5 σ27 (fun r28 σ29 => post r28 σ29))) 1000 0 σ22) 1000 0 σ2) ∧ (¬ r16 = 0 → (PX8_failed 3 σ2 (fun r30 σ31 => post r30 σ31)))))))) ∧ (¬ r12 = 0 → (PX8_failed 3 σ2 (fun r14 σ15 => post r14 σ15)))))))) ∧ (¬ (gI σ2 47 i) = (gI σ2 47 i') → (PX8_failed 2 σ2 (fun r32 σ33 => post r32 σ33))))))) ∧ (¬ 0 ≤ (gI σ2 46 i') → (PX8_failed 1 σ2 (fun r34 σ35 => post r34 σ35)))))))) → PX8_copy a1 a2 a3 a4 a5 σ2 post := by
    intro σ2 post hh
    unfold PX8_copy
    refine wX8_noSheet (fun _ => ⟨fun _ => ?_, fun w => absurd rfl w⟩) (fun w => absurd q w)
    refine wX8_noSheet (fun _ => ⟨fun _ => ?_, fun w => absurd rfl w⟩) (fun w => absurd q' w)
    rw [ea, ea']
    exact hh
  have hF : ∀ (f : Int32), (∀ (σ2 : XS), (∀ k, gI σ2 46 k = gI σ1 46 k) → (∀ k, gI σ2 47 k = gI σ1 47 k) → ∀ post : Int32 → XS → Prop, PX8_failed f σ2 post → PX8_copy a1 a2 a3 a4 a5 σ2 post) → PX7_fails f σ1 (fun r1 σ2 => PX8_copy a1 a2 a3 a4 a5 σ2 (fun r2 σ3 => r1 = r2 ∧ Gd σ3)) := by
    intro f hh σ2 e2
    refine hh σ2 (fun k => by rw [e2, gI_sIj _ _ (by decide)]) (fun k => by rw [e2, gI_sIj _ _ (by decide)]) _ ?_
    rw [e2, e1]; exact wFail h f _ rfl
  unfold PX3_isNothing
  rcases hS1 i hi with ⟨z1, z2, z3⟩ | ⟨z1, z2, z3, z4, z5⟩
  · refine ⟨fun _ => ⟨fun w => absurd w (by decide), fun _ => hF 1 (fun σ2 k46 k47 post hp => hM σ2 post ⟨q, ?_⟩)⟩, fun w => absurd z1 w⟩
    rw [k46, z3]
    exact ⟨fun _ => hp, fun w => absurd (by decide) w⟩
  · refine ⟨fun w => absurd w (lane_ne z1), fun _ => ⟨fun _ => ?_, fun w => absurd rfl w⟩⟩
    obtain ⟨L, hL, eL⟩ := vp_in_of z2 (by decide)
    rcases hS1 i' hi' with ⟨y1, y2, y3⟩ | ⟨y1, y2, y3, y4, y5⟩
    · refine ⟨fun _ => ⟨fun w => absurd w (by decide), fun _ => hF 1 (fun σ2 k46 k47 post hp => hM σ2 post ⟨q, ?_⟩)⟩, fun w => absurd y1 w⟩
      rw [k46, z3, eL, k46, y3]
      exact ⟨fun w => absurd w (nI_pos (by omega)), fun _ => ⟨q', fun w => absurd w (by decide), fun _ => hp⟩⟩
    · refine ⟨fun w => absurd w (lane_ne y1), fun _ => ⟨fun _ => ?_, fun w => absurd rfl w⟩⟩
      obtain ⟨L', hL', eL'⟩ := vp_in_of y2 (by decide)
      have m46 : gI σ1 46 i = nI L := by rw [z3, eL]
      have m46' : gI σ1 46 i' = nI L' := by rw [y3, eL']
      unfold PX3_faultAs PX3_isNothing
      refine ⟨fun w => absurd w (lane_ne y1), fun _ => ⟨fun _ => ⟨fun el => ⟨fun _ => ?_, fun w => absurd rfl w⟩, fun el => ⟨fun w => absurd w (by decide), fun _ => ?_⟩⟩, fun w => absurd rfl w⟩⟩
      · refine wReaches eL (by omega) (fun x n ex en hle => ⟨fun w => absurd w (by decide), fun _ => ?_⟩) (fun hno => ⟨fun _ => hF 3 (fun σ2 k46 k47 post hp => hM σ2 post ⟨q, ?_⟩), fun w => absurd rfl w⟩)
        · refine wReaches eL' (by omega) (fun y n' ey en' hle' => ⟨fun w => absurd w (by decide), fun _ => ?_⟩) (fun hno => ⟨fun _ => hF 3 (fun σ2 k46 k47 post hp => hM σ2 post ⟨q, ?_⟩), fun w => absurd rfl w⟩)
          · obtain rfl : n = n' := by
              refine (nI_eq (by omega) (by omega)).mp (en.symm.trans en')
            unfold PX3_take
            have hr1 : ∀ post : Int32 → Prop, post 1 → PX3_reaches (16 + 2 * i) a2 a5 σ1 post := fun post hp => wReaches eL (by omega) (fun _ _ _ _ _ => hp) (fun hno => absurd hle (hno x n ex en))
            have hr2 : ∀ post : Int32 → Prop, post 1 → PX3_reaches (16 + 2 * i') a4 a5 σ1 post := fun post hp => wReaches eL' (by omega) (fun _ _ _ _ _ => hp) (fun hno => absurd hle' (hno y n ey en))
            refine hr1 _ ⟨fun w => absurd w (by decide), fun _ => hr2 _ ⟨fun w => absurd w (by decide), fun _ => ?_⟩⟩
            rw [ex, ey, en, nI_clamp (by omega), nI_clamp (by omega), nI_clamp (by omega)]
            refine ⟨nI_pos (by omega), nI_pos (by omega), nI_pos (by omega), by omega, by omega, fun σ5 e5 => ?_⟩
            rw [show 16 + 2 * i + 1 = 17 + 2 * i by omega, show 16 + 2 * i' + 1 = 17 + 2 * i' by omega] at e5
            rw [← ex, ← ey, ← en]
            have k46 : ∀ k, gI σ5 46 k = gI σ1 46 k := fun k => by rw [e5, gI_row' _ _ (by omega)]
            have k47 : ∀ k, gI σ5 47 k = gI σ1 47 k := fun k => by rw [e5, gI_row' _ _ (by omega)]
            have k48 : ∀ k, gI σ5 48 k = gI σ1 48 k := fun k => by rw [e5, gI_row' _ _ (by omega)]
            refine hM σ5 _ ⟨q, ?_⟩
            rw [k46, m46, k46, m46', k47, k47, z4, y4]
            refine ⟨fun w => absurd w (nI_pos (by omega)), fun _ => ⟨q', fun _ => ⟨q, q', fun _ => ⟨q, ?_⟩, fun w => absurd el.symm w⟩, fun w => absurd (nI_pos' (by omega)) w⟩⟩
            refine wBeyond (by omega) (fun _ _ _ _ _ => ⟨fun _ => ⟨q', ?_⟩, fun w => absurd rfl w⟩) (fun hno => absurd hle (hno x n ex en))
            refine wBeyond (by omega) (fun _ _ _ _ _ => ⟨fun _ => ?_, fun w => absurd rfl w⟩) (fun hno => absurd hle' (hno y n ey en))
            rw [ei, ei', ex, ey, en]
            have hL1 := copyL1 (i := i) (x := x) (N := n) (f3 := nI i') (f4 := nI y) (post := fun r2 σ2 => (nI n) = r2 ∧ Gd σ2) (kx := fun x21 σ22 => LX8_copy_144 (nI i) (nI x) (nI i') (nI y) (nI n) (fun r2 σ2 => (nI n) = r2 ∧ Gd σ2) (fun x26 σ27 => (PX8_refused (nI n) σ27 (fun r28 σ29 => (nI n) = r28 ∧ Gd σ29))) 1000 0 σ22) (τ := σ5) hi (by omega) ?_ 1000 0 (by omega) (by omega)
            · rw [hdS0] at hL1
              exact hL1
            · have hL2 := copyL2 (i := i') (x := y) (N := n) (f1 := nI i) (f2 := nI x) (post := fun r2 σ2 => (nI n) = r2 ∧ Gd σ2) (kx := fun x26 σ27 => (PX8_refused (nI n) σ27 (fun r28 σ29 => (nI n) = r28 ∧ Gd σ29))) (τ := hdS σ5 (60 * i + x) n) hi' (by omega) ?_ 1000 0 (by omega) (by omega)
              · rw [bkS0] at hL2
                exact hL2
              · intro σ9 e9
                refine ⟨rfl, ?_⟩
                rw [e9]
                obtain ⟨τ, eτ⟩ : ∃ z, z = bkS (hdS σ5 (60 * i + x) n) (60 * i' + y) n := ⟨_, rfl⟩
                rw [← eτ]
                have g16 : ∀ j k, j ≠ 17 + 2 * i' → j ≠ 48 → j ≠ 49 → gI τ j k = gI σ1 j k := by
                  intro j k n1 n2 n3
                  rw [eτ]
                  unfold bkS hdS
                  rw [gI_row' _ _ n2, gI_row' _ _ n3, e5, gI_row' _ _ n1]
                have t48 : ∀ k, gI τ 48 k = if 60 * i' + y ≤ k ∧ k < 60 * i' + y + n then gI σ1 48 (60 * i + x + (k - (60 * i' + y))) else gI σ1 48 k := by
                  intro k
                  rw [eτ]
                  unfold bkS
                  rw [gI_row]
                  by_cases hk : 60 * i' + y ≤ k ∧ k < 60 * i' + y + n
                  · rw [if_pos hk, if_pos hk]
                    unfold hdS
                    rw [gI_row, if_pos (by omega), k48]
                  · rw [if_neg hk, if_neg hk]
                    unfold hdS
                    rw [gI_row' _ _ (by decide), k48]
                have t17 : ∀ k, gI τ (17 + 2 * i') k = va_cpy (gI σ1 (17 + 2 * i)) (gI σ1 (17 + 2 * i')) x y n k := by
                  intro k
                  rw [eτ]
                  unfold bkS hdS
                  rw [gI_row' _ _ (by omega), gI_row' _ _ (by omega), e5, gI_row]
                have h22 : τ.2.2 = σ1.2.2 := by rw [eτ]; unfold bkS hdS; rw [e5]; rfl
                have hKv : Kv (sI σ 0 8 0) τ := by
                  rw [← e1]
                  refine ⟨fun j k hs => g16 j k ?_ ?_ ?_, h22⟩
                  · intro e; have := shw_scr j k hs; rw [e, (shw16 i' hi').2.1] at this; cases this
                  · intro e; rw [e] at hs; cases hs
                  · intro e; rw [e] at hs; cases hs
                have hGS : GS τ := by
                  refine hS1.set (i := i') (fun i2 hi2 hne => ⟨?_, ?_, g16 _ _ (by omega) (by omega) (by omega), g16 _ _ (by omega) (by omega) (by omega), fun j hj => ?_⟩) (Or.inr ⟨?_, ?_, ?_, ?_, ?_⟩)
                  · funext k; exact g16 _ _ (by omega) (by omega) (by omega)
                  · funext k; exact g16 _ _ (by omega) (by omega) (by omega)
                  · rw [t48, if_neg (by omega)]
                  · rw [g16 _ _ (by omega) (by omega) (by omega)]; exact y1
                  · rw [g16 _ _ (by omega) (by omega) (by omega)]; exact y2
                  · rw [g16 _ _ (by omega) (by omega) (by omega), g16 _ _ (by omega) (by omega) (by omega)]; exact y3
                  · rw [g16 _ _ (by omega) (by omega) (by omega), g16 _ _ (by omega) (by omega) (by omega)]; exact y4
                  · intro j hj
                    have ev : vN τ 46 i' = L' := by unfold vN; rw [g16 _ _ (by omega) (by omega) (by omega), m46', nI_clamp (by omega)]
                    rw [ev] at hj
                    rw [t48, t17]
                    unfold va_cpy
                    by_cases hk : y ≤ j ∧ j < y + n
                    · rw [if_pos (by omega), if_pos hk]
                      have := z5 (x + (j - y)) (by unfold vN; rw [m46, nI_clamp (by omega)]; omega)
                      rw [← this]
                      congr 1
                      omega
                    · rw [if_neg (by omega), if_neg hk]
                      exact y5 j (by unfold vN; rw [m46', nI_clamp (by omega)]; exact hj)
                refine h.ofv (((Kv.I rfl).tr hKv).tr (Kv.I rfl)) (hGS.z (shw_I rfl)) ?_ ?_ ?_ ?_ ?_ ?_
                · rw [gI_sIe, gI_sIj _ _ (by decide), g16 _ _ (by omega) (by omega) (by omega), e1, gI_sIe]
                · rw [gI_sIj _ _ (by decide), g16 _ _ (by omega) (by omega) (by omega), e1, gI_sIj _ _ (by decide)]
                · rw [gI_sIk _ _ (by decide), g16 _ _ (by omega) (by omega) (by omega), e1, gI_sIj _ _ (by decide)]
                · rw [gI_sIk _ _ (by decide), g16 _ _ (by omega) (by omega) (by omega), e1, gI_sIj _ _ (by decide)]
                · rw [gI_sIk _ _ (by decide), g16 _ _ (by omega) (by omega) (by omega), e1, gI_sIj _ _ (by decide)]
                · rw [gI_sIk _ _ (by decide), g16 _ _ (by omega) (by omega) (by omega), e1, gI_sIj _ _ (by decide)]
          · rw [k46, m46, k46, m46', k47, k47, z4, y4]
            refine ⟨fun w => absurd w (nI_pos (by omega)), fun _ => ⟨q', fun _ => ⟨q, q', fun _ => ⟨q, ?_⟩, fun w => absurd el.symm w⟩, fun w => absurd (nI_pos' (by omega)) w⟩⟩
            refine wBeyond (by omega) (fun _ _ _ _ _ => ⟨fun _ => ⟨q', ?_⟩, fun w => absurd rfl w⟩) (fun hno => absurd hle (hno x n ex en))
            exact wBeyond (by omega) (fun x2 n2 e2 e3 hle2 => absurd hle2 (hno x2 n2 e2 e3)) (fun _ => ⟨fun w => absurd w (by decide), fun _ => hp⟩)
        · rw [k46, m46, k46, m46', k47, k47, z4, y4]
          refine ⟨fun w => absurd w (nI_pos (by omega)), fun _ => ⟨q', fun _ => ⟨q, q', fun _ => ⟨q, ?_⟩, fun w => absurd el.symm w⟩, fun w => absurd (nI_pos' (by omega)) w⟩⟩
          exact wBeyond (by omega) (fun x2 n2 e2 e3 hle2 => absurd hle2 (hno x2 n2 e2 e3)) (fun _ => ⟨fun w => absurd w (by decide), fun _ => hp⟩)
      · refine hF 2 (fun σ2 k46 k47 post hp => hM σ2 post ⟨q, ?_⟩)
        rw [k46, m46, k46, m46', k47, k47, z4, y4]
        exact ⟨fun w => absurd w (nI_pos (by omega)), fun _ => ⟨q', fun _ => ⟨q, q', fun w => absurd w.symm el, fun _ => hp⟩, fun w => absurd (nI_pos' (by omega)) w⟩⟩
