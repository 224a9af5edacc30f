theorem wNoCell0 {σ : XS} {a1 a2 : Int32} {i : Nat} {post : Int32 → Prop} (q : vp_in a1 4) (ea : a1.toNatClampNeg = i) (hz : gI σ 46 i = -1) (h : post 1) : PX8_noCell a1 a2 σ post := by
  unfold PX8_noCell
  rw [ea, hz]
  exact ⟨q, fun w => absurd w (by decide), fun _ => h⟩
theorem wNoCell {σ : XS} {a1 a2 : Int32} {i L : Nat} {post : Int32 → Prop} (q : vp_in a1 4) (ea : a1.toNatClampNeg = i) (hL : gI σ 46 i = nI L) (h60 : L ≤ 60) (h1 : vp_in a2 L → post 0) (h0 : ¬ vp_in a2 L → post 3) : PX8_noCell a1 a2 σ post := by
  unfold PX8_noCell
  rw [ea, hL]
  refine ⟨q, fun _ => ⟨q, ?_⟩, fun w => absurd (nI_pos' (by omega)) w⟩
  exact wIn (n := L) (cN L (by omega)) (fun z => ⟨fun w => absurd w (by decide), fun _ => h1 z⟩) (fun z => ⟨fun _ => h0 z, fun w => absurd rfl w⟩)
theorem reach1 {a : Int32} {L : Nat} (hL : L ≤ 60) : (∀ i m : Nat, a = nI i → (1 : Int32) = nI m → ¬ i + m ≤ L) → ¬ vp_in a L := by
  intro h q
  obtain ⟨i, hi, ei⟩ := vp_in_of q (by omega)
  exact h i 1 ei rfl (by omega)
theorem one_of {m : Nat} (h : (1 : Int32) = nI m) (hm : m < 2 ^ 31) : m = 1 := by
  have : nI 1 = nI m := h
  exact ((nI_eq (by decide) hm).mp this).symm
def cutv (l v : Int32) : Int32 := if l = 0 then v.toInt8.toInt32 else if l = 1 then v.toInt16.toInt32 else v
theorem wCut {σ : XS} {q : Nat} {a : Int32} {post : Int32 → Prop} (h : post (cutv (gI σ q 2) a)) : PX3_cut q a σ post := by
  unfold PX3_cut
  unfold cutv at h
  refine ⟨fun z => ?_, fun z => ⟨fun z2 => ?_, fun z2 => ?_⟩⟩
  · rw [if_pos z] at h; exact h
  · rw [if_neg z, if_pos z2] at h; exact h
  · rw [if_neg z, if_neg z2] at h; exact h
theorem wReach1 {σ : XS} {q : Nat} {a : Int32} {L : Nat} {post : Int32 → Prop} (hL : gI σ q 1 = nI L) (hL2 : L ≤ 60) (h1 : vp_in a L → post 1) (h0 : ¬ vp_in a L → post 0) : PX3_reaches q a 1 σ post := by
  refine wReaches hL hL2 (fun i m ei em hle => h1 ?_) (fun z => h0 (reach1 hL2 z))
  by_cases hm : m < 2 ^ 31
  · have := one_of em hm
    rw [ei]
    exact vp_in_nI (by omega) (by omega)
  · omega
theorem st26 {σ : XS} (h : Gd σ) : S26 Gd σ := by
  intro a1 a2 a3
  unfold PX7_put
  intro σ1 e1
  have hS1 : GS σ1 := h.sh.z (by rw [e1]; exact shw_I rfl)
  refine wX7_sheetOf (fun i hi ei => ⟨nofun, fun u hu => ?_⟩) (fun q => ⟨fun _ => ?_, nofun⟩)
  · cases hu
    have q : vp_in a1 4 := by rw [ei]; exact vp_in_nI hi (by decide)
    have ea : a1.toNatClampNeg = i := by rw [ei, nI_clamp (by omega)]
    refine ⟨isSh_at i hi, ?_⟩
    unfold PX3_isNothing
    rcases hS1 i hi with ⟨z1, z2, z3⟩ | ⟨z1, z2, z3, z4, z5⟩
    · refine ⟨fun _ => ⟨fun w => absurd w (by decide), fun _ => ?_⟩, fun w => absurd z1 w⟩
      intro σ2 e2
      have r46 : gI σ2 46 i = -1 := by rw [e2, gI_sIj _ _ (by decide)]; exact z3
      unfold PX8_put
      refine wX8_noSheet (fun _ => ⟨fun _ => ?_, fun w => absurd rfl w⟩) (fun w => absurd q w)
      refine wNoCell0 q ea r46 ⟨fun w => absurd w (by decide), fun _ => wNoCell0 q ea r46 ?_⟩
      rw [e2, e1]; exact wFail h 1 _ rfl
    · obtain ⟨L, hL, eL⟩ := vp_in_of z2 (by decide)
      refine ⟨fun w => absurd w (lane_ne z1), fun _ => ⟨fun _ => ?_, fun w => absurd rfl w⟩⟩
      refine wReach1 eL (by omega) (fun hm => ⟨fun w => absurd w (by decide), fun _ => ?_⟩) (fun hm => ⟨fun _ => ?_, fun w => absurd rfl w⟩)
      · obtain ⟨m, hm2, em⟩ := vp_in_of hm (by omega)
        have em2 : a2.toNatClampNeg = m := by rw [em, nI_clamp (by omega)]
        unfold PX3_write
        refine wReach1 eL (by omega) (fun _ => ⟨fun w => absurd w (by decide), fun _ => wCut ⟨vin_mono hm (by omega), fun σ4 e4 => ?_⟩⟩) (fun w => absurd hm w)
        rw [em2, show 16 + 2 * i + 1 = 17 + 2 * i by omega] at e4
        have r46 : gI σ4 46 i = nI L := by rw [e4, gI_sIj _ _ (by omega), z3, eL]
        have r47 : gI σ4 47 i = gI σ1 (16 + 2 * i) 2 := by rw [e4, gI_sIj _ _ (by omega), z4]
        have hfin : ∀ x : Int32, x = cutv (gI σ1 (16 + 2 * i) 2) a3 → ∀ σ13, σ13 = sI σ4 48 (60 * i + m) x → PX8_refused 1 σ13 (fun r2 σ2 => (1 : Int32) = r2 ∧ Gd σ2) := by
          intro x ex σ13 e13 σ14 e14
          refine ⟨rfl, ?_⟩
          rw [e14]
          have g16 : ∀ j k, j ≠ 16 + 2 * i → j ≠ 17 + 2 * i → j ≠ 46 → j ≠ 47 → j ≠ 48 → gI σ13 j k = gI σ1 j k := by
            intro j k n1 n2 n3 n4 n5
            rw [e13, gI_sIj _ _ n5, e4, gI_sIj _ _ n2]
          have o46 : ∀ k, gI σ13 46 k = gI σ1 46 k := fun k => by rw [e13, gI_sIj _ _ (by omega), e4, gI_sIj _ _ (by omega)]
          have o47 : ∀ k, gI σ13 47 k = gI σ1 47 k := fun k => by rw [e13, gI_sIj _ _ (by omega), e4, gI_sIj _ _ (by omega)]
          have o16 : ∀ k, gI σ13 (16 + 2 * i) k = gI σ1 (16 + 2 * i) k := fun k => by rw [e13, gI_sIj _ _ (by omega), e4, gI_sIj _ _ (by omega)]
          have h22 : σ13.2.2 = σ1.2.2 := by rw [e13, e4]; rfl
          refine h.fz (by rw [← e1]; exact Kz.of hi g16 h22) (hS1.set (i := i) (oth hi g16 (fun k _ => o46 k) (fun k _ => o47 k) ?_) (Or.inr ⟨?_, ?_, ?_, ?_, ?_⟩))
          · intro k hk
            rw [e13, gI_sIk _ _ (by omega), e4, gI_sIj _ _ (by omega)]
          · rw [o16]; exact z1
          · rw [o16]; exact z2
          · rw [o46, o16]; exact z3
          · rw [o47, o16]; exact z4
          · intro j hj
            have ev : vN σ13 46 i = vN σ1 46 i := by unfold vN; rw [o46]
            rw [ev] at hj
            by_cases hjm : j = m
            · subst hjm
              rw [e13, gI_sIe, gI_sIj _ _ (by omega), e4, gI_sIe]
              exact ex
            · rw [e13, gI_sIk _ _ (by omega), gI_sIj _ _ (by omega), e4, gI_sIj _ _ (by omega), gI_sIk _ _ hjm]
              exact z5 j hj
        unfold PX8_put
        refine wX8_noSheet (fun _ => ⟨fun _ => ?_, fun w => absurd rfl w⟩) (fun w => absurd q w)
        refine wNoCell q ea r46 (by omega) (fun _ => ⟨fun _ => ⟨q, ?_⟩, fun w => absurd (by decide) w⟩) (fun w => absurd hm w)
        rw [ea, r47, ei, em, ix60, nI_clamp (by omega)]
        have hv : vp_in (nI (60 * i + m)) 240 := vp_in_nI (by omega) (by decide)
        rw [← ei]
        refine ⟨fun w => ⟨hv, fun σ13 e13 => hfin _ ?_ σ13 e13⟩, fun w => ⟨q, fun w2 => ⟨hv, fun σ13 e13 => hfin _ ?_ σ13 e13⟩, fun w2 => ⟨hv, fun σ13 e13 => hfin _ ?_ σ13 e13⟩⟩⟩
        · unfold cutv; rw [if_pos w]
        · unfold cutv; rw [if_neg w, if_pos w2]
        · unfold cutv; rw [if_neg w, if_neg w2]
      · intro σ2 e2
        have r46 : gI σ2 46 i = nI L := by rw [e2, gI_sIj _ _ (by decide), z3, eL]
        unfold PX8_put
        refine wX8_noSheet (fun _ => ⟨fun _ => ?_, fun w => absurd rfl w⟩) (fun w => absurd q w)
        refine wNoCell q ea r46 (by omega) (fun w => absurd w hm) (fun _ => ⟨fun w => absurd w (by decide), fun _ => wNoCell q ea r46 (by omega) (fun w => absurd w hm) (fun _ => ?_)⟩)
        rw [e2, e1]; exact wFail h 3 _ rfl
  · unfold PX8_put
    refine wX8_noSheet (fun w => absurd w q) (fun _ => ⟨fun w => absurd w (by decide), fun _ => ?_⟩)
    rw [e1]; exact wRef h (-1)
theorem finL {σ : XS} (h : Gd σ) (y x : Int32) : Gd (sI (sI (sI (sI σ 0 8 0) 0 8 y) 24 0 0) 24 0 y) := by
  refine h.of ((((Ks.I rfl).tr (Ks.I rfl)).tr (Ks.I rfl)).tr (Ks.I rfl)) ?_ ?_ ?_ ?_ ?_ <;> simp [gI_sI]
  exact h.1.2.2.2.1
theorem finLL {σ : XS} (h : Gd σ) (y z : Int32) : Gd (sI (sI (sI (sI (sI σ 0 8 0) 0 8 z) 0 8 y) 24 0 0) 24 0 y) := by
  refine h.of (((((Ks.I rfl).tr (Ks.I rfl)).tr (Ks.I rfl)).tr (Ks.I rfl)).tr (Ks.I rfl)) ?_ ?_ ?_ ?_ ?_ <;> simp [gI_sI]
  exact h.1.2.2.2.1
theorem st27 {σ : XS} (h : Gd σ) : S27 Gd σ := by
  intro a1 a2 a3
  unfold PX7_cell
  intro σ1 e1
  have hS1 : GS σ1 := h.sh.z (by rw [e1]; exact shw_I rfl)
  refine wX7_sheetOf (fun i hi ei => ⟨nofun, fun u hu => ?_⟩) (fun q => ⟨fun _ => ?_, nofun⟩)
  · cases hu
    have q : vp_in a1 4 := by rw [ei]; exact vp_in_nI hi (by decide)
    have ea : a1.toNatClampNeg = i := by rw [ei, nI_clamp (by omega)]
    refine ⟨isSh_at i hi, ?_⟩
    refine wX7_isLane (fun hl => ⟨fun w => absurd w (by decide), fun _ => ?_⟩) (fun hl => ⟨fun _ => ?_, fun w => absurd rfl w⟩)
    · unfold PX3_faultAs PX3_isNothing
      rcases hS1 i hi with ⟨z1, z2, z3⟩ | ⟨z1, z2, z3, z4, z5⟩
      · refine ⟨fun _ => ⟨fun w => absurd w (by decide), fun _ => ?_⟩, fun w => absurd z1 w⟩
        intro σ7 e7
        have e8 : gI σ7 0 8 = 1 := by rw [e7, gI_sIe]
        rw [e8]
        refine ⟨fun w => absurd w (by decide), fun _ => ⟨fun w => absurd w (by decide), fun _ => ?_⟩⟩
        unfold PX8_cell
        intro σ8 e8'
        have r46 : gI σ8 46 i = -1 := by rw [e8', gI_sIj _ _ (by decide), e7, gI_sIj _ _ (by decide)]; exact z3
        refine wX8_noSheet (fun _ => ⟨fun _ => ?_, fun w => absurd rfl w⟩) (fun w => absurd q w)
        refine wIn (n := 3) (by decide) (fun _ => ⟨fun w => absurd w (by decide), fun _ => ⟨q, ?_⟩⟩) (fun w => absurd hl w)
        rw [ea, r46]
        refine ⟨fun _ => wNoCell0 q ea r46 ⟨fun w => absurd w (by decide), fun _ => wNoCell0 q ea r46 ?_⟩, fun w => absurd (by decide) w⟩
        intro σ9 e9
        refine ⟨rfl, ?_⟩
        rw [e9, e8', e7, e1]
        exact finL h 1 0
      · obtain ⟨L, hL, eL⟩ := vp_in_of z2 (by decide)
        refine ⟨fun w => absurd w (lane_ne z1), fun _ => ⟨fun _ => ⟨fun el => ?_, fun el => ?_⟩, fun w => absurd rfl w⟩⟩
        · intro σ7 e7
          have e8 : gI σ7 0 8 = 0 := by rw [e7, gI_sIe]
          have eL7 : gI σ7 (16 + 2 * i) 1 = nI L := by rw [e7, gI_sIj _ _ (by omega)]; exact eL
          have r46 : ∀ τ, τ = sI σ7 24 0 0 → gI τ 46 i = nI L := fun τ e => by rw [e, gI_sIj _ _ (by decide), e7, gI_sIj _ _ (by decide), z3, eL]
          have r47 : ∀ τ, τ = sI σ7 24 0 0 → gI τ 47 i = a3 := fun τ e => by rw [e, gI_sIj _ _ (by decide), e7, gI_sIj _ _ (by decide), z4, el]
          rw [e8]
          refine ⟨fun _ => ?_, fun w => absurd rfl w⟩
          refine wReach1 eL7 (by omega) (fun hm => ⟨fun w => absurd w (by decide), fun _ => ⟨fun _ => ?_, fun w => absurd rfl w⟩⟩) (fun hm => ⟨fun _ => ?_, fun w => absurd rfl w⟩)
          · obtain ⟨m, hm2, em⟩ := vp_in_of hm (by omega)
            have em2 : a2.toNatClampNeg = m := by rw [em, nI_clamp (by omega)]
            unfold PX3_read
            refine wReach1 eL7 (by omega) (fun _ => ⟨fun w => absurd w (by decide), fun _ => ⟨vin_mono hm (by omega), ?_⟩⟩) (fun w => absurd hm w)
            unfold PX8_cell
            intro σ8 e8'
            refine wX8_noSheet (fun _ => ⟨fun _ => ?_, fun w => absurd rfl w⟩) (fun w => absurd q w)
            refine wIn (n := 3) (by decide) (fun _ => ⟨fun w => absurd w (by decide), fun _ => ⟨q, ?_⟩⟩) (fun w => absurd hl w)
            rw [ea, r46 _ e8', r47 _ e8']
            refine ⟨fun w => absurd w (nI_pos (by omega)), fun _ => ⟨q, fun _ => ?_, fun w => absurd rfl w⟩⟩
            refine wNoCell q ea (r46 _ e8') (by omega) (fun _ => ⟨fun _ => ?_, fun w => absurd (by decide) w⟩) (fun w => absurd hm w)
            rw [ei, em, ix60, nI_clamp (by omega), nI_clamp (by omega), show 16 + 2 * i + 1 = 17 + 2 * i by omega]
            refine ⟨vp_in_nI (by omega) (by decide), ?_, ?_⟩
            · rw [e8', gI_sIj _ _ (by decide), e7, gI_sIj _ _ (by omega), gI_sIj _ _ (by omega)]
              rw [z5 m (by unfold vN; rw [z3, eL, nI_clamp (by omega)]; exact hm2)]
            · rw [e8', e7, e1]
              exact fin2 h 0 0
          · intro σ15 e15
            have e16 : gI σ15 0 8 = 3 := by rw [e15, gI_sIe]
            rw [e16]
            refine ⟨fun w => absurd w (by decide), fun _ => ?_⟩
            have r46' : ∀ τ, τ = sI σ15 24 0 0 → gI τ 46 i = nI L := fun τ e => by rw [e, gI_sIj _ _ (by decide), e15, gI_sIj _ _ (by decide), e7, gI_sIj _ _ (by decide), z3, eL]
            have r47' : ∀ τ, τ = sI σ15 24 0 0 → gI τ 47 i = a3 := fun τ e => by rw [e, gI_sIj _ _ (by decide), e15, gI_sIj _ _ (by decide), e7, gI_sIj _ _ (by decide), z4, el]
            unfold PX8_cell
            intro σ8 e8'
            refine wX8_noSheet (fun _ => ⟨fun _ => ?_, fun w => absurd rfl w⟩) (fun w => absurd q w)
            refine wIn (n := 3) (by decide) (fun _ => ⟨fun w => absurd w (by decide), fun _ => ⟨q, ?_⟩⟩) (fun w => absurd hl w)
            rw [ea, r46' _ e8', r47' _ e8']
            refine ⟨fun w => absurd w (nI_pos (by omega)), fun _ => ⟨q, fun _ => ?_, fun w => absurd rfl w⟩⟩
            refine wNoCell q ea (r46' _ e8') (by omega) (fun w => absurd w hm) (fun _ => ⟨fun w => absurd w (by decide), fun _ => wNoCell q ea (r46' _ e8') (by omega) (fun w => absurd w hm) (fun _ => ?_)⟩)
            intro σ9 e9
            refine ⟨rfl, ?_⟩
            rw [e9, e8', e15, e7, e1]
            exact finLL h 3 0
        · intro σ7 e7
          have e8 : gI σ7 0 8 = 2 := by rw [e7, gI_sIe]
          rw [e8]
          refine ⟨fun w => absurd w (by decide), fun _ => ⟨fun w => absurd w (by decide), fun _ => ?_⟩⟩
          unfold PX8_cell
          intro σ8 e8'
          have r46 : gI σ8 46 i = nI L := by rw [e8', gI_sIj _ _ (by decide), e7, gI_sIj _ _ (by decide), z3, eL]
          have r47 : gI σ8 47 i = gI σ1 (16 + 2 * i) 2 := by rw [e8', gI_sIj _ _ (by decide), e7, gI_sIj _ _ (by decide), z4]
          refine wX8_noSheet (fun _ => ⟨fun _ => ?_, fun w => absurd rfl w⟩) (fun w => absurd q w)
          refine wIn (n := 3) (by decide) (fun _ => ⟨fun w => absurd w (by decide), fun _ => ⟨q, ?_⟩⟩) (fun w => absurd hl w)
          rw [ea, r46, r47]
          refine ⟨fun w => absurd w (nI_pos (by omega)), fun _ => ⟨q, fun w => absurd w el, fun _ => ?_⟩⟩
          intro σ9 e9
          refine ⟨rfl, ?_⟩
          rw [e9, e8', e7, e1]
          exact finL h 2 0
    · unfold PX8_cell
      intro σ8 e8'
      refine wX8_noSheet (fun _ => ⟨fun _ => ?_, fun w => absurd rfl w⟩) (fun w => absurd q w)
      refine wIn (n := 3) (by decide) (fun w => absurd w hl) (fun _ => ⟨fun _ => ?_, fun w => absurd rfl w⟩)
      refine ⟨rfl, ?_⟩
      rw [e8', e1]
      exact fin1 h 0
  · unfold PX8_cell
    intro σ8 e8'
    refine wX8_noSheet (fun w => absurd w q) (fun _ => ⟨fun w => absurd w (by decide), fun _ => ⟨rfl, ?_⟩⟩)
    rw [e8', e1]
    exact fin1 h 0
