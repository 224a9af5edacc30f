/-! ===== sheet, put, cell ===== -/
theorem ix60 (i m : Nat) : (60 : Int32) * nI i + nI m = nI (60 * i + m) := by
  rw [show (60 : Int32) = nI 60 from rfl, pk_mul, nI_add]
def zr (τ : XS) (i m : Nat) : XS := sR τ 48 (fun k => if 60 * i ≤ k ∧ k < 60 * i + m then 0 else gI τ 48 k)
theorem zr0 (τ : XS) (i : Nat) : zr τ i 0 = τ := by
  unfold zr
  have e : (fun k => if 60 * i ≤ k ∧ k < 60 * i + 0 then 0 else gI τ 48 k) = gI τ 48 := by
    funext k
    rw [if_neg (by omega)]
  rw [e, sR_id]
theorem sheetL {i N : Nat} {f2 : Int32} {post : Int32 → XS → Prop} {kx : Int32 → XS → Prop} {τ : XS} (hi : i < 4) (hN : N ≤ 60) (hk : kx (nI N) (zr τ i N)) : ∀ (n m : Nat), m ≤ N → N < m + n → LX8_sheet_65 (nI i) f2 (nI N) post kx n (nI m) (zr τ i m) := by
  intro n
  induction n with
  | zero => intro m h1 h2; omega
  | succ n ih =>
    intro m h1 h2
    rw [LX8_sheet_65]
    refine ⟨fun h => ?_, fun h => ?_⟩
    · rw [nI_leI (by omega) (by omega)] at h
      obtain rfl : m = N := by omega
      exact hk
    · rw [nI_leI (by omega) (by omega)] at h
      rw [ix60]
      refine ⟨vp_in_nI (by omega) (by omega), fun σ3 e3 x4 e4 => ?_⟩
      rw [e3, e4, nI_1, nI_clamp (by omega)]
      have e : sI (zr τ i m) 48 (60 * i + m) 0 = zr τ i (m + 1) := by
        unfold zr
        rw [sI_sR]
        congr 1
        funext k
        unfold upd
        by_cases hk : k = 60 * i + m
        · subst hk; simp
        · have : (60 * i ≤ k ∧ k < 60 * i + (m + 1)) ↔ (60 * i ≤ k ∧ k < 60 * i + m) := by omega
          simp [hk, this]
      rw [e]
      exact ih (m + 1) (by omega) (by omega)
theorem inS {a : Int32} {n : Nat} (hn : n < 2 ^ 31) (c : Int32) (hc : c = nI n) : (0 ≤ a ∧ a ≤ c) ↔ vp_in a (n + 1) := by
  rw [vp_in_iff, Int32.le_iff_toInt_le, Int32.le_iff_toInt_le, hc, nI_toInt hn]
  have e : (0 : Int32).toInt = 0 := by decide
  omega
theorem clip {a : Int32} (h0 : 0 ≤ a) (h60 : a ≤ 60) : (if (0 : Int32) < (if (60 : Int32) < a then 60 else a) then (if (60 : Int32) < a then 60 else a) else 0) = a := by
  have h1 : ¬ (60 : Int32) < a := by
    rw [Int32.lt_iff_toInt_lt]
    rw [Int32.le_iff_toInt_le] at h60
    omega
  rw [if_neg h1]
  by_cases h2 : (0 : Int32) < a
  · rw [if_pos h2]
  · rw [if_neg h2]
    rw [Int32.lt_iff_toInt_lt] at h2
    rw [Int32.le_iff_toInt_le] at h0
    apply Int32.toInt_inj.mp
    omega
theorem Kz.of {σ σ' : XS} {i : Nat} (hi : i < 4) (g : ∀ j k, j ≠ 16 + 2 * i → j ≠ 17 + 2 * i → j ≠ 46 → j ≠ 47 → j ≠ 48 → gI σ' j k = gI σ j k) (h2 : σ'.2.2 = σ.2.2) : Kz σ σ' := by
  refine ⟨fun j k hs => g j k ?_ ?_ ?_ ?_ ?_, h2⟩
  · intro e; rw [e, (shw16 i hi).1] at hs; cases hs
  · intro e; rw [e, (shw16 i hi).2.1] at hs; cases hs
  · intro e; rw [e] at hs; cases hs
  · intro e; rw [e] at hs; cases hs
  · intro e; rw [e] at hs; cases hs
theorem st24 {σ : XS} (h : Gd σ) : S24 Gd σ := by
  intro a1 a2 a3
  unfold PX7_sheet
  intro σ1 e1
  refine wX7_sheetOf (fun i hi ei => ⟨nofun, fun u hu => ?_⟩) (fun q => ⟨fun _ => ?_, nofun⟩)
  · cases hu
    have q : vp_in a1 4 := by rw [ei]; exact vp_in_nI hi (by decide)
    have ea : a1.toNatClampNeg = i := by rw [ei, nI_clamp (by omega)]
    refine ⟨isSh_at i hi, ?_⟩
    refine wX7_isLane (fun hl => ⟨fun w => absurd w (by decide), fun _ => ⟨fun h60 => ⟨fun h0 => ?_, fun h0 => ?_⟩, fun h60 => ?_⟩⟩) (fun hl => ⟨fun _ => ?_, fun w => absurd rfl w⟩)
    · obtain ⟨n, hn, en⟩ := vp_in_of ((inS (n := 60) (by decide) 60 rfl).mp ⟨h0, h60⟩) (by decide)
      unfold PX3_renew
      refine wFill (by decide) ?_
      intro σ2 e2 σ3 e3
      rw [clip h0 h60] at e2
      have hq : 16 + 2 * i + 1 = 17 + 2 * i := by omega
      rw [hq] at e2
      unfold PX8_sheet
      refine wX8_noSheet (fun _ => ⟨fun _ => ?_, fun w => absurd rfl w⟩) (fun w => absurd q w)
      refine wIn (n := 3) (by decide) (fun _ => ⟨fun w => absurd w (by decide), fun _ => ⟨fun _ => ⟨fun _ => ?_, fun w => absurd h0 w⟩, fun w => absurd h60 w⟩⟩) (fun w => absurd hl w)
      refine ⟨q, fun σ9 e9 => ⟨q, fun σ10 e10 => ?_⟩⟩
      rw [ea] at e9 e10
      have hL := sheetL (i := i) (N := n) (f2 := a2) (post := fun r2 σ2 => (1 : Int32) = r2 ∧ Gd σ2) (kx := fun x14 σ15 => PX8_refused 1 σ15 (fun r16 σ17 => (1 : Int32) = r16 ∧ Gd σ17)) (τ := σ10) hi (by omega) ?_ 1000 0 (by omega) (by omega)
      · rw [zr0] at hL
        rw [ei, en]
        exact hL
      · intro σ17 e17
        refine ⟨rfl, ?_⟩
        rw [e17]
        have g16 : ∀ j k, j ≠ 16 + 2 * i → j ≠ 17 + 2 * i → j ≠ 46 → j ≠ 47 → j ≠ 48 → gI (zr σ10 i n) j k = gI σ1 j k := by
          intro j k n1 n2 n3 n4 n5
          unfold zr
          rw [gI_row' _ _ n5, e10, gI_sIj _ _ n4, e9, gI_sIj _ _ n3, e3, gI_sIj _ _ n1, e2, gI_sIj _ _ n1, gI_row' _ _ n2]
        have e48 : ∀ k, gI (zr σ10 i n) 48 k = if 60 * i ≤ k ∧ k < 60 * i + n then 0 else gI σ1 48 k := by
          intro k
          unfold zr
          rw [gI_row]
          have : gI σ10 48 k = gI σ1 48 k := by rw [e10, gI_sIj _ _ (by omega), e9, gI_sIj _ _ (by omega), e3, gI_sIj _ _ (by omega), e2, gI_sIj _ _ (by omega), gI_row' _ _ (by omega)]
          rw [this]
        have z2 : gI (zr σ10 i n) (16 + 2 * i) 2 = a2 := by unfold zr; rw [gI_row' _ _ (by omega), e10, gI_sIj _ _ (by omega), e9, gI_sIj _ _ (by omega), e3, gI_sIe]
        have z1 : gI (zr σ10 i n) (16 + 2 * i) 1 = a3 := by unfold zr; rw [gI_row' _ _ (by omega), e10, gI_sIj _ _ (by omega), e9, gI_sIj _ _ (by omega), e3, gI_sIk _ _ (by decide), e2, gI_sIe]
        have z46 : gI (zr σ10 i n) 46 i = a3 := by unfold zr; rw [gI_row' _ _ (by omega), e10, gI_sIj _ _ (by omega), e9, gI_sIe]
        have z47 : gI (zr σ10 i n) 47 i = a2 := by unfold zr; rw [gI_row' _ _ (by omega), e10, gI_sIe]
        have h22 : (zr σ10 i n).2.2 = σ1.2.2 := by unfold zr; rw [e10, e9, e3, e2]; rfl
        refine h.fz (by rw [← e1]; exact Kz.of hi g16 h22) ((h.sh.z (σ' := σ1) (by rw [e1]; exact shw_I rfl)).set (i := i) (oth hi g16 ?_ ?_ ?_) (Or.inr ⟨?_, ?_, ?_, ?_, ?_⟩))
        · intro k hk
          unfold zr
          rw [gI_row' _ _ (by omega), e10, gI_sIj _ _ (by omega), e9, gI_sIk _ _ hk, e3, gI_sIj _ _ (by omega), e2, gI_sIj _ _ (by omega), gI_row' _ _ (by omega)]
        · intro k hk
          unfold zr
          rw [gI_row' _ _ (by omega), e10, gI_sIk _ _ hk, e9, gI_sIj _ _ (by omega), e3, gI_sIj _ _ (by omega), e2, gI_sIj _ _ (by omega), gI_row' _ _ (by omega)]
        · intro k hk
          rw [e48, if_neg (by omega)]
        · rw [z2]; exact hl
        · rw [z1, en]; exact vp_in_nI (by omega) (by decide)
        · rw [z46, z1]
        · rw [z47, z2]
        · intro j hj
          have : vN (zr σ10 i n) 46 i = n := by unfold vN; rw [z46, en, nI_clamp (by omega)]
          rw [this] at hj
          rw [e48, if_pos (by omega)]
          unfold zr
          rw [gI_row' _ _ (by omega), e10, gI_sIj _ _ (by omega), e9, gI_sIj _ _ (by omega), e3, gI_sIj _ _ (by omega), e2, gI_sIj _ _ (by omega), gI_row, if_pos (by omega)]
    · intro σ2 e2
      unfold PX8_sheet
      refine wX8_noSheet (fun _ => ⟨fun _ => ?_, fun w => absurd rfl w⟩) (fun w => absurd q w)
      refine wIn (n := 3) (by decide) (fun _ => ⟨fun w => absurd w (by decide), fun _ => ⟨fun _ => ⟨fun w => absurd w h0, fun _ => ?_⟩, fun w => absurd h60 w⟩⟩) (fun w => absurd hl w)
      rw [e2, e1]; exact wFail h 4 _ rfl
    · unfold PX8_sheet
      refine wX8_noSheet (fun _ => ⟨fun _ => ?_, fun w => absurd rfl w⟩) (fun w => absurd q w)
      refine wIn (n := 3) (by decide) (fun _ => ⟨fun w => absurd w (by decide), fun _ => ⟨fun w => absurd w h60, fun _ => ?_⟩⟩) (fun w => absurd hl w)
      rw [e1]; exact wRef h (-2)
    · unfold PX8_sheet
      refine wX8_noSheet (fun _ => ⟨fun _ => ?_, fun w => absurd rfl w⟩) (fun w => absurd q w)
      refine wIn (n := 3) (by decide) (fun w => absurd w hl) (fun _ => ⟨fun _ => ?_, fun w => absurd rfl w⟩)
      rw [e1]; exact wRef h (-2)
  · unfold PX8_sheet
    refine wX8_noSheet (fun w => absurd w q) (fun _ => ⟨fun w => absurd w (by decide), fun _ => ?_⟩)
    rw [e1]; exact wRef h (-1)
/-- where cells are asked for -/
theorem wReaches {σ : XS} {q : Nat} {a n : Int32} {L : Nat} {post : Int32 → Prop} (hL : gI σ q 1 = nI L) (hL2 : L ≤ 60) (h1 : ∀ i m : Nat, a = nI i → n = nI m → i + m ≤ L → post 1) (h0 : (∀ i m : Nat, a = nI i → n = nI m → ¬ i + m ≤ L) → post 0) : PX3_reaches q a n σ post := by
  unfold PX3_reaches
  rw [hL]
  refine ⟨fun z => h0 (fun i m ei _ hle => ?_), fun z => ⟨fun z2 => h0 (fun i m ei em hle => ?_), fun z2 => ⟨fun z3 => h0 (fun i m ei em hle => ?_), fun z3 => ⟨fun z4 => h0 (fun i m ei em hle => ?_), fun z4 => ?_⟩⟩⟩⟩
  · rw [ei] at z
    exact nI_pos (by have := hle; omega) z
  · rw [ei, nI_ltI (by omega) (by omega)] at z2
    omega
  · rw [em] at z3
    exact nI_pos (by omega) z3
  · rw [ei, em, pk_sub (by omega), nI_ltI (by omega) (by omega)] at z4
    omega
  · obtain ⟨i, hi, ei⟩ := nI_of z
    obtain ⟨m, hm, em⟩ := nI_of z3
    rw [ei, nI_ltI (by omega) hi] at z2
    rw [ei, em, pk_sub (by omega), nI_ltI (by omega) hm] at z4
    exact h1 i m ei em (by omega)
