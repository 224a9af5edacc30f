/-! ===== the story: its order ===== -/
def fs (κ : Nat) : Nat := match κ with | 0 => 0 | 1 => 7 | 2 => 14 | _ => 39
def mx (κ : Nat) : Nat := match κ with | 0 => 6 | 1 => 6 | 2 => 24 | _ => 8
def kdN (s : Nat) : Nat := if s < 7 then 0 else if s < 14 then 1 else if s < 39 then 2 else 3
theorem xF (κ : Nat) : xFirst κ = nI (fs κ) := by
  match κ with
  | 0 => rfl
  | 1 => rfl
  | 2 => rfl
  | κ + 3 => rfl
theorem xM (κ : Nat) : xMost κ = nI (mx κ) := by
  match κ with
  | 0 => rfl
  | 1 => rfl
  | 2 => rfl
  | κ + 3 => rfl
theorem fs_lt (κ : Nat) : fs κ + mx κ < 48 := by
  match κ with
  | 0 => decide
  | 1 => decide
  | 2 => decide
  | κ + 3 => show 39 + 8 < 48; decide
theorem kd_of {κ : Nat} (h4 : κ < 4) {c : Nat} (hc : c ≤ mx κ) : kdN (fs κ + c) = κ := by
  match κ, h4 with
  | 0, _ => unfold kdN; simp only [fs, mx] at hc ⊢; rw [if_pos (by omega)]
  | 1, _ => unfold kdN; simp only [fs, mx] at hc ⊢; rw [if_neg (by omega), if_pos (by omega)]
  | 2, _ => unfold kdN; simp only [fs, mx] at hc ⊢; rw [if_neg (by omega), if_neg (by omega), if_pos (by omega)]
  | 3, _ => unfold kdN; simp only [fs, mx] at hc ⊢; rw [if_neg (by omega), if_neg (by omega), if_neg (by omega)]
  | κ + 4, h => exact absurd h (by omega)
theorem kdN_lt {a b : Nat} (h : kdN a < kdN b) : a < b := by
  revert h
  unfold kdN
  repeat' split
  all_goals (intro h; omega)
theorem kdN4 (s : Nat) : kdN s < 4 := by
  unfold kdN
  split
  · decide
  · split
    · decide
    · split <;> decide
theorem wKind {σ : XS} {s : Nat} {post : Int32 → Prop} (hs : s < 48) (h : post (nI (kdN s))) : PX5_kindIn (nI s) σ post := by
  unfold PX5_kindIn
  have e1 : (1 : Int32).toNatClampNeg = 1 := by decide
  have e2 : (2 : Int32).toNatClampNeg = 2 := by decide
  have e3 : (3 : Int32).toNatClampNeg = 3 := by decide
  rw [e1, e2, e3, xF, xF, xF]
  simp only [fs]
  rw [nI_leI (by decide) (by omega), nI_leI (by decide) (by omega), nI_leI (by decide) (by omega)]
  unfold kdN at h
  refine ⟨pk_in 1 4 (by decide), fun z => ⟨pk_in 2 4 (by decide), fun z2 => ⟨pk_in 3 4 (by decide), fun z3 => ?_, fun z3 => ?_⟩, fun z2 => ?_⟩, fun z => ?_⟩
  · rw [if_neg (by omega), if_neg (by omega), if_neg (by omega)] at h; exact h
  · rw [if_neg (by omega), if_neg (by omega), if_pos (by omega)] at h; exact h
  · rw [if_neg (by omega), if_pos (by omega)] at h; exact h
  · rw [if_pos (by omega)] at h; exact h
theorem wBefore {σ : XS} {s o : Nat} {post : Int32 → Prop} (hs : s < 48) (ho : o < 48) (n1 : vp_in (gI σ 6 s) 40) (n2 : vp_in (gI σ 6 o) 40) (hk : kdN s = kdN o → o < s) (h1 : key σ s < key σ o → post 1) (h0 : key σ o < key σ s → post 0) : PX5_isBefore (nI s) (nI o) σ post := by
  unfold PX5_isBefore
  obtain ⟨a1, a2⟩ := cnt n1 (by decide)
  obtain ⟨b1, b2⟩ := cnt n2 (by decide)
  rw [nI_clamp (by omega), nI_clamp (by omega), a1, b1, nI_eq (by omega) (by omega), nI_leI (by omega) (by omega)]
  unfold key at h1 h0
  have v1 := pk_in s 48 hs
  have v2 := pk_in o 48 ho
  refine ⟨v1, v2, fun e => wKind hs (wKind ho ?_), fun e => ⟨v1, v2, fun z => h0 (by omega), fun z => h1 (by omega)⟩⟩
  have k1 := kdN4 s
  have k2 := kdN4 o
  rw [nI_leI (by omega) (by omega)]
  refine ⟨fun z => h0 ?_, fun z => h1 ?_⟩
  · by_cases ek : kdN s = kdN o
    · have := hk ek; omega
    · have := kdN_lt (a := o) (b := s) (by omega); omega
  · have := kdN_lt (a := s) (b := o) (by omega); omega
/-- a change of the state within a set of entries -/
def KK (b : Nat → Nat → Bool) (σ σ' : XS) : Prop := (∀ j k, b j k = false → gI σ' j k = gI σ j k) ∧ σ'.2 = σ.2
theorem KK.rf {b : Nat → Nat → Bool} (σ : XS) : KK b σ σ := ⟨fun _ _ _ => rfl, rfl⟩
theorem KK.tr {b : Nat → Nat → Bool} {σ σ1 σ2 : XS} (h : KK b σ σ1) (h2 : KK b σ1 σ2) : KK b σ σ2 := ⟨fun j k hs => (h2.1 j k hs).trans (h.1 j k hs), h2.2.trans h.2⟩
theorem KK.I {b : Nat → Nat → Bool} {σ : XS} {j k : Nat} {x : Int32} (hs : b j k = true) : KK b σ (sI σ j k x) := by
  refine ⟨fun j' k' h => ?_, rfl⟩
  rw [gI_sI]
  by_cases hq : j' = j ∧ k' = k
  · rw [hq.1, hq.2, hs] at h
    cases h
  · rw [if_neg hq]
theorem KK.R {b : Nat → Nat → Bool} {σ : XS} {j : Nat} {f : Nat → Int32} (hs : ∀ k, b j k = true) : KK b σ (sR σ j f) := by
  refine ⟨fun j' k' h => ?_, rfl⟩
  rw [gI_sR]
  by_cases hq : j' = j
  · rw [hq, hs] at h
    cases h
  · rw [if_neg hq]
theorem KK.mono {b c : Nat → Nat → Bool} {σ σ' : XS} (h : KK b σ σ') (hm : ∀ j k, c j k = false → b j k = false) : KK c σ σ' := ⟨fun j k hs => h.1 j k (hm j k hs), h.2⟩
theorem KK.row {b : Nat → Nat → Bool} {σ σ' : XS} (h : KK b σ σ') {j : Nat} (hs : ∀ k, b j k = false) : gI σ' j = gI σ j := by
  funext k
  exact h.1 j k (hs k)
def GOc (σ : XS) (T : Nat) (lv : Nat → Prop) : Prop := gI σ 4 6 = nI T ∧ (∀ i, i < T → gI σ 10 i = nI (vN σ 10 i) ∧ lv (vN σ 10 i)) ∧ (∀ i j, i < j → j < T → key σ (vN σ 10 i) < key σ (vN σ 10 j)) ∧ (∀ s, lv s → ∃ i, i < T ∧ vN σ 10 i = s)
/-- as many as there is room for -/
theorem pigeon : ∀ (N T : Nat) (f : Nat → Nat), (∀ i, i < T → f i < N) → (∀ i j, i < j → j < T → f i ≠ f j) → T ≤ N := by
  intro N
  induction N with
  | zero =>
    intro T f h1 _
    rcases Nat.eq_zero_or_pos T with h | h
    · omega
    · exact absurd (h1 0 h) (by omega)
  | succ N ih =>
    intro T f h1 h2
    by_cases hj : ∃ j, j < T ∧ f j = N
    · obtain ⟨j, hj, ej⟩ := hj
      have key : T - 1 ≤ N := by
        refine ih (T - 1) (fun i => if i = j then f (T - 1) else f i) (fun i hi => ?_) (fun i i' hii hi' => ?_)
        · have a1 := h1 (T - 1) (by omega)
          have a2 := h1 i (by omega)
          show (if i = j then f (T - 1) else f i) < N
          split
          · rename_i e
            have : f j ≠ f (T - 1) := h2 j (T - 1) (by omega) (by omega)
            omega
          · rename_i e
            have : f i ≠ f j := by
              rcases Nat.lt_or_gt_of_ne e with l | l
              · exact h2 i j l (by omega)
              · exact fun w => h2 j i l (by omega) w.symm
            omega
        · show (if i = j then f (T - 1) else f i) ≠ (if i' = j then f (T - 1) else f i')
          have b1 : f i ≠ f i' := h2 i i' hii (by omega)
          have b2 : f i ≠ f (T - 1) := h2 i (T - 1) (by omega) (by omega)
          have b3 : f i' ≠ f (T - 1) := h2 i' (T - 1) (by omega) (by omega)
          split
          · split
            · omega
            · exact fun w => b3 w.symm
          · split
            · exact b2
            · exact b1
      omega
    · refine Nat.le_succ_of_le (ih T f (fun i hi => ?_) h2)
      have := h1 i hi
      have : f i ≠ N := fun e => hj ⟨i, hi, e⟩
      omega
theorem GOc.le {σ : XS} {T : Nat} {lv : Nat → Prop} (h : GOc σ T lv) {N : Nat} (hl : ∀ s, lv s → s < N) : T ≤ N := by
  refine pigeon N T (fun i => vN σ 10 i) (fun i hi => hl _ (h.2.1 i hi).2) (fun i j hij hj e => ?_)
  have := h.2.2.1 i j hij hj
  have e' : vN σ 10 i = vN σ 10 j := e
  rw [e'] at this
  omega
