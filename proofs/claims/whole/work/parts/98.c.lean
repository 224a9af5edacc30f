/-! ===== takeBack ===== -/
def r10 (j _k : Nat) : Bool := j == 10
def tbK (κ l s : Nat) : Prop := ¬ (kdN s = κ ∧ fs κ + l ≤ s)
def tbI (σ : XS) (T κ l m4 m5 : Nat) (τ : XS) : Prop := m4 ≤ m5 ∧ KK r10 σ τ ∧ (∀ i, m5 ≤ i → i < T → gI τ 10 i = gI σ 10 i) ∧ (∀ i, i < m4 → ∃ j, j < m5 ∧ tbK κ l (vN σ 10 j) ∧ gI τ 10 i = nI (vN σ 10 j)) ∧ (∀ i i', i < i' → i' < m4 → key σ (vN τ 10 i) < key σ (vN τ 10 i')) ∧ (∀ j, j < m5 → tbK κ l (vN σ 10 j) → ∃ i, i < m4 ∧ vN τ 10 i = vN σ 10 j)
theorem tbI.push {σ τ : XS} {T κ l m4 m5 : Nat} {lv : Nat → Prop} (hO : GOc σ T lv) (hl : ∀ s, lv s → s < 48) (h : tbI σ T κ l m4 m5 τ) (h5 : m5 < T) (hk : tbK κ l (vN σ 10 m5)) : tbI σ T κ l (m4 + 1) (m5 + 1) (sI τ 10 m4 (nI (vN σ 10 m5))) := by
  obtain ⟨b1, b2, b3, b4, b5, b6⟩ := h
  have lt : ∀ j, j < T → vN σ 10 j < 48 := fun j hj => hl _ (hO.2.1 j hj).2
  have e : ∀ i, gI (sI τ 10 m4 (nI (vN σ 10 m5))) 10 i = if i = m4 then nI (vN σ 10 m5) else gI τ 10 i := fun i => gI_upd _ _ _ _ _
  have ev : ∀ i, vN (sI τ 10 m4 (nI (vN σ 10 m5))) 10 i = if i = m4 then vN σ 10 m5 else vN τ 10 i := by
    intro i
    have : vN (sI τ 10 m4 (nI (vN σ 10 m5))) 10 i = (if i = m4 then nI (vN σ 10 m5) else gI τ 10 i).toNatClampNeg := by rw [← e]; rfl
    rw [this]
    by_cases a : i = m4
    · rw [if_pos a, if_pos a, nI_clamp (by have := lt m5 h5; omega)]
    · rw [if_neg a, if_neg a]; rfl
  refine ⟨by omega, b2.tr (KK.I rfl), fun i h1 h2 => ?_, fun i hi => ?_, fun i i' hi hi' => ?_, fun j hj hkj => ?_⟩
  · rw [e, if_neg (by omega)]; exact b3 i (by omega) h2
  · rw [e]
    by_cases a : i = m4
    · rw [if_pos a]; exact ⟨m5, by omega, hk, rfl⟩
    · rw [if_neg a]
      obtain ⟨j, hj, c1, c2⟩ := b4 i (by omega)
      exact ⟨j, by omega, c1, c2⟩
  · rw [ev, ev, if_neg (by omega)]
    by_cases a : i' = m4
    · rw [if_pos a]
      obtain ⟨j, hj, c1, c2⟩ := b4 i (by omega)
      have : vN τ 10 i = vN σ 10 j := by
        have : vN τ 10 i = (nI (vN σ 10 j)).toNatClampNeg := by rw [← c2]; rfl
        rw [this, nI_clamp (by have := lt j (by omega); omega)]
      rw [this]
      exact hO.2.2.1 j m5 (by omega) h5
    · rw [if_neg a]; exact b5 i i' hi (by omega)
  · by_cases a : j = m5
    · exact ⟨m4, by omega, by rw [ev, if_pos rfl, a]⟩
    · obtain ⟨i, hi, c⟩ := b6 j (by omega) hkj
      exact ⟨i, by omega, by rw [ev, if_neg (by omega)]; exact c⟩
theorem tbI.skip {σ τ : XS} {T κ l m4 m5 : Nat} (h : tbI σ T κ l m4 m5 τ) (hk : ¬ tbK κ l (vN σ 10 m5)) : tbI σ T κ l m4 (m5 + 1) τ := by
  obtain ⟨b1, b2, b3, b4, b5, b6⟩ := h
  refine ⟨by omega, b2, fun i h1 h2 => b3 i (by omega) h2, fun i hi => ?_, b5, fun j hj hkj => ?_⟩
  · obtain ⟨j, hj, c1, c2⟩ := b4 i hi
    exact ⟨j, by omega, c1, c2⟩
  · by_cases a : j = m5
    · rw [a] at hkj; exact absurd hkj hk
    · exact b6 j (by omega) hkj
theorem tbL {σ : XS} {T κ l : Nat} {lv : Nat → Prop} {f2 : Int32} {post : Int32 → XS → Prop} {kx : Int32 → Int32 → XS → Prop} (h4 : κ < 4) (hl25 : l ≤ 25) (hT : T ≤ 48) (hO : GOc σ T lv) (hl : ∀ s, lv s → s < 48) (hk : ∀ m4 τ, tbI σ T κ l m4 T τ → kx (nI m4) (nI T) τ) : ∀ (n m4 m5 : Nat) (τ : XS), m5 ≤ T → T < m5 + n → tbI σ T κ l m4 m5 τ → LX5_takeBack_41 (nI κ) f2 (nI l) post kx n (nI m4) (nI m5) τ := by
  have hfl := fs_lt κ
  intro n
  induction n with
  | zero => intro m4 m5 τ h1 h2; omega
  | succ n ih =>
    intro m4 m5 τ h1 h2 hI
    have h46 : gI τ 4 6 = nI T := (hI.2.1.1 4 6 rfl).trans hO.1
    rw [LX5_takeBack_41, h46, nI_leI (by omega) (by omega)]
    refine ⟨fun z => ?_, fun z => ⟨pk_in m5 48 (by omega), fun x7 e7 => ?_⟩⟩
    · obtain rfl : m5 = T := by omega
      exact hk m4 τ hI
    · rw [nI_clamp (by omega), hI.2.2.1 m5 (by omega) (by omega), (hO.2.1 m5 (by omega)).1] at e7
      subst e7
      have lt : vN σ 10 m5 < 48 := hl _ (hO.2.1 m5 (by omega)).2
      have k4 := kdN4 (vN σ 10 m5)
      have hm := hI.1
      have psh : tbK κ l (vN σ 10 m5) → ∀ σ1 : XS, σ1 = sI τ 10 (nI m4).toNatClampNeg (nI (vN σ 10 m5)) → ∀ x : Int32, x = nI m4 + 1 → ∀ y : Int32, y = nI m5 + 1 → LX5_takeBack_41 (nI κ) f2 (nI l) post kx n x y σ1 := by
        intro hb σ1 e1 x ex y ey
        rw [nI_clamp (by omega)] at e1
        rw [e1, ex, ey, nI_1, nI_1]
        exact ih (m4 + 1) (m5 + 1) _ (by omega) (by omega) (hI.push hO hl (by omega) hb)
      refine wKind lt ⟨fun ek => ?_, fun ek => ?_⟩
      · rw [nI_eq (by omega) (by omega)] at ek
        rw [nI_clamp (by omega), xF, nI_add, nI_leI (by omega) (by omega)]
        refine ⟨pk_in κ 4 h4, fun w x ex => ?_, fun w => ⟨pk_in m4 48 (by omega), psh (fun b => w b.2)⟩⟩
        rw [ex, nI_1]
        exact ih m4 (m5 + 1) τ (by omega) (by omega) (hI.skip (fun b => b ⟨ek, w⟩))
      · rw [nI_eq (by omega) (by omega)] at ek
        exact ⟨pk_in m4 48 (by omega), psh (fun b => ek b.1)⟩
def TbR (σ : XS) (κ l : Nat) (lv : Nat → Prop) (σ' : XS) : Prop :=
  KK stw σ σ' ∧ (∀ j, gI σ' 5 j = if j = κ then nI l else gI σ 5 j) ∧ gI σ' 6 = gI σ 6 ∧ gI σ' 7 = gI σ 7 ∧ gI σ' 8 = gI σ 8 ∧ gI σ' 9 = gI σ 9 ∧ ∃ T', GOc σ' T' (fun s => lv s ∧ tbK κ l s)
theorem wBack {σ : XS} {κ c T : Nat} {lv : Nat → Prop} {a2 : Int32} {post : Int32 → XS → Prop} (h4 : κ < 4) (hc : gI σ 5 κ = nI c) (hcm : c ≤ 25) (hT : T ≤ 48) (hO : GOc σ T lv) (hl : ∀ s, lv s → s < 48) (h1 : ∀ k σ', k ≤ c → a2 = nI k → TbR σ κ (c - k) lv σ' → post (nI (c - k)) σ') (h0 : ¬ vp_in a2 (c + 1) → post (-2) σ) : PX5_takeBack (nI κ) a2 σ post := by
  unfold PX5_takeBack
  have v4 : vp_in (nI κ) 4 := pk_in κ 4 h4
  rw [nI_clamp (by omega), hc]
  refine ⟨fun w => absurd w (nI_pos (by omega)), fun _ => ⟨fun w => ?_, fun _ => ⟨fun w => h0 (fun q => vin_lo q w), fun hn => ⟨v4, fun hle => ⟨v4, fun x5 e5 => ?_⟩, fun hle => h0 (fun q => hle ?_)⟩⟩⟩⟩
  · rw [show (4 : Int32) = nI 4 from rfl, nI_leI (by decide) (by omega)] at w; omega
  · obtain ⟨k, hk, rfl⟩ := nI_of hn
    rw [nI_leI (by omega) (by omega)] at hle
    rw [pk_sub hle] at e5
    subst e5
    have base : tbI σ T κ (c - k) 0 0 σ := ⟨Nat.le_refl _, KK.rf σ, fun _ _ _ => rfl, fun i hi => by omega, fun i i' _ hi' => by omega, fun j hj => by omega⟩
    refine tbL (m4 := 0) (m5 := 0) h4 (by omega) hT hO hl (fun m4 τ hI σ21 e21 => ⟨v4, fun σ22 e22 => h1 k σ22 hle rfl ?_⟩) 1000 σ (by omega) (by omega) base
    obtain ⟨b1, b2, b3, b4, b5, b6⟩ := hI
    have o22 : ∀ j n, j ≠ 4 → j ≠ 5 → gI σ22 j n = gI τ j n := by
      intro j n n1 n2
      rw [e22, gI_sIj _ _ n2, e21, gI_sIj _ _ n1]
    have r22 : ∀ j, j ≠ 4 → j ≠ 5 → j ≠ 10 → gI σ22 j = gI σ j := by
      intro j n1 n2 n3
      funext n
      rw [o22 j n n1 n2]
      exact b2.1 j n (by unfold r10; simp [n3])
    have v22 : ∀ i, vN σ22 10 i = vN τ 10 i := fun i => by unfold vN; rw [o22 10 i (by decide) (by decide)]
    have lt : ∀ j, j < T → vN σ 10 j < 48 := fun j hj => hl _ (hO.2.1 j hj).2
    refine ⟨?_, ?_, r22 6 (by decide) (by decide) (by decide), r22 7 (by decide) (by decide) (by decide), r22 8 (by decide) (by decide) (by decide), r22 9 (by decide) (by decide) (by decide), m4, ?_, ?_, ?_, ?_⟩
    · refine (b2.mono ?_).tr ?_
      · intro j k hs
        unfold stw at hs
        unfold r10
        simp only [Bool.or_eq_false_iff] at hs
        exact hs.2.2.2.2.2.1
      · rw [e22, e21]; exact (KK.I rfl).tr (KK.I rfl)
    · intro j
      rw [e22, gI_upd, e21, gI_sIj _ _ (by decide), b2.1 5 j rfl]
    · rw [e22, gI_sIj _ _ (by decide), e21, gI_sIe]
    · intro i hi
      obtain ⟨j, hj, c1, c2⟩ := b4 i hi
      have : vN τ 10 i = vN σ 10 j := by
        have : vN τ 10 i = (nI (vN σ 10 j)).toNatClampNeg := by rw [← c2]; rfl
        rw [this, nI_clamp (by have := lt j (by omega); omega)]
      rw [v22, this, o22 10 i (by decide) (by decide), c2]
      exact ⟨rfl, (hO.2.1 j (by omega)).2, c1⟩
    · intro i j hij hj
      rw [v22, v22, key6 (r22 6 (by decide) (by decide) (by decide)), key6 (r22 6 (by decide) (by decide) (by decide))]
      exact b5 i j hij hj
    · intro s hs
      obtain ⟨j, hj, ej⟩ := hO.2.2.2 s hs.1
      rw [← ej] at hs
      obtain ⟨i, hi, ei⟩ := b6 j hj hs.2
      exact ⟨i, hi, by rw [v22, ei, ej]⟩
  · obtain ⟨k, hk, rfl⟩ := vp_in_of q (by omega)
    rw [nI_leI (by omega) (by omega)]
    omega
theorem wIsFull {σ : XS} {κ c : Nat} {post : Int32 → Prop} (h4 : κ < 4) (hc : gI σ 5 κ = nI c) (hcm : c ≤ 25) (h1 : mx κ ≤ c → post 1) (h0 : c < mx κ → post 0) : PX5_isFull (nI κ) σ post := by
  unfold PX5_isFull
  have v4 : vp_in (nI κ) 4 := pk_in κ 4 h4
  have hfl := fs_lt κ
  rw [nI_clamp (by omega), hc, xM, nI_ltI (by omega) (by omega)]
  refine ⟨fun w => absurd w (nI_pos (by omega)), fun _ => ⟨fun w => ?_, fun _ => ⟨v4, v4, fun z => h0 z, fun z => h1 (by omega)⟩⟩⟩
  rw [show (4 : Int32) = nI 4 from rfl, nI_leI (by decide) (by omega)] at w; omega
