/-! ===== people: makers, habit, beside ===== -/
def fd {α : Type} (step : Nat → α → α) : Nat → α → α
  | 0, a => a
  | n + 1, a => step n (fd step n a)
theorem wX5_slotOf {σ : XS} {k N : Nat} {post : Int32 → Prop} (hc : gI σ 5 2 = nI N) (hN : N ≤ 25) (hk : k < N) (h : post (nI (14 + k))) : PX5_slotOf (nI k) σ post := by
  unfold PX5_slotOf
  have e2 : (2 : Int32).toNatClampNeg = 2 := by decide
  have hv : vp_in (2 : Int32) 4 := vp_in_nI (n := 2) (by decide) (by decide)
  rw [e2, hc]
  refine ⟨fun w => absurd w (nI_pos (by omega)), fun _ => ⟨hv, fun w => absurd w (nI_ge hk (by omega)), fun _ => ⟨hv, ?_⟩⟩⟩
  have : xFirst 2 + nI k = nI (14 + k) := by
    rw [show xFirst 2 = nI 14 from rfl, nI_add]
  rw [this]
  exact h
theorem nI_ne9 {n : Nat} (h : n < 2 ^ 31) : ¬ nI n = -9 := fun e => by
  have := nI_pos h
  rw [e] at this
  exact this (by decide)
theorem wX5_night {σ : XS} {k N : Nat} {post : Int32 → Prop} (hc : gI σ 5 2 = nI N) (hN : N ≤ 25) (hk : k < N) (h : post (gI σ 6 (14 + k))) : PX5_nightOf (nI k) σ post := by
  unfold PX5_nightOf
  refine wX5_slotOf hc hN hk ⟨fun w => absurd w (nI_ne9 (by omega)), fun _ => ⟨vp_in_nI (by omega) (by decide), ?_⟩⟩
  rw [nI_clamp (by omega)]; exact h
theorem wX5_place {σ : XS} {k N : Nat} {post : Int32 → Prop} (hc : gI σ 5 2 = nI N) (hN : N ≤ 25) (hk : k < N) (h : post (gI σ 7 (14 + k))) : PX5_placeOf (nI k) σ post := by
  unfold PX5_placeOf
  refine wX5_slotOf hc hN hk ⟨fun w => absurd w (nI_ne9 (by omega)), fun _ => ⟨vp_in_nI (by omega) (by decide), ?_⟩⟩
  rw [nI_clamp (by omega)]; exact h
theorem wX5_person {σ : XS} {k N : Nat} {post : Int32 → Prop} (hc : gI σ 5 2 = nI N) (hN : N ≤ 25) (hk : k < N) (h : post (gI σ 8 (14 + k))) : PX5_personOf (nI k) σ post := by
  unfold PX5_personOf
  refine wX5_slotOf hc hN hk ⟨fun w => absurd w (nI_ne9 (by omega)), fun _ => ⟨vp_in_nI (by omega) (by decide), ?_⟩⟩
  rw [nI_clamp (by omega)]; exact h
theorem wX5_gum {σ : XS} {k N : Nat} {post : Int32 → Prop} (hc : gI σ 5 2 = nI N) (hN : N ≤ 25) (hk : k < N) (h : post (gI σ 9 (14 + k))) : PX5_gumOf (nI k) σ post := by
  unfold PX5_gumOf
  refine wX5_slotOf hc hN hk ⟨fun w => absurd w (nI_ne9 (by omega)), fun _ => ⟨vp_in_nI (by omega) (by decide), ?_⟩⟩
  rw [nI_clamp (by omega)]; exact h
theorem Gw.cs {σ : XS} (h : Gw σ) : gI σ 5 2 = nI (vN σ 24 10) := h.2.1.2.2.2.2.2.2.2.2.1.trans h.2.1.s.1
theorem wX7_hasHall {σ : XS} {post : Int32 → Prop} (hA : gI σ 0 6 = gI σ 24 2 ∧ gI σ 0 7 = gI σ 24 1) (hB : GB σ) (h1 : ¬ gI σ 24 2 = 0 → post 1) (h0 : gI σ 24 2 = 0 → post 0) : PX7_hasHall σ post := by
  unfold PX7_hasHall
  rw [hA.1]
  have hp := hB.p
  refine ⟨fun z => h0 ?_, fun z => h1 (fun e => z (by rw [e]; decide))⟩
  rw [hp.1] at z ⊢
  rw [show (0 : Int32) = nI 0 from rfl, nI_leI (by omega) (by decide)] at z
  rw [show vN σ 24 2 = 0 by omega]
  rfl
theorem wX7_gumLeft {σ : XS} {p : Nat} {night : Int32} {post : Int32 → Prop} (hw : Gw σ) (hp : p < vN σ 24 2) (h : post (gumv (gI σ 25 p) (gI σ 26 p) night)) : PX7_gumLeft (nI p) night σ post := by
  obtain ⟨hA, hB, hC, -⟩ := hw
  have h6 := hB.p
  unfold PX7_gumLeft
  refine wX7_personOf hA hB hC (fun q => absurd (vp_in_nI hp (by omega)) q) (fun j b q ej hj e1 e2 e3 e4 e5 => ⟨nofun, fun w hw => ?_⟩)
  cases hw
  obtain rfl : p = j := (nI_eq (by omega) (by omega)).mp ej
  rw [e3, e4] at h
  refine wLeaves e2 (night := night) (fun k ek => ⟨fun k0 g => ?_, fun k0 g => ?_, fun k0 g => ?_⟩)
  · rw [← ek, g] at h
    exact ⟨e2, h⟩
  · rw [← ek, g] at h
    exact ⟨e2, by decide, by decide, h⟩
  · have k9 : gK σ b = 0 := by
      rcases kd3 e2 with ⟨x, y⟩ | ⟨x, y⟩ | ⟨x, y⟩
      · rw [ek, y] at k0; exact absurd k0 (by decide)
      · rw [ek, y] at k0; exact absurd k0 (by decide)
      · exact x
    rw [← ek, g, ← add4] at h
    exact ⟨e2, k9, fun _ => ⟨e2, by decide, by decide, h⟩⟩
def bit1 (p : Nat) : Int32 := (1 : Int32) <<< (nI p &&& 31)
def mkS (σ : XS) (gum night : Int32) : Nat → Int32 → Int32 := fun p s => if gumv (gI σ 25 p) (gI σ 26 p) night = gum then s ||| bit1 p else s
theorem or0 (x : Int32) : x ||| 0 = x := by
  apply Int32.toBitVec_inj.mp
  simp
theorem makersL {σ : XS} {f1 f2 : Int32} {post : Int32 → Prop} {kx : Int32 → Int32 → Prop} (hw : Gw σ) (hk : kx (fd (mkS σ f1 f2) (vN σ 24 2) 0) (nI (vN σ 24 2))) : ∀ (n m : Nat), m ≤ vN σ 24 2 → vN σ 24 2 < m + n → LX7_makers_32 σ f1 f2 post kx n (fd (mkS σ f1 f2) m 0) (nI m) := by
  have hp := hw.2.1.p
  intro n
  induction n with
  | zero => intro m h1 h2; omega
  | succ n ih =>
    intro m h1 h2
    rw [LX7_makers_32, hw.1.1, hp.1]
    refine ⟨fun h => ?_, fun h => ?_⟩
    · rw [nI_leI (by omega) (by omega)] at h
      obtain e : m = vN σ 24 2 := by omega
      rw [e]; exact hk
    · rw [nI_leI (by omega) (by omega)] at h
      have := ih (m + 1) (by omega) (by omega)
      unfold fd mkS at this
      refine wX7_gumLeft hw (by omega) ⟨fun z x ex y ey => ?_, fun z y ey => ?_⟩
      · rw [if_pos z] at this
        rw [ex, ey, nI_1]; exact this
      · rw [if_neg z] at this
        rw [ey, nI_1]; exact this
theorem makersM {σ : XS} {f1 f2 : Int32} {post : Int32 → Prop} {kx : Int32 → Int32 → Prop} (hw : Gw σ) (hk : kx (fd (mkS σ f1 f2) (vN σ 24 2) 0) (nI (vN σ 24 2))) : ∀ (n m : Nat), m ≤ vN σ 24 2 → vN σ 24 2 < m + n → LX8_makers_37 σ f1 f2 post kx n (fd (mkS σ f1 f2) m 0) (nI m) := by
  have hp := hw.2.1.p
  intro n
  induction n with
  | zero => intro m h1 h2; omega
  | succ n ih =>
    intro m h1 h2
    rw [LX8_makers_37, hp.1]
    refine ⟨fun h => ?_, fun h => ?_⟩
    · rw [nI_leI (by omega) (by omega)] at h
      obtain e : m = vN σ 24 2 := by omega
      rw [e]; exact hk
    · rw [nI_leI (by omega) (by omega)] at h
      have := ih (m + 1) (by omega) (by omega)
      unfold fd mkS at this
      refine wX8_gumOf (by omega) ⟨fun z x ex y ey => ?_, fun z x ex y ey => ?_⟩
      · rw [if_pos z] at this
        rw [ex, ey, nI_1]; exact this
      · rw [if_neg z] at this
        rw [ex, ey, nI_1, or0]; exact this
theorem st14 {σ : XS} (h : Gd σ) : S14 Gd σ := by
  intro a1 a2
  have hw := h.w
  obtain ⟨hA, hB, hC, -⟩ := id hw
  have hp := hB.p
  have hM : ∀ r1 : Int32, (¬ vp_in a1 8 ∨ ¬ vp_in a2 40 → r1 = -2) → (vp_in a1 8 → vp_in a2 40 → gI σ 24 2 = 0 → r1 = -3) → (vp_in a1 8 → vp_in a2 40 → ¬ gI σ 24 2 = 0 → r1 = fd (mkS σ a1 a2) (vN σ 24 2) 0) → PX8_makers a1 a2 σ (fun r2 => r1 = r2 ∧ Gd σ) := by
    intro r1 h2 h3 h4
    unfold PX8_makers
    refine wIn (n := 8) (by decide) (fun q1 => ⟨fun w => absurd w (by decide), fun _ => ?_⟩) (fun q1 => ⟨fun _ => ⟨h2 (Or.inl q1), h⟩, fun w => absurd rfl w⟩)
    refine wX8_isNight (fun q2 => ⟨fun w => absurd w (by decide), fun _ => ⟨fun z => ⟨h3 q1 q2 z, h⟩, fun z => ?_⟩⟩) (fun q2 => ⟨fun _ => ⟨h2 (Or.inr q2), h⟩, fun w => absurd rfl w⟩)
    exact makersM (m := 0) hw ⟨h4 q1 q2 z, h⟩ 1000 (by omega) (by omega)
  unfold PX7_makers
  refine wX7_isGum (fun q1 => ⟨fun w => absurd w (by decide), fun _ => ?_⟩) (fun q1 => ⟨fun _ => hM _ (fun _ => rfl) (fun w => absurd w q1) (fun w => absurd w q1), fun w => absurd rfl w⟩)
  refine wX7_isNight (fun q2 => ⟨fun w => absurd w (by decide), fun _ => ?_⟩) (fun q2 => ⟨fun _ => hM _ (fun _ => rfl) (fun _ w => absurd w q2) (fun _ w => absurd w q2), fun w => absurd rfl w⟩)
  refine wX7_hasHall hA hB (fun z => ⟨fun w => absurd w (by decide), fun _ => ?_⟩) (fun z => ⟨fun _ => hM _ (fun w => w.elim (fun w => absurd q1 w) (fun w => absurd q2 w)) (fun _ _ _ => rfl) (fun _ _ w => absurd z w), fun w => absurd rfl w⟩)
  exact makersL (m := 0) hw (hM _ (fun w => w.elim (fun w => absurd q1 w) (fun w => absurd q2 w)) (fun _ _ w => absurd w z) (fun _ _ _ => rfl)) 1000 (by omega) (by omega)
/-! habit -/
def ofS (σ : XS) (p place : Int32) : Nat → Int32 → Int32 := fun k c => if gI σ 29 k = p then (if gI σ 30 k = place then c + 1 else c) else c
theorem add0 (x : Int32) : x + 0 = x := by simp
theorem oftenL {σ : XS} {f1 f2 : Int32} {post : Int32 → Prop} {kx : Int32 → Int32 → Prop} (hw : Gw σ) (hk : kx (fd (ofS σ f1 f2) (vN σ 24 10) 0) (nI (vN σ 24 10))) : ∀ (n m : Nat), m ≤ vN σ 24 10 → vN σ 24 10 < m + n → LX7_howOften_5 σ f1 f2 post kx n (fd (ofS σ f1 f2) m 0) (nI m) := by
  have hp := hw.2.1.s
  have hc := hw.cs
  intro n
  induction n with
  | zero => intro m h1 h2; omega
  | succ n ih =>
    intro m h1 h2
    rw [LX7_howOften_5]
    refine wX5_count (k := 2) (by decide) ?_
    rw [hc]
    refine ⟨fun h => ?_, fun h => ?_⟩
    · rw [nI_leI (by omega) (by omega)] at h
      obtain e : m = vN σ 24 10 := by omega
      rw [e]; exact hk
    · rw [nI_leI (by omega) (by omega)] at h
      have := ih (m + 1) (by omega) (by omega)
      unfold fd ofS at this
      have hD := hw.2.2.2.1 m (by omega)
      refine wX5_person hc (by omega) (by omega) ?_
      rw [hD.2.2.2.2.2.1]
      refine ⟨fun z => wX5_place hc (by omega) (by omega) ?_, fun z y ey => ?_⟩
      · rw [hD.2.2.2.2.1]
        rw [if_pos z] at this
        refine ⟨fun z2 x ex y ey => ?_, fun z2 y ey => ?_⟩
        · rw [if_pos z2] at this
          rw [ex, ey, nI_1]; exact this
        · rw [if_neg z2] at this
          rw [ey, nI_1]; exact this
      · rw [if_neg z] at this
        rw [ey, nI_1]; exact this
theorem oftenM {σ : XS} {f1 f2 : Int32} {post : Int32 → Prop} {kx : Int32 → Int32 → Prop} (hw : Gw σ) (hk : kx (fd (ofS σ f1 f2) (vN σ 24 10) 0) (nI (vN σ 24 10))) : ∀ (n m : Nat), m ≤ vN σ 24 10 → vN σ 24 10 < m + n → LX8_oftenAt_5 σ f1 f2 post kx n (fd (ofS σ f1 f2) m 0) (nI m) := by
  have hp := hw.2.1.s
  intro n
  induction n with
  | zero => intro m h1 h2; omega
  | succ n ih =>
    intro m h1 h2
    rw [LX8_oftenAt_5, hp.1]
    refine ⟨fun h => ?_, fun h => ?_⟩
    · rw [nI_leI (by omega) (by omega)] at h
      obtain e : m = vN σ 24 10 := by omega
      rw [e]; exact hk
    · rw [nI_leI (by omega) (by omega)] at h
      have := ih (m + 1) (by omega) (by omega)
      unfold fd ofS at this
      have hv : vp_in (nI m) 25 := vp_in_nI (by omega) (by decide)
      rw [nI_clamp (by omega)]
      refine ⟨hv, fun z => ⟨hv, fun z2 x ex y ey => ?_, fun z2 x ex y ey => ?_⟩, fun z x ex y ey => ?_⟩
      · rw [if_pos z, if_pos z2] at this
        rw [ex, ey, nI_1]; exact this
      · rw [if_pos z, if_neg z2] at this
        rw [ex, ey, nI_1, add0]; exact this
      · rw [if_neg z] at this
        rw [ex, ey, nI_1, add0]; exact this
def hbS (σ : XS) (p : Int32) : Nat → Int32 × Int32 → Int32 × Int32 := fun k s => if fd (ofS σ p (nI k)) (vN σ 24 10) 0 ≤ s.2 then s else (nI k, fd (ofS σ p (nI k)) (vN σ 24 10) 0)
theorem habitL {σ : XS} {f1 f2 : Int32} {post : Int32 → Prop} {kx : Int32 → Int32 → Int32 → Prop} (hw : Gw σ) (hk : kx (fd (hbS σ f1) (vN σ 24 1) (-9, 0)).1 (fd (hbS σ f1) (vN σ 24 1) (-9, 0)).2 (nI (vN σ 24 1))) : ∀ (n m : Nat), m ≤ vN σ 24 1 → vN σ 24 1 < m + n → LX7_habit_29 σ f1 f2 post kx n (fd (hbS σ f1) m (-9, 0)).1 (fd (hbS σ f1) m (-9, 0)).2 (nI m) := by
  have hp := hw.2.1.q
  have hs := hw.2.1.s
  intro n
  induction n with
  | zero => intro m h1 h2; omega
  | succ n ih =>
    intro m h1 h2
    rw [LX7_habit_29, hw.1.2, hp.1]
    refine ⟨fun h => ?_, fun h => ?_⟩
    · rw [nI_leI (by omega) (by omega)] at h
      obtain e : m = vN σ 24 1 := by omega
      rw [e]; exact hk
    · rw [nI_leI (by omega) (by omega)] at h
      have := ih (m + 1) (by omega) (by omega)
      unfold PX7_howOften
      refine oftenL (m := 0) hw ?_ 1000 (by omega) (by omega)
      have e : fd (hbS σ f1) (m + 1) (-9, 0) = if fd (ofS σ f1 (nI m)) (vN σ 24 10) 0 ≤ (fd (hbS σ f1) m (-9, 0)).2 then fd (hbS σ f1) m (-9, 0) else (nI m, fd (ofS σ f1 (nI m)) (vN σ 24 10) 0) := rfl
      rw [e] at this
      refine ⟨fun z y ey => ?_, fun z y ey => ?_⟩
      · rw [if_pos z] at this
        rw [ey, nI_1]; exact this
      · rw [if_neg z] at this
        rw [ey, nI_1]; exact this
theorem habitM {σ : XS} {f1 f2 : Int32} {post : Int32 → Prop} {kx : Int32 → Int32 → Int32 → Prop} (hw : Gw σ) (hk : kx (fd (hbS σ f1) (vN σ 24 1) (-9, 0)).1 (fd (hbS σ f1) (vN σ 24 1) (-9, 0)).2 (nI (vN σ 24 1))) : ∀ (n m : Nat), m ≤ vN σ 24 1 → vN σ 24 1 < m + n → LX8_habit_32 σ f1 f2 post kx n (fd (hbS σ f1) m (-9, 0)).1 (fd (hbS σ f1) m (-9, 0)).2 (nI m) := by
  have hp := hw.2.1.q
  have hs := hw.2.1.s
  intro n
  induction n with
  | zero => intro m h1 h2; omega
  | succ n ih =>
    intro m h1 h2
    rw [LX8_habit_32, hp.1]
    refine ⟨fun h => ?_, fun h => ?_⟩
    · rw [nI_leI (by omega) (by omega)] at h
      obtain e : m = vN σ 24 1 := by omega
      rw [e]; exact hk
    · rw [nI_leI (by omega) (by omega)] at h
      have := ih (m + 1) (by omega) (by omega)
      unfold PX8_oftenAt
      refine oftenM (m := 0) hw ?_ 1000 (by omega) (by omega)
      have e : fd (hbS σ f1) (m + 1) (-9, 0) = if fd (ofS σ f1 (nI m)) (vN σ 24 10) 0 ≤ (fd (hbS σ f1) m (-9, 0)).2 then fd (hbS σ f1) m (-9, 0) else (nI m, fd (ofS σ f1 (nI m)) (vN σ 24 10) 0) := rfl
      rw [e] at this
      refine ⟨fun z => ⟨fun _ y ey => ?_, fun w => absurd z w⟩, fun z => ⟨fun w => absurd w z, fun _ y ey => ?_⟩⟩
      · rw [if_pos z] at this
        rw [ey, nI_1]; exact this
      · rw [if_neg z] at this
        rw [ey, nI_1]; exact this
theorem st13 {σ : XS} (h : Gd σ) : S13 Gd σ := by
  intro a1 a2
  have hw := h.w
  obtain ⟨hA, hB, hC, -⟩ := id hw
  have hp := hB.q
  unfold PX7_habit
  refine wX7_personOf hA hB hC (fun q => ?_) (fun j b q ej hj e1 e2 e3 e4 e5 => ?_)
  · refine ⟨fun _ => ?_, nofun⟩
    unfold PX8_habit
    exact wX8_noPerson hB (fun z => absurd z q) (fun _ => ⟨fun z => absurd z (by decide), fun _ => ⟨rfl, h⟩⟩)
  · refine ⟨nofun, fun w hw9 => ?_⟩
    cases hw9
    have hM : ∀ r1 : Int32, (vp_in a2 2 → r1 = if a2 = 0 then (fd (hbS σ a1) (vN σ 24 1) (-9, 0)).1 else (fd (hbS σ a1) (vN σ 24 1) (-9, 0)).2) → (¬ vp_in a2 2 → r1 = -2) → PX8_habit a1 a2 σ (fun r2 => r1 = r2 ∧ Gd σ) := by
      intro r1 h0 h2
      unfold PX8_habit
      refine wX8_noPerson hB (fun _ => ⟨fun _ => ?_, fun z => absurd rfl z⟩) (fun z => absurd q z)
      refine wIn (n := 2) (by decide) (fun z => ⟨fun w => absurd w (by decide), fun _ => ?_⟩) (fun z => ⟨fun _ => ⟨h2 z, h⟩, fun w => absurd rfl w⟩)
      have := h0 z
      refine habitM (m := 0) hw ⟨fun z0 => ⟨?_, h⟩, fun z0 => ⟨?_, h⟩⟩ 1000 (by omega) (by omega)
      · rw [if_pos z0] at this; exact this
      · rw [if_neg z0] at this; exact this
    refine wX7_isEither (fun z => ⟨fun w => absurd w (by decide), fun _ => ?_⟩) (fun z => ⟨fun _ => hM _ (fun w => absurd w z) (fun _ => rfl), fun w => absurd rfl w⟩)
    refine habitL (m := 0) hw ⟨fun z0 => hM _ (fun _ => ?_) (fun w => absurd z w), fun z0 => hM _ (fun _ => ?_) (fun w => absurd z w)⟩ 1000 (by omega) (by omega)
    · rw [if_pos z0]
    · rw [if_neg z0]
