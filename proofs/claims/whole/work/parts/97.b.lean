/-! ===== who may sit; beside ===== -/
theorem vne9 {x : Int32} {n : Nat} (h : vp_in x n) : ¬ x = -9 := fun e => by
  rw [e] at h
  exact h (Or.inl (by decide))
theorem placeOnL {σ : XS} {night p : Int32} {post : Int32 → Prop} {kx : Int32 → Prop} (hw : Gw σ) (h1 : ∀ j, j < vN σ 24 10 → gI σ 31 j = night → gI σ 29 j = p → post (gI σ 30 j)) (h0 : (∀ j, j < vN σ 24 10 → gI σ 31 j = night → ¬ gI σ 29 j = p) → kx (nI (vN σ 24 10))) : ∀ (n m : Nat), m ≤ vN σ 24 10 → vN σ 24 10 < m + n → (∀ j, j < m → gI σ 31 j = night → ¬ gI σ 29 j = p) → LX7_placeOn_2 σ night p post kx n (nI m) := by
  have hp := hw.2.1.s
  have hc := hw.cs
  intro n
  induction n with
  | zero => intro m a b; omega
  | succ n ih =>
    intro m a b hz
    rw [LX7_placeOn_2]
    refine wX5_count (k := 2) (by decide) ?_
    rw [hc]
    refine ⟨fun h => ?_, fun h => ?_⟩
    · rw [nI_leI (by omega) (by omega)] at h
      obtain e : m = vN σ 24 10 := by omega
      rw [e]; exact h0 (by rw [← e]; exact hz)
    · rw [nI_leI (by omega) (by omega)] at h
      have hD := hw.2.2.2.1 m (by omega)
      refine wX5_night hc (by omega) (by omega) ?_
      rw [hD.2.2.2.1]
      refine ⟨fun z => wX5_person hc (by omega) (by omega) ?_, fun z y ey => ?_⟩
      · rw [hD.2.2.2.2.2.1]
        refine ⟨fun z2 => wX5_place hc (by omega) (by omega) ?_, fun z2 y ey => ?_⟩
        · rw [hD.2.2.2.2.1]
          exact h1 m (by omega) z z2
        · rw [ey, nI_1]
          refine ih (m + 1) (by omega) (by omega) (fun j hj => ?_)
          rcases (show j < m ∨ j = m by omega) with hj | rfl
          · exact hz j hj
          · exact fun _ => z2
      · rw [ey, nI_1]
        refine ih (m + 1) (by omega) (by omega) (fun j hj => ?_)
        rcases (show j < m ∨ j = m by omega) with hj | rfl
        · exact hz j hj
        · exact fun w => absurd w z
theorem wX7_placeOn {σ : XS} {night p : Int32} {post : Int32 → Prop} (hw : Gw σ) (h1 : ∀ j, j < vN σ 24 10 → gI σ 31 j = night → gI σ 29 j = p → post (gI σ 30 j)) (h0 : (∀ j, j < vN σ 24 10 → gI σ 31 j = night → ¬ gI σ 29 j = p) → post (-9)) : PX7_placeOn night p σ post := by
  have hp := hw.2.1.s
  unfold PX7_placeOn
  exact placeOnL hw h1 h0 1000 0 (by omega) (by omega) (fun j hj => by omega)
theorem isTakenL {σ : XS} {night place : Int32} {post : Int32 → Prop} {kx : Int32 → Prop} (hw : Gw σ) (h1 : ∀ j, j < vN σ 24 10 → gI σ 31 j = night → gI σ 30 j = place → post 1) (h0 : (∀ j, j < vN σ 24 10 → gI σ 31 j = night → ¬ gI σ 30 j = place) → kx (nI (vN σ 24 10))) : ∀ (n m : Nat), m ≤ vN σ 24 10 → vN σ 24 10 < m + n → (∀ j, j < m → gI σ 31 j = night → ¬ gI σ 30 j = place) → LX7_isTaken_2 σ place night post kx n (nI m) := by
  have hp := hw.2.1.s
  have hc := hw.cs
  intro n
  induction n with
  | zero => intro m a b; omega
  | succ n ih =>
    intro m a b hz
    rw [LX7_isTaken_2]
    refine wX5_count (k := 2) (by decide) ?_
    rw [hc]
    refine ⟨fun h => ?_, fun h => ?_⟩
    · rw [nI_leI (by omega) (by omega)] at h
      obtain e : m = vN σ 24 10 := by omega
      rw [e]; exact h0 (by rw [← e]; exact hz)
    · rw [nI_leI (by omega) (by omega)] at h
      have hD := hw.2.2.2.1 m (by omega)
      refine wX5_night hc (by omega) (by omega) ?_
      rw [hD.2.2.2.1]
      refine ⟨fun z => wX5_place hc (by omega) (by omega) ?_, fun z y ey => ?_⟩
      · rw [hD.2.2.2.2.1]
        refine ⟨fun z2 => h1 m (by omega) z z2, fun z2 y ey => ?_⟩
        rw [ey, nI_1]
        refine ih (m + 1) (by omega) (by omega) (fun j hj => ?_)
        rcases (show j < m ∨ j = m by omega) with hj | rfl
        · exact hz j hj
        · exact fun _ => z2
      · rw [ey, nI_1]
        refine ih (m + 1) (by omega) (by omega) (fun j hj => ?_)
        rcases (show j < m ∨ j = m by omega) with hj | rfl
        · exact hz j hj
        · exact fun w => absurd w z
theorem wX7_isTaken {σ : XS} {night place : Int32} {post : Int32 → Prop} (hw : Gw σ) (h1 : ∀ j, j < vN σ 24 10 → gI σ 31 j = night → gI σ 30 j = place → post 1) (h0 : (∀ j, j < vN σ 24 10 → gI σ 31 j = night → ¬ gI σ 30 j = place) → post 0) : PX7_isTaken place night σ post := by
  have hp := hw.2.1.s
  unfold PX7_isTaken
  exact isTakenL hw h1 h0 1000 0 (by omega) (by omega) (fun j hj => by omega)
theorem wX7_maySit {σ : XS} {p place night : Int32} {post : Int32 → Prop} (hw : Gw σ) (h1 : (∀ j, j < vN σ 24 10 → gI σ 31 j = night → ¬ gI σ 29 j = p ∧ ¬ gI σ 30 j = place) → post 1) (h0 : ∀ j, j < vN σ 24 10 → gI σ 31 j = night → (gI σ 29 j = p ∨ gI σ 30 j = place) → post 0) : PX7_maySit p place night σ post := by
  unfold PX7_maySit
  refine wX7_placeOn hw (fun j hj e1 e2 => ⟨fun w => absurd w (vne9 (hw.2.2.2.1 j hj).2.1), fun _ => h0 j hj e1 (Or.inl e2)⟩) (fun z => ⟨fun _ => ?_, fun w => absurd rfl w⟩)
  refine wX7_isTaken hw (fun j hj e1 e2 => ⟨fun w => absurd w (by decide), fun _ => h0 j hj e1 (Or.inr e2)⟩) (fun z2 => ⟨fun _ => h1 (fun j hj e => ⟨z j hj e, z2 j hj e⟩), fun w => absurd rfl w⟩)
theorem maySitM {σ : XS} {p place night : Int32} {post : Int32 → Prop} {kx : Int32 → Int32 → Prop} (hB : gI σ 24 10 = nI (vN σ 24 10) ∧ vN σ 24 10 < 26) (h1 : (∀ j, j < vN σ 24 10 → gI σ 31 j = night → ¬ gI σ 29 j = p ∧ ¬ gI σ 30 j = place) → kx 1 (nI (vN σ 24 10))) (h0 : ∀ j, j < vN σ 24 10 → gI σ 31 j = night → (gI σ 29 j = p ∨ gI σ 30 j = place) → kx 0 (nI (vN σ 24 10))) : ∀ (n m : Nat) (c : Int32), m ≤ vN σ 24 10 → vN σ 24 10 < m + n → ((c = 1 ∧ ∀ j, j < m → gI σ 31 j = night → ¬ gI σ 29 j = p ∧ ¬ gI σ 30 j = place) ∨ (c = 0 ∧ ∃ j, j < m ∧ gI σ 31 j = night ∧ (gI σ 29 j = p ∨ gI σ 30 j = place))) → LX8_maySit_6 σ p place night post kx n c (nI m) := by
  have hp := hB
  intro n
  induction n with
  | zero => intro m c a b; omega
  | succ n ih =>
    intro m c a b hz
    rw [LX8_maySit_6, hp.1]
    refine ⟨fun h => ?_, fun h => ?_⟩
    · rw [nI_leI (by omega) (by omega)] at h
      obtain e : m = vN σ 24 10 := by omega
      rw [e] at hz ⊢
      rcases hz with ⟨rfl, z⟩ | ⟨rfl, j, hj, z1, z2⟩
      · exact h1 z
      · exact h0 j hj z1 z2
    · rw [nI_leI (by omega) (by omega)] at h
      have hv : vp_in (nI m) 25 := vp_in_nI (by omega) (by decide)
      rw [nI_clamp (by omega)]
      refine ⟨fun z y ey => ?_, fun z => ⟨hv, fun z1 => ⟨hv, fun z2 y ey => ?_, fun z2 => ⟨hv, fun z3 y ey => ?_, fun z3 y ey => ?_⟩⟩, fun z1 y ey => ?_⟩⟩
      · rcases hz with ⟨rfl, _⟩ | ⟨rfl, j, hj, w1, w2⟩
        · exact absurd z (by decide)
        · rw [ey, nI_1]
          exact ih (m + 1) 0 (by omega) (by omega) (Or.inr ⟨rfl, j, by omega, w1, w2⟩)
      · rw [ey, nI_1]
        exact ih (m + 1) 0 (by omega) (by omega) (Or.inr ⟨rfl, m, by omega, z1, Or.inl z2⟩)
      · rw [ey, nI_1]
        exact ih (m + 1) 0 (by omega) (by omega) (Or.inr ⟨rfl, m, by omega, z1, Or.inr z3⟩)
      · rcases hz with ⟨rfl, w⟩ | ⟨rfl, _⟩
        · rw [ey, nI_1]
          refine ih (m + 1) 1 (by omega) (by omega) (Or.inl ⟨rfl, fun j hj => ?_⟩)
          rcases (show j < m ∨ j = m by omega) with hj | rfl
          · exact w j hj
          · exact fun _ => ⟨z2, z3⟩
        · exact absurd rfl z
      · rcases hz with ⟨rfl, w⟩ | ⟨rfl, _⟩
        · rw [ey, nI_1]
          refine ih (m + 1) 1 (by omega) (by omega) (Or.inl ⟨rfl, fun j hj => ?_⟩)
          rcases (show j < m ∨ j = m by omega) with hj | rfl
          · exact w j hj
          · exact fun w => absurd w z1
        · exact absurd rfl z
theorem wX8_maySit {σ : XS} {p place night : Int32} {post : Int32 → Prop} (hB : gI σ 24 10 = nI (vN σ 24 10) ∧ vN σ 24 10 < 26) (h1 : (∀ j, j < vN σ 24 10 → gI σ 31 j = night → ¬ gI σ 29 j = p ∧ ¬ gI σ 30 j = place) → post 1) (h0 : ∀ j, j < vN σ 24 10 → gI σ 31 j = night → (gI σ 29 j = p ∨ gI σ 30 j = place) → post 0) : PX8_maySit p place night σ post := by
  have hp := hB
  unfold PX8_maySit
  exact maySitM hB (fun z => ⟨rfl, h1 z⟩) (fun j a b c => ⟨rfl, h0 j a b c⟩) 1000 0 1 (by omega) (by omega) (Or.inl ⟨rfl, fun j hj => by omega⟩)
/-! beside -/
def nbr (x y : Int32) : Prop := x - y = 1 ∨ x - y = -1
theorem nbr_abs {x y : Int32} {n : Nat} (hx : vp_in x n) (hy : vp_in y n) (hn : n ≤ 6) : (if 0 ≤ x - y then x - y else 0 - (x - y)) = 1 ↔ (x - y = 1 ∨ x - y = -1) := by
  obtain ⟨a, ha, rfl⟩ := vp_in_of hx (by omega)
  obtain ⟨b, hb, rfl⟩ := vp_in_of hy (by omega)
  have key : ∀ a, a < 6 → ∀ b, b < 6 → ((if 0 ≤ nI a - nI b then nI a - nI b else 0 - (nI a - nI b)) = 1 ↔ (nI a - nI b = 1 ∨ nI a - nI b = -1)) := by decide +kernel
  exact key a (by omega) b (by omega)
def bsC (σ : XS) (p o : Int32) (k j : Nat) : Prop := gI σ 29 k = p ∧ gI σ 29 j = o ∧ gI σ 31 k = gI σ 31 j ∧ (gI σ 30 k - gI σ 30 j = 1 ∨ gI σ 30 k - gI σ 30 j = -1)
theorem bs_unique {σ : XS} (hw : Gw σ) {p o : Int32} {k j j' : Nat} (hj : j < vN σ 24 10) (hj' : j' < vN σ 24 10) (h1 : bsC σ p o k j) (h2 : bsC σ p o k j') : j = j' :=
  hw.2.2.2.2.2.2.2.1 j j' hj hj' (h1.2.2.1.symm.trans h2.2.2.1) (Or.inl (h1.2.1.trans h2.2.1.symm))
theorem besideI {σ : XS} {f1 f2 : Int32} {k : Nat} {post : Int32 → Prop} {kx : Int32 → Int32 → Prop} (hw : Gw σ) (hk : k < vN σ 24 10) (c0 : Int32) (hy : ∀ j, j < vN σ 24 10 → bsC σ f1 f2 k j → kx (c0 + 1) (nI (vN σ 24 10))) (hn : (∀ j, j < vN σ 24 10 → ¬ bsC σ f1 f2 k j) → kx c0 (nI (vN σ 24 10))) : ∀ (n m : Nat) (c : Int32), m ≤ vN σ 24 10 → vN σ 24 10 < m + n → ((c = c0 ∧ ∀ j, j < m → ¬ bsC σ f1 f2 k j) ∨ (c = c0 + 1 ∧ ∃ j, j < m ∧ bsC σ f1 f2 k j)) → LX8_beside_40 σ f1 f2 (nI k) post kx n c (nI m) := by
  have hp := hw.2.1.s
  intro n
  induction n with
  | zero => intro m c a b; omega
  | succ n ih =>
    intro m c a b hz
    rw [LX8_beside_40, hp.1]
    refine ⟨fun h => ?_, fun h => ?_⟩
    · rw [nI_leI (by omega) (by omega)] at h
      obtain e : m = vN σ 24 10 := by omega
      rw [e] at hz ⊢
      rcases hz with ⟨rfl, z⟩ | ⟨rfl, j, hj, z⟩
      · exact hn z
      · exact hy j hj z
    · rw [nI_leI (by omega) (by omega)] at h
      have hv : vp_in (nI m) 25 := vp_in_nI (by omega) (by decide)
      have hvk : vp_in (nI k) 25 := vp_in_nI (by omega) (by decide)
      rw [nI_clamp (by omega), nI_clamp (by omega)]
      have stay : ¬ bsC σ f1 f2 k m → ∀ x, x = c + 0 → ∀ y, y = nI m + 1 → LX8_beside_40 σ f1 f2 (nI k) post kx n x y := by
        intro hnb x ex y ey
        rw [ex, ey, nI_1, add0]
        refine ih (m + 1) c (by omega) (by omega) ?_
        rcases hz with ⟨w, z⟩ | ⟨w, j, hj, z⟩
        · refine Or.inl ⟨w, fun j hj => ?_⟩
          rcases (show j < m ∨ j = m by omega) with hj | rfl
          · exact z j hj
          · exact hnb
        · exact Or.inr ⟨w, j, by omega, z⟩
      have grow : bsC σ f1 f2 k m → ∀ x, x = c + 1 → ∀ y, y = nI m + 1 → LX8_beside_40 σ f1 f2 (nI k) post kx n x y := by
        intro hb x ex y ey
        rw [ex, ey, nI_1]
        refine ih (m + 1) (c + 1) (by omega) (by omega) ?_
        rcases hz with ⟨w, z⟩ | ⟨w, j, hj, z⟩
        · exact Or.inr ⟨by rw [w], m, by omega, hb⟩
        · have := bs_unique hw (show j < vN σ 24 10 by omega) (show m < vN σ 24 10 by omega) z hb
          omega
      refine ⟨hvk, fun z1 => ⟨hv, fun z2 => ⟨hvk, hv, fun z3 => ⟨hvk, hv, fun x ex => ⟨fun w => absurd w (by decide), fun _ => ⟨fun z4 => grow ⟨z1, z2, z3, Or.inl (by rw [← ex]; exact z4)⟩, fun z4 => ⟨fun z5 => grow ⟨z1, z2, z3, Or.inr (by rw [← ex]; exact z5)⟩, fun z5 => stay (fun q => ?_)⟩⟩⟩⟩, fun z3 => ⟨hvk, hv, fun x ex => ⟨fun _ => stay (fun q => z3 q.2.2.1), fun w => absurd rfl w⟩⟩⟩, fun z2 => ⟨hvk, hv, fun x ex => ⟨fun _ => stay (fun q => z2 q.2.1), fun w => absurd rfl w⟩⟩⟩, fun z1 => ⟨hvk, hv, fun x ex => ⟨fun _ => stay (fun q => z1 q.1), fun w => absurd rfl w⟩⟩⟩
      rw [ex] at z4 z5
      exact q.2.2.2.elim z4 z5
/-- how many nights, as the reference counts: one for each sitting of p with a neighbour o -/
def bsE (σ : XS) (p o : Int32) (k : Nat) : Prop := ∃ j, j < vN σ 24 10 ∧ bsC σ p o k j
theorem besideO {σ : XS} {f1 f2 : Int32} {post : Int32 → Prop} {kx : Int32 → Int32 → Prop} (hw : Gw σ) (F : Nat → Int32) (F0 : F 0 = 0) (hs : ∀ k, k < vN σ 24 10 → (bsE σ f1 f2 k → F (k + 1) = F k + 1) ∧ (¬ bsE σ f1 f2 k → F (k + 1) = F k)) (hk : kx (F (vN σ 24 10)) (nI (vN σ 24 10))) : ∀ (n m : Nat), m ≤ vN σ 24 10 → vN σ 24 10 < m + n → LX8_beside_28 σ f1 f2 post kx n (F m) (nI m) := by
  have hp := hw.2.1.s
  intro n
  induction n with
  | zero => intro m a b; omega
  | succ n ih =>
    intro m a b
    rw [LX8_beside_28, hp.1]
    refine ⟨fun h => ?_, fun h => ?_⟩
    · rw [nI_leI (by omega) (by omega)] at h
      obtain e : m = vN σ 24 10 := by omega
      rw [e]; exact hk
    · rw [nI_leI (by omega) (by omega)] at h
      refine besideI hw (by omega) (F m) (fun j hj hb y ey => ?_) (fun hnb y ey => ?_) 1000 0 (F m) (by omega) (by omega) (Or.inl ⟨rfl, fun j hj => by omega⟩)
      · rw [ey, nI_1, ← (hs m (by omega)).1 ⟨j, hj, hb⟩]
        exact ih (m + 1) (by omega) (by omega)
      · rw [ey, nI_1, ← (hs m (by omega)).2 (fun ⟨j, hj, hb⟩ => hnb j hj hb)]
        exact ih (m + 1) (by omega) (by omega)
theorem besideL {σ : XS} {f1 f2 : Int32} {post : Int32 → Prop} {kx : Int32 → Int32 → Prop} (hw : Gw σ) (F : Nat → Int32) (hs : ∀ k, k < vN σ 24 10 → (bsE σ f1 f2 k → F (k + 1) = F k + 1) ∧ (¬ bsE σ f1 f2 k → F (k + 1) = F k)) (hk : kx (F (vN σ 24 10)) (nI (vN σ 24 10))) : ∀ (n m : Nat), m ≤ vN σ 24 10 → vN σ 24 10 < m + n → LX7_beside_28 σ f1 f2 post kx n (F m) (nI m) := by
  have hp := hw.2.1.s
  have hq := hw.2.1.q
  have hc := hw.cs
  intro n
  induction n with
  | zero => intro m a b; omega
  | succ n ih =>
    intro m a b
    rw [LX7_beside_28]
    refine wX5_count (k := 2) (by decide) ?_
    rw [hc]
    refine ⟨fun h => ?_, fun h => ?_⟩
    · rw [nI_leI (by omega) (by omega)] at h
      obtain e : m = vN σ 24 10 := by omega
      rw [e]; exact hk
    · rw [nI_leI (by omega) (by omega)] at h
      have hD := hw.2.2.2.1 m (by omega)
      refine wX5_place hc (by omega) (by omega) (wX5_night hc (by omega) (by omega) ?_)
      rw [hD.2.2.2.2.1, hD.2.2.2.1]
      have stay : ¬ bsE σ f1 f2 m → ∀ y, y = nI m + 1 → LX7_beside_28 σ f1 f2 post kx n (F m) y := by
        intro hnb y ey
        rw [ey, nI_1, ← (hs m (by omega)).2 hnb]
        exact ih (m + 1) (by omega) (by omega)
      refine wX7_placeOn hw (fun j hj e1 e2 => wX5_person hc (by omega) (by omega) ?_) (fun hz => wX5_person hc (by omega) (by omega) ?_)
      · have hDj := hw.2.2.2.1 j hj
        rw [hD.2.2.2.2.2.1, nbr_abs hD.2.1 hDj.2.1 (by omega)]
        refine ⟨fun z => ⟨fun w => absurd w (vne9 hDj.2.1), fun _ => ⟨fun z2 x ex y ey => ?_, fun z2 => stay (fun ⟨j2, hj2, hb⟩ => ?_)⟩⟩, fun z => stay (fun ⟨j2, hj2, hb⟩ => z hb.1)⟩
        · rw [ex, ey, nI_1, ← (hs m (by omega)).1 ⟨j, hj, z, e2, e1.symm, z2⟩]
          exact ih (m + 1) (by omega) (by omega)
        · have := hw.2.2.2.2.2.2.2.1 j j2 hj hj2 (e1.trans hb.2.2.1) (Or.inl (e2.trans hb.2.1.symm))
          subst this
          exact z2 hb.2.2.2
      · rw [hD.2.2.2.2.2.1]
        refine ⟨fun z => ⟨fun _ => stay (fun ⟨j2, hj2, hb⟩ => hz j2 hj2 hb.2.2.1.symm hb.2.1), fun w => absurd rfl w⟩, fun z => stay (fun ⟨j2, hj2, hb⟩ => z hb.1)⟩
noncomputable def bsF (σ : XS) (p o : Int32) : Nat → Int32
  | 0 => 0
  | k + 1 => if Classical.propDecidable (bsE σ p o k) |>.decide then bsF σ p o k + 1 else bsF σ p o k
theorem bsF_s (σ : XS) (p o : Int32) (k : Nat) : (bsE σ p o k → bsF σ p o (k + 1) = bsF σ p o k + 1) ∧ (¬ bsE σ p o k → bsF σ p o (k + 1) = bsF σ p o k) := by
  refine ⟨fun h => ?_, fun h => ?_⟩
  · rw [bsF, if_pos (by simpa using h)]
  · rw [bsF, if_neg (by simpa using h)]
theorem st12 {σ : XS} (h : Gd σ) : S12 Gd σ := by
  intro a1 a2
  have hw := h.w
  obtain ⟨hA, hB, hC, -⟩ := id hw
  have hs := hB.s
  have hM1 : ¬ vp_in a1 (vN σ 24 2) ∨ ¬ vp_in a2 (vN σ 24 2) ∨ a1 = a2 → PX8_beside a1 a2 σ (fun r2 => (-1 : Int32) = r2 ∧ Gd σ) := by
    intro hz
    unfold PX8_beside
    refine wX8_noPerson hB (fun q1 => ⟨fun _ => ?_, fun w => absurd rfl w⟩) (fun q1 => ⟨fun w => absurd w (by decide), fun _ => ⟨rfl, h⟩⟩)
    refine wX8_noPerson hB (fun q2 => ⟨fun _ => ⟨fun _ => ⟨rfl, h⟩, fun z => ?_⟩, fun w => absurd rfl w⟩) (fun q2 => ⟨fun w => absurd w (by decide), fun _ => ⟨rfl, h⟩⟩)
    rcases hz with w | w | w
    · exact absurd q1 w
    · exact absurd q2 w
    · exact absurd w z
  unfold PX7_beside
  refine wX7_personOf hA hB hC (fun q => ⟨fun _ => hM1 (Or.inl q), nofun⟩) (fun j b q ej hj e1 e2 e3 e4 e5 => ⟨nofun, fun w hw9 => ?_⟩)
  refine wX7_personOf hA hB hC (fun q2 => ⟨fun _ => hM1 (Or.inr (Or.inl q2)), nofun⟩) (fun j2 b2 q2 ej2 hj2 e12 e22 e32 e42 e52 => ⟨nofun, fun w hw9 => ⟨fun z => hM1 (Or.inr (Or.inr z)), fun z => ?_⟩⟩)
  refine besideL hw (bsF σ a1 a2) (fun k _ => bsF_s σ a1 a2 k) ?_ 1000 0 (by omega) (by omega)
  unfold PX8_beside
  refine wX8_noPerson hB (fun _ => ⟨fun _ => ?_, fun w => absurd rfl w⟩) (fun w => absurd q w)
  refine wX8_noPerson hB (fun _ => ⟨fun _ => ⟨fun w => absurd w z, fun _ => ?_⟩, fun w => absurd rfl w⟩) (fun w => absurd q2 w)
  exact besideO hw (bsF σ a1 a2) rfl (fun k _ => bsF_s σ a1 a2 k) ⟨rfl, h⟩ 1000 0 (by omega) (by omega)
