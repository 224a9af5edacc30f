/-! ===== sat ===== -/
def maB (σ : XS) (p a n : Int32) : Bool := (List.range (vN σ 24 10)).all (fun j => !(gI σ 31 j == n) || (!(gI σ 29 j == p) && !(gI σ 30 j == a)))
theorem maB_iff {σ : XS} {p a n : Int32} : maB σ p a n = true ↔ ∀ j, j < vN σ 24 10 → gI σ 31 j = n → ¬ gI σ 29 j = p ∧ ¬ gI σ 30 j = a := by
  unfold maB
  rw [List.all_eq_true]
  constructor
  · intro h j hj e
    have := h j (List.mem_range.mpr hj)
    simp only [Bool.or_eq_true, Bool.and_eq_true, Bool.not_eq_true', beq_eq_false_iff_ne] at this
    rcases this with z | z
    · exact absurd e z
    · exact z
  · intro h j hj
    simp only [Bool.or_eq_true, Bool.and_eq_true, Bool.not_eq_true', beq_eq_false_iff_ne]
    by_cases e : gI σ 31 j = n
    · exact Or.inr (h j (List.mem_range.mp hj) e)
    · exact Or.inl e
theorem maB_eq {σ σ' : XS} (v : vN σ' 24 10 = vN σ 24 10) (r : ∀ j, j < vN σ 24 10 → gI σ' 29 j = gI σ 29 j ∧ gI σ' 30 j = gI σ 30 j ∧ gI σ' 31 j = gI σ 31 j) (p a n : Int32) : maB σ' p a n = maB σ p a n := by
  rw [Bool.eq_iff_iff, maB_iff, maB_iff, v]
  constructor
  · intro h j hj
    obtain ⟨e1, e2, e3⟩ := r j hj
    have := h j hj
    rw [e1, e2, e3] at this; exact this
  · intro h j hj
    obtain ⟨e1, e2, e3⟩ := r j hj
    have := h j hj
    rw [e1, e2, e3]; exact this
theorem maB_ag {σ σ' : XS} (h : AG σ σ') (p a n : Int32) : maB σ' p a n = maB σ p a n := maB_eq (h.v rfl) (fun j _ => ⟨h 29 j rfl, h 30 j rfl, h 31 j rfl⟩) p a n
theorem QK.v {c : Nat} {σ σ' : XS} (h : QK c σ σ') (k : Nat) : vN σ' 24 k = vN σ 24 k := by
  unfold vN
  rw [h.g rfl (fun w => by omega)]
theorem maB_qk {σ σ' : XS} (h : QK (vN σ 24 10) σ σ') (p a n : Int32) : maB σ' p a n = maB σ p a n := maB_eq (h.v 10) (fun j hj => ⟨h.g rfl (fun w => by omega), h.g rfl (fun w => by omega), h.g rfl (fun w => by omega)⟩) p a n
theorem wMayC {σ : XS} {p a n : Int32} {post : Int32 → Prop} (hw : Gw σ) (h : post (b01 (maB σ p a n))) : PX7_maySit p a n σ post := by
  refine wX7_maySit hw (fun z => ?_) (fun j hj z1 z2 => ?_)
  · rw [maB_iff.mpr z] at h; exact h
  · have : maB σ p a n = false := by
      cases e : maB σ p a n with
      | false => rfl
      | true => exact absurd z2 (fun z2 => z2.elim (maB_iff.mp e j hj z1).1 (maB_iff.mp e j hj z1).2)
    rw [this] at h; exact h
theorem wMayM {σ : XS} {p a n : Int32} {post : Int32 → Prop} (hB : gI σ 24 10 = nI (vN σ 24 10) ∧ vN σ 24 10 < 26) (h : post (b01 (maB σ p a n))) : PX8_maySit p a n σ post := by
  refine wX8_maySit hB (fun z => ?_) (fun j hj z1 z2 => ?_)
  · rw [maB_iff.mpr z] at h; exact h
  · have : maB σ p a n = false := by
      cases e : maB σ p a n with
      | false => rfl
      | true => exact absurd z2 (fun z2 => z2.elim (maB_iff.mp e j hj z1).1 (maB_iff.mp e j hj z1).2)
    rw [this] at h; exact h
theorem wSitDown {σ : XS} {c : Nat} {p a n : Int32} {post : XS → Prop} (hc : gI σ 24 10 = nI c) (h25 : c < 25) (h : post (tS σ c p a n)) : PX8_sitDown p a n σ post := by
  unfold PX8_sitDown
  rw [hc, nI_clamp (by omega)]
  refine ⟨pk_in c 25 h25, fun σ1 e1 => ?_⟩
  have c1 : gI σ1 24 10 = nI c := by rw [e1, gI_sIj _ _ (by decide)]; exact hc
  rw [c1, nI_clamp (by omega)]
  refine ⟨pk_in c 25 h25, fun σ2 e2 => ?_⟩
  have c2 : gI σ2 24 10 = nI c := by rw [e2, gI_sIj _ _ (by decide)]; exact c1
  rw [c2, nI_clamp (by omega)]
  refine ⟨pk_in c 25 h25, fun σ3 e3 => ?_⟩
  have c3 : gI σ3 24 10 = nI c := by rw [e3, gI_sIj _ _ (by decide)]; exact c2
  rw [c3]
  intro σ4 e4
  rw [e4, e3, e2, e1]
  exact h
theorem satC {σ0 : XS} (h0 : Gd σ0) {a nn : Int32} (ha : vp_in a (vN σ0 24 1)) (hn : vp_in nn 40) {F : Nat → Bool} (hF : ∀ p, p < vN σ0 24 2 → (maB σ0 (nI p) a nn && soB (tS σ0 (vN σ0 24 10) (nI p) a nn)) = F p) {post : Int32 → XS → Prop} {kx : Int32 → Int32 → XS → Prop} (hk : ∀ σ', Gd σ' → KK scw σ0 σ' → kx (fd (stF F) (vN σ0 24 2) 0) (nI (vN σ0 24 2)) σ') : ∀ (n m : Nat) (σ : XS), m ≤ vN σ0 24 2 → vN σ0 24 2 < m + n → Gd σ → KK scw σ0 σ → LX7_sat_25 a nn post kx n (fd (stF F) m 0) (nI m) σ := by
  have cp := h0.w.2.1.p
  have cq := h0.w.2.1.q
  have ha6 : vp_in a 6 := vin_mono ha (by omega)
  intro n
  induction n with
  | zero => intro m σ h1 h2; omega
  | succ n ih =>
    intro m σ h1 h2 g K
    have e1 : gI σ 0 6 = nI (vN σ0 24 2) := by rw [g.1.1, K.1 24 2 rfl]; exact cp.1
    have ev : vN σ 24 2 = vN σ0 24 2 := by unfold vN; rw [K.1 24 2 rfl]
    have ec : vN σ 24 10 = vN σ0 24 10 := by unfold vN; rw [K.1 24 10 rfl]
    have ag := K.ag scw_ag
    rw [LX7_sat_25, e1, nI_leI (by omega) (by omega)]
    refine ⟨fun h => ?_, fun h => wMayC g.w ?_⟩
    · obtain rfl : m = vN σ0 24 2 := by omega
      exact hk σ g K
    · rw [maB_ag ag]
      have fm := hF m (by omega)
      have skip : F m = false → ∀ σ', Gd σ' → KK scw σ0 σ' → ∀ x : Int32, x = nI m + 1 → LX7_sat_25 a nn post kx n (fd (stF F) m 0) x σ' := by
        intro e σ' g' K' x ex
        have q := ih (m + 1) σ' (by omega) (by omega) g' K'
        rw [stF_s, e] at q
        rw [ex, nI_1]; exact q
      cases eb : maB σ0 (nI m) a nn with
      | false =>
        rw [eb, Bool.false_and] at fm
        exact ⟨fun _ => skip fm.symm σ g K, fun w => absurd rfl w⟩
      | true =>
        rw [eb, Bool.true_and] at fm
        refine ⟨fun w => absurd w (by decide), fun _ => ?_⟩
        refine wIsSoWith (κ := 2) (a5 := gumv (gI σ 25 m) (gI σ 26 m) nn) g (by decide) hn (fun _ => ⟨m, rfl, by omega, rfl⟩) (fun w => absurd rfl w) (mrS g rfl (pk_in m 5 (by omega)) ha6 hn) (fun σ1 hR => lksS g rfl (by omega) ha6 hn σ1 hR) (fun σ' g' K' => ?_)
        have eF : soB (tS σ (vN σ 24 10) (nI m) a nn) = F m := by
          rw [ec]
          exact (soB_ag (tS_ag ag _ _ _ _)).trans fm
        rw [eF]
        cases ef : F m with
        | false => exact ⟨fun _ => skip ef σ' g' (K.tr K'), fun w => absurd rfl w⟩
        | true =>
          refine ⟨fun w => absurd w (by decide), fun _ x ex y ey => ?_⟩
          have q := ih (m + 1) σ' (by omega) (by omega) g' (K.tr K')
          rw [stF_s, ef] at q
          rw [ex, ey, nI_1]
          exact q
theorem satM {σ0 : XS} (h0 : Gd σ0) {a nn : Int32} (ha : vp_in a (vN σ0 24 1)) (hn : vp_in nn 40) {F : Nat → Bool} (hF : ∀ p, p < vN σ0 24 2 → (maB σ0 (nI p) a nn && soB (tS σ0 (vN σ0 24 10) (nI p) a nn)) = F p) {post : Int32 → XS → Prop} {kx : Int32 → Int32 → XS → Prop} (hk : ∀ σ', QK (vN σ0 24 10) σ0 σ' → kx (fd (stF F) (vN σ0 24 2) 0) (nI (vN σ0 24 2)) σ') : ∀ (n m : Nat) (σ : XS), m ≤ vN σ0 24 2 → vN σ0 24 2 < m + n → QK (vN σ0 24 10) σ0 σ → LX8_sat_25 a nn post kx n (fd (stF F) m 0) (nI m) σ := by
  have cp := h0.w.2.1.p
  have cq := h0.w.2.1.q
  have cs := h0.w.2.1.s
  have ha6 : vp_in a 6 := vin_mono ha (by omega)
  intro n
  induction n with
  | zero => intro m σ h1 h2; omega
  | succ n ih =>
    intro m σ h1 h2 K
    have e2 : gI σ 24 2 = nI (vN σ0 24 2) := by rw [K.g rfl (fun w => by omega)]; exact cp.1
    have e10 : gI σ 24 10 = nI (vN σ0 24 10) := by rw [K.g rfl (fun w => by omega)]; exact cs.1
    have ec := K.v 10
    rw [LX8_sat_25, e2, nI_leI (by omega) (by omega)]
    refine ⟨fun h => ?_, fun h => wMayM ⟨by rw [ec]; exact e10, by omega⟩ ?_⟩
    · obtain rfl : m = vN σ0 24 2 := by omega
      exact hk σ K
    · rw [maB_qk K]
      have fm := hF m (by omega)
      cases eb : maB σ0 (nI m) a nn with
      | false =>
        rw [eb, Bool.false_and] at fm
        refine ⟨fun _ x ex => ?_, fun w => absurd rfl w⟩
        have q := ih (m + 1) σ (by omega) (by omega) K
        rw [stF_s, ← fm] at q
        rw [ex, nI_1]; exact q
      | true =>
        rw [eb, Bool.true_and] at fm
        refine ⟨fun w => absurd w (by decide), fun _ => wSitDown e10 (by omega) ?_⟩
        have agS := K.agS (nI m) a nn
        refine wAreSo (agS.mr (mrS h0 rfl (pk_in m 5 (by omega)) ha6 hn)) (fun σ' K' => ?_)
        rw [soB_ag agS, fm]
        have bk : ∀ σ2, σ2 = sI σ' 24 10 (gI σ' 24 10 - 1) → QK (vN σ0 24 10) σ0 σ2 := fun σ2 e => K.tr (QK.back e10 (fun j k h => K'.1 j k h) (by rw [K'.2]; rfl) e)
        cases ef : F m with
        | false =>
          refine ⟨fun _ x ex σ2 e2 y ey => ?_, fun w => absurd rfl w⟩
          have q := ih (m + 1) σ2 (by omega) (by omega) (bk σ2 e2)
          rw [stF_s, ef] at q
          rw [ex, ey, nI_1, or0]; exact q
        | true =>
          refine ⟨fun w => absurd w (by decide), fun _ x ex σ2 e2 y ey => ?_⟩
          have q := ih (m + 1) σ2 (by omega) (by omega) (bk σ2 e2)
          rw [stF_s, ef] at q
          rw [ex, ey, nI_1]; exact q
theorem st18 {σ : XS} (h : Gd σ) : S18 Gd σ := by
  intro a1 a2
  have hw := h.w
  obtain ⟨hA, hB, -⟩ := id hw
  have cp := hB.p
  unfold PX7_sat
  refine wX7_isPlace hA hB (fun q1 => ⟨fun w => absurd w (by decide), fun _ => ?_⟩) (fun q1 => ⟨fun _ => ?_, fun w => absurd rfl w⟩)
  · refine wX7_isNight (fun q2 => ⟨fun w => absurd w (by decide), fun _ => ?_⟩) (fun q2 => ⟨fun _ => ?_, fun w => absurd rfl w⟩)
    · refine satC h q1 q2 (F := fun p => maB σ (nI p) a1 a2 && soB (tS σ (vN σ 24 10) (nI p) a1 a2)) (fun _ _ => rfl) (fun σ1 g K => ?_) 1000 0 σ (by omega) (by omega) h (KK.rf σ)
      have v1 : vN σ1 24 1 = vN σ 24 1 := by unfold vN; rw [K.1 24 1 rfl]
      have v2 : vN σ1 24 2 = vN σ 24 2 := by unfold vN; rw [K.1 24 2 rfl]
      have v10 : vN σ1 24 10 = vN σ 24 10 := by unfold vN; rw [K.1 24 10 rfl]
      have ag := K.ag scw_ag
      unfold PX8_sat
      refine wX8_noPlace g.2.1 (fun _ => ⟨fun _ => ?_, fun w => absurd rfl w⟩) (fun w => absurd (by rw [v1]; exact q1) w)
      refine wX8_isNight (fun _ => ⟨fun w => absurd w (by decide), fun _ => ?_⟩) (fun w => absurd q2 w)
      refine satM g (by rw [v1]; exact q1) q2 (F := fun p => maB σ (nI p) a1 a2 && soB (tS σ (vN σ 24 10) (nI p) a1 a2)) (fun p _ => ?_) (fun σ2 K2 => ⟨by rw [v2], g.off K2⟩) 1000 0 σ1 (by omega) (by omega) (QK.rf σ1)
      rw [maB_ag ag, v10, soB_ag (tS_ag ag _ _ _ _)]
    · unfold PX8_sat
      exact wX8_noPlace hB (fun _ => ⟨fun _ => wX8_isNight (fun w => absurd w q2) (fun _ => ⟨fun _ => ⟨rfl, h⟩, fun w => absurd rfl w⟩), fun w => absurd rfl w⟩) (fun w => absurd q1 w)
  · unfold PX8_sat
    exact wX8_noPlace hB (fun w => absurd w q1) (fun _ => ⟨fun w => absurd w (by decide), fun _ => ⟨rfl, h⟩⟩)
