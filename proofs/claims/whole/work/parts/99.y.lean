/-! ===== look: the groups as the class counts them ===== -/
section GZ
variable {σ0 : XS} {n0 e w : Nat}
theorem gx_off (h : Gd σ0) (h40 : n0 < 40) (he : e < 40) (hw : w < 6) {x : Nat} (hx : x < vN σ0 24 2 * vN σ0 24 1) (hn : rest σ0 n0 e (x % vN σ0 24 1) ≠ some w) : gx σ0 n0 e w x = gl (g0N σ0) (pY σ0 e) w := by
  obtain ⟨hP, hd, hm, h30, h5, h6⟩ := pq h hx
  have r := rel_look h rfl (p := nI (x / vN σ0 24 1)) h40 he (t := x % vN σ0 24 1) (by omega)
  have gk : ∀ k, k < vN σ0 24 10 → gX σ0 n0 x k = g0N σ0 k := by
    intro k hk
    unfold gX g0N
    rw [gX_k hk]
  unfold gx tP
  cases er : rest σ0 n0 e (x % vN σ0 24 1) with
  | none =>
    rw [er] at r
    exact gl_sam r (lab0' h he) gk
  | some q =>
    rw [er] at r hn
    exact gl_off r (pY_inj h.md he) hw (fun z => hn (by rw [z])) (lab0' h he) gk
theorem gx_on (h : Gd σ0) (h40 : n0 < 40) (he : e < 40) {t0 : Nat} (ht : t0 < 6) (hr : rest σ0 n0 e t0 = some w) : ∃ A B : List Nat, gl (g0N σ0) (pY σ0 e) w = A ++ B ∧ ∀ x, x < vN σ0 24 2 * vN σ0 24 1 → x % vN σ0 24 1 = t0 → gx σ0 n0 e w x = A ++ gpN σ0 n0 (x / vN σ0 24 1) :: B := by
  refine ⟨glA (g0N σ0) (pY σ0 e) ((pY σ0 n0).1 t0) ((pY σ0 n0).2.1 ((pY σ0 n0).1 t0)), glB (g0N σ0) (pY σ0 e) ((pY σ0 n0).1 t0) ((pY σ0 n0).2.1 ((pY σ0 n0).1 t0)), ?_, fun x hx ex => ?_⟩
  · have r := rel_look h rfl (p := 0) h40 he ht
    rw [hr] at r
    exact (gl_on r (lab0' h he)).1
  · obtain ⟨hP, hd, hm, h30, h5, h6⟩ := pq h hx
    have r := rel_look h rfl (p := nI (x / vN σ0 24 1)) h40 he ht
    rw [hr] at r
    have gk : ∀ k, k < vN σ0 24 10 → gX σ0 n0 x k = g0N σ0 k := by
      intro k hk
      unfold gX g0N
      rw [gX_k hk]
    have q := (gl_on (g := g0N σ0) r (lab0' h he)).2 (gX σ0 n0 x) gk
    have ec : gX σ0 n0 x (vN σ0 24 10) = gpN σ0 n0 (x / vN σ0 24 1) := by
      obtain ⟨a, b⟩ := gX_c h h40 hx
      unfold gX
      rw [a, nI_clamp (by omega)]
    rw [ec] at q
    unfold gx tP
    rw [ex]
    exact q
theorem may_ct (σ0 : XS) (n0 : Nat) : ct (may σ0 n0) (vN σ0 24 2 * vN σ0 24 1) = ct (fP σ0 n0) (vN σ0 24 2) * ct (fT σ0 n0) (vN σ0 24 1) := ct_mul (P := vN σ0 24 1) (fP σ0 n0) (fT σ0 n0) (vN σ0 24 2)
theorem look_not (h : Gd σ0) (h40 : n0 < 40) (he : e < 40) (hw : w < 6) (hn : ¬ told σ0 n0 e (vN σ0 24 1) w) : isM (grp σ0 n0 e w) (ct (fP σ0 n0) (vN σ0 24 2) * ct (fT σ0 n0) (vN σ0 24 1)) := by
  have off : ∀ x, x < vN σ0 24 2 * vN σ0 24 1 → may σ0 n0 x = true → gx σ0 n0 e w x = gl (g0N σ0) (pY σ0 e) w := by
    intro x hx mx
    obtain ⟨hP, hd, hm, -⟩ := pq h hx
    refine gx_off h h40 he hw hx (fun z => hn ⟨_, hm, ?_, z⟩)
    unfold may at mx
    rw [Bool.and_eq_true] at mx
    exact mx.2
  have cv : ∀ y, y < vN σ0 24 2 * vN σ0 24 1 → may σ0 n0 y = true → ct (fun y' => may σ0 n0 y' && decide (gx σ0 n0 e w y = gx σ0 n0 e w y')) (vN σ0 24 2 * vN σ0 24 1) = ct (fP σ0 n0) (vN σ0 24 2) * ct (fT σ0 n0) (vN σ0 24 1) := by
    intro y hy my
    rw [← may_ct]
    refine ct_congr (fun y' hy' => ?_)
    cases my' : may σ0 n0 y' with
    | false => rfl
    | true => rw [off y hy my, off y' hy' my', Bool.true_and]; exact decide_eq_true rfl
  refine ⟨?_, ?_⟩
  · rintro v ⟨y, hy, my, rfl⟩
    rw [cv y hy my]; exact Nat.le_refl _
  · rcases Nat.eq_zero_or_pos (ct (fP σ0 n0) (vN σ0 24 2) * ct (fT σ0 n0) (vN σ0 24 1)) with z | z
    · exact Or.inl z
    · rw [← may_ct] at z
      obtain ⟨y, hy, my⟩ := ct_pos.mp z
      exact Or.inr ⟨y, hy, my, cv y hy my⟩
theorem look_told (h : Gd σ0) (h40 : n0 < 40) (he : e < 40) (hw : w < 6) (hn : told σ0 n0 e (vN σ0 24 1) w) {MA : Nat} (hM : mostM σ0 n0 (vN σ0 24 2) MA) : 0 < ct (fT σ0 n0) (vN σ0 24 1) ∧ isM (grp σ0 n0 e w) (if ct (fP σ0 n0) (vN σ0 24 2) * ct (fT σ0 n0) (vN σ0 24 1) - ct (fP σ0 n0) (vN σ0 24 2) < MA then MA else ct (fP σ0 n0) (vN σ0 24 2) * ct (fT σ0 n0) (vN σ0 24 1) - ct (fP σ0 n0) (vN σ0 24 2)) := by
  obtain ⟨t0, ht0, ft0, rt0⟩ := hn
  have cq := h.w.2.1.q
  have P6 : vN σ0 24 1 ≤ 6 := by omega
  have but := ct_but ht0 ft0
  have fpos : 0 < ct (fT σ0 n0) (vN σ0 24 1) := by omega
  refine ⟨fpos, ?_⟩
  obtain ⟨A, B, eA, hA⟩ := gx_on h h40 he (by omega) rt0
  obtain ⟨F, eF⟩ : ∃ F, F = ct (fP σ0 n0) (vN σ0 24 2) := ⟨_, rfl⟩
  obtain ⟨T, eT⟩ : ∃ T, T = ct (fun x => fT σ0 n0 x && !(x == t0)) (vN σ0 24 1) := ⟨_, rfl⟩
  have eAll : ct (fP σ0 n0) (vN σ0 24 2) * ct (fT σ0 n0) (vN σ0 24 1) - ct (fP σ0 n0) (vN σ0 24 2) = F * T := by
    rw [← but, ← eF, ← eT, Nat.mul_succ]; omega
  rw [eAll]
  have off : ∀ x, x < vN σ0 24 2 * vN σ0 24 1 → ¬ x % vN σ0 24 1 = t0 → gx σ0 n0 e w x = A ++ B := by
    intro x hx hne
    obtain ⟨hP, hd, hm, -⟩ := pq h hx
    rw [gx_off h h40 he hw hx (fun z => hne (rest_inj h h40 he (by omega) (by omega) z rt0)), eA]
  have dif : ∀ g : Nat, A ++ B ≠ A ++ g :: B := by
    intro g z
    have := congrArg List.length z
    rw [List.length_append, List.length_append, List.length_cons] at this
    omega
  have cOff : ∀ y, y < vN σ0 24 2 * vN σ0 24 1 → ¬ y % vN σ0 24 1 = t0 → ct (fun y' => may σ0 n0 y' && decide (gx σ0 n0 e w y = gx σ0 n0 e w y')) (vN σ0 24 2 * vN σ0 24 1) = F * T := by
    intro y hy ny
    rw [eF, eT, ← ct_mul (P := vN σ0 24 1)]
    refine ct_congr (fun y' hy' => ?_)
    unfold may
    by_cases z : y' % vN σ0 24 1 = t0
    · rw [off y hy ny, hA y' hy' z, decide_eq_false (dif _), z]
      simp
    · rw [off y hy ny, off y' hy' z, decide_eq_true rfl]
      have : (y' % vN σ0 24 1 == t0) = false := by simp [z]
      rw [this]
      simp
  have one : ct (fun t => fT σ0 n0 t && (t == t0)) (vN σ0 24 1) = 1 := by
    refine ct_one ht0 (fun x hx => ?_)
    rw [Bool.and_eq_true, beq_iff_eq]
    exact ⟨fun q => q.2, fun q => ⟨by rw [q]; exact ft0, q⟩⟩
  have cOn : ∀ y, y < vN σ0 24 2 * vN σ0 24 1 → y % vN σ0 24 1 = t0 → ct (fun y' => may σ0 n0 y' && decide (gx σ0 n0 e w y = gx σ0 n0 e w y')) (vN σ0 24 2 * vN σ0 24 1) = agc σ0 n0 (vN σ0 24 2) (gpN σ0 n0 (y / vN σ0 24 1)) := by
    intro y hy ny
    have m1 := ct_mul (P := vN σ0 24 1) (fun p => fP σ0 n0 p && (gpN σ0 n0 p == gpN σ0 n0 (y / vN σ0 24 1))) (fun t => fT σ0 n0 t && (t == t0)) (vN σ0 24 2)
    rw [one, Nat.mul_one] at m1
    unfold agc
    rw [← m1]
    refine ct_congr (fun y' hy' => ?_)
    unfold may
    by_cases z : y' % vN σ0 24 1 = t0
    · rw [hA y hy ny, hA y' hy' z, z]
      by_cases q : gpN σ0 n0 (y' / vN σ0 24 1) = gpN σ0 n0 (y / vN σ0 24 1)
      · rw [q, decide_eq_true rfl]
        simp
      · have d : ¬ A ++ gpN σ0 n0 (y / vN σ0 24 1) :: B = A ++ gpN σ0 n0 (y' / vN σ0 24 1) :: B := by
          intro r
          have := List.append_cancel_left r
          rw [List.cons.injEq] at this
          exact q this.1.symm
        rw [decide_eq_false d]
        have q2 : (gpN σ0 n0 (y' / vN σ0 24 1) == gpN σ0 n0 (y / vN σ0 24 1)) = false := by simp [q]
        rw [q2]
        simp
    · rw [hA y hy ny, off y' hy' z, decide_eq_false (fun r => dif _ r.symm)]
      have : (y' % vN σ0 24 1 == t0) = false := by simp [z]
      rw [this]
      simp
  obtain ⟨M1, M2⟩ := hM
  have g8 : ∀ p, p < vN σ0 24 2 → gpN σ0 n0 p < 8 := fun p hp => (gpN_eq h.w h40 hp).2
  refine ⟨?_, ?_⟩
  · rintro v ⟨y, hy, my, rfl⟩
    obtain ⟨hP, hd, hm, -⟩ := pq h hy
    by_cases z : y % vN σ0 24 1 = t0
    · rw [cOn y hy z]
      have := M1 _ ⟨_, g8 _ hd, rfl⟩
      split <;> omega
    · rw [cOff y hy z]
      split <;> omega
  · by_cases z : F * T < MA
    · rw [if_pos z]
      rcases M2 with M2 | ⟨g, hg, eg⟩
      · omega
      · have pos : 0 < agc σ0 n0 (vN σ0 24 2) g := by omega
        unfold agc at pos
        obtain ⟨p, hp, ep⟩ := ct_pos.mp pos
        rw [Bool.and_eq_true, beq_iff_eq] at ep
        obtain ⟨d1, d2⟩ := dm_eq (P := vN σ0 24 1) (a := p) (b := t0) ht0
        have hlt : p * vN σ0 24 1 + t0 < vN σ0 24 2 * vN σ0 24 1 := by
          have : (p + 1) * vN σ0 24 1 ≤ vN σ0 24 2 * vN σ0 24 1 := Nat.mul_le_mul_right _ hp
          rw [Nat.succ_mul] at this
          omega
        refine Or.inr ⟨p * vN σ0 24 1 + t0, hlt, ?_, ?_⟩
        · unfold may
          rw [d1, d2, ep.1, ft0]; rfl
        · rw [cOn _ hlt d2, d1, ep.2, eg]
    · rw [if_neg z]
      rcases Nat.eq_zero_or_pos (F * T) with z0 | z0
      · exact Or.inl z0
      · have pos := z0
        rw [eF, eT, ← ct_mul (P := vN σ0 24 1)] at pos
        obtain ⟨y, hy, ey⟩ := ct_pos.mp pos
        simp only [Bool.and_eq_true, Bool.not_eq_true', beq_eq_false_iff_ne] at ey
        refine Or.inr ⟨y, hy, ?_, cOff y hy ey.2.2⟩
        unfold may
        rw [ey.1, ey.2.1]; rfl
end GZ
theorem lookM {σ0 : XS} (h0 : Gd σ0) {n0 e : Nat} {f3 : Int32} (h40 : n0 < 40) (he : e < 40) {V : Nat → Nat} (hV : ∀ w, w < vN σ0 24 1 → isM (grp σ0 n0 e w) (V w)) {post : Int32 → XS → Prop} {kx : Int32 → Int32 → Int32 → XS → Prop} (hk : ∀ x σ', QK (vN σ0 24 10) σ0 σ' → kx (nI (lkV V (vN σ0 24 1)).1) (nI (lkV V (vN σ0 24 1)).2) x σ') : ∀ (n m : Nat) (σ : XS), m ≤ vN σ0 24 1 → vN σ0 24 1 < m + n → QK (vN σ0 24 10) σ0 σ → LX8_look_47 (nI n0) (nI e) f3 post kx n (nI (lkV V m).1) (nI (lkV V m).2) (nI m) σ := by
  have cq := h0.w.2.1.q
  intro n
  induction n with
  | zero => intro m σ h1 h2; omega
  | succ n ih =>
    intro m σ h1 h2 K
    have e1 : gI σ 24 1 = nI (vN σ0 24 1) := by rw [K.g rfl (fun w => by omega)]; exact cq.1
    rw [LX8_look_47, e1, nI_leI (by omega) (by omega)]
    refine ⟨fun z => ?_, fun z => wGroup h0 h40 he (by omega) K (fun M σ' K' hM30 hM => ?_)⟩
    · obtain rfl : m = vN σ0 24 1 := by omega
      exact hk _ σ K
    · obtain rfl : V m = M := (hV m (by omega)).uniq hM
      have lb := (lkV_b (V := V) m).2
      have q := ih (m + 1) σ' (by omega) (by omega) K'
      rw [lkV_s] at q
      unfold stp at q
      rw [nI_leI (by omega) (by omega)]
      refine ⟨fun w => ⟨fun _ x ex => ?_, fun z => absurd w z⟩, fun w => ⟨fun z => absurd z w, fun _ x ex => ?_⟩⟩
      · rw [if_neg (by omega)] at q
        rw [ex, nI_1]; exact q
      · rw [if_pos (by omega)] at q
        rw [ex, nI_1]; exact q
theorem Gd.k3 {σ σ' : XS} (h : Gd σ) (K : KK r3 σ σ') : Gd σ' := by
  have Ks1 : Ks σ σ' := by
    refine ⟨fun j k hs => K.1 j k ?_, by rw [K.2]⟩
    unfold scr at hs
    unfold r3
    simp only [Bool.or_eq_false_iff] at hs
    exact hs.1
  exact fin3 h Ks1 (K.1 0 8 rfl) (K.1 24 0 rfl) (by rw [K.1 15 0 rfl, K.1 24 41 rfl]; exact h.1.2.2.2.1) (K.1 24 21 rfl) (K.1 24 22 rfl) (K.1 24 25 rfl)
theorem r3_ag (j k : Nat) (h : r3 j k = true) : agb j k = false := by
  unfold r3 at h
  rw [beq_iff_eq] at h
  rw [h]; rfl
theorem ag_f {σ σ' : XS} (h : AG σ σ') (n0 : Nat) : fP σ' n0 = fP σ n0 ∧ fT σ' n0 = fT σ n0 := by
  have v31 : ∀ k, vN σ' 31 k = vN σ 31 k := fun k => h.v rfl
  have v29 : ∀ k, vN σ' 29 k = vN σ 29 k := fun k => h.v rfl
  have v30 : ∀ k, vN σ' 30 k = vN σ 30 k := fun k => h.v rfl
  refine ⟨?_, ?_⟩
  · funext p
    unfold fP onN
    rw [h.v (j := 24) (k := 10) rfl]
    simp only [v31, v29]
  · funext p
    unfold fT onN
    rw [h.v (j := 24) (k := 10) rfl]
    simp only [v31, v30]
theorem ag_most {σ σ' : XS} (h : AG σ σ') {n0 m M : Nat} (hM : mostM σ n0 m M) : mostM σ' n0 m M := by
  have e : ∀ g, agc σ' n0 m g = agc σ n0 m g := by
    intro g
    unfold agc gpN
    rw [(ag_f h n0).1]
    have r25 := h.row (j := 25) (fun _ => rfl)
    have r26 := h.row (j := 26) (fun _ => rfl)
    rw [r25, r26]
  unfold mostM
  simp only [e]
  exact hM
theorem st22 {σ : XS} (h : Gd σ) : S22 Gd σ := by
  intro a1 a2 a3
  have hw := h.w
  obtain ⟨hA, hB, -⟩ := id hw
  have cp := hB.p
  have cq := hB.q
  have hOut : (¬ vp_in a1 40 ∨ ¬ vp_in a2 40 ∨ ¬ vp_in a3 2) → PX8_look a1 a2 a3 σ (fun r2 σ2 => (-2 : Int32) = r2 ∧ Gd σ2) := by
    intro w
    unfold PX8_look
    refine wX8_isNight (fun q1 => ⟨fun z => absurd z (by decide), fun _ => ?_⟩) (fun _ => ⟨fun _ => ⟨rfl, h⟩, fun z => absurd rfl z⟩)
    refine wX8_isNight (fun q2 => ⟨fun z => absurd z (by decide), fun _ => ?_⟩) (fun _ => ⟨fun _ => ⟨rfl, h⟩, fun z => absurd rfl z⟩)
    refine wIn (n := 2) (by decide) (fun q3 => ?_) (fun _ => ⟨fun _ => ⟨rfl, h⟩, fun z => absurd rfl z⟩)
    rcases w with w | w | w
    · exact absurd q1 w
    · exact absurd q2 w
    · exact absurd q3 w
  unfold PX7_look
  refine wX7_isNight (fun q1 => ⟨fun w => absurd w (by decide), fun _ => ?_⟩) (fun q1 => ⟨fun _ => hOut (Or.inl q1), fun w => absurd rfl w⟩)
  refine wX7_isNight (fun q2 => ⟨fun w => absurd w (by decide), fun _ => ?_⟩) (fun q2 => ⟨fun _ => hOut (Or.inr (Or.inl q2)), fun w => absurd rfl w⟩)
  refine wX7_isEither (fun q3 => ⟨fun w => absurd w (by decide), fun _ => ?_⟩) (fun q3 => ⟨fun _ => hOut (Or.inr (Or.inr q3)), fun w => absurd rfl w⟩)
  refine wX7_hasHall hA hB (fun q => ⟨fun w => absurd w (by decide), fun _ => ?_⟩) (fun q => ⟨fun _ => ?_, fun w => absurd rfl w⟩)
  · obtain ⟨n0, h40, e1⟩ := vp_in_of q1 (by decide)
    obtain ⟨e, he, e2⟩ := vp_in_of q2 (by decide)
    subst e1; subst e2
    have pF := fP_ct (n0 := n0) hw
    have pT := fT_ct (n0 := n0) hw
    have hP0 : 0 < vN σ 24 1 := by
      rcases Nat.eq_zero_or_pos (vN σ 24 1) with z | z
      · exfalso
        apply q
        rw [hB.2.2.2.2.2.2.2.2.2.2, cq.1, z]; rfl
      · exact z
    refine wSeated hw h40 (fun x10 e10 => wSeated hw h40 (fun x12 e12 => ?_))
    rw [hA.1, cp.1, pk_sub (by omega)] at e10
    rw [hA.2, cq.1, pk_sub (by omega)] at e12
    obtain ⟨F, eF⟩ : ∃ F, F = ct (fP σ n0) (vN σ 24 2) := ⟨_, rfl⟩
    obtain ⟨T, eT⟩ : ∃ T, T = ct (fT σ n0) (vN σ 24 1) := ⟨_, rfl⟩
    rw [show vN σ 24 2 - seat σ n0 = F by omega] at e10
    rw [show vN σ 24 1 - seat σ n0 = T by omega, e10, pk_mul] at e12
    subst e10; subst e12
    have FT30 : F * T ≤ 30 := Nat.le_trans (Nat.mul_le_mul (by omega : F ≤ 5) (by omega : T ≤ 6)) (by decide)
    refine wMost hw h40 (fun MA σ1 K1 hMA hM x15 e15 => ?_)
    have g1 := h.k3 K1
    have ag1 : AG σ σ1 := K1.ag r3_ag
    have v1 : vN σ1 24 1 = vN σ 24 1 := by unfold vN; rw [K1.1 24 1 rfl]
    have v2 : vN σ1 24 2 = vN σ 24 2 := by unfold vN; rw [K1.1 24 2 rfl]
    have eF1 : F = ct (fP σ1 n0) (vN σ1 24 2) := by rw [v2, (ag_f ag1 n0).1]; exact eF
    have eT1 : T = ct (fT σ1 n0) (vN σ1 24 1) := by rw [v1, (ag_f ag1 n0).2]; exact eT
    have hM1 : mostM σ1 n0 (vN σ1 24 2) MA := by rw [v2]; exact ag_most ag1 hM
    have MA5 : MA ≤ 5 := by
      rcases hM.2 with z | ⟨g, hg, eg⟩
      · omega
      · have : agc σ n0 (vN σ 24 2) g ≤ vN σ 24 2 := ct_le _ _
        omega
    refine wTelling g1 h40 he (fun S hS hT => ?_)
    obtain ⟨V, eV⟩ : ∃ V : Nat → Nat, V = fun w => if tbit S w = true then (if F * T - F < MA then MA else F * T - F) else F * T := ⟨_, rfl⟩
    have Vt : ∀ w, tbit S w = true → V w = if F * T - F < MA then MA else F * T - F := fun w hb => by rw [eV]; show (if tbit S w = true then _ else _) = _; rw [if_pos hb]
    have Vf : ∀ w, tbit S w = false → V w = F * T := fun w hb => by rw [eV]; show (if tbit S w = true then _ else _) = _; rw [if_neg (by rw [hb]; decide)]
    have V99 : ∀ w, V w < 99 := by
      intro w
      cases hb : tbit S w with
      | false => rw [Vf w hb]; omega
      | true => rw [Vt w hb]; split <;> omega
    have hV : ∀ w, w < vN σ1 24 1 → isM (grp σ1 n0 e w) (V w) := by
      intro w hw1
      cases hb : tbit S w with
      | false =>
        rw [Vf w hb, eF1, eT1]
        refine look_not g1 h40 he (by omega) (fun z => ?_)
        rw [(hT w (by omega)).mpr z] at hb; cases hb
      | true =>
        rw [Vt w hb, eF1, eT1]
        exact (look_told g1 h40 he (by omega) ((hT w (by omega)).mp hb) hM1).2
    have h6 : ∀ w, w < vN σ1 24 1 → tbit S w = true → x15 = nI (V w) := by
      intro w hw1 hb
      have tp := (look_told g1 h40 he (by omega) ((hT w (by omega)).mp hb) hM1).1
      rw [← eT1] at tp
      have le : F ≤ F * T := Nat.le_mul_of_pos_right F tp
      rw [pk_sub le] at e15
      rw [Vt w hb, e15]
      by_cases z : F * T - F < MA
      · rw [if_pos ((nI_ltI (by omega) (by omega)).mpr z), if_pos z]
      · rw [if_neg (fun y => z ((nI_ltI (by omega) (by omega)).mp y)), if_neg z]
    have h5 : ∀ w, w < vN σ1 24 1 → tbit S w = false → nI (F * T) = nI (V w) := fun w _ hb => by rw [Vf w hb]
    have l1 : lkV V 1 = (0, V 0) := by
      show stp V 0 (0, 99) = (0, V 0)
      unfold stp
      rw [if_pos (V99 0)]
    have fin : PX8_look (nI n0) (nI e) a3 σ1 (fun r2 σ2 => (if a3 = 0 then nI (lkV V (vN σ1 24 1)).1 else nI (lkV V (vN σ1 24 1)).2) = r2 ∧ Gd σ2) := by
      unfold PX8_look
      refine wX8_isNight (fun _ => ⟨fun z => absurd z (by decide), fun _ => ?_⟩) (fun z => absurd q1 z)
      refine wX8_isNight (fun _ => ⟨fun z => absurd z (by decide), fun _ => ?_⟩) (fun z => absurd q2 z)
      refine wIn (n := 2) (by decide) (fun _ => ⟨fun z => absurd z (by decide), fun _ => ⟨fun z => absurd ((K1.1 24 2 rfl).symm.trans z) q, fun _ => ?_⟩⟩) (fun z => absurd q3 z)
      refine lookM g1 h40 he hV (fun x σ2 K2 => ⟨fun z => ⟨by rw [if_pos z], g1.off K2⟩, fun z => ⟨by rw [if_neg z], g1.off K2⟩⟩) 1000 0 σ1 (by omega) (by omega) (QK.rf σ1)
    have kxx : (a3 = 0 → PX8_look (nI n0) (nI e) a3 σ1 (fun r2 σ2 => nI (lkV V (vN σ1 24 1)).1 = r2 ∧ Gd σ2)) ∧ (¬ a3 = 0 → PX8_look (nI n0) (nI e) a3 σ1 (fun r2 σ2 => nI (lkV V (vN σ1 24 1)).2 = r2 ∧ Gd σ2)) := by
      refine ⟨fun z => ?_, fun z => ?_⟩
      · rw [if_pos z] at fin; exact fin
      · rw [if_neg z] at fin; exact fin
    have e07 : gI σ1 0 7 = nI (vN σ1 24 1) := by rw [K1.1 0 7 rfl, hA.2, v1]; exact cq.1
    rw [tbit_1 S hS]
    have go := lookL (σ := σ1) (V := V) (P := vN σ1 24 1) (S := S) (f1 := nI n0) (f2 := nI e) (f3 := a3) (f4 := nI F) (f5 := nI (F * T)) (f6 := x15) e07 (by omega) (fun w _ => V99 w) h5 h6 (post := fun r1 σ1 => PX8_look (nI n0) (nI e) a3 σ1 (fun r2 σ2 => r1 = r2 ∧ Gd σ2)) (kx := fun x26 x27 _ σ29 => ((a3 = 0 → PX8_look (nI n0) (nI e) a3 σ29 (fun r2 σ2 => x26 = r2 ∧ Gd σ2)) ∧ (¬ a3 = 0 → PX8_look (nI n0) (nI e) a3 σ29 (fun r2 σ2 => x27 = r2 ∧ Gd σ2)))) kxx 1000 1 (by omega) (by omega)
    rw [l1] at go
    refine ⟨fun z => ?_, fun z => ?_⟩
    · rw [h5 0 (by omega) z]
      rw [h5 0 (by omega) z] at go
      exact go
    · have zt : tbit S 0 = true := by
        cases e9 : tbit S 0 with
        | false => exact absurd e9 z
        | true => rfl
      rw [h6 0 (by omega) zt]
      rw [h6 0 (by omega) zt] at go
      exact go
  · unfold PX8_look
    refine wX8_isNight (fun _ => ⟨fun z => absurd z (by decide), fun _ => ?_⟩) (fun z => absurd q1 z)
    refine wX8_isNight (fun _ => ⟨fun z => absurd z (by decide), fun _ => ?_⟩) (fun z => absurd q2 z)
    exact wIn (n := 2) (by decide) (fun _ => ⟨fun z => absurd z (by decide), fun _ => ⟨fun _ => ⟨rfl, h⟩, fun z => absurd q z⟩⟩) (fun z => absurd q3 z)
