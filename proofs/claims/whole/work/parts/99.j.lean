theorem oK_some {m v : Nat} (h : oK m v = true) : ∃ a b, oC (nI m) (nI v) = some a ∧ oM (nI m) (nI v) = some b ∧ a.1 = b.1 ∧ a.2 = b.2 := by
  unfold oK at h
  cases e1 : oC (nI m) (nI v) with
  | none => rw [e1] at h; cases h
  | some a =>
    cases e2 : oM (nI m) (nI v) with
    | none => rw [e1, e2] at h; cases h
    | some b =>
      rw [e1, e2] at h
      simp only [Bool.and_eq_true, beq_iff_eq] at h
      exact ⟨a, b, rfl, rfl, h.1, h.2⟩
theorem oC_ok {σ : XS} {f1 f2 v m a4 : Int32} {a : Int64 × Int64} {post : Int64 → XS → Prop} (e : oC m v = some a) (h : (a4 = 0 → post a.1 σ) ∧ (¬ a4 = 0 → post a.2 σ)) : PX7_waysToPick m v σ (fun r11 => (∀ x12 : Int64, x12 = ((1 : Int64) <<< (m.toInt64 &&& 63)) → (((lg_cmp r11 (0 : Int64)) = 0 → LX7_odds_90 f1 f2 v a4 m post (fun x25 x26 _ σ28 => ((a4 = 0 → post x25 σ28) ∧ (¬ a4 = 0 → post x26 σ28))) 1000 r11 (1 : Int64) (0 : Int32) σ) ∧ (¬ (lg_cmp r11 (0 : Int64)) = 0 → LX7_odds_90 f1 f2 v a4 m post (fun x20 x21 _ σ23 => ((a4 = 0 → post x20 σ23) ∧ (¬ a4 = 0 → post x21 σ23))) 1000 r11 x12 (0 : Int32) σ)))) := by
  unfold PX7_waysToPick
  unfold oC at e
  have main : ∀ w : Int64, fO m 30 w (if lg_cmp w 0 = 0 then 1 else ((1 : Int64) <<< (m.toInt64 &&& 63))) 0 = some a → (∀ x12 : Int64, x12 = ((1 : Int64) <<< (m.toInt64 &&& 63)) → (((lg_cmp w (0 : Int64)) = 0 → LX7_odds_90 f1 f2 v a4 m post (fun x25 x26 _ σ28 => ((a4 = 0 → post x25 σ28) ∧ (¬ a4 = 0 → post x26 σ28))) 1000 w (1 : Int64) (0 : Int32) σ) ∧ (¬ (lg_cmp w (0 : Int64)) = 0 → LX7_odds_90 f1 f2 v a4 m post (fun x20 x21 _ σ23 => ((a4 = 0 → post x20 σ23) ∧ (¬ a4 = 0 → post x21 σ23))) 1000 w x12 (0 : Int32) σ))) := by
    intro w ew x12 e12
    subst e12
    refine ⟨fun z => ?_, fun z => ?_⟩
    · rw [if_pos z] at ew
      exact fO_ok (fun _ => h) 30 970 _ _ _ ew
    · rw [if_neg z] at ew
      exact fO_ok (fun _ => h) 30 970 _ _ _ ew
  refine ⟨fun z => ?_, fun z => ?_⟩
  · rw [if_pos z] at e
    cases ew : fW m v 30 1 1 with
    | none => rw [ew] at e; cases e
    | some w => rw [ew] at e; exact fW_ok (main w e) 30 970 1 1 ew
  · rw [if_neg z] at e
    exact main 0 e
theorem oM_ok {σ : XS} {f1 f2 v m a4 : Int32} {a : Int64 × Int64} {post : Int64 → XS → Prop} (e : oM m v = some a) (h : (a4 = 0 → post a.1 σ) ∧ (¬ a4 = 0 → post a.2 σ)) : ((v ≤ m → LX8_odds_76 f1 f2 v a4 m post (fun x19 _ σ21 => (PX8_shareOf x19 ((1 : Int64) <<< (m.toInt64 &&& 63)) a4 σ21 (fun r22 => post r22 σ21))) 1000 (1 : Int64) (0 : Int32) σ) ∧ (¬ v ≤ m → LX8_odds_76 f1 f2 v a4 m post (fun x23 _ σ25 => (PX8_shareOf x23 ((1 : Int64) <<< (m.toInt64 &&& 63)) a4 σ25 (fun r26 => post r26 σ25))) 1000 (0 : Int64) (0 : Int32) σ)) := by
  unfold oM at e
  cases ew : fB v m 30 (if v ≤ m then 1 else 0) 0 with
  | none => rw [ew] at e; cases e
  | some w =>
    rw [ew] at e
    have e' : (match fG 60 w ((1 : Int64) <<< (m.toInt64 &&& 63)) with
      | none => none
      | some g => if g = 0 then none else some (w / g, ((1 : Int64) <<< (m.toInt64 &&& 63)) / g)) = some a := e
    cases eg : fG 60 w ((1 : Int64) <<< (m.toInt64 &&& 63)) with
    | none => rw [eg] at e'; cases e'
    | some g =>
      rw [eg] at e'
      have e2 : (if g = 0 then none else some (w / g, ((1 : Int64) <<< (m.toInt64 &&& 63)) / g)) = some a := e'
      by_cases g0 : g = 0
      · rw [if_pos g0] at e2; cases e2
      · rw [if_neg g0] at e2
        cases e2
        have main : PX8_shareOf w ((1 : Int64) <<< (m.toInt64 &&& 63)) a4 σ (fun r22 => post r22 σ) := by
          unfold PX8_shareOf
          exact fG_ok (fun _ => ⟨fun z => ⟨g0, h.1 z⟩, fun z => ⟨g0, h.2 z⟩⟩) 60 940 _ _ eg
        refine ⟨fun z => ?_, fun z => ?_⟩
        · rw [if_pos z] at ew
          exact fB_ok (fun _ => main) 30 970 _ _ ew
        · rw [if_neg z] at ew
          exact fB_ok (fun _ => main) 30 970 _ _ ew
theorem st23 {σ : XS} (h : Gd σ) : S23 Gd σ := by
  intro a1 a2 a3 a4
  have hw := h.w
  obtain ⟨hA, hB, -⟩ := id hw
  have hq := hB.q
  have hL : (¬ vp_in a1 (vN σ 24 1) ∨ ¬ vp_in a2 40 ∨ ¬ vp_in a3 25 ∨ ¬ vp_in a4 2) → PX8_odds a1 a2 a3 a4 σ (fun r2 σ2 => (-9223372036854775808 : Int64) = r2 ∧ Gd σ2) := by
    intro w3
    unfold PX8_odds PX8_lost
    refine wX8_noPlace hB (fun q1 => ⟨fun _ => wX8_isNight (fun q2 => ⟨fun w => absurd w (by decide), fun _ => ?_⟩) (fun q2 => ⟨fun _ => ⟨rfl, h⟩, fun w => absurd rfl w⟩), fun w => absurd rfl w⟩) (fun q1 => ⟨fun w => absurd w (by decide), fun _ => ⟨rfl, h⟩⟩)
    refine wIn (n := 25) (by decide) (fun q3 => ⟨fun w => absurd w (by decide), fun _ => ?_⟩) (fun q3 => ⟨fun _ => ⟨rfl, h⟩, fun w => absurd rfl w⟩)
    refine wIn (n := 2) (by decide) (fun q4 => ?_) (fun q4 => ⟨fun _ => ⟨rfl, h⟩, fun w => absurd rfl w⟩)
    rcases w3 with w | w | w | w
    · exact absurd q1 w
    · exact absurd q2 w
    · exact absurd q3 w
    · exact absurd q4 w
  unfold PX7_odds
  refine wX7_isPlace hA hB (fun q1 => ⟨fun w => absurd w (by decide), fun _ => ?_⟩) (fun q1 => ⟨fun _ => hL (Or.inl q1), fun w => absurd rfl w⟩)
  refine wX7_isNight (fun q2 => ⟨fun w => absurd w (by decide), fun _ => ⟨fun w => hL (Or.inr (Or.inr (Or.inl (fun q => vin_lo q w)))), fun w0 => ⟨fun w => ?_, fun w1 => ?_⟩⟩⟩) (fun q2 => ⟨fun _ => hL (Or.inr (Or.inl q2)), fun w => absurd rfl w⟩)
  · refine hL (Or.inr (Or.inr (Or.inl (fun q => ?_))))
    obtain ⟨v, hv, rfl⟩ := vp_in_of q (by decide)
    rw [show (24 : Int32) = nI 24 from rfl, nI_ltI (by decide) (by omega)] at w
    omega
  · obtain ⟨v, hv, ev⟩ := nI_of w0
    rw [ev, show (24 : Int32) = nI 24 from rfl, nI_ltI (by decide) (by omega)] at w1
    have q3 : vp_in a3 25 := by rw [ev]; exact pk_in v 25 (by omega)
    refine wX7_isEither (fun q4 => ⟨fun w => absurd w (by decide), fun _ => ?_⟩) (fun q4 => ⟨fun _ => hL (Or.inr (Or.inr (Or.inr q4))), fun w => absurd rfl w⟩)
    obtain ⟨p, hp, ep⟩ := vp_in_of q1 (by omega)
    have hp6 : p < 6 := by omega
    obtain ⟨e, he, ee⟩ := vp_in_of q2 (by decide)
    rw [ee]
    refine h.pl he (fun τ K g hr => ?_)
    rw [ep]
    refine wHeightAt hr hp6 ?_
    obtain ⟨b1, b2⟩ := hr.1 p hp6
    obtain ⟨b3, b4⟩ := hr.2.1 _ b2
    obtain ⟨M, hMe⟩ : ∃ M, M = (play ((MS σ (e + 1)).map (evM σ)) ch0).2.1 ((play ((MS σ (e + 1)).map (evM σ)) ch0).1 p) := ⟨_, rfl⟩
    rw [← hMe] at b4 ⊢
    obtain ⟨a, b, z1, z2, z3, z4⟩ := oK_some (oK_all M (by omega) v (by omega))
    rw [ev]
    have hM : ∀ r : Int64, (a4 = 0 → r = b.1) → (¬ a4 = 0 → r = b.2) → PX8_odds (nI p) (nI e) (nI v) a4 τ (fun r2 σ2 => r = r2 ∧ Gd σ2) := by
      intro r r0 r1
      unfold PX8_odds
      refine wX8_noPlace g.2.1 (fun _ => ⟨fun _ => wX8_isNight (fun _ => ⟨fun w => absurd w (by decide), fun _ => ?_⟩) (fun w => absurd (by rw [← ee]; exact q2) w), fun w => absurd rfl w⟩) (fun w => absurd (by rw [K.v1 rfl, ← ep]; exact q1) w)
      refine wIn (n := 25) (by decide) (fun _ => ⟨fun w => absurd w (by decide), fun _ => ?_⟩) (fun w => absurd (by rw [← ev]; exact q3) w)
      refine wIn (n := 2) (by decide) (fun _ => ⟨fun w => absurd w (by decide), fun _ => ?_⟩) (fun w => absurd q4 w)
      refine h.two g K he (fun τ' K' g' hr' => ?_)
      obtain ⟨d1, d2⟩ := hr'.1 p hp6
      obtain ⟨d3, d4⟩ := hr'.2.1 _ d2
      rw [nI_clamp (by omega), d1, nI_clamp (by omega), d3, ← hMe]
      refine ⟨pk_in p 6 hp6, pk_in _ 6 d2, fun x13 e13 => ?_⟩
      subst e13
      exact oM_ok z2 ⟨fun z => ⟨r0 z, g'⟩, fun z => ⟨r1 z, g'⟩⟩
    exact oC_ok z1 ⟨fun z => hM _ (fun _ => z3) (fun w => absurd z w), fun z => hM _ (fun w => absurd w z) (fun _ => z4)⟩
