/-! ===== judge ===== -/
def bo (q b t p a n : Int32) : Prop := t = n → (q = p ↔ b = a)
theorem wX8_canBoth {σ : XS} {p a n q b t : Int32} {post : Int32 → Prop} (h1 : bo q b t p a n → post 1) (h0 : ¬ bo q b t p a n → post 0) : PX8_canBoth p a n q b t σ post := by
  unfold PX8_canBoth
  refine ⟨fun e1 => ⟨fun e2 => ⟨fun e3 => ⟨fun _ => h1 (fun _ => ⟨fun _ => e3.symm, fun _ => e2.symm⟩), fun w => absurd rfl w⟩, fun e3 => ⟨fun w => absurd w (by decide), fun _ => h0 (fun w => e3 ((w e1.symm).mp e2.symm).symm)⟩⟩, fun e2 => ⟨fun e3 => ⟨fun w => absurd w (by decide), fun _ => h0 (fun w => e2 ((w e1.symm).mpr e3.symm).symm)⟩, fun e3 => ⟨fun _ => h1 (fun _ => ⟨fun w => absurd w.symm e2, fun w => absurd w.symm e3⟩), fun w => absurd rfl w⟩⟩⟩, fun e1 => h1 (fun w => absurd w.symm e1)⟩
theorem wRead {σ : XS} {u : Nat} {L j : Nat} {a : Int32} {post : Int32 → Prop} (hL : gI σ u 1 = nI L) (h60 : L ≤ 60) (ea : a = nI j) (hj : j < L) (h : post (gI σ (u + 1) j)) : PX3_read u a σ post := by
  unfold PX3_read
  subst ea
  refine wReach1 hL h60 (fun q => ⟨fun w => absurd w (by decide), fun _ => ⟨vin_mono q h60, ?_⟩⟩) (fun q => absurd (vp_in_nI hj (by omega)) q)
  rw [nI_clamp (by omega)]
  exact h
def okS (σ : XS) (p a n : Int32) (m : Nat) : Prop := ∀ k, k < m → bo (gI σ 29 k) (gI σ 30 k) (gI σ 31 k) p a n
def okC (f : Nat → Int32) (p a n : Int32) (m : Nat) : Prop := ∀ k, k < m → bo (f (3 * k)) (f (3 * k + 1)) (f (3 * k + 2)) p a n
theorem claimL {σ : XS} {u : Nat} {f2 f3 f4 p a t : Int32} {post : Int32 → Prop} {kx : Int32 → Prop} (hw : Gw σ) (h1 : okS σ p a t (vN σ 24 10) → kx (nI (vN σ 24 10))) (h0 : ¬ okS σ p a t (vN σ 24 10) → post 0) : ∀ (n m : Nat), m ≤ vN σ 24 10 → vN σ 24 10 < m + n → okS σ p a t m → LX7_claimMayBe_38 σ u f2 f3 f4 p a t post kx n (nI m) := by
  have hp := hw.2.1.s
  have hc := hw.cs
  intro n
  induction n with
  | zero => intro m h1 h2; omega
  | succ n ih =>
    intro m h2 h3 ho
    rw [LX7_claimMayBe_38]
    refine wX5_count (k := 2) (by decide) ?_
    rw [hc]
    refine ⟨fun h => ?_, fun h => ?_⟩
    · rw [nI_leI (by omega) (by omega)] at h
      obtain e : m = vN σ 24 10 := by omega
      rw [e] at ho ⊢; exact h1 ho
    · rw [nI_leI (by omega) (by omega)] at h
      have hD := hw.2.2.2.1 m (by omega)
      have go : bo (gI σ 29 m) (gI σ 30 m) (gI σ 31 m) p a t → ∀ y : Int32, y = nI m + 1 → LX7_claimMayBe_38 σ u f2 f3 f4 p a t post kx n y := by
        intro hb y ey
        rw [ey, nI_1]
        refine ih (m + 1) (by omega) (by omega) (fun k hk => ?_)
        by_cases e : k = m
        · rw [e]; exact hb
        · exact ho k (by omega)
      have no : ¬ bo (gI σ 29 m) (gI σ 30 m) (gI σ 31 m) p a t → post 0 := fun hb => h0 (fun w => hb (w m (by omega)))
      refine wX5_person hc (by omega) (by omega) ?_
      rw [hD.2.2.2.2.2.1]
      refine ⟨fun e1 => wX5_place hc (by omega) (by omega) ?_, fun e1 => wX5_place hc (by omega) (by omega) ?_⟩ <;> rw [hD.2.2.2.2.1]
      · refine ⟨fun e2 => wX5_night hc (by omega) (by omega) ?_, fun e2 => wX5_night hc (by omega) (by omega) ?_⟩ <;> rw [hD.2.2.2.1]
        · exact ⟨fun e3 => ⟨fun _ => go (fun _ => ⟨fun _ => e2, fun _ => e1⟩), fun w => absurd rfl w⟩, fun e3 => go (fun w => absurd w e3)⟩
        · exact ⟨fun e3 => ⟨fun w => absurd w (by decide), fun _ => no (fun w => e2 ((w e3).mp e1))⟩, fun e3 => go (fun w => absurd w e3)⟩
      · refine ⟨fun e2 => wX5_night hc (by omega) (by omega) ?_, fun e2 => wX5_night hc (by omega) (by omega) ?_⟩ <;> rw [hD.2.2.2.1]
        · exact ⟨fun e3 => ⟨fun w => absurd w (by decide), fun _ => no (fun w => e1 ((w e3).mpr e2))⟩, fun e3 => go (fun w => absurd w e3)⟩
        · exact ⟨fun e3 => ⟨fun _ => go (fun _ => ⟨fun w => absurd w e1, fun w => absurd w e2⟩), fun w => absurd rfl w⟩, fun e3 => go (fun w => absurd w e3)⟩
theorem nI_3 (n : Nat) : nI n + 3 = nI (n + 3) := by rw [show (3 : Int32) = nI 3 from rfl, nI_add]
theorem nI_2 (n : Nat) : nI n + 2 = nI (n + 2) := by rw [show (2 : Int32) = nI 2 from rfl, nI_add]
theorem claimL2 {σ : XS} {u i L x : Nat} {f3 p a t : Int32} {post : Int32 → Prop} {kx : Int32 → Prop} (hL : gI σ u 1 = nI L) (h60 : L ≤ 60) (hx : i + 3 * x ≤ L) (h1 : okC (fun k => gI σ (u + 1) (i + k)) p a t x → kx (nI (i + 3 * x))) (h0 : ¬ okC (fun k => gI σ (u + 1) (i + k)) p a t x → post 0) : ∀ (n m : Nat), m ≤ x → x < m + n → okC (fun k => gI σ (u + 1) (i + k)) p a t m → LX7_claimMayBe_125 σ u (nI i) f3 (nI (i + 3 * x)) p a t post kx n (nI (i + 3 * m)) := by
  intro n
  induction n with
  | zero => intro m h1 h2; omega
  | succ n ih =>
    intro m h2 h3 ho
    rw [LX7_claimMayBe_125]
    refine ⟨fun h => ?_, fun h => ?_⟩
    · rw [nI_leI (by omega) (by omega)] at h
      obtain rfl : m = x := by omega
      exact h1 ho
    · rw [nI_leI (by omega) (by omega)] at h
      have go : bo (gI σ (u + 1) (i + 3 * m)) (gI σ (u + 1) (i + (3 * m + 1))) (gI σ (u + 1) (i + (3 * m + 2))) p a t → ∀ y : Int32, y = nI (i + 3 * m) + 3 → LX7_claimMayBe_125 σ u (nI i) f3 (nI (i + 3 * x)) p a t post kx n y := by
        intro hb y ey
        rw [ey, nI_3, show i + 3 * m + 3 = i + 3 * (m + 1) by omega]
        refine ih (m + 1) (by omega) (by omega) (fun k hk => ?_)
        by_cases e : k = m
        · rw [e]; exact hb
        · exact ho k (by omega)
      have no : ¬ bo (gI σ (u + 1) (i + 3 * m)) (gI σ (u + 1) (i + (3 * m + 1))) (gI σ (u + 1) (i + (3 * m + 2))) p a t → post 0 := fun hb => h0 (fun w => hb (w m (by omega)))
      have rd0 : ∀ {P : Int32 → Prop}, P (gI σ (u + 1) (i + 3 * m)) → PX3_read u (nI (i + 3 * m)) σ P := fun hP => wRead hL h60 rfl (by omega) hP
      have rd1 : ∀ {P : Int32 → Prop}, P (gI σ (u + 1) (i + (3 * m + 1))) → PX3_read u (nI (i + 3 * m) + 1) σ P := fun hP => wRead hL h60 (nI_1 _) (by omega) hP
      have rd2 : ∀ {P : Int32 → Prop}, P (gI σ (u + 1) (i + (3 * m + 2))) → PX3_read u (nI (i + 3 * m) + 2) σ P := fun hP => wRead hL h60 (nI_2 _) (by omega) hP
      refine rd0 ⟨fun e1 => rd1 ?_, fun e1 => rd1 ?_⟩
      · refine ⟨fun e2 => rd2 ?_, fun e2 => rd2 ?_⟩
        · exact ⟨fun e3 => ⟨fun _ => go (fun _ => ⟨fun _ => e2, fun _ => e1⟩), fun w => absurd rfl w⟩, fun e3 => go (fun w => absurd w e3)⟩
        · exact ⟨fun e3 => ⟨fun w => absurd w (by decide), fun _ => no (fun w => e2 ((w e3).mp e1))⟩, fun e3 => go (fun w => absurd w e3)⟩
      · refine ⟨fun e2 => rd2 ?_, fun e2 => rd2 ?_⟩
        · exact ⟨fun e3 => ⟨fun w => absurd w (by decide), fun _ => no (fun w => e1 ((w e3).mpr e2))⟩, fun e3 => go (fun w => absurd w e3)⟩
        · exact ⟨fun e3 => ⟨fun _ => go (fun _ => ⟨fun w => absurd w e1, fun w => absurd w e2⟩), fun w => absurd rfl w⟩, fun e3 => go (fun w => absurd w e3)⟩
/-- one claim stands with the sittings and those ahead of it -/
def okX (σ : XS) (f : Nat → Int32) (x : Nat) : Prop := okS σ (f (3 * x)) (f (3 * x + 1)) (f (3 * x + 2)) (vN σ 24 10) ∧ okC f (f (3 * x)) (f (3 * x + 1)) (f (3 * x + 2)) x
theorem nI_mul3 (n : Nat) : (3 : Int32) * nI n = nI (3 * n) := by rw [show (3 : Int32) = nI 3 from rfl, pk_mul]
theorem wMayBe {σ : XS} {u i L x : Nat} {post : Int32 → Prop} (hw : Gw σ) (hL : gI σ u 1 = nI L) (h60 : L ≤ 60) (hx : i + 3 * x + 3 ≤ L) (h1 : okX σ (fun k => gI σ (u + 1) (i + k)) x → post 1) (h0 : ¬ okX σ (fun k => gI σ (u + 1) (i + k)) x → post 0) : PX7_claimMayBe u (nI i) (nI x) σ post := by
  unfold PX7_claimMayBe
  intro y ey
  rw [nI_mul3, nI_add] at ey
  subst ey
  refine wRead hL h60 rfl (by omega) (wRead hL h60 (nI_1 _) (by omega) (wRead hL h60 (nI_2 _) (by omega) ?_))
  have hs := hw.2.1.s
  refine claimL (m := 0) hw (fun q1 => ?_) (fun q => h0 (fun w => q w.1)) 1000 (by omega) (by omega) (fun k hk => by omega)
  have := claimL2 (σ := σ) (u := u) (i := i) (x := x) (f3 := nI x) (p := gI σ (u + 1) (i + 3 * x)) (a := gI σ (u + 1) (i + 3 * x + 1)) (t := gI σ (u + 1) (i + 3 * x + 2)) (post := post) (kx := fun _ => post 1) hL h60 (by omega) (fun q2 => h1 ⟨q1, q2⟩) (fun q => h0 (fun w => q w.2)) 1000 0 (by omega) (by omega) (fun k hk => by omega)
  exact this
