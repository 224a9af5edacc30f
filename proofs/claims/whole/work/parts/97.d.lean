def okN (σ : XS) (f : Nat → Int32) (x : Nat) : Prop := vp_in (f (3 * x)) (vN σ 24 2) ∧ vp_in (f (3 * x + 1)) (vN σ 24 1) ∧ vp_in (f (3 * x + 2)) 40
theorem areL {σ : XS} {u i L N : Nat} {post : Int32 → Prop} {kx : Int32 → Prop} (hw : Gw σ) (hL : gI σ u 1 = nI L) (h60 : L ≤ 60) (hN : i + 3 * N ≤ L) (h1 : (∀ x, x < N → okN σ (fun k => gI σ (u + 1) (i + k)) x) → kx (nI N)) (h0 : ∀ x, x < N → ¬ okN σ (fun k => gI σ (u + 1) (i + k)) x → post 0) : ∀ (n m : Nat), m ≤ N → N < m + n → (∀ x, x < m → okN σ (fun k => gI σ (u + 1) (i + k)) x) → LX7_areClaims_3 σ u (nI i) (nI N) post kx n (nI m) := by
  obtain ⟨hA, hB, hC, -⟩ := id hw
  intro n
  induction n with
  | zero => intro m h1 h2; omega
  | succ n ih =>
    intro m h2 h3 ho
    rw [LX7_areClaims_3]
    refine ⟨fun h => ?_, fun h => ?_⟩
    · rw [nI_leI (by omega) (by omega)] at h
      obtain rfl : m = N := by omega
      exact h1 ho
    · rw [nI_leI (by omega) (by omega)] at h
      intro y ey
      rw [nI_mul3, nI_add] at ey
      subst ey
      refine wRead hL h60 rfl (by omega) (wX7_personOf hA hB hC (fun q => ⟨fun _ => h0 m (by omega) (fun w => q w.1), nofun⟩) (fun j b q1 ej hj e1 e2 e3 e4 e5 => ⟨nofun, fun w hw9 => ?_⟩))
      refine wRead hL h60 (nI_1 _) (by omega) (wX7_isPlace hA hB (fun q2 => ⟨fun w => absurd w (by decide), fun _ => ?_⟩) (fun q2 => ⟨fun _ => h0 m (by omega) (fun w => q2 w.2.1), fun w => absurd rfl w⟩))
      refine wRead hL h60 (nI_2 _) (by omega) (wX7_isNight (fun q3 => ⟨fun w => absurd w (by decide), fun _ => ?_⟩) (fun q3 => ⟨fun _ => h0 m (by omega) (fun w => q3 w.2.2), fun w => absurd rfl w⟩))
      intro z ez
      rw [ez, nI_1]
      refine ih (m + 1) (by omega) (by omega) (fun k hk => ?_)
      by_cases e : k = m
      · rw [e]; exact ⟨q1, q2, q3⟩
      · exact ho k (by omega)
def resJ (σ : XS) (f : Nat → Int32) (N : Nat) (r : Int32) : Prop := (∃ x, x < N ∧ r = nI x ∧ ¬ okX σ f x ∧ ∀ y, y < x → okX σ f y) ∨ (r = -9 ∧ ∀ x, x < N → okX σ f x)
theorem judgeL {σ : XS} {u i L N : Nat} {a1 a2 : Int32} {post : Int32 → XS → Prop} {kx : Int32 → XS → Prop} (hw : Gw σ) (hL : gI σ u 1 = nI L) (h60 : L ≤ 60) (hN : i + 3 * N ≤ L) (h1 : (∀ x, x < N → okX σ (fun k => gI σ (u + 1) (i + k)) x) → kx (nI N) σ) (h0 : ∀ x, x < N → ¬ okX σ (fun k => gI σ (u + 1) (i + k)) x → (∀ y, y < x → okX σ (fun k => gI σ (u + 1) (i + k)) y) → post (nI x) σ) : ∀ (n m : Nat), m ≤ N → N < m + n → (∀ x, x < m → okX σ (fun k => gI σ (u + 1) (i + k)) x) → LX7_judge_108 a1 a2 (nI i) (nI N) u post kx n (nI m) σ := by
  intro n
  induction n with
  | zero => intro m h1 h2; omega
  | succ n ih =>
    intro m h2 h3 ho
    rw [LX7_judge_108]
    refine ⟨fun h => ?_, fun h => ?_⟩
    · rw [nI_leI (by omega) (by omega)] at h
      obtain rfl : m = N := by omega
      exact h1 ho
    · rw [nI_leI (by omega) (by omega)] at h
      refine wMayBe hw hL h60 (by omega) (fun q => ⟨fun w => absurd w (by decide), fun _ y ey => ?_⟩) (fun q => ⟨fun _ => h0 m (by omega) q ho, fun w => absurd rfl w⟩)
      rw [ey, nI_1]
      refine ih (m + 1) (by omega) (by omega) (fun k hk => ?_)
      by_cases e : k = m
      · rw [e]; exact q
      · exact ho k (by omega)
/-! the reference's side -/
theorem jcS {σ : XS} {f1 f2 f3 p a t : Int32} {post : Int32 → Prop} {kx : Int32 → Int32 → Prop} (hB : GB σ) (h1 : okS σ p a t (vN σ 24 10) → kx 1 (nI (vN σ 24 10))) (h0 : ¬ okS σ p a t (vN σ 24 10) → kx 0 (nI (vN σ 24 10))) : ∀ (n m : Nat) (c : Int32), m ≤ vN σ 24 10 → vN σ 24 10 < m + n → ((c = 1 ∧ okS σ p a t m) ∨ (c = 0 ∧ ¬ okS σ p a t (vN σ 24 10))) → LX8_judgeClaims_53 σ f1 f2 f3 p a t post kx n c (nI m) := by
  have hp := hB.s
  intro n
  induction n with
  | zero => intro m c h1 h2; omega
  | succ n ih =>
    intro m c h2 h3 ho
    rw [LX8_judgeClaims_53, hp.1]
    refine ⟨fun h => ?_, fun h => ?_⟩
    · rw [nI_leI (by omega) (by omega)] at h
      obtain e : m = vN σ 24 10 := by omega
      rcases ho with ⟨rfl, ho⟩ | ⟨rfl, ho⟩
      · rw [e] at ho ⊢; exact h1 ho
      · rw [e]; exact h0 ho
    · rw [nI_leI (by omega) (by omega)] at h
      have hv : vp_in (nI m) 25 := vp_in_nI (by omega) (by decide)
      refine ⟨fun hc y ey => ?_, fun hc => ⟨hv, hv, hv, ?_⟩⟩
      · rcases ho with ⟨rfl, ho⟩ | ⟨rfl, ho⟩
        · exact absurd hc (by decide)
        · rw [ey, nI_1]; exact ih (m + 1) 0 (by omega) (by omega) (Or.inr ⟨rfl, ho⟩)
      · rcases ho with ⟨rfl, ho⟩ | ⟨rfl, ho⟩
        · rw [nI_clamp (by omega)]
          refine wX8_canBoth (fun hb => ⟨fun w => absurd w (by decide), fun _ y ey => ?_⟩) (fun hb => ⟨fun _ y ey => ?_, fun w => absurd rfl w⟩)
          · rw [ey, nI_1]
            refine ih (m + 1) 1 (by omega) (by omega) (Or.inl ⟨rfl, fun k hk => ?_⟩)
            by_cases e : k = m
            · rw [e]; exact hb
            · exact ho k (by omega)
          · rw [ey, nI_1]
            exact ih (m + 1) 0 (by omega) (by omega) (Or.inr ⟨rfl, fun w => hb (w m (by omega))⟩)
        · exact absurd rfl hc
theorem jcC {σ : XS} {b x : Nat} {f : Nat → Int32} {f2 p a t : Int32} {post : Int32 → Prop} {kx : Int32 → Int32 → Prop} (hf : ∀ k, k < 3 * x → gI σ 48 (b + k) = f k) (hb4 : b + 3 * x ≤ 240) {Y Z : Prop} (h1 : Y → okC f p a t x → kx 1 (nI x)) (hz : ¬ okC f p a t x → Z) (h0 : Z → kx 0 (nI x)) : ∀ (n m : Nat) (c : Int32), m ≤ x → x < m + n → ((c = 1 ∧ Y ∧ okC f p a t m) ∨ (c = 0 ∧ Z)) → LX8_judgeClaims_116 σ (nI b) f2 (nI x) p a t post kx n c (nI m) := by
  intro n
  induction n with
  | zero => intro m c h1 h2; omega
  | succ n ih =>
    intro m c h2 h3 ho
    rw [LX8_judgeClaims_116]
    refine ⟨fun h => ?_, fun h => ?_⟩
    · rw [nI_leI (by omega) (by omega)] at h
      obtain rfl : m = x := by omega
      rcases ho with ⟨rfl, hy, ho⟩ | ⟨rfl, ho⟩
      · exact h1 hy ho
      · exact h0 ho
    · rw [nI_leI (by omega) (by omega)] at h
      rw [nI_mul3, nI_add, nI_1 (b + 3 * m), nI_2 (b + 3 * m)]
      refine ⟨fun hc y ey => ?_, fun hc => ⟨vp_in_nI (by omega) (by decide), vp_in_nI (by omega) (by decide), vp_in_nI (by omega) (by decide), ?_⟩⟩
      · rcases ho with ⟨rfl, hy, ho⟩ | ⟨rfl, ho⟩
        · exact absurd hc (by decide)
        · rw [ey, nI_1]; exact ih (m + 1) 0 (by omega) (by omega) (Or.inr ⟨rfl, ho⟩)
      · rcases ho with ⟨rfl, hy, ho⟩ | ⟨rfl, ho⟩
        · rw [nI_clamp (by omega), nI_clamp (by omega), nI_clamp (by omega), hf (3 * m) (by omega), Nat.add_assoc, hf (3 * m + 1) (by omega), Nat.add_assoc, hf (3 * m + 2) (by omega)]
          refine wX8_canBoth (fun hb => ⟨fun w => absurd w (by decide), fun _ y ey => ?_⟩) (fun hb => ⟨fun _ y ey => ?_, fun w => absurd rfl w⟩)
          · rw [ey, nI_1]
            refine ih (m + 1) 1 (by omega) (by omega) (Or.inl ⟨rfl, hy, fun k hk => ?_⟩)
            by_cases e : k = m
            · rw [e]; exact hb
            · exact ho k (by omega)
          · rw [ey, nI_1]
            exact ih (m + 1) 0 (by omega) (by omega) (Or.inr ⟨rfl, hz (fun w => hb (w m (by omega)))⟩)
        · exact absurd rfl hc
theorem jcO {σ : XS} {b N : Nat} {f : Nat → Int32} {post : Int32 → Prop} {kx : Int32 → Prop} (hB : GB σ) (hf : ∀ k, k < 3 * N → gI σ 48 (b + k) = f k) (hb4 : b + 3 * N ≤ 240) (hN : N ≤ 20) (h1 : (∀ x, x < N → okX σ f x) → kx (nI N)) (h0 : ∀ x, x < N → ¬ okX σ f x → (∀ y, y < x → okX σ f y) → post (nI x)) : ∀ (n m : Nat), m ≤ N → N < m + n → (∀ x, x < m → okX σ f x) → LX8_judgeClaims_2 σ (nI b) (nI N) post kx n (nI m) := by
  have hs := hB.s
  intro n
  induction n with
  | zero => intro m h1 h2; omega
  | succ n ih =>
    intro m h2 h3 ho
    rw [LX8_judgeClaims_2]
    refine ⟨fun h => ?_, fun h => ?_⟩
    · rw [nI_leI (by omega) (by omega)] at h
      obtain rfl : m = N := by omega
      exact h1 ho
    · rw [nI_leI (by omega) (by omega)] at h
      rw [nI_mul3, nI_add, nI_1 (b + 3 * m), nI_2 (b + 3 * m), nI_clamp (by omega), nI_clamp (by omega), nI_clamp (by omega), hf (3 * m) (by omega), Nat.add_assoc, hf (3 * m + 1) (by omega), Nat.add_assoc, hf (3 * m + 2) (by omega)]
      refine ⟨vp_in_nI (by omega) (by decide), fun y1 e1 => ⟨vp_in_nI (by omega) (by decide), fun y2 e2 => ⟨vp_in_nI (by omega) (by decide), fun y3 e3 => ?_⟩⟩⟩
      subst e1; subst e2; subst e3
      have F : ∀ c : Int32, ((c = 1 ∧ okS σ (f (3 * m)) (f (3 * m + 1)) (f (3 * m + 2)) (vN σ 24 10)) ∨ (c = 0 ∧ ¬ okX σ f m)) → LX8_judgeClaims_116 σ (nI b) (nI N) (nI m) (f (3 * m)) (f (3 * m + 1)) (f (3 * m + 2)) post (fun x21 x22 => ((x21 = 0 → post (nI m)) ∧ (¬ x21 = 0 → (∀ x24 : Int32, x24 = nI m + 1 → LX8_judgeClaims_2 σ (nI b) (nI N) post kx n x24)))) 1000 c (0 : Int32) := by
        intro c hc
        refine jcC (m := 0) (x := m) (Y := okS σ (f (3 * m)) (f (3 * m + 1)) (f (3 * m + 2)) (vN σ 24 10)) (Z := ¬ okX σ f m) (fun k hk => hf k (by omega)) (by omega) (fun hS q => ⟨fun w => absurd w (by decide), fun _ y ey => ?_⟩) (fun q w => q w.2) (fun q => ⟨fun _ => h0 m (by omega) q ho, fun w => absurd rfl w⟩) 1000 c (by omega) (by omega) (hc.imp (fun w => ⟨w.1, w.2, fun k hk => by omega⟩) id)
        rw [ey, nI_1]
        refine ih (m + 1) (by omega) (by omega) (fun k hk => ?_)
        by_cases e : k = m
        · rw [e]; exact ⟨hS, q⟩
        · exact ho k (by omega)
      exact jcS (m := 0) hB (fun q => F 1 (Or.inl ⟨rfl, q⟩)) (fun q => F 0 (Or.inr ⟨rfl, fun w => q w.1⟩)) 1000 1 (by omega) (by omega) (Or.inl ⟨rfl, fun k hk => by omega⟩)
theorem arM {σ : XS} {b N : Nat} {f : Nat → Int32} {f1 f2 f3 f5 : Int32} {post : Int32 → XS → Prop} {kx : Int32 → XS → Prop} (hB : GB σ) (hf : ∀ k, k < 3 * N → gI σ 48 (b + k) = f k) (hb4 : b + 3 * N ≤ 240) (h1 : (∀ x, x < N → okN σ f x) → kx (nI N) σ) (h0 : ∀ x, x < N → ¬ okN σ f x → PX8_refused (-2) σ post) : ∀ (n m : Nat), m ≤ N → N < m + n → (∀ x, x < m → okN σ f x) → LX8_judge_94 f1 f2 f3 (nI N) f5 (nI b) post kx n (nI m) σ := by
  intro n
  induction n with
  | zero => intro m h1 h2; omega
  | succ n ih =>
    intro m h2 h3 ho
    rw [LX8_judge_94]
    refine ⟨fun h => ?_, fun h => ?_⟩
    · rw [nI_leI (by omega) (by omega)] at h
      obtain rfl : m = N := by omega
      exact h1 ho
    · rw [nI_leI (by omega) (by omega)] at h
      rw [nI_mul3, nI_add, nI_1 (b + 3 * m), nI_2 (b + 3 * m), nI_clamp (by omega), nI_clamp (by omega), nI_clamp (by omega), hf (3 * m) (by omega), Nat.add_assoc, hf (3 * m + 1) (by omega), Nat.add_assoc, hf (3 * m + 2) (by omega)]
      refine ⟨vp_in_nI (by omega) (by decide), wX8_noPerson hB (fun q1 => ⟨fun _ => ⟨vp_in_nI (by omega) (by decide), wX8_noPlace hB (fun q2 => ⟨fun _ => ⟨vp_in_nI (by omega) (by decide), wX8_isNight (fun q3 => ⟨fun w => absurd w (by decide), fun _ y ey => ?_⟩) (fun q3 => ⟨fun _ => h0 m (by omega) (fun w => q3 w.2.2), fun w => absurd rfl w⟩)⟩, fun w => absurd rfl w⟩) (fun q2 => ⟨fun w => absurd w (by decide), fun _ => h0 m (by omega) (fun w => q2 w.2.1)⟩)⟩, fun w => absurd rfl w⟩) (fun q1 => ⟨fun w => absurd w (by decide), fun _ => h0 m (by omega) (fun w => q1 w.1)⟩)⟩
      rw [ey, nI_1]
      refine ih (m + 1) (by omega) (by omega) (fun k hk => ?_)
      by_cases e : k = m
      · rw [e]; exact ⟨q1, q2, q3⟩
      · exact ho k (by omega)
theorem cmp_ge (x y : Int64) : 0 ≤ lg_cmp x y ↔ y ≤ x := by
  have h := cmp_lt x y
  rw [Int64.lt_iff_toInt_lt, Int32.lt_iff_toInt_lt] at h
  rw [Int64.le_iff_toInt_le, Int32.le_iff_toInt_le]
  omega
theorem wBarred0 {σ : XS} {a1 a2 a3 : Int32} {a4 : Int64} {i : Nat} {post : Int32 → XS → Prop} (q : vp_in a1 4) (ea : a1.toNatClampNeg = i) (hz : gI σ 46 i = -1) (h : PX8_failed 1 σ post) : PX8_cellsBarred a1 a2 a3 a4 σ post := by
  unfold PX8_cellsBarred
  rw [ea, hz]
  exact ⟨q, fun _ => ⟨q, fun w => absurd w (by decide), fun _ => h⟩, fun w => absurd (by decide) w⟩
theorem wBarred {σ : XS} {a1 a2 a3 n : Int32} {i L : Nat} {post : Int32 → XS → Prop} (q : vp_in a1 4) (ea : a1.toNatClampNeg = i) (hz : gI σ 46 i = nI L) (h60 : L ≤ 60) (h2 : ¬ gI σ 47 i = a2 → PX8_failed 2 σ post) (h4 : gI σ 47 i = a2 → ¬ 0 ≤ n → PX8_failed 4 σ post) (h1 : ∀ i' m : Nat, gI σ 47 i = a2 → a3 = nI i' → n = nI m → i' + m ≤ L → post 0 σ) (h0 : gI σ 47 i = a2 → 0 ≤ n → (∀ i' m : Nat, a3 = nI i' → n = nI m → ¬ i' + m ≤ L) → PX8_failed 3 σ post) : PX8_cellsBarred a1 a2 a3 n.toInt64 σ post := by
  unfold PX8_cellsBarred
  rw [ea, hz]
  have hn : 0 ≤ lg_cmp n.toInt64 0 ↔ 0 ≤ n := by
    rw [cmp_ge, Int64.le_iff_toInt_le, Int32.le_iff_toInt_le]
    simp
  rw [hn]
  refine ⟨q, fun w => absurd w (nI_pos (by omega)), fun _ => ⟨q, fun el => ⟨q, fun _ => ⟨fun z => ⟨q, ?_⟩, fun z => h4 el z⟩, fun w => absurd (nI_pos' (by omega)) w⟩, fun el => h2 el⟩⟩
  exact wBeyond h60 (fun i' m e1 e2 e3 => ⟨fun _ => h1 i' m el e1 e2 e3, fun w => absurd rfl w⟩) (fun e => ⟨fun w => absurd w (by decide), fun _ => h0 el z e⟩)
theorem wFaultAs {σ : XS} {u : Nat} {a : Int32} {post : Int32 → Prop} (h1 : gI σ u 2 = -1 → post 1) (h2 : ¬ gI σ u 2 = -1 → ¬ gI σ u 2 = a → post 2) (h0 : ¬ gI σ u 2 = -1 → gI σ u 2 = a → post 0) : PX3_faultAs u a σ post := by
  unfold PX3_faultAs PX3_isNothing
  exact ⟨fun z => ⟨fun w => absurd w (by decide), fun _ => h1 z⟩, fun z => ⟨fun _ => ⟨fun e => h0 z e, fun e => h2 z e⟩, fun w => absurd rfl w⟩⟩
theorem mul3L : ∀ n, n < 21 → (3 : Int64) * (nI n).toInt64 = (nI (3 * n)).toInt64 := by decide +kernel
