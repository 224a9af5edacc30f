theorem prs_none {f : Nat → Ev} : ∀ (L : List Nat), (∀ s, s ∈ L → (f s).1 ≠ 2) → prs (L.map f) = 0 := by
  intro L
  induction L with
  | nil => intro _; rfl
  | cons a L ih =>
    intro h
    show prs ([f a] ++ L.map f) = 0
    rw [prs_app, prs_one, if_neg (h a (List.mem_cons_self ..)), ih (fun s hs => h s (List.mem_cons_of_mem _ hs))]
theorem prs_all {f : Nat → Ev} : ∀ (L : List Nat), (∀ s, s ∈ L → (f s).1 = 2) → prs (L.map f) = L.length := by
  intro L
  induction L with
  | nil => intro _; rfl
  | cons a L ih =>
    intro h
    show prs ([f a] ++ L.map f) = L.length + 1
    rw [prs_app, prs_one, if_pos (h a (List.mem_cons_self ..)), ih (fun s hs => h s (List.mem_cons_of_mem _ hs))]
    omega
theorem cnt_split {p q r : Nat → Bool} (hd : ∀ x, p x = true → q x = true → False) (hr : ∀ x, r x = (p x || q x)) : ∀ l : List Nat, (l.filter p).length + (l.filter q).length = (l.filter r).length := by
  intro l
  induction l with
  | nil => rfl
  | cons a l ih =>
    rw [List.filter_cons, List.filter_cons, List.filter_cons, hr]
    have := hd a
    cases hp : p a <;> cases hq : q a
    · simpa using ih
    · simp; omega
    · simp; omega
    · exact absurd (this hp hq) id
theorem evM_a {τ : XS} {s : Nat} (h : s < 7) : (evM τ s).1 = 0 := by unfold evM; rw [if_pos h]
theorem evM_b {τ : XS} {s : Nat} (h : 7 ≤ s) (h2 : s < 14) : (evM τ s).1 = 1 := by unfold evM; rw [if_neg (by omega), if_pos h2]
theorem evM_s {τ : XS} {s : Nat} (h : 14 ≤ s) : (evM τ s).1 = 2 := by unfold evM; rw [if_neg (by omega), if_neg (by omega)]
theorem aS_mem {τ : XS} {n s : Nat} : s ∈ aS τ n ↔ s < vN τ 24 18 ∧ vN τ 36 s = n := by
  unfold aS
  rw [rf_mem, beq_iff_eq]
theorem xS_mem {τ : XS} {n s : Nat} : s ∈ xS τ n ↔ gI τ 24 25 = nI n ∧ s = vN τ 24 18 := by
  unfold xS
  by_cases h : gI τ 24 25 = nI n
  · rw [if_pos h, List.mem_singleton]; exact ⟨fun w => ⟨h, w⟩, fun w => w.2⟩
  · rw [if_neg h]; exact ⟨fun w => absurd w (List.not_mem_nil), fun w => absurd w.1 h⟩
theorem bS_mem {τ : XS} {n s : Nat} : s ∈ bS' τ n ↔ 7 ≤ s ∧ s < 7 + vN τ 24 14 ∧ vN τ 34 (s - 7) = n := by
  unfold bS'
  rw [List.mem_map]
  constructor
  · rintro ⟨k, hk, rfl⟩
    rw [rf_mem, beq_iff_eq] at hk
    rw [show 7 + k - 7 = k by omega]
    exact ⟨by omega, by omega, hk.2⟩
  · rintro ⟨h1, h2, h3⟩
    refine ⟨s - 7, ?_, by omega⟩
    rw [rf_mem, beq_iff_eq]
    exact ⟨by omega, h3⟩
theorem yS_mem {τ : XS} {n s : Nat} : s ∈ yS τ n ↔ gI τ 24 22 = nI n ∧ s = 7 + vN τ 24 14 := by
  unfold yS
  by_cases h : gI τ 24 22 = nI n
  · rw [if_pos h, List.mem_singleton]; exact ⟨fun w => ⟨h, w⟩, fun w => w.2⟩
  · rw [if_neg h]; exact ⟨fun w => absurd w (List.not_mem_nil), fun w => absurd w.1 h⟩
theorem ne_iff {a b : Nat} : ne a b = true ↔ b ≠ a := by
  unfold ne
  simp
theorem sS_mem {τ : XS} {n s : Nat} : s ∈ sS τ n ↔ 14 ≤ s ∧ s < 14 + vN τ 24 10 ∧ vN τ 31 (s - 14) = n ∧ s - 14 ≠ wo τ := by
  unfold sS
  rw [List.mem_map]
  constructor
  · rintro ⟨k, hk, rfl⟩
    rw [rf_mem, Bool.and_eq_true, beq_iff_eq, ne_iff] at hk
    rw [show 14 + k - 14 = k by omega]
    exact ⟨by omega, by omega, hk.2.1, hk.2.2⟩
  · rintro ⟨h1, h2, h3, h4⟩
    refine ⟨s - 14, ?_, by omega⟩
    rw [rf_mem, Bool.and_eq_true, beq_iff_eq, ne_iff]
    exact ⟨by omega, h3, h4⟩
section CP
variable {τ : XS}
theorem prsA (hM : Md τ) (n : Nat) : prs ((aS τ n).map (evM τ)) = 0 := by
  refine prs_none _ (fun s hs => ?_)
  have := (aS_mem.mp hs).1
  have := hM.1.2
  rw [evM_a (by omega)]; decide
theorem prsX (hM : Md τ) (n : Nat) : prs ((xS τ n).map (evM τ)) = 0 := by
  refine prs_none _ (fun s hs => ?_)
  have := (xS_mem.mp hs).2
  have := hM.1.2
  rw [evM_a (by omega)]; decide
theorem prsB (hM : Md τ) (n : Nat) : prs ((bS' τ n).map (evM τ)) = 0 := by
  refine prs_none _ (fun s hs => ?_)
  have := bS_mem.mp hs
  have := hM.2.1.2
  rw [evM_b (by omega) (by omega)]; decide
theorem prsY (hM : Md τ) (n : Nat) : prs ((yS τ n).map (evM τ)) = 0 := by
  refine prs_none _ (fun s hs => ?_)
  have := (yS_mem.mp hs).2
  have := hM.2.1.2
  rw [evM_b (by omega) (by omega)]; decide
theorem prsS (n : Nat) : prs ((sS τ n).map (evM τ)) = (rf (fun k => vN τ 31 k == n && ne (wo τ) k) (vN τ 24 10)).length := by
  rw [prs_all _ (fun s hs => ?_)]
  · unfold sS; rw [List.length_map]
  · have := sS_mem.mp hs
    exact evM_s (by omega)
theorem prsN (hM : Md τ) (n : Nat) : prs ((nS τ n).map (evM τ)) = (rf (fun k => vN τ 31 k == n && ne (wo τ) k) (vN τ 24 10)).length := by
  unfold nS
  rw [List.map_append, List.map_append, List.map_append, List.map_append, prs_app, prs_app, prs_app, prs_app, prsA hM, prsX hM, prsB hM, prsY hM, prsS]
  omega
theorem prsM (hM : Md τ) : ∀ N, prs ((MS τ N).map (evM τ)) = (rf (fun k => decide (vN τ 31 k < N) && ne (wo τ) k) (vN τ 24 10)).length := by
  intro N
  induction N with
  | zero =>
    show 0 = _
    have : rf (fun k => decide (vN τ 31 k < 0) && ne (wo τ) k) (vN τ 24 10) = [] := by
      unfold rf
      rw [List.filter_eq_nil_iff]
      intro a _
      simp
    rw [this]; rfl
  | succ N ih =>
    show prs ((MS τ N ++ nS τ N).map (evM τ)) = _
    rw [List.map_append, prs_app, ih, prsN hM]
    unfold rf
    refine cnt_split (fun x h1 h2 => ?_) (fun x => ?_) _
    · simp at h1 h2
      omega
    · have : decide (vN τ 31 x < N + 1) = (decide (vN τ 31 x < N) || (vN τ 31 x == N)) := by
        by_cases a : vN τ 31 x < N
        · simp [a]; omega
        · by_cases b : vN τ 31 x = N
          · simp [b]
          · have d : ¬ vN τ 31 x < N + 1 := by omega
            simp [a, b, d]
      rw [this, Bool.and_or_distrib_right]
theorem prs25 (hM : Md τ) (N : Nat) : prs ((MS τ N).map (evM τ)) ≤ 25 := by
  rw [prsM hM]
  have h1 := List.length_filter_le (fun k => decide (vN τ 31 k < N) && ne (wo τ) k) (List.range (vN τ 24 10))
  rw [List.length_range] at h1
  have := hM.2.2.1.2
  unfold rf
  omega
end CP
/-! wipes of one night in any order -/
theorem efW_comm (p q : Nat) (c : Ch) : efW p (efW q c) = efW q (efW p c) := by
  unfold efW
  have : up1 (up1 c.2.1 (c.1 q) 0) (c.1 p) 0 = up1 (up1 c.2.1 (c.1 p) 0) (c.1 q) 0 := by
    funext j
    unfold up1
    by_cases a : j = c.1 p <;> by_cases b : j = c.1 q <;> simp [a, b]
  rw [this]
theorem eff_w {e : Ev} (h : e.1 = 0) (c : Ch) : eff e c = efW e.2.1 c := by unfold eff; rw [if_pos h]
theorem play_w : ∀ (l : List Ev) (e : Ev) (c : Ch), e.1 = 0 → (∀ x, x ∈ l → x.1 = 0) → play l (eff e c) = eff e (play l c) := by
  intro l
  induction l with
  | nil => intro e c _ _; rfl
  | cons a l ih =>
    intro e c he hl
    show play l (eff a (eff e c)) = eff e (play l (eff a c))
    have : eff a (eff e c) = eff e (eff a c) := by
      rw [eff_w (hl a (List.mem_cons_self ..)), eff_w he, eff_w he, eff_w (hl a (List.mem_cons_self ..)), efW_comm]
    rw [this]
    exact ih e (eff a c) he (fun x hx => hl x (List.mem_cons_of_mem _ hx))
theorem play_wl : ∀ (X l : List Ev) (c : Ch), (∀ x, x ∈ X → x.1 = 0) → (∀ x, x ∈ l → x.1 = 0) → play (X ++ l) c = play (l ++ X) c := by
  intro X
  induction X with
  | nil => intro l c _ _; rw [List.append_nil]; rfl
  | cons e X ih =>
    intro l c hX hl
    show play (X ++ l) (eff e c) = play (l ++ e :: X) c
    rw [ih l (eff e c) (fun x hx => hX x (List.mem_cons_of_mem _ hx)) hl, play_app, play_w l e c (hX e (List.mem_cons_self ..)) hl, play_app]
    rfl
theorem wNight {τ0 τ : XS} {nn : Nat} {post : XS → Prop} (hM : Md τ0) (h40 : nn < 40) (K : KK mw τ0 τ) (hr : RM τ ((MS τ0 nn).map (evM τ0))) (h : ∀ τ', KK mw τ0 τ' → RM τ' ((MS τ0 (nn + 1)).map (evM τ0)) → post τ') : PX8_goNight (nI nn) τ post := by
  obtain ⟨l, hl⟩ : ∃ l, l = (MS τ0 nn).map (evM τ0) := ⟨_, rfl⟩
  obtain ⟨X, hX⟩ : ∃ l, l = (xS τ0 nn).map (evM τ0) := ⟨_, rfl⟩
  obtain ⟨A, hA⟩ : ∃ l, l = (aS τ0 nn).map (evM τ0) := ⟨_, rfl⟩
  obtain ⟨B, hB⟩ : ∃ l, l = (bS' τ0 nn).map (evM τ0) := ⟨_, rfl⟩
  obtain ⟨Y, hY⟩ : ∃ l, l = (yS τ0 nn).map (evM τ0) := ⟨_, rfl⟩
  obtain ⟨S, hS⟩ : ∃ l, l = (sS τ0 nn).map (evM τ0) := ⟨_, rfl⟩
  have eN : (MS τ0 (nn + 1)).map (evM τ0) = l ++ (A ++ (X ++ (B ++ (Y ++ S)))) := by
    show (MS τ0 nn ++ nS τ0 nn).map (evM τ0) = _
    unfold nS
    rw [List.map_append, List.map_append, List.map_append, List.map_append, List.map_append, ← hl, ← hX, ← hA, ← hB, ← hY, ← hS]
  have pT := prs25 hM (nn + 1)
  rw [eN, prs_app, prs_app, prs_app, prs_app, prs_app] at pT
  have conv : ∀ τ', RM τ' (((((l ++ X) ++ A) ++ B) ++ Y) ++ S) → RM τ' ((MS τ0 (nn + 1)).map (evM τ0)) := by
    intro τ' h'
    rw [eN]
    unfold RM at h' ⊢
    have e1 : play (l ++ (A ++ (X ++ (B ++ (Y ++ S))))) ch0 = play (((((l ++ X) ++ A) ++ B) ++ Y) ++ S) ch0 := by
      have : play (X ++ A) (play l ch0) = play (A ++ X) (play l ch0) := by
        refine play_wl X A _ (fun x hx => ?_) (fun x hx => ?_)
        · rw [hX] at hx
          obtain ⟨s, hs, rfl⟩ := List.mem_map.mp hx
          have := (xS_mem.mp hs).2
          have := hM.1.2
          exact evM_a (by omega)
        · rw [hA] at hx
          obtain ⟨s, hs, rfl⟩ := List.mem_map.mp hx
          have := (aS_mem.mp hs).1
          have := hM.1.2
          exact evM_a (by omega)
      rw [play_app, play_app, play_app, play_app, play_app] at *
      rw [play_app, play_app, play_app, play_app, play_app, ← this]
    have e2 : prs (l ++ (A ++ (X ++ (B ++ (Y ++ S))))) = prs (((((l ++ X) ++ A) ++ B) ++ Y) ++ S) := by
      rw [prs_app, prs_app, prs_app, prs_app, prs_app, prs_app, prs_app, prs_app, prs_app, prs_app]; omega
    rw [e1, e2]; exact h'
  have fin : ∀ τ1, KK mw τ0 τ1 → RM τ1 ((((l ++ X) ++ A) ++ B) ++ Y) → LX8_goNight_130 (nI nn) post (fun _ σ41 => post σ41) 1000 (0 : Int32) τ1 := by
    intro τ1 K1 h1
    refine nightS (l := (((l ++ X) ++ A) ++ B) ++ Y) (m := 0) hM h40 ?_ (fun τ2 K2 h2 => h τ2 K2 (conv τ2 (by rw [hS]; exact h2))) 1000 τ1 (by omega) (by have := hM.2.2.1.2; omega) K1 ?_
    · rw [← hS, prs_app, prs_app, prs_app, prs_app, prs_app]; omega
    · show RM τ1 (((((l ++ X) ++ A) ++ B) ++ Y) ++ [])
      rw [List.append_nil]; exact h1
  have rest : ∀ τ1, KK mw τ0 τ1 → RM τ1 (l ++ X) → LX8_goNight_25 (nI nn) post (fun _ σ33 => LX8_goNight_68 (nI nn) post (fun _ σ35 => (((gI σ35 24 22) = nI nn → (PX8_changeChairs (gI σ35 24 23) (gI σ35 24 24) σ35 (fun σ39 => LX8_goNight_130 (nI nn) post (fun _ σ41 => post σ41) 1000 (0 : Int32) σ39))) ∧ (¬ (gI σ35 24 22) = nI nn → LX8_goNight_130 (nI nn) post (fun _ σ38 => post σ38) 1000 (0 : Int32) σ35))) 1000 (0 : Int32) σ33) 1000 (0 : Int32) τ1 := by
    intro τ1 K1 h1
    refine nightA (l := l ++ X) (m := 0) hM h40 (fun τ2 K2 h2 => ?_) 1000 τ1 (by omega) (by have := hM.1.2; omega) K1 ?_
    · refine nightB (l := (l ++ X) ++ A) (m := 0) hM h40 (fun τ3 K3 h3 => ?_) 1000 τ2 (by omega) (by have := hM.2.1.2; omega) K2 ?_
      · rw [K3.1 24 22 rfl, K3.1 24 23 rfl, K3.1 24 24 rfl]
        have eB : RM τ3 (((l ++ X) ++ A) ++ B) := by rw [hB]; exact h3
        refine ⟨fun w => ?_, fun w => ?_⟩
        · have hY2 : Y = [evM τ0 (7 + vN τ0 24 14)] := by rw [hY]; unfold yS; rw [if_pos w]; rfl
          obtain ⟨-, ⟨-, m6⟩, -, -, -, -, -, hMm, -⟩ := hM
          rcases hMm with q | ⟨q1, q2, q3⟩
          · rw [q] at w; exact absurd w.symm (nI_ne9 (by omega))
          · obtain ⟨z1, z2⟩ := cnt q2 (by decide)
            obtain ⟨z3, z4⟩ := cnt q3 (by decide)
            refine mS eB z2 z4 z1 z3 (e := evM τ0 (7 + vN τ0 24 14)) ?_ (fun τ4 K4 h4 => fin τ4 (K3.tr K4) (by rw [hY2]; exact h4))
            unfold evM
            rw [if_neg (by omega), if_pos (by omega), if_neg (by omega), if_neg (by omega)]
        · have hY2 : Y = [] := by rw [hY]; unfold yS; rw [if_neg w]; rfl
          exact fin τ3 K3 (by rw [hY2, List.append_nil]; exact eB)
      · show RM τ2 (((l ++ X) ++ A) ++ [])
        rw [List.append_nil, hA]; exact h2
    · show RM τ1 ((l ++ X) ++ [])
      rw [List.append_nil]; exact h1
  unfold PX8_goNight
  rw [← hl] at hr
  rw [K.1 24 25 rfl, K.1 24 26 rfl]
  refine ⟨fun w => ?_, fun w => ?_⟩
  · have hX2 : X = [evM τ0 (vN τ0 24 18)] := by rw [hX]; unfold xS; rw [if_pos w]; rfl
    obtain ⟨⟨-, m6⟩, -, -, -, -, -, hMm, -⟩ := id hM
    rcases hMm with q | ⟨q1, q2⟩
    · rw [q] at w; exact absurd w.symm (nI_ne9 (by omega))
    · obtain ⟨z1, z2⟩ := cnt q2 (by decide)
      refine mW hr z2 z1 (e := evM τ0 (vN τ0 24 18)) ?_ (fun τ1 K1 h1 => rest τ1 (K.tr K1) (by rw [hX2]; exact h1))
      unfold evM
      rw [if_pos (by omega), if_neg (by omega)]
  · have hX2 : X = [] := by rw [hX]; unfold xS; rw [if_neg w]; rfl
    exact rest τ K (by rw [hX2, List.append_nil]; exact hr)
theorem goR {σ : XS} {f1 : Int32} {post : XS → Prop} {kx : Int32 → XS → Prop} (hk : ∀ τ, KK mw σ τ → (∀ i, i < 6 → gI τ 37 i = nI i ∧ gI τ 38 i = 0) → kx (nI 6) τ) : ∀ (n m : Nat) (τ : XS), m ≤ 6 → 6 < m + n → KK mw σ τ → (∀ i, i < m → gI τ 37 i = nI i ∧ gI τ 38 i = 0) → LX8_goTo_2 f1 post kx n (nI m) τ := by
  intro n
  induction n with
  | zero => intro m τ h1 h2; omega
  | succ n ih =>
    intro m τ h1 h2 K hz
    rw [LX8_goTo_2, show (6 : Int32) = nI 6 from rfl, nI_leI (by omega) (by omega)]
    refine ⟨fun h => ?_, fun h => ⟨pk_in m 6 (by omega), fun τ2 e2 => ⟨pk_in m 6 (by omega), fun τ3 e3 x ex => ?_⟩⟩⟩
    · obtain rfl : m = 6 := by omega
      exact hk τ K hz
    · rw [nI_clamp (by omega)] at e2 e3
      rw [ex, nI_1]
      refine ih (m + 1) τ3 (by omega) (by omega) (K.tr (by rw [e3, e2]; exact (KK.I rfl).tr (KK.I rfl))) (fun i hi => ?_)
      rw [e3, gI_sIj _ _ (by decide), gI_upd, e2, gI_upd, gI_sIj _ _ (by decide)]
      by_cases e : i = m
      · rw [if_pos e, if_pos e, e]; exact ⟨rfl, rfl⟩
      · rw [if_neg e, if_neg e]; exact hz i (by omega)
theorem goL {τ0 : XS} {e : Nat} {post : XS → Prop} {kx : Int32 → XS → Prop} (hM : Md τ0) (he : e < 40) (hk : ∀ τ, KK mw τ0 τ → RM τ ((MS τ0 (e + 1)).map (evM τ0)) → kx (nI (e + 1)) τ) : ∀ (n m : Nat) (τ : XS), m ≤ e + 1 → e + 1 < m + n → KK mw τ0 τ → RM τ ((MS τ0 m).map (evM τ0)) → LX8_goTo_30 (nI e) post kx n (nI m) τ := by
  intro n
  induction n with
  | zero => intro m τ h1 h2; omega
  | succ n ih =>
    intro m τ h1 h2 K hr
    rw [LX8_goTo_30, nI_ltI (by omega) (by omega)]
    refine ⟨fun h => ?_, fun h => ?_⟩
    · obtain rfl : m = e + 1 := by omega
      exact hk τ K hr
    · refine wNight hM (by omega) K hr (fun τ2 K2 h2' x ex => ?_)
      rw [ex, nI_1]
      exact ih (m + 1) τ2 (by omega) (by omega) K2 h2'
theorem wGoTo {τ : XS} {e : Nat} {post : XS → Prop} (hM : Md τ) (he : e < 40) (h : ∀ τ', KK mw τ τ' → RM τ' ((MS τ (e + 1)).map (evM τ)) → post τ') : PX8_goTo (nI e) τ post := by
  unfold PX8_goTo
  refine goR (m := 0) (fun τ2 K hz => ?_) 1000 τ (by omega) (by omega) (KK.rf τ) (fun i hi => by omega)
  refine goL (m := 0) hM he h 1000 τ2 (by omega) (by omega) K ?_
  exact ⟨fun i hi => ⟨(hz i hi).1, hi⟩, fun i hi => ⟨(hz i hi).2, Nat.le_refl _⟩, fun i hi k hk => absurd hk (Nat.not_lt_zero k)⟩
