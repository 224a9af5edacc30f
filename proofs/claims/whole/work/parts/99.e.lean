/-! ===== one order: the story's and the nights' ===== -/
theorem srt_eq (K : Nat → Nat) : ∀ l1 l2 : List Nat, l1.Pairwise (fun a b => K a < K b) → l2.Pairwise (fun a b => K a < K b) → (∀ x, x ∈ l1 ↔ x ∈ l2) → l1 = l2 := by
  intro l1
  induction l1 with
  | nil =>
    intro l2 _ _ h
    cases l2 with
    | nil => rfl
    | cons b l2 => exact absurd ((h b).mpr (List.mem_cons_self ..)) (List.not_mem_nil)
  | cons a l1 ih =>
    intro l2 h1 h2 h
    cases l2 with
    | nil => exact absurd ((h a).mp (List.mem_cons_self ..)) (List.not_mem_nil)
    | cons b l2 =>
      rw [List.pairwise_cons] at h1 h2
      have e : a = b := by
        rcases List.mem_cons.mp ((h a).mp (List.mem_cons_self ..)) with e | e
        · exact e
        · rcases List.mem_cons.mp ((h b).mpr (List.mem_cons_self ..)) with e2 | e2
          · exact e2.symm
          · have x1 := h2.1 a e
            have x2 := h1.1 b e2
            omega
      subst e
      rw [ih l2 h1.2 h2.2 (fun x => ?_)]
      constructor
      · intro hx
        rcases List.mem_cons.mp ((h x).mp (List.mem_cons_of_mem _ hx)) with e | e
        · have := h1.1 x hx
          rw [e] at this; omega
        · exact e
      · intro hx
        rcases List.mem_cons.mp ((h x).mpr (List.mem_cons_of_mem _ hx)) with e | e
        · have := h2.1 x hx
          rw [e] at this; omega
        · exact e
/-- the slots that the reference plays, and their nights -/
def mM (τ : XS) (s : Nat) : Prop := s < vN τ 24 18 ∨ (s = vN τ 24 18 ∧ gI τ 24 25 ≠ -9) ∨ (7 ≤ s ∧ s < 7 + vN τ 24 14) ∨ (s = 7 + vN τ 24 14 ∧ gI τ 24 22 ≠ -9) ∨ (14 ≤ s ∧ s < 14 + vN τ 24 10 ∧ s - 14 ≠ wo τ)
def mN (τ : XS) (s : Nat) : Nat := if s < 7 then (if s < vN τ 24 18 then vN τ 36 s else vN τ 24 25) else if s < 14 then (if s < 7 + vN τ 24 14 then vN τ 34 (s - 7) else vN τ 24 22) else vN τ 31 (s - 14)
theorem nS_mem {τ : XS} (hM : Md τ) {n s : Nat} (hn : n < 40) : s ∈ nS τ n ↔ mM τ s ∧ mN τ s = n := by
  obtain ⟨⟨-, c6⟩, ⟨-, m6⟩, ⟨-, s25⟩, -, -, -, hX, hY, -⟩ := hM
  have hx : gI τ 24 25 = nI n ↔ (gI τ 24 25 ≠ -9 ∧ vN τ 24 25 = n) := by
    rcases hX with q | ⟨q, -⟩
    · rw [q]
      exact ⟨fun w => absurd w.symm (nI_ne9 (by omega)), fun w => absurd rfl w.1⟩
    · obtain ⟨z1, z2⟩ := cnt q (by decide)
      rw [z1, nI_eq (by omega) (by omega)]
      exact ⟨fun w => ⟨nI_ne9 (by omega), w⟩, fun w => w.2⟩
  have hy : gI τ 24 22 = nI n ↔ (gI τ 24 22 ≠ -9 ∧ vN τ 24 22 = n) := by
    rcases hY with q | ⟨q, -⟩
    · rw [q]
      exact ⟨fun w => absurd w.symm (nI_ne9 (by omega)), fun w => absurd rfl w.1⟩
    · obtain ⟨z1, z2⟩ := cnt q (by decide)
      rw [z1, nI_eq (by omega) (by omega)]
      exact ⟨fun w => ⟨nI_ne9 (by omega), w⟩, fun w => w.2⟩
  unfold nS
  rw [List.mem_append, List.mem_append, List.mem_append, List.mem_append, aS_mem, xS_mem, bS_mem, yS_mem, sS_mem, hx, hy]
  unfold mM mN
  by_cases a : s < 7
  · rw [if_pos a]
    by_cases b : s < vN τ 24 18
    · rw [if_pos b]
      exact ⟨fun w => ⟨Or.inl b, by omega⟩, fun w => Or.inl ⟨b, w.2⟩⟩
    · rw [if_neg b]
      constructor
      · rintro (w | w | w | w | w)
        · omega
        · exact ⟨Or.inr (Or.inl ⟨w.2, w.1.1⟩), w.1.2⟩
        · omega
        · omega
        · omega
      · rintro ⟨w | w | w | w | w, w2⟩
        · omega
        · exact Or.inr (Or.inl ⟨⟨w.2, w2⟩, w.1⟩)
        · omega
        · omega
        · omega
  · rw [if_neg a]
    by_cases b : s < 14
    · rw [if_pos b]
      by_cases d : s < 7 + vN τ 24 14
      · rw [if_pos d]
        constructor
        · rintro (w | w | w | w | w)
          · omega
          · omega
          · exact ⟨Or.inr (Or.inr (Or.inl ⟨w.1, w.2.1⟩)), w.2.2⟩
          · omega
          · omega
        · intro w
          exact Or.inr (Or.inr (Or.inl ⟨by omega, d, w.2⟩))
      · rw [if_neg d]
        constructor
        · rintro (w | w | w | w | w)
          · omega
          · omega
          · omega
          · exact ⟨Or.inr (Or.inr (Or.inr (Or.inl ⟨w.2, w.1.1⟩))), w.1.2⟩
          · omega
        · rintro ⟨w | w | w | w | w, w2⟩
          · omega
          · omega
          · omega
          · exact Or.inr (Or.inr (Or.inr (Or.inl ⟨⟨w.2, w2⟩, w.1⟩)))
          · omega
    · rw [if_neg b]
      constructor
      · rintro (w | w | w | w | w)
        · omega
        · omega
        · omega
        · omega
        · exact ⟨Or.inr (Or.inr (Or.inr (Or.inr ⟨w.1, w.2.1, w.2.2.2⟩))), w.2.2.1⟩
      · rintro ⟨w | w | w | w | w, w2⟩
        · omega
        · omega
        · omega
        · omega
        · exact Or.inr (Or.inr (Or.inr (Or.inr ⟨w.1, w.2.1, w2, w.2.2⟩)))
theorem MS_mem {τ : XS} (hM : Md τ) {s : Nat} : ∀ N, N ≤ 40 → (s ∈ MS τ N ↔ mM τ s ∧ mN τ s < N) := by
  intro N
  induction N with
  | zero =>
    intro _
    exact ⟨fun w => absurd w (List.not_mem_nil), fun w => absurd w.2 (Nat.not_lt_zero _)⟩
  | succ N ih =>
    intro hN
    show s ∈ MS τ N ++ nS τ N ↔ _
    rw [List.mem_append, ih (by omega), nS_mem hM (by omega)]
    constructor
    · rintro (w | w)
      · exact ⟨w.1, by omega⟩
      · exact ⟨w.1, by omega⟩
    · intro w
      by_cases e : mN τ s = N
      · exact Or.inr ⟨w.1, e⟩
      · exact Or.inl ⟨w.1, by omega⟩
theorem rf_lt (p : Nat → Bool) (m : Nat) : (rf p m).Pairwise (fun a b => a < b) := by
  unfold rf
  exact List.Pairwise.filter _ List.pairwise_lt_range
theorem nS_lt {τ : XS} (hM : Md τ) (n : Nat) : (nS τ n).Pairwise (fun a b => a < b) := by
  obtain ⟨⟨-, c6⟩, ⟨-, m6⟩, ⟨-, s25⟩, -⟩ := hM
  have pA : (aS τ n).Pairwise (fun a b => a < b) := rf_lt _ _
  have pX : (xS τ n).Pairwise (fun a b => a < b) := by
    unfold xS
    split
    · exact List.pairwise_singleton _ _
    · exact List.Pairwise.nil
  have pB : (bS' τ n).Pairwise (fun a b => a < b) := by
    unfold bS'
    rw [List.pairwise_map]
    exact (rf_lt _ _).imp (fun h => by omega)
  have pY : (yS τ n).Pairwise (fun a b => a < b) := by
    unfold yS
    split
    · exact List.pairwise_singleton _ _
    · exact List.Pairwise.nil
  have pS : (sS τ n).Pairwise (fun a b => a < b) := by
    unfold sS
    rw [List.pairwise_map]
    exact (rf_lt _ _).imp (fun h => by omega)
  unfold nS
  rw [List.pairwise_append, List.pairwise_append, List.pairwise_append, List.pairwise_append]
  refine ⟨pA, ⟨pX, ⟨pB, ⟨pY, pS, fun a ha b hb => ?_⟩, fun a ha b hb => ?_⟩, fun a ha b hb => ?_⟩, fun a ha b hb => ?_⟩
  · have := yS_mem.mp ha
    have := sS_mem.mp hb
    omega
  · have := bS_mem.mp ha
    rcases List.mem_append.mp hb with hb | hb
    · have := yS_mem.mp hb; omega
    · have := sS_mem.mp hb; omega
  · have := xS_mem.mp ha
    rcases List.mem_append.mp hb with hb | hb
    · have := bS_mem.mp hb; omega
    · rcases List.mem_append.mp hb with hb | hb
      · have := yS_mem.mp hb; omega
      · have := sS_mem.mp hb; omega
  · have := aS_mem.mp ha
    rcases List.mem_append.mp hb with hb | hb
    · have := xS_mem.mp hb; omega
    · rcases List.mem_append.mp hb with hb | hb
      · have := bS_mem.mp hb; omega
      · rcases List.mem_append.mp hb with hb | hb
        · have := yS_mem.mp hb; omega
        · have := sS_mem.mp hb; omega
def kM (τ : XS) (s : Nat) : Nat := 48 * mN τ s + s
theorem mM_lt {τ : XS} (hM : Md τ) {s : Nat} (h : mM τ s) : s < 39 := by
  obtain ⟨⟨-, c6⟩, ⟨-, m6⟩, ⟨-, s25⟩, -⟩ := hM
  rcases h with w | w | w | w | w <;> omega
theorem MS_lt {τ : XS} (hM : Md τ) : ∀ N, N ≤ 40 → (MS τ N).Pairwise (fun a b => kM τ a < kM τ b) := by
  intro N
  induction N with
  | zero => intro _; exact List.Pairwise.nil
  | succ N ih =>
    intro hN
    show (MS τ N ++ nS τ N).Pairwise _
    rw [List.pairwise_append]
    refine ⟨ih (by omega), ?_, fun a ha b hb => ?_⟩
    · refine (nS_lt hM N).imp_of_mem (fun {a b} ha hb h => ?_)
      have a1 := (nS_mem hM (by omega)).mp ha
      have b1 := (nS_mem hM (by omega)).mp hb
      unfold kM
      rw [a1.2, b1.2]
      omega
    · have a1 := (MS_mem hM N (by omega)).mp ha
      have b1 := (nS_mem hM (by omega)).mp hb
      have a2 := mM_lt hM a1.1
      unfold kM
      rw [b1.2]
      omega
/-- the class's story and the reference's numbers tell the same -/
def Lk (σ τ : XS) (lv : Nat → Prop) (lo : Nat) : Prop := (∀ s, s < 39 → ((lv s ∧ s ≠ lo) ↔ mM τ s)) ∧ (∀ s, mM τ s → vN σ 6 s = mN τ s ∧ evC σ s = evM τ s)
def b39 (s : Nat) : Bool := decide (s < 39)
def clL (σ : XS) (lo m : Nat) : List Nat := ((ordL σ m).filter (ne lo)).filter b39
theorem evC_r {σ : XS} {s : Nat} (h : ¬ s < 39) : evC σ s = (3, 0, 0) := by
  unfold evC
  rw [if_neg (by omega), if_neg (by omega), if_neg h]
theorem play_b (σ : XS) : ∀ (L : List Nat) (c : Ch), play (L.map (evC σ)) c = play ((L.filter b39).map (evC σ)) c := by
  intro L
  induction L with
  | nil => intro c; rfl
  | cons a L ih =>
    intro c
    rw [List.filter_cons]
    by_cases h : a < 39
    · rw [if_pos (by unfold b39; simp [h])]
      exact ih (eff (evC σ a) c)
    · rw [if_neg (by unfold b39; simp [h])]
      show play (L.map (evC σ)) (eff (evC σ a) c) = _
      rw [evC_r h]
      exact ih c
theorem prs_b (σ : XS) : ∀ (L : List Nat), prs (L.map (evC σ)) = prs ((L.filter b39).map (evC σ)) := by
  intro L
  induction L with
  | nil => rfl
  | cons a L ih =>
    rw [List.filter_cons]
    show prs ([evC σ a] ++ L.map (evC σ)) = _
    rw [prs_app]
    by_cases h : a < 39
    · rw [if_pos (by unfold b39; simp [h])]
      show _ = prs ([evC σ a] ++ (L.filter b39).map (evC σ))
      rw [prs_app, ih]
    · rw [if_neg (by unfold b39; simp [h]), evC_r h, ih]
      show 0 + _ = _
      omega
theorem ord_mem {σ : XS} {m s : Nat} : s ∈ ordL σ m ↔ ∃ i, i < m ∧ vN σ 10 i = s := by
  unfold ordL
  rw [List.mem_map]
  exact ⟨fun ⟨i, a, b⟩ => ⟨i, List.mem_range.mp a, b⟩, fun ⟨i, a, b⟩ => ⟨i, List.mem_range.mpr a, b⟩⟩
theorem ord_lt {σ : XS} {T : Nat} {lv : Nat → Prop} (hO : GOc σ T lv) : ∀ m, m ≤ T → (ordL σ m).Pairwise (fun a b => key σ a < key σ b) := by
  intro m
  induction m with
  | zero => intro _; exact List.Pairwise.nil
  | succ m ih =>
    intro hm
    rw [ordL_s, List.pairwise_append]
    refine ⟨ih (by omega), List.pairwise_singleton _ _, fun a ha b hb => ?_⟩
    obtain ⟨i, hi, rfl⟩ := ord_mem.mp ha
    rw [List.mem_singleton] at hb
    rw [hb]
    exact hO.2.2.1 i m hi (by omega)
theorem cl_eq {σ τ : XS} {T lo m e : Nat} {lv : Nat → Prop} (hM : Md τ) (hO : GOc σ T lv) (hL : Lk σ τ lv lo) (hm : m ≤ T) (he : e < 40) (hmem : ∀ s, s < 39 → (s ∈ ordL σ m ↔ lv s ∧ vN σ 6 s ≤ e)) : clL σ lo m = MS τ (e + 1) := by
  have cm : ∀ s, s ∈ clL σ lo m ↔ s ∈ ordL σ m ∧ s ≠ lo ∧ s < 39 := by
    intro s
    unfold clL b39
    rw [List.mem_filter, List.mem_filter, ne_iff, decide_eq_true_iff]
    exact ⟨fun w => ⟨w.1.1, w.1.2, w.2⟩, fun w => ⟨⟨w.1, w.2.1⟩, w.2.2⟩⟩
  have cm2 : ∀ s, s ∈ clL σ lo m → mM τ s := by
    intro s hs
    obtain ⟨a, b, c⟩ := (cm s).mp hs
    exact (hL.1 s c).mp ⟨((hmem s c).mp a).1, b⟩
  refine srt_eq (kM τ) _ _ ?_ (MS_lt hM (e + 1) (by omega)) (fun s => ?_)
  · have p1 : (clL σ lo m).Pairwise (fun a b => key σ a < key σ b) := List.Pairwise.filter _ (List.Pairwise.filter _ (ord_lt hO m hm))
    refine p1.imp_of_mem (fun {a b} ha hb h => ?_)
    unfold key at h
    unfold kM
    rw [← (hL.2 a (cm2 a ha)).1, ← (hL.2 b (cm2 b hb)).1]
    exact h
  · rw [MS_mem hM (e + 1) (by omega), cm]
    constructor
    · rintro ⟨a, b, c⟩
      obtain ⟨a1, a2⟩ := (hmem s c).mp a
      have q := (hL.1 s c).mp ⟨a1, b⟩
      refine ⟨q, ?_⟩
      rw [← (hL.2 s q).1]
      omega
    · rintro ⟨q, a⟩
      have c := mM_lt hM q
      obtain ⟨a1, b⟩ := (hL.1 s c).mpr q
      refine ⟨(hmem s c).mpr ⟨a1, ?_⟩, b, c⟩
      rw [(hL.2 s q).1]
      omega
theorem cl_map {σ τ : XS} {N : Nat} {lv : Nat → Prop} {lo : Nat} (hM : Md τ) (hN : N ≤ 40) (hL : Lk σ τ lv lo) : (MS τ N).map (evC σ) = (MS τ N).map (evM τ) := by
  apply List.map_congr_left
  intro s hs
  exact (hL.2 s ((MS_mem hM N hN).mp hs).1).2
theorem ev_play {σ τ : XS} {T lo m e : Nat} {lv : Nat → Prop} (hM : Md τ) (hO : GOc σ T lv) (hL : Lk σ τ lv lo) (hm : m ≤ T) (he : e < 40) (hmem : ∀ s, s < 39 → (s ∈ ordL σ m ↔ lv s ∧ vN σ 6 s ≤ e)) : play (evL σ lo m) ch0 = play ((MS τ (e + 1)).map (evM τ)) ch0 := by
  unfold evL
  rw [play_b, ← cl_map hM (by omega) hL, ← cl_eq hM hO hL hm he hmem]
  rfl
theorem ev_prs {σ τ : XS} {T lo : Nat} {lv : Nat → Prop} (hM : Md τ) (hO : GOc σ T lv) (hL : Lk σ τ lv lo) (hn : ∀ s, lv s → vN σ 6 s < 40) : prs (evL σ lo T) ≤ 25 := by
  have hmem : ∀ s, s < 39 → (s ∈ ordL σ T ↔ lv s ∧ vN σ 6 s ≤ 39) := by
    intro s _
    rw [ord_mem]
    constructor
    · rintro ⟨i, hi, rfl⟩
      have := (hO.2.1 i hi).2
      exact ⟨this, by have := hn _ this; omega⟩
    · intro w
      exact hO.2.2.2 s w.1
  unfold evL
  rw [prs_b]
  have := cl_eq hM hO hL (Nat.le_refl T) (by decide : 39 < 40) hmem
  unfold clL at this
  rw [this, cl_map hM (by omega) hL]
  exact prs25 hM 40
