/-! ===== the class plays its story ===== -/
def ordL (σ : XS) (m : Nat) : List Nat := (List.range m).map (vN σ 10)
theorem ordL_s (σ : XS) (m : Nat) : ordL σ (m + 1) = ordL σ m ++ [vN σ 10 m] := by
  unfold ordL
  rw [List.range_succ, List.map_append]
  rfl
theorem ordL_split (σ : XS) (m : Nat) : ∀ d, ∃ r, ordL σ (m + d) = ordL σ m ++ r := by
  intro d
  induction d with
  | zero => exact ⟨[], by rw [List.append_nil]; rfl⟩
  | succ d ih =>
    obtain ⟨r, e⟩ := ih
    exact ⟨r ++ [vN σ 10 (m + d)], by rw [← Nat.add_assoc, ordL_s, e, List.append_assoc]⟩
def ne (lo s : Nat) : Bool := !(s == lo)
/-- the events of the first m of the story, without one -/
def evL (σ : XS) (lo m : Nat) : List Ev := ((ordL σ m).filter (ne lo)).map (evC σ)
theorem evL_s (σ : XS) (lo m : Nat) (h : vN σ 10 m ≠ lo) : evL σ lo (m + 1) = evL σ lo m ++ [evC σ (vN σ 10 m)] := by
  unfold evL
  rw [ordL_s, List.filter_append, List.map_append]
  have : ne lo (vN σ 10 m) = true := by unfold ne; simp [h]
  rw [List.filter_cons, if_pos this]
  rfl
theorem evL_n (σ : XS) (lo m : Nat) (h : vN σ 10 m = lo) : evL σ lo (m + 1) = evL σ lo m := by
  unfold evL
  rw [ordL_s, List.filter_append, List.map_append]
  have : ¬ ne lo (vN σ 10 m) = true := by unfold ne; simp [h]
  rw [List.filter_cons, if_neg this]
  simp
theorem evL_le (σ : XS) (lo : Nat) {m T : Nat} (h : m ≤ T) : prs (evL σ lo m) ≤ prs (evL σ lo T) := by
  obtain ⟨r, e⟩ := ordL_split σ m (T - m)
  rw [show m + (T - m) = T by omega] at e
  unfold evL
  rw [e, List.filter_append, List.map_append, prs_app]
  omega
theorem evL0 (σ : XS) (lo : Nat) : evL σ lo 0 = [] := rfl
theorem playL {σ0 : XS} {T e : Nat} {lv : Nat → Prop} {post : XS → Prop} {kx : Int32 → XS → Prop} (hT : T ≤ 48) (hO : GOc σ0 T lv) (hE : ∀ s, lv s → okE σ0 s ∧ vp_in (gI σ0 6 s) 40) (hP : prs (evL σ0 100 T) ≤ 25) (he : e < 40) (hk : ∀ m τ, m ≤ T → KK cw σ0 τ → (∀ i, i < m → vN σ0 6 (vN σ0 10 i) ≤ e) → (m = T ∨ e < vN σ0 6 (vN σ0 10 m)) → rp 12 13 14 (prs (evL σ0 100 m)) τ (play (evL σ0 100 m) ch0) → kx (nI m) τ) : ∀ (n m : Nat) (τ : XS), m ≤ T → T < m + n → KK cw σ0 τ → (∀ i, i < m → vN σ0 6 (vN σ0 10 i) ≤ e) → rp 12 13 14 (prs (evL σ0 100 m)) τ (play (evL σ0 100 m) ch0) → LX5_playTo_6 (nI e) post kx n (nI m) τ := by
  intro n
  induction n with
  | zero => intro m τ h1 h2; omega
  | succ n ih =>
    intro m τ h1 h2 K hn hr
    rw [LX5_playTo_6, K.1 4 6 rfl, hO.1, nI_leI (by omega) (by omega), nI_clamp (by omega), K.1 10 m rfl]
    refine ⟨fun h => ?_, fun h => ?_⟩
    · obtain rfl : m = T := by omega
      exact hk m τ h1 K hn (Or.inl rfl) hr
    · obtain ⟨b1, b2⟩ := hO.2.1 m (by omega)
      obtain ⟨oe, on⟩ := hE _ b2
      have s48 := oe.1
      obtain ⟨c1, c2⟩ := cnt on (by decide)
      rw [b1, nI_clamp (by omega), K.1 6 _ rfl, c1, nI_ltI (by omega) (by omega)]
      refine ⟨pk_in m 48 (by omega), pk_in _ 48 s48, fun w => hk m τ h1 K hn (Or.inr w) hr, fun w => ⟨pk_in m 48 (by omega), ?_⟩⟩
      have es := evL_s σ0 100 m (by omega)
      refine wHappen K oe hr (by rw [← es]; exact Nat.le_trans (evL_le σ0 100 (by omega)) hP) (fun τ2 K2 h2' x ex => ?_)
      rw [← es] at h2'
      rw [ex, nI_1]
      refine ih (m + 1) τ2 (by omega) (by omega) K2 (fun i hi => ?_) h2'
      by_cases ei : i = m
      · rw [ei]; omega
      · exact hn i (by omega)
theorem wPlayTo {σ : XS} {T e : Nat} {lv : Nat → Prop} {post : XS → Prop} (hT : T ≤ 48) (hO : GOc σ T lv) (hE : ∀ s, lv s → okE σ s ∧ vp_in (gI σ 6 s) 40) (hP : prs (evL σ 100 T) ≤ 25) (he : e < 40) (hk : ∀ m τ, m ≤ T → KK cw σ τ → (∀ i, i < m → vN σ 6 (vN σ 10 i) ≤ e) → (m = T ∨ e < vN σ 6 (vN σ 10 m)) → rp 12 13 14 (prs (evL σ 100 m)) τ (play (evL σ 100 m) ch0) → post τ) : PX5_playTo (nI e) σ post := by
  unfold PX5_playTo
  refine wReset (fun τ K hr => ?_)
  exact playL (m := 0) hT hO hE hP he hk 1000 τ (by omega) (by omega) K (fun i hi => by omega) hr
/-! labels of layers -/
def lab (N : Nat) (c : Ch) : Prop := ∀ i k, k < c.2.1 i → c.2.2 i k < N
theorem lab_eff {N : Nat} {c : Ch} (h : lab N c) (e : Ev) (he : e.1 = 2 → e.2.2 < N) : lab N (eff e c) := by
  unfold eff
  by_cases a : e.1 = 0
  · rw [if_pos a]
    intro i k hk
    have hk2 : k < up1 c.2.1 (c.1 e.2.1) 0 i := hk
    unfold up1 at hk2
    by_cases b : i = c.1 e.2.1
    · rw [if_pos b] at hk2; omega
    · rw [if_neg b] at hk2; exact h i k hk2
  rw [if_neg a]
  by_cases a1 : e.1 = 1
  · rw [if_pos a1]
    exact h
  rw [if_neg a1]
  by_cases a2 : e.1 = 2
  · rw [if_pos a2]
    intro i k hk
    have hk2 : k < up1 c.2.1 (c.1 e.2.1) (c.2.1 (c.1 e.2.1) + 1) i := hk
    show (if i = c.1 e.2.1 ∧ k = c.2.1 (c.1 e.2.1) then e.2.2 else c.2.2 i k) < N
    unfold up1 at hk2
    by_cases b : i = c.1 e.2.1
    · rw [if_pos b] at hk2
      by_cases d : k = c.2.1 (c.1 e.2.1)
      · rw [if_pos ⟨b, d⟩]; exact he a2
      · rw [if_neg (fun w => d w.2)]; exact h i k (by rw [b]; omega)
    · rw [if_neg b] at hk2
      rw [if_neg (fun w => b w.1)]; exact h i k hk2
  · rw [if_neg a2]; exact h
theorem lab_play {N : Nat} : ∀ (l : List Ev) (c : Ch), lab N c → (∀ e, e ∈ l → e.1 = 2 → e.2.2 < N) → lab N (play l c) := by
  intro l
  induction l with
  | nil => intro c h _; exact h
  | cons e l ih =>
    intro c h hl
    exact ih (eff e c) (lab_eff h e (hl e (List.mem_cons_self ..))) (fun e' he' => hl e' (List.mem_cons_of_mem _ he'))
theorem lab0 (N : Nat) : lab N ch0 := fun _ k hk => absurd hk (Nat.not_lt_zero k)
/-- what a cleaner finds -/
def fnd (c : Ch) (g : Nat → Int32) (p k : Nat) : Int32 := if k < c.2.1 (c.1 p) then g (c.2.2 (c.1 p) k) else 9
theorem wLayerAt {σ : XS} {c : Ch} {n p k : Nat} {post : Int32 → Prop} (hr : rp 12 13 14 n σ c) (hn : n ≤ 25) (hp : p < 6) (hk : k < 2 ^ 31) (h1 : k < c.2.1 (c.1 p) → post (nI (c.2.2 (c.1 p) k))) (h0 : ¬ k < c.2.1 (c.1 p) → post (-9)) : PX1_layerAt (nI p) (nI k) σ post := by
  unfold PX1_layerAt PX1_heightAt
  obtain ⟨e, hq⟩ := hr.1 p hp
  obtain ⟨e2, hh⟩ := hr.2.1 (c.1 p) hq
  refine ⟨fun w => absurd w (nI_pos hk), fun _ => wChairIn hp ?_⟩
  rw [e, nI_clamp (by omega), e2]
  refine ⟨fun w => absurd w (nI_ne9 (by omega)), fun _ => ⟨pk_in _ 6 hq, fun w => wChairIn hp ?_, fun w => h0 (fun q => w ((nI_ltI hk (by omega)).mpr q))⟩⟩
  rw [nI_ltI hk (by omega)] at w
  rw [e, show nI (c.1 p) * (25 : Int32) + nI k = nI (25 * c.1 p + k) by rw [show (25 : Int32) = nI 25 from rfl, pk_mul, nI_add, Nat.mul_comm], nI_clamp (by omega), hr.2.2 _ hq k w]
  exact ⟨pk_in (25 * c.1 p + k) 150 (by omega), h1 w⟩
theorem wIsSo {σ0 σ : XS} {c : Ch} {n s N p k : Nat} {post : Int32 → Prop} (K : KK cw σ0 σ) (hr : rp 12 13 14 n σ c) (hn : n ≤ 25) (hs : s < 48) (hl : lab N c) (hN : gI σ0 5 2 = nI N) (hN2 : N ≤ 25) (e7 : gI σ0 7 s = nI p) (hp : p < 6) (e8 : gI σ0 8 s = nI k) (hk : k < 2 ^ 31) (h1 : fnd c (fun j => gI σ0 9 (14 + j)) p k = gI σ0 9 s → post 1) (h0 : ¬ fnd c (fun j => gI σ0 9 (14 + j)) p k = gI σ0 9 s → post 0) : PX5_isSo (nI s) σ post := by
  unfold PX5_isSo
  have v := pk_in s 48 hs
  rw [nI_clamp (by omega), K.1 7 s rfl, K.1 8 s rfl, e7, e8, K.1 9 s rfl]
  unfold fnd at h1 h0
  refine ⟨v, v, wLayerAt hr hn hp hk (fun w => ?_) (fun w => ?_)⟩
  · rw [if_pos w] at h1 h0
    have hlt := hl _ _ w
    refine ⟨fun z => absurd z (nI_ne9 (by omega)), fun _ => wX5_gum (N := N) (by rw [K.1 5 2 rfl]; exact hN) hN2 hlt ⟨v, ?_⟩⟩
    rw [K.1 9 _ rfl]
    exact ⟨h1, h0⟩
  · rw [if_neg w] at h1 h0
    exact ⟨fun _ => ⟨v, h1, h0⟩, fun z => absurd rfl z⟩
/-- the reading at a place of the order is so -/
def soC (σ : XS) (lo i : Nat) : Prop := fnd (play (evL σ lo i) ch0) (fun j => gI σ 9 (14 + j)) (vN σ 7 (vN σ 10 i)) (vN σ 8 (vN σ 10 i)) = gI σ 9 (vN σ 10 i)
def okR (σ : XS) (s : Nat) : Prop := 39 ≤ s → gI σ 7 s = nI (vN σ 7 s) ∧ vN σ 7 s < 6 ∧ gI σ 8 s = nI (vN σ 8 s)
theorem vN_lt (σ : XS) (j k : Nat) (h : gI σ j k = nI (vN σ j k)) : vN σ j k < 2 ^ 31 := by
  unfold vN
  have := (gI σ j k).toInt_lt
  rw [show (gI σ j k).toNatClampNeg = (gI σ j k).toInt.toNat from rfl]
  omega
theorem soL {σ0 : XS} {T lo N : Nat} {lv : Nat → Prop} {f1 f3 : Int32} {post : Int32 → XS → Prop} {kx : Int32 → XS → Prop} (hT : T ≤ 48) (hO : GOc σ0 T lv) (hE : ∀ s, lv s → okE σ0 s ∧ okR σ0 s ∧ (14 ≤ s → s < 39 → s - 14 < N)) (hP : prs (evL σ0 lo T) ≤ 25) (hN : gI σ0 5 2 = nI N) (hN2 : N ≤ 25) (hf : ∀ s, s < 48 → (nI s = f3 ↔ s = lo)) (hlo : ¬ 39 ≤ lo ∨ lo = 100) (h1 : ∀ τ, KK cw σ0 τ → (∀ i, i < T → 39 ≤ vN σ0 10 i → soC σ0 lo i) → kx (nI T) τ) (h0 : ∀ τ, KK cw σ0 τ → (∃ i, i < T ∧ 39 ≤ vN σ0 10 i ∧ ¬ soC σ0 lo i) → post 0 τ) : ∀ (n m : Nat) (τ : XS), m ≤ T → T < m + n → KK cw σ0 τ → (∀ i, i < m → 39 ≤ vN σ0 10 i → soC σ0 lo i) → rp 12 13 14 (prs (evL σ0 lo m)) τ (play (evL σ0 lo m) ch0) → LX5_isSoWithout_13 f1 f3 post kx n (nI m) τ := by
  have hlab : ∀ m, m ≤ T → lab N (play (evL σ0 lo m) ch0) := by
    intro m hm
    refine lab_play _ _ (lab0 N) (fun e he e2 => ?_)
    unfold evL at he
    obtain ⟨s, hs, rfl⟩ := List.mem_map.mp he
    obtain ⟨hs, -⟩ := List.mem_filter.mp hs
    unfold ordL at hs
    obtain ⟨i, hi, rfl⟩ := List.mem_map.mp hs
    have hi2 := List.mem_range.mp hi
    have := (hE _ (hO.2.1 i (by omega)).2).2.2
    unfold evC at e2 ⊢
    by_cases a : vN σ0 10 i < 7
    · rw [if_pos a] at e2; exact absurd (show 0 = 2 from e2) (by decide)
    · rw [if_neg a] at e2 ⊢
      by_cases b : vN σ0 10 i < 14
      · rw [if_pos b] at e2; exact absurd (show 1 = 2 from e2) (by decide)
      · rw [if_neg b] at e2 ⊢
        by_cases d : vN σ0 10 i < 39
        · rw [if_pos d]; exact this (by omega) d
        · rw [if_neg d] at e2; exact absurd e2 (by decide)
  intro n
  induction n with
  | zero => intro m τ h1 h2; omega
  | succ n ih =>
    intro m τ a1 a2 K hn hr
    rw [LX5_isSoWithout_13, K.1 4 6 rfl, hO.1, nI_leI (by omega) (by omega), nI_clamp (by omega), K.1 10 m rfl]
    refine ⟨fun h => ?_, fun h => ⟨pk_in m 48 (by omega), fun x4 e4 => ?_⟩⟩
    · obtain rfl : m = T := by omega
      exact h1 τ K hn
    · obtain ⟨b1, b2⟩ := hO.2.1 m (by omega)
      obtain ⟨oe, orr, olt⟩ := hE _ b2
      have s48 := oe.1
      rw [b1] at e4
      subst e4
      have step : (39 ≤ vN σ0 10 m → soC σ0 lo m) → ((nI (vN σ0 10 m) = f3 → (∀ x : Int32, x = nI m + 1 → LX5_isSoWithout_13 f1 f3 post kx n x τ)) ∧ (¬ nI (vN σ0 10 m) = f3 → (PX5_happen (nI (vN σ0 10 m)) τ (fun σ9 => (∀ x10 : Int32, x10 = nI m + 1 → LX5_isSoWithout_13 f1 f3 post kx n x10 σ9))))) := by
        intro hso
        rw [hf _ s48]
        have hn' : ∀ i, i < m + 1 → 39 ≤ vN σ0 10 i → soC σ0 lo i := by
          intro i hi
          by_cases ei : i = m
          · rw [ei]; exact hso
          · exact hn i (by omega)
        refine ⟨fun w x ex => ?_, fun w => ?_⟩
        · rw [ex, nI_1]
          refine ih (m + 1) τ (by omega) (by omega) K hn' ?_
          rw [evL_n σ0 lo m w]; exact hr
        · have es := evL_s σ0 lo m w
          refine wHappen K oe hr (by rw [← es]; exact Nat.le_trans (evL_le σ0 lo (by omega)) hP) (fun τ2 K2 h2' x ex => ?_)
          rw [← es] at h2'
          rw [ex, nI_1]
          exact ih (m + 1) τ2 (by omega) (by omega) K2 hn' h2'
      refine wKind s48 ⟨fun w => ?_, fun w => step (fun h39 => ?_)⟩
      · have h39 : 39 ≤ vN σ0 10 m := by
          by_cases q : 39 ≤ vN σ0 10 m
          · exact q
          · exfalso
            revert w
            unfold kdN
            repeat' split
            all_goals first | omega | (intro w; exact absurd w (by decide))
        obtain ⟨q1, q2, q3⟩ := orr h39
        refine wIsSo K hr (Nat.le_trans (evL_le σ0 lo a1) hP) s48 (hlab m a1) hN hN2 q1 q2 q3 (vN_lt _ _ _ q3) (fun hs => ⟨fun z => absurd z (by decide), fun _ => step (fun _ => hs)⟩) (fun hs => ⟨fun _ => h0 τ K ⟨m, by omega, h39, hs⟩, fun z => absurd rfl z⟩)
      · exfalso
        apply w
        unfold kdN
        rw [if_neg (by omega), if_neg (by omega), if_neg (by omega)]
        rfl
theorem wSoWithout {σ : XS} {T lo N : Nat} {lv : Nat → Prop} {a1 : Int32} {post : Int32 → XS → Prop} (hT : T ≤ 48) (hO : GOc σ T lv) (hE : ∀ s, lv s → okE σ s ∧ okR σ s ∧ (14 ≤ s → s < 39 → s - 14 < N)) (hP : prs (evL σ lo T) ≤ 25) (hN : gI σ 5 2 = nI N) (hN2 : N ≤ 25) (ha : (a1 = -9 ∧ lo = 100) ∨ ∃ k, k < N ∧ a1 = nI k ∧ lo = 14 + k) (h1 : ∀ τ, KK cw σ τ → (∀ i, i < T → 39 ≤ vN σ 10 i → soC σ lo i) → post 1 τ) (h0 : ∀ τ, KK cw σ τ → (∃ i, i < T ∧ 39 ≤ vN σ 10 i ∧ ¬ soC σ lo i) → post 0 τ) : PX5_isSoWithout a1 σ post := by
  unfold PX5_isSoWithout
  have main : ∀ f3, (∀ s, s < 48 → (nI s = f3 ↔ s = lo)) → PX1_reset σ (fun σ2 => LX5_isSoWithout_13 a1 f3 post (fun x17 σ18 => post (1 : Int32) σ18) 1000 (0 : Int32) σ2) := by
    intro f3 hf
    refine wReset (fun τ K hr => ?_)
    refine soL (m := 0) hT hO hE hP hN hN2 hf ?_ h1 h0 1000 τ (by omega) (by omega) K (fun i hi => by omega) hr
    rcases ha with ⟨-, e⟩ | ⟨k, hk, -, e⟩
    · exact Or.inr e
    · exact Or.inl (by omega)
  rcases ha with ⟨rfl, rfl⟩ | ⟨k, hk, rfl, rfl⟩
  · unfold PX5_slotOf
    refine ⟨fun _ => main _ (fun s hs => ⟨fun e => absurd e (nI_ne9 (by omega)), fun e => by omega⟩), fun w => absurd (by decide) w⟩
  · refine wX5_slotOf hN hN2 hk (main _ (fun s hs => ?_))
    rw [nI_eq (by omega) (by omega)]
