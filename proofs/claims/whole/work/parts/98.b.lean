/-! ===== add ===== -/
def stw (j k : Nat) : Bool := (j == 5 || (j == 6 || (j == 7 || (j == 8 || (j == 9 || (j == 10 || (j == 4 && k == 6)))))))
def shf (τ : XS) (T m : Nat) : XS := sR τ 10 (fun i => if m < i ∧ i ≤ T then gI τ 10 (i - 1) else gI τ 10 i)
theorem shf0 (τ : XS) (T : Nat) : shf τ T T = τ := by
  unfold shf
  have e : (fun i => if T < i ∧ i ≤ T then gI τ 10 (i - 1) else gI τ 10 i) = gI τ 10 := by
    funext i
    rw [if_neg (by omega)]
  rw [e, sR_id]
theorem shf6 (τ : XS) (T m : Nat) : gI (shf τ T m) 6 = gI τ 6 := gI_row' _ _ (by decide)
theorem key6 {σ τ : XS} (h : gI σ 6 = gI τ 6) (s : Nat) : key σ s = key τ s := by
  unfold key vN
  rw [h]
theorem addL {τ : XS} {T s : Nat} {f1 f2 f3 f4 f5 f6 : Int32} {post : Int32 → XS → Prop} {kx : Int32 → XS → Prop} (hT : T ≤ 47) (hs : s < 48) (n1 : vp_in (gI τ 6 s) 40) (p : Nat → Nat) (hp : ∀ i, i < T → gI τ 10 i = nI (p i) ∧ p i < 48 ∧ vp_in (gI τ 6 (p i)) 40 ∧ (kdN s = kdN (p i) → p i < s)) (hk : ∀ m, m ≤ T → (∀ i, m ≤ i → i < T → key τ s < key τ (p i)) → (m = 0 ∨ key τ (p (m - 1)) < key τ s) → kx (nI m) (shf τ T m)) : ∀ (n m : Nat), m ≤ T → m < n → (∀ i, m ≤ i → i < T → key τ s < key τ (p i)) → LX5_add_93 f1 f2 f3 f4 f5 f6 (nI s) post kx n (nI m) (shf τ T m) := by
  intro n
  induction n with
  | zero => intro m h1 h2; omega
  | succ n ih =>
    intro m h1 h2 h3
    rw [LX5_add_93]
    rw [show (0 : Int32) = nI 0 from rfl, nI_leI (by omega) (by omega)]
    refine ⟨fun z => ?_, fun z => ?_⟩
    · exact hk m h1 h3 (Or.inl (by omega))
    · obtain ⟨m, rfl⟩ : ∃ m', m = m' + 1 := ⟨m - 1, by omega⟩
      have em : nI (m + 1) - 1 = nI m := by
        rw [show (1 : Int32) = nI 1 from rfl, pk_sub (by omega)]
        rfl
      rw [em, nI_clamp (by omega), nI_clamp (by omega)]
      obtain ⟨a1, a2, a3, a4⟩ := hp m (by omega)
      have e10 : gI (shf τ T (m + 1)) 10 m = nI (p m) := by
        unfold shf
        rw [gI_row, if_neg (by omega), a1]
      rw [e10]
      refine ⟨pk_in m 48 (by omega), wBefore hs a2 (by rw [shf6]; exact n1) (by rw [shf6]; exact a3) a4 (fun hlt => ⟨fun w => absurd w (by decide), fun _ => ⟨pk_in m 48 (by omega), pk_in (m + 1) 48 (by omega), fun σ15 e15 x16 e16 => ?_⟩⟩) (fun hlt => ⟨fun _ => ?_, fun w => absurd rfl w⟩)⟩
      · rw [key6 (shf6 τ T (m + 1)), key6 (shf6 τ T (m + 1))] at hlt
        have es : sI (shf τ T (m + 1)) 10 (m + 1) (nI (p m)) = shf τ T m := by
          unfold shf
          rw [sI_sR]
          congr 1
          funext i
          unfold upd
          by_cases hi : i = m + 1
          · subst hi
            rw [if_pos rfl, if_pos (by omega)]
            exact a1.symm
          · rw [if_neg hi]
            have : (m + 1 < i ∧ i ≤ T) ↔ (m < i ∧ i ≤ T) := by omega
            simp only [this]
        rw [e15, es, e16, pk_m1]
        refine ih m (by omega) (by omega) (fun i hi hi2 => ?_)
        by_cases e : i = m
        · rw [e]; exact hlt
        · exact h3 i (by omega) hi2
      · rw [key6 (shf6 τ T (m + 1)), key6 (shf6 τ T (m + 1))] at hlt
        exact hk (m + 1) h1 h3 (Or.inr hlt)
/-- a number put into a rising row where it belongs -/
def insR (p : Nat → Nat) (m s i : Nat) : Nat := if i = m then s else if m < i then p (i - 1) else p i
theorem insS {p K : Nat → Nat} {T m s : Nat} (hm : m ≤ T) (h1 : ∀ i j, i < j → j < T → K (p i) < K (p j)) (h2 : ∀ i, m ≤ i → i < T → K s < K (p i)) (h3 : m = 0 ∨ K (p (m - 1)) < K s) : ∀ i j, i < j → j < T + 1 → K (insR p m s i) < K (insR p m s j) := by
  intro i j hij hj
  have lo : ∀ i, i < m → K (p i) < K s := by
    intro i hi
    rcases h3 with h3 | h3
    · omega
    · by_cases e : i = m - 1
      · rw [e]; exact h3
      · exact Nat.lt_trans (h1 i (m - 1) (by omega) (by omega)) h3
  unfold insR
  by_cases a : i = m
  · rw [if_pos a, if_neg (by omega), if_pos (by omega)]
    exact h2 (j - 1) (by omega) (by omega)
  · rw [if_neg a]
    by_cases b : m < i
    · rw [if_pos b, if_neg (by omega), if_pos (by omega)]
      exact h1 (i - 1) (j - 1) (by omega) (by omega)
    · rw [if_neg b]
      by_cases c : j = m
      · rw [if_pos c]; exact lo i (by omega)
      · rw [if_neg c]
        by_cases d : m < j
        · rw [if_pos d]
          exact Nat.lt_trans (lo i (by omega)) (h2 (j - 1) (by omega) (by omega))
        · rw [if_neg d]; exact h1 i j hij (by omega)
/-- what add does -/
def AddR (σ : XS) (κ c T : Nat) (lv : Nat → Prop) (a2 a3 a4 a5 : Int32) (σ' : XS) : Prop :=
  KK stw σ σ' ∧ (∀ j, gI σ' 5 j = if j = κ then nI (c + 1) else gI σ 5 j) ∧ (∀ s, gI σ' 6 s = if s = fs κ + c then a2 else gI σ 6 s) ∧ (∀ s, gI σ' 7 s = if s = fs κ + c then a3 else gI σ 7 s) ∧ (∀ s, gI σ' 8 s = if s = fs κ + c then a4 else gI σ 8 s) ∧ (∀ s, gI σ' 9 s = if s = fs κ + c then a5 else gI σ 9 s) ∧ GOc σ' (T + 1) (fun s => lv s ∨ s = fs κ + c)
theorem gI_upd (σ : XS) (j k : Nat) (x : Int32) (s : Nat) : gI (sI σ j k x) j s = if s = k then x else gI σ j s := by
  rw [gI_sI]
  by_cases h : s = k
  · rw [if_pos ⟨rfl, h⟩, if_pos h]
  · rw [if_neg (fun w => h w.2), if_neg h]
theorem wAdd {σ : XS} {κ c T : Nat} {lv : Nat → Prop} {a2 a3 a4 a5 : Int32} {post : Int32 → XS → Prop} (h4 : κ < 4) (hc : gI σ 5 κ = nI c) (hcm : c ≤ mx κ) (hT : T ≤ 47) (hO : GOc σ T lv) (hlv : ∀ s, lv s → s < 48 ∧ vp_in (gI σ 6 s) 40 ∧ (κ = kdN s → s < fs κ + c)) (hn : vp_in a2 40) (h : ∀ σ', AddR σ κ c T lv a2 a3 a4 a5 σ' → post (nI c) σ') : PX5_add (nI κ) a2 a3 a4 a5 σ post := by
  have hfl := fs_lt κ
  have hkd := kd_of h4 hcm
  unfold PX5_add
  have v4 : vp_in (nI κ) 4 := pk_in κ 4 h4
  rw [nI_clamp (by omega), hc, hO.1, xF, xM]
  refine ⟨fun w => absurd w (nI_pos (by omega)), fun _ => ⟨fun w => ?_, fun _ => ⟨v4, v4, fun w => ?_, fun _ => ⟨fun _ => ?_, fun w => ?_⟩⟩⟩⟩
  · rw [show (4 : Int32) = nI 4 from rfl, nI_leI (by decide) (by omega)] at w; omega
  · rw [nI_ltI (by omega) (by omega)] at w; omega
  · refine ⟨v4, fun x5 e5 => ⟨v4, fun x6 e6 => ?_⟩⟩
    subst e5
    rw [nI_add] at e6
    subst e6
    have vs : vp_in (nI (fs κ + c)) 48 := pk_in (fs κ + c) 48 (by omega)
    rw [nI_clamp (by omega)]
    refine ⟨vs, fun σ7 e7 => ⟨vs, fun σ8 e8 => ⟨vs, fun σ9 e9 => ⟨vs, fun σ10 e10 x11 e11 => ?_⟩⟩⟩⟩
    obtain ⟨S, eS⟩ : ∃ S, S = fs κ + c := ⟨_, rfl⟩
    rw [← eS] at e7 e8 e9 e10 hkd ⊢
    have g6 : ∀ s, gI σ10 6 s = if s = S then a2 else gI σ 6 s := by
      intro s
      rw [e10, gI_sIj _ _ (by decide), e9, gI_sIj _ _ (by decide), e8, gI_sIj _ _ (by decide), e7, gI_upd]
    have g7 : ∀ s, gI σ10 7 s = if s = S then a3 else gI σ 7 s := by
      intro s
      rw [e10, gI_sIj _ _ (by decide), e9, gI_sIj _ _ (by decide), e8, gI_upd, e7, gI_sIj _ _ (by decide)]
    have g8 : ∀ s, gI σ10 8 s = if s = S then a4 else gI σ 8 s := by
      intro s
      rw [e10, gI_sIj _ _ (by decide), e9, gI_upd, e8, gI_sIj _ _ (by decide), e7, gI_sIj _ _ (by decide)]
    have g9 : ∀ s, gI σ10 9 s = if s = S then a5 else gI σ 9 s := by
      intro s
      rw [e10, gI_upd, e9, gI_sIj _ _ (by decide), e8, gI_sIj _ _ (by decide), e7, gI_sIj _ _ (by decide)]
    have K10 : KK stw σ σ10 := by
      rw [e10, e9, e8, e7]
      exact ((KK.I rfl).tr ((KK.I rfl).tr ((KK.I rfl).tr (KK.I rfl))))
    have go : ∀ j k, j ≠ 6 → j ≠ 7 → j ≠ 8 → j ≠ 9 → gI σ10 j k = gI σ j k := by
      intro j k n6 n7 n8 n9
      rw [e10, gI_sIj _ _ n9, e9, gI_sIj _ _ n8, e8, gI_sIj _ _ n7, e7, gI_sIj _ _ n6]
    rw [go 4 6 (by decide) (by decide) (by decide) (by decide), hO.1] at e11
    subst e11
    have hne : ∀ s, lv s → s ≠ S := by
      intro s hs e
      obtain ⟨_, _, b3⟩ := hlv s hs
      rw [e, hkd] at b3
      have := b3 rfl
      omega
    have hpp : ∀ i, i < T → gI σ10 10 i = nI (vN σ 10 i) ∧ vN σ 10 i < 48 ∧ vp_in (gI σ10 6 (vN σ 10 i)) 40 ∧ (kdN S = kdN (vN σ 10 i) → vN σ 10 i < S) := by
      intro i hi
      obtain ⟨b1, b2⟩ := hO.2.1 i hi
      obtain ⟨c1, c2, c3⟩ := hlv _ b2
      refine ⟨?_, c1, ?_, ?_⟩
      · rw [go 10 i (by decide) (by decide) (by decide) (by decide)]; exact b1
      · rw [g6, if_neg (hne _ b2)]; exact c2
      · rw [hkd, eS]; exact c3
    have hks : ∀ s, lv s → key σ10 s = key σ s := by
      intro s hs
      unfold key vN
      rw [g6, if_neg (hne s hs)]
    have hk : ∀ m, m ≤ T → (∀ i, m ≤ i → i < T → key σ10 S < key σ10 (vN σ 10 i)) → (m = 0 ∨ key σ10 (vN σ 10 (m - 1)) < key σ10 S) → (vp_in (nI m) 48 ∧ ∀ σ19 : XS, σ19 = sI (shf σ10 T m) 10 (nI m).toNatClampNeg (nI S) → (∀ σ20 : XS, σ20 = sI σ19 4 6 ((gI σ19 4 6) + (1 : Int32)) → (vp_in (nI κ) 4 ∧ (vp_in (nI κ) 4 ∧ ∀ σ21 : XS, σ21 = sI σ20 5 κ ((gI σ20 5 κ) + (1 : Int32)) → post (nI c) σ21)))) := by
      intro m hm hi1 hi2
      refine ⟨pk_in m 48 (by omega), fun σ19 e19 σ20 e20 => ⟨v4, v4, fun σ21 e21 => h σ21 ?_⟩⟩
      rw [nI_clamp (by omega)] at e19
      have q10 : ∀ i, i < T + 1 → gI σ21 10 i = nI (insR (vN σ 10) m S i) := by
        intro i hi
        rw [e21, gI_sIj _ _ (by decide), e20, gI_sIj _ _ (by decide), e19, gI_upd]
        unfold insR
        by_cases a : i = m
        · rw [if_pos a, if_pos a]
        · rw [if_neg a, if_neg a]
          unfold shf
          rw [gI_row]
          by_cases b : m < i
          · rw [if_pos ⟨b, by omega⟩, if_pos b]
            exact (hpp (i - 1) (by omega)).1
          · rw [if_neg (fun w => b w.1), if_neg b]
            exact (hpp i (by omega)).1
      have o21 : ∀ j k, j ≠ 10 → j ≠ 4 → j ≠ 5 → gI σ21 j k = gI σ10 j k := by
        intro j k n1 n2 n3
        rw [e21, gI_sIj _ _ n3, e20, gI_sIj _ _ n2, e19, gI_sIj _ _ n1]
        unfold shf
        rw [gI_row' _ _ n1]
      have r6 : gI σ21 6 = gI σ10 6 := by funext k; exact o21 6 k (by decide) (by decide) (by decide)
      have hinl : ∀ i, i < T + 1 → insR (vN σ 10) m S i < 48 := by
        intro i hi
        unfold insR
        by_cases a : i = m
        · rw [if_pos a]; omega
        · rw [if_neg a]
          by_cases b : m < i
          · rw [if_pos b]; exact (hpp (i - 1) (by omega)).2.1
          · rw [if_neg b]; exact (hpp i (by omega)).2.1
      have v10 : ∀ i, i < T + 1 → vN σ21 10 i = insR (vN σ 10) m S i := by
        intro i hi
        unfold vN
        rw [q10 i hi, nI_clamp (by have := hinl i hi; omega)]
        rfl
      refine ⟨?_, ?_, ?_, ?_, ?_, ?_, ?_, ?_, ?_, ?_⟩
      · refine K10.tr ?_
        rw [e21, e20, e19]
        unfold shf
        exact (KK.R (fun _ => rfl)).tr ((KK.I rfl).tr ((KK.I rfl).tr (KK.I rfl)))
      · intro j
        rw [e21, gI_upd]
        have e5 : ∀ j, gI σ20 5 j = gI σ 5 j := by
          intro j
          rw [e20, gI_sIj _ _ (by decide), e19, gI_sIj _ _ (by decide)]
          unfold shf
          rw [gI_row' _ _ (by decide), go 5 j (by decide) (by decide) (by decide) (by decide)]
        rw [e5, e5, hc, nI_1]
      · intro s; rw [o21 6 s (by decide) (by decide) (by decide), g6, eS]
      · intro s; rw [o21 7 s (by decide) (by decide) (by decide), g7, eS]
      · intro s; rw [o21 8 s (by decide) (by decide) (by decide), g8, eS]
      · intro s; rw [o21 9 s (by decide) (by decide) (by decide), g9, eS]
      · rw [e21, gI_sIj _ _ (by decide), e20, gI_sIe, e19, gI_sIj _ _ (by decide)]
        unfold shf
        rw [gI_row' _ _ (by decide), go 4 6 (by decide) (by decide) (by decide) (by decide), hO.1, nI_1]
      · intro i hi
        rw [v10 i hi, q10 i hi]
        refine ⟨rfl, ?_⟩
        rw [← eS]
        unfold insR
        by_cases a : i = m
        · rw [if_pos a]; exact Or.inr rfl
        · rw [if_neg a]
          by_cases b : m < i
          · rw [if_pos b]; exact Or.inl (hO.2.1 (i - 1) (by omega)).2
          · rw [if_neg b]; exact Or.inl (hO.2.1 i (by omega)).2
      · intro i j hij hj
        rw [v10 i (by omega), v10 j hj, key6 r6, key6 r6]
        refine insS hm (fun i j hij hj => ?_) hi1 hi2 i j hij hj
        rw [hks _ (hO.2.1 i (by omega)).2, hks _ (hO.2.1 j hj).2]
        exact hO.2.2.1 i j hij hj
      · intro s hs
        rcases hs with hs | hs
        · obtain ⟨i, hi, ei⟩ := hO.2.2.2 s hs
          by_cases b : i < m
          · refine ⟨i, by omega, ?_⟩
            rw [v10 i (by omega)]
            unfold insR
            rw [if_neg (by omega), if_neg (by omega)]; exact ei
          · refine ⟨i + 1, by omega, ?_⟩
            rw [v10 (i + 1) (by omega)]
            unfold insR
            rw [if_neg (by omega), if_pos (by omega)]; exact ei
        · refine ⟨m, by omega, ?_⟩
          rw [v10 m (by omega)]
          unfold insR
          rw [if_pos rfl, hs, eS]
    have := addL (τ := σ10) (T := T) (s := S) (f1 := nI κ) (f2 := a2) (f3 := a3) (f4 := a4) (f5 := a5) (f6 := nI c) (post := post) (kx := fun x17 σ18 => (vp_in x17 48 ∧ ∀ σ19 : XS, σ19 = sI σ18 10 x17.toNatClampNeg (nI S) → (∀ σ20 : XS, σ20 = sI σ19 4 6 ((gI σ19 4 6) + (1 : Int32)) → (vp_in (nI κ) 4 ∧ (vp_in (nI κ) 4 ∧ ∀ σ21 : XS, σ21 = sI σ20 5 κ ((gI σ20 5 κ) + (1 : Int32)) → post (nI c) σ21))))) hT (by omega) (by rw [g6, if_pos rfl]; exact hn) (vN σ 10) hpp hk 1000 T (by omega) (by omega) (fun i h1 h2 => by omega)
    rw [shf0] at this
    exact this
  · rw [show (48 : Int32) = nI 48 from rfl, nI_ltI (by omega) (by decide)] at w; omega
