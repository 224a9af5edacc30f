/-! ===== chairs, as pure data ===== -/
abbrev Ev : Type := Nat × Nat × Nat
abbrev Ch : Type := (Nat → Nat) × (Nat → Nat) × (Nat → Nat → Nat)
def up1 (f : Nat → Nat) (i v : Nat) : Nat → Nat := fun j => if j = i then v else f j
def efW (p : Nat) (c : Ch) : Ch := (c.1, up1 c.2.1 (c.1 p) 0, c.2.2)
def efS (a b : Nat) (c : Ch) : Ch := (up1 (up1 c.1 a (c.1 b)) b (c.1 a), c.2.1, c.2.2)
def efP (p k : Nat) (c : Ch) : Ch := (c.1, up1 c.2.1 (c.1 p) (c.2.1 (c.1 p) + 1), fun i j => if i = c.1 p ∧ j = c.2.1 (c.1 p) then k else c.2.2 i j)
def eff (e : Ev) (c : Ch) : Ch := if e.1 = 0 then efW e.2.1 c else if e.1 = 1 then efS e.2.1 e.2.2 c else if e.1 = 2 then efP e.2.1 e.2.2 c else c
def play (l : List Ev) (c : Ch) : Ch := l.foldl (fun c e => eff e c) c
def ch0 : Ch := (fun i => i, fun _ => 0, fun _ _ => 0)
def isP (e : Ev) : Bool := e.1 == 2
def prs (l : List Ev) : Nat := (l.filter isP).length
theorem play_app (l l' : List Ev) (c : Ch) : play (l ++ l') c = play l' (play l c) := List.foldl_append
theorem play_one (l : List Ev) (e : Ev) (c : Ch) : play (l ++ [e]) c = eff e (play l c) := play_app l [e] c
theorem prs_app (l l' : List Ev) : prs (l ++ l') = prs l + prs l' := by
  unfold prs
  rw [List.filter_append, List.length_append]
theorem prs_one (e : Ev) : prs [e] = if e.1 = 2 then 1 else 0 := by
  unfold prs isP
  by_cases h : e.1 = 2
  · rw [if_pos h, List.filter_cons, if_pos (by rw [beq_iff_eq]; exact h)]; rfl
  · rw [if_neg h, List.filter_cons, if_neg (by rw [beq_iff_eq]; exact h)]; rfl
/-- three rows hold the chairs -/
def rp (A B D n : Nat) (τ : XS) (c : Ch) : Prop := (∀ i, i < 6 → gI τ A i = nI (c.1 i) ∧ c.1 i < 6) ∧ (∀ i, i < 6 → gI τ B i = nI (c.2.1 i) ∧ c.2.1 i ≤ n) ∧ (∀ i, i < 6 → ∀ k, k < c.2.1 i → gI τ D (25 * i + k) = nI (c.2.2 i k))
theorem rp.mono {A B D n m : Nat} {τ : XS} {c : Ch} (h : rp A B D n τ c) (hm : n ≤ m) : rp A B D m τ c := ⟨h.1, fun i hi => ⟨(h.2.1 i hi).1, Nat.le_trans (h.2.1 i hi).2 hm⟩, h.2.2⟩
theorem rp.k {A B D n : Nat} {τ τ' : XS} {c : Ch} (h : rp A B D n τ c) (a : ∀ i, gI τ' A i = gI τ A i) (b : ∀ i, gI τ' B i = gI τ B i) (d : ∀ i, gI τ' D i = gI τ D i) : rp A B D n τ' c := ⟨fun i hi => by rw [a]; exact h.1 i hi, fun i hi => by rw [b]; exact h.2.1 i hi, fun i hi k hk => by rw [d]; exact h.2.2 i hi k hk⟩
theorem rp.wipe {A B D n : Nat} {τ : XS} {c : Ch} (hAB : A ≠ B) (hBD : B ≠ D) (h : rp A B D n τ c) {p : Nat} (hp : p < 6) : rp A B D n (sI τ B (c.1 p) 0) (efW p c) := by
  refine ⟨fun i hi => ?_, fun i hi => ?_, fun i hi k hk => ?_⟩
  · rw [gI_sIj _ _ hAB]; exact h.1 i hi
  · rw [gI_upd]
    show (if i = c.1 p then 0 else gI τ B i) = nI (up1 c.2.1 (c.1 p) 0 i) ∧ up1 c.2.1 (c.1 p) 0 i ≤ n
    unfold up1
    by_cases e : i = c.1 p
    · rw [if_pos e, if_pos e]; exact ⟨rfl, by omega⟩
    · rw [if_neg e, if_neg e]; exact h.2.1 i hi
  · rw [gI_sIj _ _ (fun e => hBD e.symm)]
    have hk2 : k < up1 c.2.1 (c.1 p) 0 i := hk
    unfold up1 at hk2
    by_cases e : i = c.1 p
    · rw [if_pos e] at hk2; omega
    · rw [if_neg e] at hk2; exact h.2.2 i hi k hk2
theorem rp.swap {A B D n : Nat} {τ : XS} {c : Ch} (hAB : A ≠ B) (hAD : A ≠ D) (h : rp A B D n τ c) {a b : Nat} (ha : a < 6) (hb : b < 6) : rp A B D n (sI (sI τ A a (nI (c.1 b))) A b (nI (c.1 a))) (efS a b c) := by
  refine ⟨fun i hi => ?_, fun i hi => ?_, fun i hi k hk => ?_⟩
  · rw [gI_upd, gI_upd]
    show (if i = b then nI (c.1 a) else if i = a then nI (c.1 b) else gI τ A i) = nI (up1 (up1 c.1 a (c.1 b)) b (c.1 a) i) ∧ up1 (up1 c.1 a (c.1 b)) b (c.1 a) i < 6
    unfold up1
    by_cases e : i = b
    · rw [if_pos e, if_pos e]; exact ⟨rfl, (h.1 a ha).2⟩
    · rw [if_neg e, if_neg e]
      by_cases e2 : i = a
      · rw [if_pos e2, if_pos e2]; exact ⟨rfl, (h.1 b hb).2⟩
      · rw [if_neg e2, if_neg e2]; exact h.1 i hi
  · rw [gI_sIj _ _ (fun e => hAB e.symm), gI_sIj _ _ (fun e => hAB e.symm)]; exact h.2.1 i hi
  · rw [gI_sIj _ _ (fun e => hAD e.symm), gI_sIj _ _ (fun e => hAD e.symm)]; exact h.2.2 i hi k hk
theorem rp.press {A B D n : Nat} {τ : XS} {c : Ch} (hAB : A ≠ B) (hAD : A ≠ D) (hBD : B ≠ D) (h : rp A B D n τ c) {p k : Nat} (hp : p < 6) (hn : n ≤ 24) : rp A B D (n + 1) (sI (sI τ D (25 * c.1 p + c.2.1 (c.1 p)) (nI k)) B (c.1 p) (nI (c.2.1 (c.1 p) + 1))) (efP p k c) := by
  obtain ⟨-, hq⟩ := h.1 p hp
  obtain ⟨-, hh⟩ := h.2.1 (c.1 p) hq
  refine ⟨fun i hi => ?_, fun i hi => ?_, fun i hi j hj => ?_⟩
  · rw [gI_sIj _ _ hAB, gI_sIj _ _ hAD]; exact h.1 i hi
  · rw [gI_upd, gI_sIj _ _ hBD]
    show (if i = c.1 p then nI (c.2.1 (c.1 p) + 1) else gI τ B i) = nI (up1 c.2.1 (c.1 p) (c.2.1 (c.1 p) + 1) i) ∧ up1 c.2.1 (c.1 p) (c.2.1 (c.1 p) + 1) i ≤ n + 1
    unfold up1
    by_cases e : i = c.1 p
    · rw [if_pos e, if_pos e]; exact ⟨rfl, by omega⟩
    · rw [if_neg e, if_neg e]; exact ⟨(h.2.1 i hi).1, by have := (h.2.1 i hi).2; omega⟩
  · rw [gI_sIj _ _ (fun e => hBD e.symm), gI_upd]
    have hj2 : j < up1 c.2.1 (c.1 p) (c.2.1 (c.1 p) + 1) i := hj
    show (if 25 * i + j = 25 * c.1 p + c.2.1 (c.1 p) then nI k else gI τ D (25 * i + j)) = nI (if i = c.1 p ∧ j = c.2.1 (c.1 p) then k else c.2.2 i j)
    unfold up1 at hj2
    by_cases e : i = c.1 p
    · rw [if_pos e] at hj2
      by_cases e2 : j = c.2.1 (c.1 p)
      · rw [if_pos (show 25 * i + j = 25 * c.1 p + c.2.1 (c.1 p) by omega), if_pos ⟨e, e2⟩]
      · rw [if_neg (show ¬ 25 * i + j = 25 * c.1 p + c.2.1 (c.1 p) by omega), if_neg (fun w => e2 w.2)]
        exact h.2.2 i hi j (by rw [e]; omega)
    · rw [if_neg e] at hj2
      have := (h.2.1 i hi).2
      rw [if_neg (show ¬ 25 * i + j = 25 * c.1 p + c.2.1 (c.1 p) by omega), if_neg (fun w => e w.1)]
      exact h.2.2 i hi j hj2
/-! the class's chairs -/
def cw (j _k : Nat) : Bool := (j == 12 || (j == 13 || j == 14))
theorem wChairIn {σ : XS} {p : Nat} {post : Int32 → Prop} (hp : p < 6) (h : post (gI σ 12 p)) : PX1_chairIn (nI p) σ post := by
  unfold PX1_chairIn
  refine rng (n := 6) rfl (by decide) (fun q => ⟨q, by rw [nI_clamp (by omega)]; exact h⟩) (fun q => absurd (pk_in p 6 hp) q)
theorem wWipe {σ : XS} {c : Ch} {n p : Nat} {post : XS → Prop} (hr : rp 12 13 14 n σ c) (hp : p < 6) (h : ∀ τ, KK cw σ τ → rp 12 13 14 n τ (efW p c) → post τ) : PX1_wipe (nI p) σ post := by
  unfold PX1_wipe
  obtain ⟨e, hq⟩ := hr.1 p hp
  refine wChairIn hp ?_
  rw [e]
  refine ⟨fun w => absurd w (nI_ne9 (by omega)), fun _ => ⟨pk_in (c.1 p) 6 hq, fun τ et => ?_⟩⟩
  rw [nI_clamp (by omega)] at et
  exact h τ (by rw [et]; exact KK.I rfl) (by rw [et]; exact hr.wipe (by decide) (by decide) hp)
theorem wSwap {σ : XS} {c : Ch} {n a b : Nat} {post : XS → Prop} (hr : rp 12 13 14 n σ c) (ha : a < 6) (hb : b < 6) (h : ∀ τ, KK cw σ τ → rp 12 13 14 n τ (efS a b c) → post τ) : PX1_swap (nI a) (nI b) σ post := by
  unfold PX1_swap
  obtain ⟨e, hq⟩ := hr.1 a ha
  obtain ⟨e2, hq2⟩ := hr.1 b hb
  refine wChairIn ha (wChairIn hb ?_)
  rw [e, e2]
  refine ⟨fun w => absurd w (nI_ne9 (by omega)), fun _ => ⟨fun w => absurd w (nI_ne9 (by omega)), fun _ => ⟨pk_in a 6 ha, fun τ et => ⟨pk_in b 6 hb, fun τ2 et2 => ?_⟩⟩⟩⟩
  rw [nI_clamp (by omega)] at et et2
  refine h τ2 (by rw [et2, et]; exact (KK.I rfl).tr (KK.I rfl)) (by rw [et2, et]; exact hr.swap (by decide) (by decide) ha hb)
theorem wPress {σ : XS} {c : Ch} {n p k : Nat} {post : XS → Prop} (hr : rp 12 13 14 n σ c) (hp : p < 6) (hn : n ≤ 24) (h : ∀ τ, KK cw σ τ → rp 12 13 14 (n + 1) τ (efP p k c) → post τ) : PX1_press (nI p) (nI k) σ post := by
  unfold PX1_press
  obtain ⟨e, hq⟩ := hr.1 p hp
  obtain ⟨e2, hh⟩ := hr.2.1 (c.1 p) hq
  refine wChairIn hp ?_
  have v6 := pk_in (c.1 p) 6 hq
  have e25 : nI (c.1 p) * 25 + nI (c.2.1 (c.1 p)) = nI (25 * c.1 p + c.2.1 (c.1 p)) := by
    rw [show (25 : Int32) = nI 25 from rfl, pk_mul, nI_add, Nat.mul_comm]
  rw [e, nI_clamp (by omega), e2, e25]
  refine ⟨fun w => absurd w (nI_ne9 (by omega)), fun _ => ⟨v6, fun _ => ⟨v6, pk_in (25 * c.1 p + c.2.1 (c.1 p)) 150 (by omega), fun τ et => ⟨v6, v6, fun τ2 et2 => ?_⟩⟩, fun w => ?_⟩⟩
  · rw [nI_clamp (by omega)] at et
    have : gI τ 13 (c.1 p) = nI (c.2.1 (c.1 p)) := by rw [et, gI_sIj _ _ (by decide)]; exact e2
    rw [this, nI_1] at et2
    refine h τ2 (by rw [et2, et]; exact (KK.I rfl).tr (KK.I rfl)) (by rw [et2, et]; exact hr.press (by decide) (by decide) (by decide) hp hn)
  · rw [show (25 : Int32) = nI 25 from rfl, nI_ltI (by omega) (by decide)] at w; omega
/-- what a slot of the class's story does -/
def evC (σ : XS) (s : Nat) : Ev := if s < 7 then (0, vN σ 7 s, 0) else if s < 14 then (1, vN σ 7 s, vN σ 8 s) else if s < 39 then (2, vN σ 7 s, s - 14) else (3, 0, 0)
def okE (σ : XS) (s : Nat) : Prop := s < 48 ∧ (s < 39 → gI σ 7 s = nI (vN σ 7 s) ∧ vN σ 7 s < 6) ∧ (7 ≤ s → s < 14 → gI σ 8 s = nI (vN σ 8 s) ∧ vN σ 8 s < 6)
theorem wHappen {σ0 σ : XS} {l : List Ev} {s : Nat} {post : XS → Prop} (K : KK cw σ0 σ) (hs : okE σ0 s) (hr : rp 12 13 14 (prs l) σ (play l ch0)) (hn : prs (l ++ [evC σ0 s]) ≤ 25) (h : ∀ τ, KK cw σ0 τ → rp 12 13 14 (prs (l ++ [evC σ0 s])) τ (play (l ++ [evC σ0 s]) ch0) → post τ) : PX5_happen (nI s) σ post := by
  unfold PX5_happen
  obtain ⟨h48, h7, h8⟩ := hs
  have r7 : gI σ 7 s = gI σ0 7 s := K.1 7 s rfl
  have r8 : gI σ 8 s = gI σ0 8 s := K.1 8 s rfl
  refine wKind h48 ?_
  rw [nI_clamp (by omega), r7, r8]
  have v48 := pk_in s 48 h48
  rw [prs_app, prs_one] at hn h
  rw [play_one] at h
  unfold evC at h hn
  unfold kdN
  by_cases a : s < 7
  · rw [if_pos a] at h hn ⊢
    obtain ⟨b1, b2⟩ := h7 (by omega)
    refine ⟨fun _ => ⟨v48, ?_⟩, fun w => absurd w (by decide), fun w => absurd w (by decide), fun w => absurd rfl w⟩
    rw [b1]
    exact wWipe hr b2 (fun τ K2 h2 => h τ (K.tr K2) h2)
  · rw [if_neg a] at h hn ⊢
    by_cases b : s < 14
    · rw [if_pos b] at h hn ⊢
      obtain ⟨b1, b2⟩ := h7 (by omega)
      obtain ⟨c1, c2⟩ := h8 (by omega) b
      refine ⟨fun w => absurd w (by decide), fun _ => ⟨v48, v48, ?_⟩, fun w => absurd w (by decide), fun _ w => absurd rfl w⟩
      rw [b1, c1]
      exact wSwap hr b2 c2 (fun τ K2 h2 => h τ (K.tr K2) h2)
    · rw [if_neg b] at h hn ⊢
      by_cases d : s < 39
      · rw [if_pos d] at h hn ⊢
        obtain ⟨b1, b2⟩ := h7 (by omega)
        have e2 : (2 : Int32).toNatClampNeg = 2 := by decide
        have hn2 : prs l + 1 ≤ 25 := hn
        refine ⟨fun w => absurd w (by decide), fun w => absurd w (by decide), fun _ => ⟨v48, pk_in 2 4 (by decide), ?_⟩, fun _ _ w => absurd rfl w⟩
        rw [b1, e2, xF, show fs 2 = 14 from rfl, pk_sub (by omega)]
        exact wPress hr b2 (by omega) (fun τ K2 h2 => h τ (K.tr K2) h2)
      · rw [if_neg d] at h hn ⊢
        refine ⟨fun w => absurd w (by decide), fun w => absurd w (by decide), fun w => absurd w (by decide), fun _ _ _ => h σ K ?_⟩
        exact hr
theorem resetL {σ : XS} {post : XS → Prop} {kx : Int32 → XS → Prop} (hk : ∀ τ, KK cw σ τ → (∀ i, i < 6 → gI τ 12 i = nI i ∧ gI τ 13 i = 0) → kx (nI 6) τ) : ∀ (n m : Nat) (τ : XS), m ≤ 6 → 6 < m + n → KK cw σ τ → (∀ i, i < m → gI τ 12 i = nI i ∧ gI τ 13 i = 0) → LX1_reset_2 post kx n (nI m) τ := by
  intro n
  induction n with
  | zero => intro m τ h1 h2; omega
  | succ n ih =>
    intro m τ h1 h2 K hz
    rw [LX1_reset_2, show (6 : Int32) = nI 6 from rfl, nI_leI (by omega) (by omega)]
    refine ⟨fun h => ?_, fun h => ⟨pk_in m 6 (by omega), fun τ2 e2 => ⟨pk_in m 6 (by omega), fun τ3 e3 x ex => ?_⟩⟩⟩
    · obtain rfl : m = 6 := by omega
      exact hk τ K hz
    · rw [nI_clamp (by omega)] at e2 e3
      rw [ex, nI_1]
      refine ih (m + 1) τ3 (by omega) (by omega) (K.tr (by rw [e3, e2]; exact (KK.I rfl).tr (KK.I rfl))) (fun i hi => ?_)
      rw [e3, gI_sIj _ _ (by decide), gI_upd, e2, gI_upd, gI_sIj _ _ (by decide)]
      by_cases e : i = m
      · rw [if_pos e, if_pos e, e]; exact ⟨rfl, rfl⟩
      · rw [if_neg e, if_neg e]; exact hz i (by omega)
theorem wReset {σ : XS} {post : XS → Prop} (h : ∀ τ, KK cw σ τ → rp 12 13 14 0 τ ch0 → post τ) : PX1_reset σ post := by
  unfold PX1_reset
  refine resetL (m := 0) (fun τ K hz => h τ K ⟨fun i hi => ⟨(hz i hi).1, hi⟩, fun i hi => ⟨(hz i hi).2, Nat.le_refl _⟩, fun i hi k hk => absurd hk (Nat.not_lt_zero k)⟩) 1000 σ (by omega) (by omega) (KK.rf σ) (fun i hi => by omega)
