/-! ===== hall: a text and its first fault ===== -/
def gO (t : Nat) (x : Int32) : Prop := if t = 0 then x = 104 else if t = 1 then (∃ v, 50 ≤ v ∧ v ≤ 54 ∧ x = nI v) else if 17 ≤ t then False else if (t - 2) % 3 = 0 then x = 59 else if (t - 2) % 3 = 1 then (x = 115 ∨ x = 102 ∨ x = 98) else (∃ v, 48 ≤ v ∧ v ≤ 51 ∧ x = nI v)
def okT (f : Nat → Int32) (m : Nat) : Prop := ∀ i, i < m → gO i (f i)
def SS (f : Nat → Int32) (N : Nat) : Prop := okT f N ∧ 2 < N ∧ (N - 2) % 3 = 0
def FF (f : Nat → Int32) (N w : Nat) : Prop := w ≤ N ∧ okT f w ∧ (w < N → ¬ gO w (f w)) ∧ (w = N → ¬ (2 < N ∧ (N - 2) % 3 = 0))
theorem FF.uniq {f : Nat → Int32} {N w w' : Nat} (h : FF f N w) (h' : FF f N w') : w = w' := by
  rcases Nat.lt_trichotomy w w' with l | l | l
  · exact absurd (h'.2.1 w l) (h.2.2.1 (by have := h'.1; omega))
  · exact l
  · exact absurd (h.2.1 w' l) (h'.2.2.1 (by have := h.1; omega))
theorem FF.no {f : Nat → Int32} {N w : Nat} (h : FF f N w) (s : SS f N) : False := by
  rcases (show w < N ∨ w = N by have := h.1; omega) with l | l
  · exact h.2.2.1 l (s.1 w l)
  · exact h.2.2.2 l s.2
theorem SS.le {f : Nat → Int32} {N : Nat} (h : SS f N) : N ≤ 17 := by
  by_cases z : N ≤ 17
  · exact z
  · exfalso
    have := h.1 17 (by omega)
    unfold gO at this
    rw [if_neg (by decide), if_neg (by decide), if_pos (by decide)] at this
    exact this
theorem rgI {x lo hi : Int32} {l h : Nat} (el : lo = nI l) (eh : hi = nI h) (hl : l < 2 ^ 31) (hh : h < 2 ^ 31) : (¬ x < lo ∧ ¬ hi < x) ↔ ∃ v, l ≤ v ∧ v ≤ h ∧ x = nI v := by
  subst el; subst eh
  constructor
  · rintro ⟨a, b⟩
    have x0 : ¬ x < 0 := by
      intro z
      apply a
      rw [Int32.lt_iff_toInt_lt] at z ⊢
      rw [nI_toInt hl]
      have : (0 : Int32).toInt = 0 := by decide
      omega
    obtain ⟨v, hv, rfl⟩ := nI_of x0
    rw [nI_ltI hv hl] at a
    rw [nI_ltI hh hv] at b
    exact ⟨v, by omega, by omega, rfl⟩
  · rintro ⟨v, a, b, rfl⟩
    rw [nI_ltI (by omega) hl, nI_ltI hh (by omega)]
    omega
theorem wGoesOn {σ : XS} {t : Nat} {x : Int32} {post : Int32 → Prop} (ht : t < 2 ^ 30) (h1 : gO t x → post 1) (h0 : ¬ gO t x → post 0) : PX7_goesOn (nI t) x σ post := by
  unfold PX7_goesOn
  unfold gO at h1 h0
  have e0 : (nI t = 0) ↔ t = 0 := nI_eq (b := 0) (by omega) (by decide)
  have e1 : (nI t = 1) ↔ t = 1 := nI_eq (b := 1) (by omega) (by decide)
  have e17 : (nI t < 17) ↔ t < 17 := nI_ltI (b := 17) (by omega) (by decide)
  rw [e0, e1, e17]
  refine ⟨fun a => ?_, fun a => ⟨fun b => ?_, fun b => ⟨fun d => ⟨by decide, ?_⟩, fun d => ?_⟩⟩⟩
  · rw [if_pos a] at h1 h0
    exact ⟨h1, h0⟩
  · rw [if_neg a, if_pos b] at h1 h0
    have r := rgI (x := x) (lo := 50) (hi := 54) (l := 50) (h := 54) rfl rfl (by decide) (by decide)
    exact ⟨fun z => h0 (fun w => (r.mpr w).1 z), fun z => ⟨fun z2 => h0 (fun w => (r.mpr w).2 z2), fun z2 => h1 (r.mp ⟨z, z2⟩)⟩⟩
  · rw [if_neg a, if_neg b, if_neg (by omega)] at h1 h0
    have em : nI t - 2 - (nI t - 2) / 3 * 3 = nI ((t - 2) % 3) := by
      rw [show (2 : Int32) = nI 2 from rfl, pk_sub (by omega), show (3 : Int32) = nI 3 from rfl, pk_rem (by omega) (by decide) (by decide)]
    have m0 : (nI ((t - 2) % 3) = 0) ↔ (t - 2) % 3 = 0 := nI_eq (b := 0) (by omega) (by decide)
    have m1 : (nI ((t - 2) % 3) = 1) ↔ (t - 2) % 3 = 1 := nI_eq (b := 1) (by omega) (by decide)
    rw [em, m0, m1]
    refine ⟨fun k => ?_, fun k => ?_, fun k k2 => ?_⟩
    · rw [if_pos k] at h1 h0
      exact ⟨h1, h0⟩
    · rw [if_neg (by omega), if_pos k] at h1 h0
      exact ⟨fun z => h1 (Or.inl z), fun z => ⟨fun z2 => h1 (Or.inr (Or.inl z2)), fun z2 => ⟨fun z3 => h1 (Or.inr (Or.inr z3)), fun z3 => h0 (fun w => w.elim z (fun w => w.elim z2 z3))⟩⟩⟩
    · rw [if_neg k, if_neg k2] at h1 h0
      have r := rgI (x := x) (lo := 48) (hi := 51) (l := 48) (h := 51) rfl rfl (by decide) (by decide)
      exact ⟨fun z => h0 (fun w => (r.mpr w).1 z), fun z => ⟨fun z2 => h0 (fun w => (r.mpr w).2 z2), fun z2 => h1 (r.mp ⟨z, z2⟩)⟩⟩
  · rw [if_neg a, if_neg b, if_pos (by omega)] at h0
    exact h0 id
theorem firstL {σ : XS} {u j N L : Nat} (hL : gI σ u 1 = nI L) (h60 : L ≤ 60) (hN : j + N ≤ L) {post : Int32 → Prop} {kx : Int32 → Prop} (hk : okT (fun k => gI σ (u + 1) (j + k)) N → kx (nI N)) (hx : ∀ w, w < N → okT (fun k => gI σ (u + 1) (j + k)) w → ¬ gO w (gI σ (u + 1) (j + w)) → post (nI w)) : ∀ (n m : Nat), m ≤ N → N < m + n → okT (fun k => gI σ (u + 1) (j + k)) m → LX7_firstFault_2 σ u (nI j) (nI N) post kx n (nI m) := by
  intro n
  induction n with
  | zero => intro m h1 h2; omega
  | succ n ih =>
    intro m h1 h2 ho
    rw [LX7_firstFault_2, nI_leI (by omega) (by omega), nI_add]
    refine ⟨fun z => ?_, fun z => wRead hL h60 rfl (by omega) (wGoesOn (by omega) (fun g => ⟨fun w => absurd w (by decide), fun _ y ey => ?_⟩) (fun g => ⟨fun _ => hx m (by omega) ho g, fun w => absurd rfl w⟩))⟩
    · obtain rfl : m = N := by omega
      exact hk ho
    · rw [ey, nI_1]
      refine ih (m + 1) (by omega) (by omega) (fun i hi => ?_)
      by_cases e : i = m
      · rw [e]; exact g
      · exact ho i (by omega)
theorem wFirst {σ : XS} {u j N L : Nat} (hL : gI σ u 1 = nI L) (h60 : L ≤ 60) (hN : j + N ≤ L) {post : Int32 → Prop} (hs : SS (fun k => gI σ (u + 1) (j + k)) N → post (-9)) (hf : ∀ w, FF (fun k => gI σ (u + 1) (j + k)) N w → post (nI w)) : PX7_firstFault u (nI j) (nI N) σ post := by
  unfold PX7_firstFault
  refine firstL hL h60 hN (fun ho => ?_) (fun w hw ho hg => hf w ⟨by omega, ho, fun _ => hg, fun e => by omega⟩) 1000 0 (by omega) (by omega) (fun i hi => by omega)
  have no : ¬ (2 < N ∧ (N - 2) % 3 = 0) → post (nI N) := fun z => hf N ⟨Nat.le_refl _, ho, fun w => by omega, fun _ => z⟩
  rw [show (2 : Int32) = nI 2 from rfl, nI_leI (by omega) (by decide)]
  refine ⟨fun z => ⟨fun _ => no (fun w => by omega), fun w => absurd rfl w⟩, fun z => ⟨by decide, ?_⟩⟩
  have em : nI N - nI 2 - (nI N - nI 2) / 3 * 3 = nI ((N - 2) % 3) := by
    rw [pk_sub (by omega), show (3 : Int32) = nI 3 from rfl, pk_rem (by omega) (by decide) (by decide)]
  have m0 : (nI ((N - 2) % 3) = 0) ↔ (N - 2) % 3 = 0 := nI_eq (b := 0) (by omega) (by decide)
  rw [em, m0]
  exact ⟨fun k => ⟨fun w => absurd w (by decide), fun _ => hs ⟨ho, by omega, k⟩⟩, fun k => ⟨fun _ => no (fun w => k w.2), fun w => absurd rfl w⟩⟩
/-! the reference reads it -/
def cA (f : Nat → Int32) (N k : Nat) : Int32 := if k < N then f k else -9
def rw5 (j k : Nat) : Bool := (j == 27 || (j == 28 || (j == 24 && (k == 5 || (k == 6 || k == 7)))))
theorem wCodeAt {σ : XS} {f : Nat → Int32} {b N k : Nat} {post : Int32 → Prop} (h5 : gI σ 24 5 = nI k) (hk : k < 100) (hN : N ≤ 60) (hb : b + N ≤ 240) (hf : ∀ k, k < N → gI σ 48 (b + k) = f k) (h : post (cA f N k)) : PX8_codeAt (nI b) (nI N) σ post := by
  unfold PX8_codeAt
  rw [h5, nI_leI (by omega) (by omega), nI_add, nI_clamp (by omega)]
  unfold cA at h
  refine ⟨fun z => ?_, fun z => ⟨vp_in_nI (by omega) (by decide), ?_⟩⟩
  · rw [if_neg (by omega)] at h; exact h
  · rw [if_pos (by omega)] at h
    rw [hf k (by omega)]; exact h
theorem cA_no {f : Nat → Int32} {N k v : Nat} (hv : v < 1000) (h : cA f N k = nI v) : k < N ∧ f k = nI v := by
  unfold cA at h
  by_cases z : k < N
  · rw [if_pos z] at h; exact ⟨z, h⟩
  · rw [if_neg z] at h
    exact absurd h.symm (nI_ne9 (by omega))
theorem wFigure {σ : XS} {f : Nat → Int32} {b N k lo hi : Nat} {post : Int32 → XS → Prop} (h5 : gI σ 24 5 = nI k) (hk : k < 100) (hN : N ≤ 60) (hb : b + N ≤ 240) (hf : ∀ k, k < N → gI σ 48 (b + k) = f k) (hl : lo < 10) (hh : hi < 10) (h1 : ∀ v, lo ≤ v → v ≤ hi → k < N → f k = nI (48 + v) → post (nI v) (sI σ 24 5 (nI (k + 1)))) (h0 : (k < N → ∀ v, lo ≤ v → v ≤ hi → ¬ f k = nI (48 + v)) → post (-9) (sI σ 24 5 (nI k))) : PX8_figure (nI b) (nI N) (nI lo) (nI hi) σ post := by
  unfold PX8_figure
  refine wCodeAt h5 hk hN hb hf (fun x2 e2 => ?_)
  have cond : ∀ y : Int32, ((nI lo).toInt64 ≤ y.toInt64 ∧ y.toInt64 ≤ (nI hi).toInt64) → lo < 100 → ∃ v, lo ≤ v ∧ v ≤ hi ∧ y = nI v := by
    intro y hy hlo
    rw [Int64.le_iff_toInt_le, Int64.le_iff_toInt_le] at hy
    have e1 : (nI lo).toInt64.toInt = lo := by simp [nI_toInt (show lo < 2 ^ 31 by omega)]
    have e2 : (nI hi).toInt64.toInt = hi := by simp [nI_toInt (show hi < 2 ^ 31 by omega)]
    have e3 : y.toInt64.toInt = y.toInt := by simp
    rw [e1, e2, e3] at hy
    have y0 : ¬ y < 0 := by
      rw [Int32.lt_iff_toInt_lt]
      have : (0 : Int32).toInt = 0 := by decide
      omega
    obtain ⟨v, hv, rfl⟩ := nI_of y0
    rw [nI_toInt hv] at hy
    exact ⟨v, by omega, by omega, rfl⟩
  have cond2 : ∀ v, lo ≤ v → v ≤ hi → (nI lo).toInt64 ≤ (nI v).toInt64 ∧ (nI v).toInt64 ≤ (nI hi).toInt64 := by
    intro v a b
    rw [nI_l (by omega), nI_l (by omega), nI_l (by omega), lN_le (by omega) (by omega), lN_le (by omega) (by omega)]
    exact ⟨a, b⟩
  refine wX8_in (fun ha hb2 => ⟨fun w => absurd w (by decide), fun _ σ7 e7 => ⟨fun w => absurd w (by decide), fun _ => ?_⟩⟩) (fun hno => ⟨fun _ σ5 e5 => ⟨fun _ => ?_, fun w => absurd rfl w⟩, fun w => absurd rfl w⟩)
  · have hlo : lo < 100 := by omega
    obtain ⟨v, a, b', ev⟩ := cond x2 ⟨ha, hb2⟩ hlo
    have ec : cA f N k = nI (48 + v) := by
      have : cA f N k = x2 + 48 := by rw [e2]; exact (Int32.sub_add_cancel _ _).symm
      rw [this, ev, show (48 : Int32) = nI 48 from rfl, nI_add, Nat.add_comm]
    obtain ⟨kn, fk⟩ := cA_no (by omega) ec
    rw [h5, nI_1] at e7
    rw [e7, ev]
    exact h1 v a b' kn fk
  · rw [h5, show (0 : Int32) = nI 0 from rfl, nI_add] at e5
    rw [e5]
    refine h0 (fun kn v a b' fk => hno ?_)
    have : x2 = nI v := by
      rw [e2]
      unfold cA
      rw [if_pos kn, fk, show (48 : Int32) = nI 48 from rfl, pk_sub (by omega)]
      congr 1
      omega
    rw [this]
    exact cond2 v a b'
