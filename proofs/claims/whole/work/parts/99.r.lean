/-! ===== look: the pure part. gums told as one number ===== -/
def enc (a : Nat) (l : List Nat) : Nat := l.foldl (fun a g => 8 * a + g) a
theorem enc_app (a : Nat) (l l' : List Nat) : enc a (l ++ l') = enc (enc a l) l' := List.foldl_append
theorem enc_one (a : Nat) (l : List Nat) (g : Nat) : enc a (l ++ [g]) = 8 * enc a l + g := enc_app a l [g]
theorem enc_inj : ∀ (l l' : List Nat) (a b : Nat), l.length = l'.length → (∀ g, g ∈ l → g < 8) → (∀ g, g ∈ l' → g < 8) → enc a l = enc b l' → a = b ∧ l = l' := by
  intro l
  induction l with
  | nil =>
    intro l' a b h _ _ e
    cases l' with
    | nil => exact ⟨e, rfl⟩
    | cons g l' => exact absurd h (by simp)
  | cons g l ih =>
    intro l' a b h d d' e
    cases l' with
    | nil => exact absurd h (by simp)
    | cons g' l' =>
      have e' : enc (8 * a + g) l = enc (8 * b + g') l' := e
      obtain ⟨x, y⟩ := ih l' _ _ (by simpa using h) (fun g hg => d g (List.mem_cons_of_mem _ hg)) (fun g hg => d' g (List.mem_cons_of_mem _ hg)) e'
      have d1 := d g (List.mem_cons_self ..)
      have d2 := d' g' (List.mem_cons_self ..)
      obtain rfl : g = g' := by omega
      exact ⟨by omega, by rw [y]⟩
theorem enc_lt : ∀ (l : List Nat) (a : Nat), (∀ g, g ∈ l → g < 8) → enc a l < (a + 1) * 8 ^ l.length := by
  intro l
  induction l with
  | nil => intro a _; show a < (a + 1) * 1; omega
  | cons g l ih =>
    intro a d
    have h := ih (8 * a + g) (fun g hg => d g (List.mem_cons_of_mem _ hg))
    have d1 := d g (List.mem_cons_self ..)
    show enc (8 * a + g) l < (a + 1) * 8 ^ (l.length + 1)
    refine Nat.lt_of_lt_of_le h ?_
    rw [Nat.pow_succ, Nat.mul_comm (8 ^ l.length) 8, ← Nat.mul_assoc]
    exact Nat.mul_le_mul_right _ (by omega)
theorem enc_ge : ∀ (l : List Nat) (a : Nat), a * 8 ^ l.length ≤ enc a l := by
  intro l
  induction l with
  | nil => intro a; show a * 1 ≤ a; omega
  | cons g l ih =>
    intro a
    have h := ih (8 * a + g)
    show a * 8 ^ (l.length + 1) ≤ enc (8 * a + g) l
    refine Nat.le_trans ?_ h
    rw [Nat.pow_succ, Nat.mul_comm (8 ^ l.length) 8, ← Nat.mul_assoc]
    exact Nat.mul_le_mul_right _ (by omega)
def ky1 (l : List Nat) : Nat := enc 0 (l.take 20)
def ky2 (l : List Nat) : Nat := enc l.length (l.drop 20)
theorem ky2_lt {l l' : List Nat} (d : ∀ g, g ∈ l → g < 8) (h : l.length < l'.length) : ky2 l < ky2 l' := by
  unfold ky2
  refine Nat.lt_of_lt_of_le (enc_lt _ _ (fun g hg => d g (List.mem_of_mem_drop hg))) (Nat.le_trans ?_ (enc_ge _ _))
  rw [List.length_drop, List.length_drop]
  exact Nat.mul_le_mul h (Nat.pow_le_pow_right (by decide) (by omega))
theorem ky_inj {l l' : List Nat} (d : ∀ g, g ∈ l → g < 8) (d' : ∀ g, g ∈ l' → g < 8) (h1 : ky1 l = ky1 l') (h2 : ky2 l = ky2 l') : l = l' := by
  have hl : l.length = l'.length := by
    rcases Nat.lt_trichotomy l.length l'.length with w | w | w
    · have := ky2_lt d w; omega
    · exact w
    · have := ky2_lt d' w; omega
  have x := enc_inj (l.take 20) (l'.take 20) 0 0 (by rw [List.length_take, List.length_take, hl]) (fun g hg => d g (List.mem_of_mem_take hg)) (fun g hg => d' g (List.mem_of_mem_take hg)) h1
  have y := enc_inj (l.drop 20) (l'.drop 20) _ _ (by rw [List.length_drop, List.length_drop, hl]) (fun g hg => d g (List.mem_of_mem_drop hg)) (fun g hg => d' g (List.mem_of_mem_drop hg)) h2
  rw [← List.take_append_drop 20 l, ← List.take_append_drop 20 l', x.2, y.2]
theorem ky1_b {l : List Nat} (d : ∀ g, g ∈ l → g < 8) : ky1 l < 2 ^ 63 := by
  unfold ky1
  refine Nat.lt_of_lt_of_le (enc_lt _ _ (fun g hg => d g (List.mem_of_mem_take hg))) ?_
  rw [Nat.zero_add, Nat.one_mul]
  have : (l.take 20).length ≤ 20 := by rw [List.length_take]; omega
  exact Nat.le_trans (Nat.pow_le_pow_right (by decide) this) (by decide)
theorem ky2_b {l : List Nat} (d : ∀ g, g ∈ l → g < 8) (h : l.length ≤ 25) : ky2 l < 2 ^ 63 := by
  unfold ky2
  refine Nat.lt_of_lt_of_le (enc_lt _ _ (fun g hg => d g (List.mem_of_mem_drop hg))) ?_
  have : (l.drop 20).length ≤ 5 := by rw [List.length_drop]; omega
  exact Nat.le_trans (Nat.mul_le_mul (by omega : l.length + 1 ≤ 26) (Nat.pow_le_pow_right (by decide) this)) (by decide)
/-! counting -/
def ct (p : Nat → Bool) (n : Nat) : Nat := (List.range n).countP p
theorem ct_s (p : Nat → Bool) (n : Nat) : ct p (n + 1) = ct p n + if p n = true then 1 else 0 := by
  unfold ct
  rw [List.range_succ, List.countP_append, List.countP_cons, List.countP_nil, Nat.zero_add]
theorem ct_le (p : Nat → Bool) (n : Nat) : ct p n ≤ n := by
  unfold ct
  have := List.countP_le_length (p := p) (l := List.range n)
  rw [List.length_range] at this; exact this
theorem ct_congr {p q : Nat → Bool} {n : Nat} (h : ∀ x, x < n → p x = q x) : ct p n = ct q n := by
  unfold ct
  exact List.countP_congr (fun x hx => by rw [h x (List.mem_range.mp hx)])
theorem ct_pos {p : Nat → Bool} {n : Nat} : 0 < ct p n ↔ ∃ x, x < n ∧ p x = true := by
  unfold ct
  rw [List.countP_pos_iff]
  exact ⟨fun ⟨x, a, b⟩ => ⟨x, List.mem_range.mp a, b⟩, fun ⟨x, a, b⟩ => ⟨x, List.mem_range.mpr a, b⟩⟩
theorem ct_zero {p : Nat → Bool} {n : Nat} (h : ∀ x, x < n → p x = false) : ct p n = 0 := by
  rcases Nat.eq_zero_or_pos (ct p n) with w | w
  · exact w
  · obtain ⟨x, hx, e⟩ := ct_pos.mp w
    rw [h x hx] at e; cases e
theorem ct_add (p : Nat → Bool) (n m : Nat) : ct p (n + m) = ct p n + ct (fun x => p (n + x)) m := by
  unfold ct
  rw [List.range_add, List.countP_append, List.countP_map]
  rfl
/-- pairs counted: a person and a place -/
theorem ct_mul {P : Nat} (g f : Nat → Bool) : ∀ Q, ct (fun x => g (x / P) && f (x % P)) (Q * P) = ct g Q * ct f P := by
  intro Q
  induction Q with
  | zero => rw [Nat.zero_mul]; show 0 = 0 * _; omega
  | succ Q ih =>
    rw [Nat.succ_mul, ct_add, ih, ct_s, Nat.add_mul]
    congr 1
    cases eg : g Q with
    | false =>
      rw [if_neg (by decide), Nat.zero_mul]
      refine ct_zero (fun x hx => ?_)
      obtain ⟨d1, d2⟩ := dm_eq (P := P) (a := Q) (b := x) hx
      show (g ((Q * P + x) / P) && f ((Q * P + x) % P)) = false
      rw [d1, eg]; rfl
    | true =>
      rw [if_pos rfl, Nat.one_mul]
      refine ct_congr (fun x hx => ?_)
      obtain ⟨d1, d2⟩ := dm_eq (P := P) (a := Q) (b := x) hx
      show (g ((Q * P + x) / P) && f ((Q * P + x) % P)) = f x
      rw [d1, d2, eg]; rfl
theorem ct_not (p : Nat → Bool) : ∀ n, ct (fun x => !(p x)) n + ct p n = n := by
  intro n
  induction n with
  | zero => rfl
  | succ n ih =>
    rw [ct_s, ct_s]
    cases e : p n with
    | false => rw [if_pos (by decide), if_neg (by decide)]; omega
    | true => rw [if_neg (by decide), if_pos (by decide)]; omega
/-- one left out -/
theorem ct_but {p : Nat → Bool} {n t : Nat} (ht : t < n) (hp : p t = true) : ct (fun x => p x && !(x == t)) n + 1 = ct p n := by
  have key : ∀ n, ct (fun x => p x && !(x == t)) n + (if t < n then 1 else 0) = ct p n := by
    intro n
    induction n with
    | zero => rfl
    | succ n ih =>
      have s1 : ct (fun x => p x && !(x == t)) (n + 1) = ct (fun x => p x && !(x == t)) n + (if (p n && !(n == t)) = true then 1 else 0) := ct_s _ _
      rw [s1, ct_s p n, ← ih]
      by_cases e : n = t
      · have a1 : (p n && !(n == t)) = false := by rw [e]; simp
        have a2 : p n = true := by rw [e]; exact hp
        rw [a1, a2, if_neg (show ¬ false = true by decide), if_pos rfl, if_neg (show ¬ t < n by omega), if_pos (show t < n + 1 by omega)]
      · have a1 : (n == t) = false := by simp [e]
        rw [a1, Bool.not_false, Bool.and_true]
        by_cases w : t < n
        · rw [if_pos w, if_pos (show t < n + 1 by omega)]; omega
        · rw [if_neg w, if_neg (show ¬ t < n + 1 by omega)]
          omega
  have := key n
  rw [if_pos ht] at this; exact this
theorem ct_one {p : Nat → Bool} {n t : Nat} (ht : t < n) (hp : ∀ x, x < n → (p x = true ↔ x = t)) : ct p n = 1 := by
  have h := ct_but ht ((hp t ht).mpr rfl)
  have z : ct (fun x => p x && !(x == t)) n = 0 := by
    refine ct_zero (fun x hx => ?_)
    cases e : p x with
    | false => rfl
    | true => rw [(hp x hx).mp e]; simp
  omega
/-- as many are hit as there are that hit, each another -/
theorem ct_hit {S : Nat → Bool} {f : Nat → Nat} {c Q : Nat} (hf : ∀ k, k < c → S k = true → f k < Q) (hi : ∀ j k, j < c → k < c → S j = true → S k = true → f j = f k → j = k) : ct (fun p => (List.range c).any (fun k => S k && (f k == p))) Q = ct S c := by
  unfold ct
  rw [List.countP_eq_length_filter, List.countP_eq_length_filter]
  have nd : ((List.filter S (List.range c)).map f).Nodup := by
    unfold List.Nodup
    rw [List.pairwise_map]
    refine (List.Pairwise.filter S List.pairwise_lt_range).imp_of_mem (fun {a b} ha hb h e => ?_)
    rw [List.mem_filter, List.mem_range] at ha hb
    have := hi a b ha.1 hb.1 ha.2 hb.2 e
    omega
  have nd2 : (List.filter (fun p => (List.range c).any (fun k => S k && (f k == p))) (List.range Q)).Nodup := List.Pairwise.filter _ List.nodup_range
  have := ((List.perm_ext_iff_of_nodup nd2 nd).mpr (fun p => ?_)).length_eq
  · rw [this, List.length_map]
  · rw [List.mem_filter, List.mem_range, List.any_eq_true, List.mem_map]
    constructor
    · rintro ⟨-, k, hk, e⟩
      rw [Bool.and_eq_true, beq_iff_eq] at e
      exact ⟨k, List.mem_filter.mpr ⟨hk, e.1⟩, e.2⟩
    · rintro ⟨k, hk, e⟩
      rw [List.mem_filter, List.mem_range] at hk
      refine ⟨by rw [← e]; exact hf k hk.1 hk.2, k, List.mem_range.mpr hk.1, ?_⟩
      rw [Bool.and_eq_true, beq_iff_eq]
      exact ⟨hk.2, e⟩
/-! the greatest of some numbers -/
def isM (S : Nat → Prop) (M : Nat) : Prop := (∀ v, S v → v ≤ M) ∧ (M = 0 ∨ S M)
theorem isM.uniq {S : Nat → Prop} {M M' : Nat} (h : isM S M) (h' : isM S M') : M = M' := by
  obtain ⟨a, b⟩ := h
  obtain ⟨a', b'⟩ := h'
  rcases b with b | b <;> rcases b' with b' | b'
  · omega
  · have := a M' b'; omega
  · have := a' M b; omega
  · have := a M' b'; have := a' M b; omega
