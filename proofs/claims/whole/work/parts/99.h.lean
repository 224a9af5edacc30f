/-! ===== odds ===== -/
def fW (f0 f1 : Int32) : Nat → Int64 → Int32 → Option Int64
  | 0, _, _ => none
  | n + 1, m2, m4 => if f1 < m4 then some m2 else if m4.toInt64 = 0 then none else fW f0 f1 n ((m2 * (((f0 - f1) + m4).toInt64)) / m4.toInt64) (m4 + 1)
theorem fW_ok {σ : XS} {f0 f1 : Int32} {post : Int64 → Prop} {r : Int64} (h : post r) : ∀ (n d : Nat) (a : Int64) (b : Int32), fW f0 f1 n a b = some r → LX7_waysToPick_12 σ f0 f1 post (fun x5 _ => post x5) (n + d) a b := by
  intro n
  induction n with
  | zero => intro d a b e; cases e
  | succ n ih =>
    intro d a b e
    rw [fW] at e
    rw [Nat.add_right_comm, LX7_waysToPick_12]
    refine ⟨fun z => ?_, fun z => ?_⟩
    · rw [if_pos z] at e
      cases e; exact h
    · rw [if_neg z] at e
      by_cases y : b.toInt64 = 0
      · rw [if_pos y] at e; cases e
      · rw [if_neg y] at e
        refine ⟨y, fun x3 e3 x4 e4 => ?_⟩
        subst e3; subst e4
        exact ih d _ _ e
def fO (f5 : Int32) : Nat → Int64 → Int64 → Int32 → Option (Int64 × Int64)
  | 0, _, _, _ => none
  | n + 1, m6, m8, m10 => if f5 ≤ m10 then some (m6, m8) else if lg_cmp m8 1 ≤ 0 then some (m6, m8) else if lg_cmp (m6 - m6 / (2 : Int64) * (2 : Int64)) 0 = 0 then fO f5 n (m6 / 2) (m8 / 2) (m10 + 1) else some (m6, m8)
theorem fO_ok {σ : XS} {f1 f2 f3 f4 f5 : Int32} {post : Int64 → XS → Prop} {kx : Int64 → Int64 → Int32 → XS → Prop} {r : Int64 × Int64} (h : ∀ x, kx r.1 r.2 x σ) : ∀ (n d : Nat) (a b : Int64) (c : Int32), fO f5 n a b c = some r → LX7_odds_90 f1 f2 f3 f4 f5 post kx (n + d) a b c σ := by
  intro n
  induction n with
  | zero => intro d a b c e; cases e
  | succ n ih =>
    intro d a b c e
    rw [fO] at e
    rw [Nat.add_right_comm, LX7_odds_90]
    refine ⟨fun z => ?_, fun z => ⟨fun z2 => ?_, fun z2 => ⟨by decide, fun z3 => ⟨by decide, fun x e1 => ⟨by decide, fun y e2 w e3 => ?_⟩⟩, fun z3 => ?_⟩⟩⟩
    · rw [if_pos z] at e; cases e; exact h c
    · rw [if_neg z, if_pos z2] at e; cases e; exact h c
    · rw [if_neg z, if_neg z2, if_pos z3] at e
      subst e1; subst e2; subst e3
      exact ih d _ _ _ e
    · rw [if_neg z, if_neg z2, if_neg z3] at e; cases e; exact h c
def fB (f3 f5 : Int32) : Nat → Int64 → Int32 → Option Int64
  | 0, _, _ => none
  | n + 1, m6, m8 => if f3 ≤ m8 then some m6 else if f5 ≤ m8 then some m6 else if (m8 + (1 : Int32)).toInt64 = 0 then none else fB f3 f5 n ((m6 * ((f5 - m8).toInt64)) / ((m8 + (1 : Int32)).toInt64)) (m8 + 1)
theorem fB_ok {σ : XS} {f1 f2 f3 f4 f5 : Int32} {post : Int64 → XS → Prop} {kx : Int64 → Int32 → XS → Prop} {r : Int64} (h : ∀ x, kx r x σ) : ∀ (n d : Nat) (a : Int64) (b : Int32), fB f3 f5 n a b = some r → LX8_odds_76 f1 f2 f3 f4 f5 post kx (n + d) a b σ := by
  intro n
  induction n with
  | zero => intro d a b e; cases e
  | succ n ih =>
    intro d a b e
    rw [fB] at e
    rw [Nat.add_right_comm, LX8_odds_76]
    refine ⟨fun z => ?_, fun z => ⟨fun z2 => ?_, fun z2 => ?_⟩⟩
    · rw [if_pos z] at e; cases e; exact h b
    · rw [if_neg z, if_pos z2] at e; cases e; exact h b
    · rw [if_neg z, if_neg z2] at e
      by_cases y : (b + (1 : Int32)).toInt64 = 0
      · rw [if_pos y] at e; cases e
      · rw [if_neg y] at e
        refine ⟨y, fun x3 e3 x4 e4 => ?_⟩
        subst e3; subst e4
        exact ih d _ _ e
def fG : Nat → Int64 → Int64 → Option Int64
  | 0, _, _ => none
  | n + 1, x, y => if lg_cmp y 0 = 0 then some x else if y = 0 then none else fG n y (x - x / y * y)
theorem fG_ok {σ : XS} {a b : Int64} {c : Int32} {post : Int64 → Prop} {kx : Int64 → Int64 → Prop} {r : Int64} (h : ∀ y, kx r y) : ∀ (n d : Nat) (x y : Int64), fG n x y = some r → LX8_shareOf_6 σ a b c post kx (n + d) x y := by
  intro n
  induction n with
  | zero => intro d x y e; cases e
  | succ n ih =>
    intro d x y e
    rw [fG] at e
    rw [Nat.add_right_comm, LX8_shareOf_6]
    refine ⟨fun z => ?_, fun z => ?_⟩
    · rw [if_pos z] at e; cases e; exact h y
    · rw [if_neg z] at e
      by_cases q : y = 0
      · rw [if_pos q] at e; cases e
      · rw [if_neg q] at e
        refine ⟨q, fun x2 e2 => ?_⟩
        subst e2
        exact ih d _ _ e
/-- the class's and the reference's odds of v of m -/
def oC (m v : Int32) : Option (Int64 × Int64) := match (if v ≤ m then fW m v 30 1 1 else some 0) with
  | none => none
  | some w => fO m 30 w (if lg_cmp w 0 = 0 then 1 else ((1 : Int64) <<< (m.toInt64 &&& 63))) 0
def oM (m v : Int32) : Option (Int64 × Int64) := match fB v m 30 (if v ≤ m then 1 else 0) 0 with
  | none => none
  | some w => match fG 60 w ((1 : Int64) <<< (m.toInt64 &&& 63)) with
    | none => none
    | some g => if g = 0 then none else some (w / g, ((1 : Int64) <<< (m.toInt64 &&& 63)) / g)
def oK (m v : Nat) : Bool := match oC (nI m) (nI v), oM (nI m) (nI v) with
  | some a, some b => a.1 == b.1 && a.2 == b.2
  | _, _ => false
