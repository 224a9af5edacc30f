/-! ===== look: one layer more, followed ===== -/
def inj6 (c : Ch) : Prop := ∀ a b, a < 6 → b < 6 → c.1 a = c.1 b → a = b
def okEv (e : Ev) : Prop := (e.1 = 0 → e.2.1 < 6) ∧ (e.1 = 1 → e.2.1 < 6 ∧ e.2.2 < 6)
theorem inj6_eff {c : Ch} (h : inj6 c) {e : Ev} (he : okEv e) : inj6 (eff e c) := by
  unfold eff
  by_cases a0 : e.1 = 0
  · rw [if_pos a0]; exact h
  rw [if_neg a0]
  by_cases a1 : e.1 = 1
  · rw [if_pos a1]
    obtain ⟨ha, hb⟩ := he.2 a1
    intro x y hx hy q
    have q2 : up1 (up1 c.1 e.2.1 (c.1 e.2.2)) e.2.2 (c.1 e.2.1) x = up1 (up1 c.1 e.2.1 (c.1 e.2.2)) e.2.2 (c.1 e.2.1) y := q
    unfold up1 at q2
    have i1 := h x y hx hy
    have i2 := h e.2.1 x ha hx
    have i3 := h e.2.2 x hb hx
    have i4 := h e.2.1 y ha hy
    have i5 := h e.2.2 y hb hy
    have i6 := h e.2.1 e.2.2 ha hb
    by_cases x1 : x = e.2.2
    · rw [if_pos x1] at q2
      by_cases y1 : y = e.2.2
      · omega
      · rw [if_neg y1] at q2
        by_cases y2 : y = e.2.1
        · rw [if_pos y2] at q2; have := i6 q2; omega
        · rw [if_neg y2] at q2; have := i4 q2; omega
    · rw [if_neg x1] at q2
      by_cases x2 : x = e.2.1
      · rw [if_pos x2] at q2
        by_cases y1 : y = e.2.2
        · rw [if_pos y1] at q2; have := i6 q2.symm; omega
        · rw [if_neg y1] at q2
          by_cases y2 : y = e.2.1
          · omega
          · rw [if_neg y2] at q2; have := i5 q2; omega
      · rw [if_neg x2] at q2
        by_cases y1 : y = e.2.2
        · rw [if_pos y1] at q2; have := i2 q2.symm; omega
        · rw [if_neg y1] at q2
          by_cases y2 : y = e.2.1
          · rw [if_pos y2] at q2; have := i3 q2.symm; omega
          · rw [if_neg y2] at q2; exact i1 q2
  rw [if_neg a1]
  by_cases a2 : e.1 = 2
  · rw [if_pos a2]; exact h
  · rw [if_neg a2]; exact h
theorem inj6_play : ∀ (l : List Ev) (c : Ch), inj6 c → (∀ e, e ∈ l → okEv e) → inj6 (play l c) := by
  intro l
  induction l with
  | nil => intro c h _; exact h
  | cons e l ih =>
    intro c h hl
    exact ih (eff e c) (inj6_eff h (hl e (List.mem_cons_self ..))) (fun e' he' => hl e' (List.mem_cons_of_mem _ he'))
theorem inj6_0 : inj6 ch0 := fun _ _ _ _ e => e
def Ext (q j c0 : Nat) (X Y : Ch) : Prop := X.1 = Y.1 ∧ j ≤ Y.2.1 q ∧ (∀ i, X.2.1 i = if i = q then Y.2.1 q + 1 else Y.2.1 i) ∧ (∀ i k, i ≠ q → k < Y.2.1 i → X.2.2 i k = Y.2.2 i k) ∧ (∀ k, k < j → X.2.2 q k = Y.2.2 q k) ∧ X.2.2 q j = c0 ∧ (∀ k, j ≤ k → k < Y.2.1 q → X.2.2 q (k + 1) = Y.2.2 q k)
def Sam (X Y : Ch) : Prop := X.1 = Y.1 ∧ X.2.1 = Y.2.1 ∧ (∀ i k, k < Y.2.1 i → X.2.2 i k = Y.2.2 i k)
def Rel (o : Option Nat) (q j c0 : Nat) (X Y : Ch) : Prop := match o with
  | none => Sam X Y
  | some r => r < 6 ∧ Y.1 r = q ∧ Ext q j c0 X Y
/-- where the place of a layer goes -/
def re (e : Ev) (r : Nat) : Option Nat := if e.1 = 0 then (if e.2.1 = r then none else some r) else if e.1 = 1 then some (if r = e.2.1 then e.2.2 else if r = e.2.2 then e.2.1 else r) else some r
def reL (l : List Ev) (o : Option Nat) : Option Nat := l.foldl (fun o e => o.bind (re e)) o
theorem sam_eff {X Y : Ch} (h : Sam X Y) (e : Ev) : Sam (eff e X) (eff e Y) := by
  obtain ⟨h1, h2, h3⟩ := h
  unfold eff
  by_cases a0 : e.1 = 0
  · rw [if_pos a0, if_pos a0]
    refine ⟨h1, ?_, fun i k hk => ?_⟩
    · show up1 X.2.1 (X.1 e.2.1) 0 = up1 Y.2.1 (Y.1 e.2.1) 0
      rw [h1, h2]
    · have hk2 : k < up1 Y.2.1 (Y.1 e.2.1) 0 i := hk
      unfold up1 at hk2
      by_cases w : i = Y.1 e.2.1
      · rw [if_pos w] at hk2; omega
      · rw [if_neg w] at hk2; exact h3 i k hk2
  rw [if_neg a0, if_neg a0]
  by_cases a1 : e.1 = 1
  · rw [if_pos a1, if_pos a1]
    refine ⟨?_, h2, h3⟩
    show up1 (up1 X.1 e.2.1 (X.1 e.2.2)) e.2.2 (X.1 e.2.1) = up1 (up1 Y.1 e.2.1 (Y.1 e.2.2)) e.2.2 (Y.1 e.2.1)
    rw [h1]
  rw [if_neg a1, if_neg a1]
  by_cases a2 : e.1 = 2
  · rw [if_pos a2, if_pos a2]
    refine ⟨h1, ?_, fun i k hk => ?_⟩
    · show up1 X.2.1 (X.1 e.2.1) (X.2.1 (X.1 e.2.1) + 1) = up1 Y.2.1 (Y.1 e.2.1) (Y.2.1 (Y.1 e.2.1) + 1)
      rw [h1, h2]
    · have hk2 : k < up1 Y.2.1 (Y.1 e.2.1) (Y.2.1 (Y.1 e.2.1) + 1) i := hk
      show (if i = X.1 e.2.1 ∧ k = X.2.1 (X.1 e.2.1) then e.2.2 else X.2.2 i k) = (if i = Y.1 e.2.1 ∧ k = Y.2.1 (Y.1 e.2.1) then e.2.2 else Y.2.2 i k)
      rw [h1, h2]
      by_cases w : i = Y.1 e.2.1 ∧ k = Y.2.1 (Y.1 e.2.1)
      · rw [if_pos w, if_pos w]
      · rw [if_neg w, if_neg w]
        refine h3 i k ?_
        unfold up1 at hk2
        by_cases z : i = Y.1 e.2.1
        · rw [if_pos z] at hk2
          rw [z]
          have : ¬ k = Y.2.1 (Y.1 e.2.1) := fun y => w ⟨z, y⟩
          omega
        · rw [if_neg z] at hk2; exact hk2
  · rw [if_neg a2, if_neg a2]; exact ⟨h1, h2, h3⟩
theorem rel_eff {r q j c0 : Nat} {X Y : Ch} (h : Rel (some r) q j c0 X Y) (hi : inj6 Y) {e : Ev} (he : okEv e) : Rel (re e r) q j c0 (eff e X) (eff e Y) := by
  obtain ⟨hr, hq, h1, h2, h3, h4, h5, h6, h7⟩ := h
  unfold re
  by_cases a0 : e.1 = 0
  · rw [if_pos a0, eff_w a0, eff_w a0]
    have hp := he.1 a0
    by_cases w : e.2.1 = r
    · rw [if_pos w]
      have wq : Y.1 e.2.1 = q := by rw [w]; exact hq
      refine ⟨h1, ?_, fun i k hk => ?_⟩
      · show up1 X.2.1 (X.1 e.2.1) 0 = up1 Y.2.1 (Y.1 e.2.1) 0
        funext i
        unfold up1
        rw [h1, wq]
        by_cases z : i = q
        · rw [if_pos z, if_pos z]
        · rw [if_neg z, if_neg z, h3, if_neg z]
      · have hk2 : k < up1 Y.2.1 (Y.1 e.2.1) 0 i := hk
        unfold up1 at hk2
        rw [wq] at hk2
        by_cases z : i = q
        · rw [if_pos z] at hk2; omega
        · rw [if_neg z] at hk2; exact h4 i k z hk2
    · rw [if_neg w]
      have wq : Y.1 e.2.1 ≠ q := fun z => w (hi _ _ hp hr (z.trans hq.symm))
      refine ⟨hr, hq, h1, ?_, fun i => ?_, fun i k z hk => ?_, h5, h6, fun k hk1 hk => ?_⟩
      · show j ≤ up1 Y.2.1 (Y.1 e.2.1) 0 q
        unfold up1
        rw [if_neg (fun z => wq z.symm)]; exact h2
      · show up1 X.2.1 (X.1 e.2.1) 0 i = if i = q then up1 Y.2.1 (Y.1 e.2.1) 0 q + 1 else up1 Y.2.1 (Y.1 e.2.1) 0 i
        unfold up1
        rw [h1, if_neg (fun z : q = Y.1 e.2.1 => wq z.symm)]
        by_cases z : i = q
        · rw [if_neg (fun y => wq (y.symm.trans z)), if_pos z, h3, if_pos z]
        · rw [if_neg z]
          by_cases y : i = Y.1 e.2.1
          · rw [if_pos y, if_pos y]
          · rw [if_neg y, if_neg y, h3, if_neg z]
      · have hk2 : k < up1 Y.2.1 (Y.1 e.2.1) 0 i := hk
        unfold up1 at hk2
        by_cases y : i = Y.1 e.2.1
        · rw [if_pos y] at hk2; omega
        · rw [if_neg y] at hk2; exact h4 i k z hk2
      · have hk2 : k < up1 Y.2.1 (Y.1 e.2.1) 0 q := hk
        unfold up1 at hk2
        rw [if_neg (fun z : q = Y.1 e.2.1 => wq z.symm)] at hk2
        exact h7 k hk1 hk2
  rw [if_neg a0]
  unfold eff
  rw [if_neg a0, if_neg a0]
  by_cases a1 : e.1 = 1
  · rw [if_pos a1, if_pos a1, if_pos a1]
    obtain ⟨ha, hb⟩ := he.2 a1
    refine ⟨?_, ?_, ?_, h2, h3, h4, h5, h6, h7⟩
    · by_cases w : r = e.2.1
      · rw [if_pos w]; exact hb
      · rw [if_neg w]
        by_cases w2 : r = e.2.2
        · rw [if_pos w2]; exact ha
        · rw [if_neg w2]; exact hr
    · show up1 (up1 Y.1 e.2.1 (Y.1 e.2.2)) e.2.2 (Y.1 e.2.1) (if r = e.2.1 then e.2.2 else if r = e.2.2 then e.2.1 else r) = q
      unfold up1
      by_cases w : r = e.2.1
      · rw [if_pos w, if_pos rfl, ← w]; exact hq
      · rw [if_neg w]
        by_cases w2 : r = e.2.2
        · rw [if_pos w2, if_neg (fun z => w (w2.trans z.symm)), if_pos rfl, ← w2]; exact hq
        · rw [if_neg w2, if_neg w2, if_neg w]; exact hq
    · show up1 (up1 X.1 e.2.1 (X.1 e.2.2)) e.2.2 (X.1 e.2.1) = up1 (up1 Y.1 e.2.1 (Y.1 e.2.2)) e.2.2 (Y.1 e.2.1)
      rw [h1]
  rw [if_neg a1, if_neg a1, if_neg a1]
  by_cases a2 : e.1 = 2
  · rw [if_pos a2, if_pos a2]
    have eX : X.1 e.2.1 = Y.1 e.2.1 := by rw [h1]
    by_cases wq : Y.1 e.2.1 = q
    · have hX : X.2.1 q = Y.2.1 q + 1 := by rw [h3, if_pos rfl]
      refine ⟨hr, hq, h1, ?_, fun i => ?_, fun i k z hk => ?_, fun k hk => ?_, ?_, fun k hk1 hk => ?_⟩
      · show j ≤ up1 Y.2.1 (Y.1 e.2.1) (Y.2.1 (Y.1 e.2.1) + 1) q
        unfold up1
        rw [wq, if_pos rfl]; omega
      · show up1 X.2.1 (X.1 e.2.1) (X.2.1 (X.1 e.2.1) + 1) i = if i = q then up1 Y.2.1 (Y.1 e.2.1) (Y.2.1 (Y.1 e.2.1) + 1) q + 1 else up1 Y.2.1 (Y.1 e.2.1) (Y.2.1 (Y.1 e.2.1) + 1) i
        unfold up1
        rw [eX, wq, if_pos rfl, hX]
        by_cases z : i = q
        · rw [if_pos z, if_pos z]
        · rw [if_neg z, if_neg z, if_neg z, h3, if_neg z]
      · have hk2 : k < up1 Y.2.1 (Y.1 e.2.1) (Y.2.1 (Y.1 e.2.1) + 1) i := hk
        unfold up1 at hk2
        rw [wq, if_neg z] at hk2
        show (if i = X.1 e.2.1 ∧ k = X.2.1 (X.1 e.2.1) then e.2.2 else X.2.2 i k) = (if i = Y.1 e.2.1 ∧ k = Y.2.1 (Y.1 e.2.1) then e.2.2 else Y.2.2 i k)
        rw [eX, wq, if_neg (fun y => z y.1), if_neg (fun y => z y.1)]
        exact h4 i k z hk2
      · show (if q = X.1 e.2.1 ∧ k = X.2.1 (X.1 e.2.1) then e.2.2 else X.2.2 q k) = (if q = Y.1 e.2.1 ∧ k = Y.2.1 (Y.1 e.2.1) then e.2.2 else Y.2.2 q k)
        rw [eX, wq, hX, if_neg (fun y => by omega), if_neg (fun y => by omega)]
        exact h5 k hk
      · show (if q = X.1 e.2.1 ∧ j = X.2.1 (X.1 e.2.1) then e.2.2 else X.2.2 q j) = c0
        rw [eX, wq, hX, if_neg (fun y => by omega)]; exact h6
      · have hk2 : k < up1 Y.2.1 (Y.1 e.2.1) (Y.2.1 (Y.1 e.2.1) + 1) q := hk
        unfold up1 at hk2
        rw [wq, if_pos rfl] at hk2
        show (if q = X.1 e.2.1 ∧ k + 1 = X.2.1 (X.1 e.2.1) then e.2.2 else X.2.2 q (k + 1)) = (if q = Y.1 e.2.1 ∧ k = Y.2.1 (Y.1 e.2.1) then e.2.2 else Y.2.2 q k)
        rw [eX, wq, hX]
        by_cases z : k = Y.2.1 q
        · rw [if_pos ⟨rfl, by omega⟩, if_pos ⟨rfl, z⟩]
        · rw [if_neg (fun y => z (by omega)), if_neg (fun y => z y.2)]
          exact h7 k hk1 (by omega)
    · have hX : X.2.1 (Y.1 e.2.1) = Y.2.1 (Y.1 e.2.1) := by rw [h3, if_neg wq]
      refine ⟨hr, hq, h1, ?_, fun i => ?_, fun i k z hk => ?_, fun k hk => ?_, ?_, fun k hk1 hk => ?_⟩
      · show j ≤ up1 Y.2.1 (Y.1 e.2.1) (Y.2.1 (Y.1 e.2.1) + 1) q
        unfold up1
        rw [if_neg (fun z : q = Y.1 e.2.1 => wq z.symm)]; exact h2
      · show up1 X.2.1 (X.1 e.2.1) (X.2.1 (X.1 e.2.1) + 1) i = if i = q then up1 Y.2.1 (Y.1 e.2.1) (Y.2.1 (Y.1 e.2.1) + 1) q + 1 else up1 Y.2.1 (Y.1 e.2.1) (Y.2.1 (Y.1 e.2.1) + 1) i
        unfold up1
        rw [eX, hX, if_neg (fun z : q = Y.1 e.2.1 => wq z.symm)]
        by_cases z : i = q
        · rw [if_neg (fun y => wq (y.symm.trans z)), if_pos z, h3, if_pos z]
        · rw [if_neg z]
          by_cases y : i = Y.1 e.2.1
          · rw [if_pos y, if_pos y]
          · rw [if_neg y, if_neg y, h3, if_neg z]
      · have hk2 : k < up1 Y.2.1 (Y.1 e.2.1) (Y.2.1 (Y.1 e.2.1) + 1) i := hk
        unfold up1 at hk2
        show (if i = X.1 e.2.1 ∧ k = X.2.1 (X.1 e.2.1) then e.2.2 else X.2.2 i k) = (if i = Y.1 e.2.1 ∧ k = Y.2.1 (Y.1 e.2.1) then e.2.2 else Y.2.2 i k)
        rw [eX, hX]
        by_cases y : i = Y.1 e.2.1 ∧ k = Y.2.1 (Y.1 e.2.1)
        · rw [if_pos y, if_pos y]
        · rw [if_neg y, if_neg y]
          refine h4 i k z ?_
          by_cases y2 : i = Y.1 e.2.1
          · rw [if_pos y2] at hk2
            rw [y2]
            have : ¬ k = Y.2.1 (Y.1 e.2.1) := fun x => y ⟨y2, x⟩
            omega
          · rw [if_neg y2] at hk2; exact hk2
      · show (if q = X.1 e.2.1 ∧ k = X.2.1 (X.1 e.2.1) then e.2.2 else X.2.2 q k) = (if q = Y.1 e.2.1 ∧ k = Y.2.1 (Y.1 e.2.1) then e.2.2 else Y.2.2 q k)
        rw [eX, if_neg (fun y => wq y.1.symm), if_neg (fun y => wq y.1.symm)]
        exact h5 k hk
      · show (if q = X.1 e.2.1 ∧ j = X.2.1 (X.1 e.2.1) then e.2.2 else X.2.2 q j) = c0
        rw [eX, if_neg (fun y => wq y.1.symm)]; exact h6
      · have hk2 : k < up1 Y.2.1 (Y.1 e.2.1) (Y.2.1 (Y.1 e.2.1) + 1) q := hk
        unfold up1 at hk2
        rw [if_neg (fun z : q = Y.1 e.2.1 => wq z.symm)] at hk2
        show (if q = X.1 e.2.1 ∧ k + 1 = X.2.1 (X.1 e.2.1) then e.2.2 else X.2.2 q (k + 1)) = (if q = Y.1 e.2.1 ∧ k = Y.2.1 (Y.1 e.2.1) then e.2.2 else Y.2.2 q k)
        rw [eX, if_neg (fun y => wq y.1.symm), if_neg (fun y => wq y.1.symm)]
        exact h7 k hk1 hk2
  · rw [if_neg a2, if_neg a2]; exact ⟨hr, hq, h1, h2, h3, h4, h5, h6, h7⟩
theorem rel_play {q j c0 : Nat} : ∀ (l : List Ev) (o : Option Nat) (X Y : Ch), Rel o q j c0 X Y → inj6 Y → (∀ e, e ∈ l → okEv e) → Rel (reL l o) q j c0 (play l X) (play l Y) := by
  intro l
  induction l with
  | nil => intro o X Y h _ _; exact h
  | cons e l ih =>
    intro o X Y h hi hl
    show Rel (reL l (o.bind (re e))) q j c0 (play l (eff e X)) (play l (eff e Y))
    have he := hl e (List.mem_cons_self ..)
    refine ih _ _ _ ?_ (inj6_eff hi he) (fun e' he' => hl e' (List.mem_cons_of_mem _ he'))
    cases o with
    | none => exact sam_eff h e
    | some r => exact rel_eff h hi he
theorem rel_press {t c0 : Nat} (ht : t < 6) (Y : Ch) : Rel (some t) (Y.1 t) (Y.2.1 (Y.1 t)) c0 (efP t c0 Y) Y := by
  refine ⟨ht, rfl, rfl, Nat.le_refl _, fun i => ?_, fun i k z hk => ?_, fun k hk => ?_, ?_, fun k h1 h2 => by omega⟩
  · show up1 Y.2.1 (Y.1 t) (Y.2.1 (Y.1 t) + 1) i = _
    unfold up1
    by_cases z : i = Y.1 t
    · rw [if_pos z]
    · rw [if_neg z]
  · show (if i = Y.1 t ∧ k = Y.2.1 (Y.1 t) then c0 else Y.2.2 i k) = _
    rw [if_neg (fun y => z y.1)]
  · show (if Y.1 t = Y.1 t ∧ k = Y.2.1 (Y.1 t) then c0 else Y.2.2 (Y.1 t) k) = _
    rw [if_neg (fun y => by omega)]
  · show (if Y.1 t = Y.1 t ∧ Y.2.1 (Y.1 t) = Y.2.1 (Y.1 t) then c0 else Y.2.2 (Y.1 t) (Y.2.1 (Y.1 t))) = _
    rw [if_pos ⟨rfl, rfl⟩]
/-- the gums at a place -/
def gl (g : Nat → Nat) (c : Ch) (w : Nat) : List Nat := (List.range (c.2.1 (c.1 w))).map (fun k => g (c.2.2 (c.1 w) k))
theorem gl_sam {g g' : Nat → Nat} {X Y : Ch} {N w : Nat} (h : Sam X Y) (hl : lab N Y) (hg : ∀ k, k < N → g' k = g k) : gl g' X w = gl g Y w := by
  obtain ⟨h1, h2, h3⟩ := h
  unfold gl
  rw [h1, h2]
  apply List.map_congr_left
  intro k hk
  have hk2 := List.mem_range.mp hk
  rw [h3 _ k hk2, hg _ (hl _ _ hk2)]
theorem gl_off {g g' : Nat → Nat} {X Y : Ch} {N r q j c0 w : Nat} (h : Rel (some r) q j c0 X Y) (hi : inj6 Y) (hw : w < 6) (hne : r ≠ w) (hl : lab N Y) (hg : ∀ k, k < N → g' k = g k) : gl g' X w = gl g Y w := by
  obtain ⟨hr, hq, h1, h2, h3, h4, -⟩ := h
  have z : Y.1 w ≠ q := fun e => hne (hi r w hr hw (hq.trans e.symm))
  unfold gl
  rw [h1, h3, if_neg z]
  apply List.map_congr_left
  intro k hk
  have hk2 := List.mem_range.mp hk
  rw [h4 _ k z hk2, hg _ (hl _ _ hk2)]
def glA (g : Nat → Nat) (Y : Ch) (q j : Nat) : List Nat := (List.range j).map (fun k => g (Y.2.2 q k))
def glB (g : Nat → Nat) (Y : Ch) (q j : Nat) : List Nat := (List.range (Y.2.1 q - j)).map (fun k => g (Y.2.2 q (j + k)))
theorem gl_on {g : Nat → Nat} {X Y : Ch} {N q j c0 w : Nat} (h : Rel (some w) q j c0 X Y) (hl : lab N Y) : gl g Y w = glA g Y q j ++ glB g Y q j ∧ ∀ g' : Nat → Nat, (∀ k, k < N → g' k = g k) → gl g' X w = glA g Y q j ++ g' c0 :: glB g Y q j := by
  obtain ⟨hr, hq, h1, h2, h3, h4, h5, h6, h7⟩ := h
  refine ⟨?_, fun g' hg => ?_⟩
  · unfold gl glA glB
    rw [hq, show Y.2.1 q = j + (Y.2.1 q - j) by omega, List.range_add, List.map_append, List.map_map, show j + (Y.2.1 q - j) - j = Y.2.1 q - j by omega]
    rfl
  · unfold gl glA glB
    rw [h1, hq, h3, if_pos rfl, show Y.2.1 q + 1 = j + (1 + (Y.2.1 q - j)) by omega, List.range_add, List.map_append, List.map_map, List.range_add, List.map_append, List.map_map]
    congr 1
    · apply List.map_congr_left
      intro k hk
      have hk2 := List.mem_range.mp hk
      rw [h5 k hk2, hg _ (hl _ _ (show k < Y.2.1 q by omega))]
    · show g' (X.2.2 q (j + 0)) :: _ = _
      rw [Nat.add_zero, h6]
      congr 1
      apply List.map_congr_left
      intro k hk
      have hk2 := List.mem_range.mp hk
      show g' (X.2.2 q (j + (1 + k))) = g (Y.2.2 q (j + k))
      rw [show j + (1 + k) = (j + k) + 1 by omega, h7 (j + k) (by omega) (by omega), hg _ (hl _ _ (show j + k < Y.2.1 q by omega))]
