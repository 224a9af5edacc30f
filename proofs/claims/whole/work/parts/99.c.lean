/-! ===== the reference plays its nights ===== -/
def mw (j _k : Nat) : Bool := (j == 37 || (j == 38 || j == 39))
def rf (p : Nat → Bool) (m : Nat) : List Nat := (List.range m).filter p
theorem rf_s (p : Nat → Bool) (m : Nat) : rf p (m + 1) = if p m = true then rf p m ++ [m] else rf p m := by
  unfold rf
  rw [List.range_succ, List.filter_append, List.filter_cons]
  by_cases h : p m = true
  · rw [if_pos h, if_pos h]; rfl
  · rw [if_neg h, if_neg h]; simp
theorem rf_split (p : Nat → Bool) (m : Nat) : ∀ d, ∃ r, rf p (m + d) = rf p m ++ r := by
  intro d
  induction d with
  | zero => exact ⟨[], by rw [List.append_nil]; rfl⟩
  | succ d ih =>
    obtain ⟨r, e⟩ := ih
    rw [← Nat.add_assoc, rf_s]
    by_cases h : p (m + d) = true
    · rw [if_pos h]; exact ⟨r ++ [m + d], by rw [e, List.append_assoc]⟩
    · rw [if_neg h]; exact ⟨r, e⟩
theorem rf_mem (p : Nat → Bool) (m k : Nat) : k ∈ rf p m ↔ k < m ∧ p k = true := by
  unfold rf
  rw [List.mem_filter, List.mem_range]
/-- what a slot does in the reference; slot C, or 7 + M: the one more that is meant -/
def evM (τ : XS) (s : Nat) : Ev := if s < 7 then (0, if s < vN τ 24 18 then vN τ 35 s else vN τ 24 26, 0) else if s < 14 then (1, if s < 7 + vN τ 24 14 then vN τ 32 (s - 7) else vN τ 24 23, if s < 7 + vN τ 24 14 then vN τ 33 (s - 7) else vN τ 24 24) else (2, vN τ 30 (s - 14), s - 14)
def wo (τ : XS) : Nat := if gI τ 24 21 = -9 then 100 else vN τ 24 21
def aS (τ : XS) (n : Nat) : List Nat := rf (fun k => vN τ 36 k == n) (vN τ 24 18)
def xS (τ : XS) (n : Nat) : List Nat := if gI τ 24 25 = nI n then [vN τ 24 18] else []
def bS' (τ : XS) (n : Nat) : List Nat := (rf (fun k => vN τ 34 k == n) (vN τ 24 14)).map (fun k => 7 + k)
def yS (τ : XS) (n : Nat) : List Nat := if gI τ 24 22 = nI n then [7 + vN τ 24 14] else []
def sS (τ : XS) (n : Nat) : List Nat := (rf (fun k => vN τ 31 k == n && ne (wo τ) k) (vN τ 24 10)).map (fun k => 14 + k)
def nS (τ : XS) (n : Nat) : List Nat := aS τ n ++ (xS τ n ++ (bS' τ n ++ (yS τ n ++ sS τ n)))
def MS (τ : XS) : Nat → List Nat
  | 0 => []
  | n + 1 => MS τ n ++ nS τ n
/-- the reference's numbers are as they should be -/
def Md (τ : XS) : Prop := (gI τ 24 18 = nI (vN τ 24 18) ∧ vN τ 24 18 ≤ 6) ∧ (gI τ 24 14 = nI (vN τ 24 14) ∧ vN τ 24 14 ≤ 6) ∧ (gI τ 24 10 = nI (vN τ 24 10) ∧ vN τ 24 10 ≤ 25) ∧ (∀ k, k < vN τ 24 18 → vp_in (gI τ 35 k) 6 ∧ vp_in (gI τ 36 k) 40) ∧ (∀ k, k < vN τ 24 14 → vp_in (gI τ 32 k) 6 ∧ vp_in (gI τ 33 k) 6 ∧ vp_in (gI τ 34 k) 40) ∧ (∀ k, k < vN τ 24 10 → vp_in (gI τ 30 k) 6 ∧ vp_in (gI τ 31 k) 40) ∧ (gI τ 24 25 = -9 ∨ (vp_in (gI τ 24 25) 40 ∧ vp_in (gI τ 24 26) 6)) ∧ (gI τ 24 22 = -9 ∨ (vp_in (gI τ 24 22) 40 ∧ vp_in (gI τ 24 23) 6 ∧ vp_in (gI τ 24 24) 6)) ∧ (gI τ 24 21 = -9 ∨ vp_in (gI τ 24 21) 25)
def RM (τ : XS) (l : List Ev) : Prop := rp 37 38 39 (prs l) τ (play l ch0)
theorem prs_w {l : List Ev} {e : Ev} (h : e.1 ≠ 2) : prs (l ++ [e]) = prs l := by rw [prs_app, prs_one, if_neg h]; rfl
theorem prs_p {l : List Ev} {e : Ev} (h : e.1 = 2) : prs (l ++ [e]) = prs l + 1 := by rw [prs_app, prs_one, if_pos h]
theorem RM.wipe {τ : XS} {l : List Ev} (h : RM τ l) {p : Nat} (hp : p < 6) {e : Ev} (e0 : e = (0, p, 0)) : RM (sI τ 38 ((play l ch0).1 p) 0) (l ++ [e]) := by
  unfold RM
  rw [prs_w (by rw [e0]; exact (by decide : (0 : Nat) ≠ 2)), play_one, e0]
  exact rp.wipe (by decide) (by decide) h hp
theorem RM.swap {τ : XS} {l : List Ev} (h : RM τ l) {a b : Nat} (ha : a < 6) (hb : b < 6) {e : Ev} (e0 : e = (1, a, b)) : RM (sI (sI τ 37 a (nI ((play l ch0).1 b))) 37 b (nI ((play l ch0).1 a))) (l ++ [e]) := by
  unfold RM
  rw [prs_w (by rw [e0]; exact (by decide : (1 : Nat) ≠ 2)), play_one, e0]
  exact rp.swap (by decide) (by decide) h ha hb
theorem RM.press {τ : XS} {l : List Ev} (h : RM τ l) {p k : Nat} (hp : p < 6) (hn : prs l ≤ 24) {e : Ev} (e0 : e = (2, p, k)) : RM (sI (sI τ 39 (25 * (play l ch0).1 p + (play l ch0).2.1 ((play l ch0).1 p)) (nI k)) 38 ((play l ch0).1 p) (nI ((play l ch0).2.1 ((play l ch0).1 p) + 1))) (l ++ [e]) := by
  unfold RM
  rw [prs_p (by rw [e0]), play_one, e0]
  exact rp.press (by decide) (by decide) (by decide) h hp hn
theorem mW {τ : XS} {l : List Ev} (h : RM τ l) {p : Nat} (hp : p < 6) {x : Int32} (ex : x = nI p) {e : Ev} (e0 : e = (0, p, 0)) {post : XS → Prop} (hk : ∀ τ', KK mw τ τ' → RM τ' (l ++ [e]) → post τ') : vp_in x 6 ∧ (vp_in (gI τ 37 x.toNatClampNeg) 6 ∧ ∀ σ5 : XS, σ5 = sI τ 38 (gI τ 37 x.toNatClampNeg).toNatClampNeg (0 : Int32) → post σ5) := by
  subst ex
  obtain ⟨a, b⟩ := h.1 p hp
  rw [nI_clamp (by omega), a, nI_clamp (by omega)]
  refine ⟨pk_in p 6 hp, pk_in _ 6 b, fun σ5 e5 => hk σ5 (by rw [e5]; exact KK.I rfl) (by rw [e5]; exact h.wipe hp e0)⟩
theorem mS {τ : XS} {l : List Ev} (h : RM τ l) {a b : Nat} (ha : a < 6) (hb : b < 6) {x y : Int32} (ex : x = nI a) (ey : y = nI b) {e : Ev} (e0 : e = (1, a, b)) {post : XS → Prop} (hk : ∀ τ', KK mw τ τ' → RM τ' (l ++ [e]) → post τ') : PX8_changeChairs x y τ post := by
  subst ex; subst ey
  unfold PX8_changeChairs
  obtain ⟨a1, b1⟩ := h.1 a ha
  obtain ⟨a2, b2⟩ := h.1 b hb
  rw [nI_clamp (by omega), nI_clamp (by omega), a1, a2]
  refine ⟨pk_in a 6 ha, fun x1 e1 => ⟨pk_in b 6 hb, pk_in a 6 ha, fun σ2 e2 => ⟨pk_in b 6 hb, fun σ3 e3 => ?_⟩⟩⟩
  subst e1
  exact hk σ3 (by rw [e3, e2]; exact (KK.I rfl).tr (KK.I rfl)) (by rw [e3, e2]; exact h.swap ha hb e0)
section N
variable {τ0 : XS} {nn : Nat} {post : XS → Prop} {kx : Int32 → XS → Prop} {l : List Ev}
theorem nightA (hM : Md τ0) (h40 : nn < 40) (hk : ∀ τ, KK mw τ0 τ → RM τ (l ++ (aS τ0 nn).map (evM τ0)) → kx (nI (vN τ0 24 18)) τ) : ∀ (n m : Nat) (τ : XS), m ≤ vN τ0 24 18 → vN τ0 24 18 < m + n → KK mw τ0 τ → RM τ (l ++ (rf (fun k => vN τ0 36 k == nn) m).map (evM τ0)) → LX8_goNight_25 (nI nn) post kx n (nI m) τ := by
  obtain ⟨⟨c1, c2⟩, -, -, hA, -⟩ := hM
  intro n
  induction n with
  | zero => intro m τ h1 h2; omega
  | succ n ih =>
    intro m τ h1 h2 K hr
    rw [LX8_goNight_25, K.1 24 18 rfl, c1, nI_leI (by omega) (by omega), nI_clamp (by omega), K.1 36 m rfl, K.1 35 m rfl]
    refine ⟨fun h => ?_, fun h => ?_⟩
    · obtain e : m = vN τ0 24 18 := by omega
      rw [e] at hr ⊢
      exact hk τ K hr
    · obtain ⟨d1, d2⟩ := hA m (by omega)
      obtain ⟨f1, f2⟩ := cnt d2 (by decide)
      obtain ⟨g1, g2⟩ := cnt d1 (by decide)
      have v := pk_in m 6 (by omega)
      have es := rf_s (fun k => vN τ0 36 k == nn) m
      rw [f1, nI_eq (by omega) (by omega)]
      refine ⟨v, fun w => ⟨v, ?_⟩, fun w x ex => ?_⟩
      · have e : vN τ0 36 m == nn := by rw [beq_iff_eq]; exact w
        rw [if_pos e] at es
        have ee : evM τ0 m = (0, vN τ0 35 m, 0) := by unfold evM; rw [if_pos (by omega), if_pos (by omega)]
        refine mW hr g2 g1 ee (fun τ' K' h' x ex => ?_)
        rw [ex, nI_1]
        refine ih (m + 1) τ' (by omega) (by omega) (K.tr K') ?_
        rw [es, List.map_append, ← List.append_assoc]; exact h'
      · have e : ¬ (vN τ0 36 m == nn) = true := by rw [beq_iff_eq]; exact w
        rw [if_neg e] at es
        rw [ex, nI_1]
        refine ih (m + 1) τ (by omega) (by omega) K ?_
        rw [es]; exact hr
theorem nightB (hM : Md τ0) (h40 : nn < 40) (hk : ∀ τ, KK mw τ0 τ → RM τ (l ++ (bS' τ0 nn).map (evM τ0)) → kx (nI (vN τ0 24 14)) τ) : ∀ (n m : Nat) (τ : XS), m ≤ vN τ0 24 14 → vN τ0 24 14 < m + n → KK mw τ0 τ → RM τ (l ++ ((rf (fun k => vN τ0 34 k == nn) m).map (fun k => 7 + k)).map (evM τ0)) → LX8_goNight_68 (nI nn) post kx n (nI m) τ := by
  obtain ⟨-, ⟨c1, c2⟩, -, -, hA, -⟩ := hM
  intro n
  induction n with
  | zero => intro m τ h1 h2; omega
  | succ n ih =>
    intro m τ h1 h2 K hr
    rw [LX8_goNight_68, K.1 24 14 rfl, c1, nI_leI (by omega) (by omega), nI_clamp (by omega), K.1 34 m rfl, K.1 32 m rfl, K.1 33 m rfl]
    refine ⟨fun h => ?_, fun h => ?_⟩
    · obtain e : m = vN τ0 24 14 := by omega
      rw [e] at hr ⊢
      exact hk τ K hr
    · obtain ⟨d1, d2, d3⟩ := hA m (by omega)
      obtain ⟨f1, f2⟩ := cnt d3 (by decide)
      obtain ⟨g1, g2⟩ := cnt d1 (by decide)
      obtain ⟨i1, i2⟩ := cnt d2 (by decide)
      have v := pk_in m 6 (by omega)
      have es := rf_s (fun k => vN τ0 34 k == nn) m
      rw [f1, nI_eq (by omega) (by omega)]
      refine ⟨v, fun w => ⟨v, v, ?_⟩, fun w x ex => ?_⟩
      · have e : vN τ0 34 m == nn := by rw [beq_iff_eq]; exact w
        rw [if_pos e] at es
        have ee : evM τ0 (7 + m) = (1, vN τ0 32 m, vN τ0 33 m) := by
          unfold evM
          rw [if_neg (by omega), if_pos (by omega), if_pos (by omega), if_pos (by omega), show 7 + m - 7 = m by omega]
        refine mS hr g2 i2 g1 i1 ee (fun τ' K' h' x ex => ?_)
        rw [ex, nI_1]
        refine ih (m + 1) τ' (by omega) (by omega) (K.tr K') ?_
        rw [es, List.map_append, List.map_append, ← List.append_assoc]; exact h'
      · have e : ¬ (vN τ0 34 m == nn) = true := by rw [beq_iff_eq]; exact w
        rw [if_neg e] at es
        rw [ex, nI_1]
        refine ih (m + 1) τ (by omega) (by omega) K ?_
        rw [es]; exact hr
theorem nightS (hM : Md τ0) (h40 : nn < 40) (hb : prs (l ++ (sS τ0 nn).map (evM τ0)) ≤ 25) (hk : ∀ τ, KK mw τ0 τ → RM τ (l ++ (sS τ0 nn).map (evM τ0)) → kx (nI (vN τ0 24 10)) τ) : ∀ (n m : Nat) (τ : XS), m ≤ vN τ0 24 10 → vN τ0 24 10 < m + n → KK mw τ0 τ → RM τ (l ++ ((rf (fun k => vN τ0 31 k == nn && ne (wo τ0) k) m).map (fun k => 14 + k)).map (evM τ0)) → LX8_goNight_130 (nI nn) post kx n (nI m) τ := by
  obtain ⟨-, -, ⟨c1, c2⟩, -, -, hA, -, -, hW⟩ := hM
  intro n
  induction n with
  | zero => intro m τ h1 h2; omega
  | succ n ih =>
    intro m τ h1 h2 K hr
    rw [LX8_goNight_130, K.1 24 10 rfl, c1, nI_leI (by omega) (by omega), nI_clamp (by omega), K.1 31 m rfl, K.1 30 m rfl, K.1 24 21 rfl]
    refine ⟨fun h => ?_, fun h => ?_⟩
    · obtain e : m = vN τ0 24 10 := by omega
      rw [e] at hr ⊢
      exact hk τ K hr
    · obtain ⟨d1, d3⟩ := hA m (by omega)
      obtain ⟨f1, f2⟩ := cnt d3 (by decide)
      obtain ⟨g1, g2⟩ := cnt d1 (by decide)
      have v := pk_in m 25 (by omega)
      have es := rf_s (fun k => vN τ0 31 k == nn && ne (wo τ0) k) m
      have hwo : (nI m = gI τ0 24 21) ↔ ¬ ne (wo τ0) m = true := by
        unfold ne wo
        rcases hW with hW | hW
        · rw [if_pos hW, hW]
          refine ⟨fun w => absurd w (nI_ne9 (by omega)), fun w => ?_⟩
          exfalso; apply w; simp; omega
        · rw [if_neg (vne9 hW)]
          obtain ⟨z1, z2⟩ := cnt hW (by decide)
          rw [z1, nI_eq (by omega) (by omega)]
          simp
      rw [f1, nI_eq (by omega) (by omega)]
      have skip : ¬ (vN τ0 31 m == nn && ne (wo τ0) m) = true → ∀ x : Int32, x = nI m + 1 → LX8_goNight_130 (nI nn) post kx n x τ := by
        intro e x ex
        rw [if_neg e] at es
        rw [ex, nI_1]
        refine ih (m + 1) τ (by omega) (by omega) K ?_
        rw [es]; exact hr
      refine ⟨v, fun w => ⟨fun w2 => skip ?_, fun w2 => ⟨v, ?_⟩⟩, fun w => skip ?_⟩
      · rw [hwo] at w2
        rw [Bool.and_eq_true]
        exact fun q => w2 q.2
      · rw [hwo] at w2
        have e : (vN τ0 31 m == nn && ne (wo τ0) m) = true := by
          rw [Bool.and_eq_true, beq_iff_eq]
          exact ⟨w, by simpa using w2⟩
        rw [if_pos e] at es
        have ee : evM τ0 (14 + m) = (2, vN τ0 30 m, m) := by
          unfold evM
          rw [if_neg (by omega), if_neg (by omega), show 14 + m - 14 = m by omega]
        have eL : (l ++ ((rf (fun k => vN τ0 31 k == nn && ne (wo τ0) k) m).map (fun k => 14 + k)).map (evM τ0)) ++ [evM τ0 (14 + m)] = l ++ ((rf (fun k => vN τ0 31 k == nn && ne (wo τ0) k) (m + 1)).map (fun k => 14 + k)).map (evM τ0) := by
          rw [es, List.map_append, List.map_append, ← List.append_assoc]; rfl
        have h24 : prs (l ++ ((rf (fun k => vN τ0 31 k == nn && ne (wo τ0) k) m).map (fun k => 14 + k)).map (evM τ0)) ≤ 24 := by
          have a1 := prs_p (l := (l ++ ((rf (fun k => vN τ0 31 k == nn && ne (wo τ0) k) m).map (fun k => 14 + k)).map (evM τ0))) (e := evM τ0 (14 + m)) (by rw [ee])
          rw [eL] at a1
          obtain ⟨r, er⟩ := rf_split (fun k => vN τ0 31 k == nn && ne (wo τ0) k) (m + 1) (vN τ0 24 10 - (m + 1))
          rw [show m + 1 + (vN τ0 24 10 - (m + 1)) = vN τ0 24 10 by omega] at er
          unfold sS at hb
          rw [er, List.map_append, List.map_append, ← List.append_assoc, prs_app] at hb
          omega
        obtain ⟨u1, u2⟩ := hr.1 _ g2
        obtain ⟨u3, u4⟩ := hr.2.1 _ u2
        rw [g1, nI_clamp (by omega), u1]
        refine ⟨pk_in _ 6 g2, fun x22 e22 => ?_⟩
        subst e22
        rw [nI_clamp (by omega), u3, show (25 : Int32) * nI ((play (l ++ ((rf (fun k => vN τ0 31 k == nn && ne (wo τ0) k) m).map (fun k => 14 + k)).map (evM τ0)) ch0).1 (vN τ0 30 m)) + nI ((play (l ++ ((rf (fun k => vN τ0 31 k == nn && ne (wo τ0) k) m).map (fun k => 14 + k)).map (evM τ0)) ch0).2.1 ((play (l ++ ((rf (fun k => vN τ0 31 k == nn && ne (wo τ0) k) m).map (fun k => 14 + k)).map (evM τ0)) ch0).1 (vN τ0 30 m))) = nI (25 * ((play (l ++ ((rf (fun k => vN τ0 31 k == nn && ne (wo τ0) k) m).map (fun k => 14 + k)).map (evM τ0)) ch0).1 (vN τ0 30 m)) + ((play (l ++ ((rf (fun k => vN τ0 31 k == nn && ne (wo τ0) k) m).map (fun k => 14 + k)).map (evM τ0)) ch0).2.1 ((play (l ++ ((rf (fun k => vN τ0 31 k == nn && ne (wo τ0) k) m).map (fun k => 14 + k)).map (evM τ0)) ch0).1 (vN τ0 30 m)))) by rw [show (25 : Int32) = nI 25 from rfl, pk_mul, nI_add], nI_clamp (by omega)]
        refine ⟨pk_in _ 6 u2, vp_in_nI (by omega) (by decide), fun σ23 e23 => ⟨pk_in _ 6 u2, pk_in _ 6 u2, fun σ24 e24 x ex => ?_⟩⟩
        have u5 : gI σ23 38 ((play (l ++ ((rf (fun k => vN τ0 31 k == nn && ne (wo τ0) k) m).map (fun k => 14 + k)).map (evM τ0)) ch0).1 (vN τ0 30 m)) = nI ((play (l ++ ((rf (fun k => vN τ0 31 k == nn && ne (wo τ0) k) m).map (fun k => 14 + k)).map (evM τ0)) ch0).2.1 ((play (l ++ ((rf (fun k => vN τ0 31 k == nn && ne (wo τ0) k) m).map (fun k => 14 + k)).map (evM τ0)) ch0).1 (vN τ0 30 m))) := by rw [e23, gI_sIj _ _ (by decide)]; exact u3
        rw [u5, nI_1] at e24
        rw [ex, nI_1]
        refine ih (m + 1) σ24 (by omega) (by omega) (K.tr (by rw [e24, e23]; exact (KK.I rfl).tr (KK.I rfl))) ?_
        rw [← eL, e24, e23]
        exact hr.press g2 h24 ee
      · rw [Bool.and_eq_true, beq_iff_eq]
        exact fun q => w q.1
end N
