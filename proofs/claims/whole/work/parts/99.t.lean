/-! ===== look: the nights with one sitting more ===== -/
def BN (σ : XS) (n0 : Nat) : Nat → List Nat
  | 0 => []
  | d + 1 => BN σ n0 d ++ nS σ (n0 + 1 + d)
theorem MS_BN (σ : XS) (n0 : Nat) : ∀ d, MS σ (n0 + 1 + d) = MS σ (n0 + 1) ++ BN σ n0 d := by
  intro d
  induction d with
  | zero => rw [Nat.add_zero]; exact (List.append_nil _).symm
  | succ d ih =>
    show MS σ (n0 + 1 + d) ++ nS σ (n0 + 1 + d) = MS σ (n0 + 1) ++ (BN σ n0 d ++ nS σ (n0 + 1 + d))
    rw [ih, List.append_assoc]
theorem BN_mem {σ : XS} (hM : Md σ) {n0 s : Nat} : ∀ d, n0 + 1 + d ≤ 40 → s ∈ BN σ n0 d → mM σ s ∧ n0 < mN σ s := by
  intro d
  induction d with
  | zero => intro _ h; exact absurd h (List.not_mem_nil)
  | succ d ih =>
    intro hd h
    rcases List.mem_append.mp h with w | w
    · exact ih (by omega) w
    · have := (nS_mem hM (by omega)).mp w
      exact ⟨this.1, by omega⟩
theorem rf_congr {p q : Nat → Bool} {m : Nat} (h : ∀ k, k < m → p k = q k) : rf p m = rf q m := by
  unfold rf
  exact List.filter_congr (fun k hk => h k (List.mem_range.mp hk))
section TS
variable {σ : XS} {c n0 : Nat} {p a : Int32}
theorem tS_sS (hwo : wo σ = 100) (hc : c = vN σ 24 10) (h25 : c < 25) (h40 : n0 < 40) (n : Nat) : sS (tS σ c p a (nI n0)) n = sS σ n ++ (if n = n0 then [14 + c] else []) := by
  have hwo' : wo (tS σ c p a (nI n0)) = 100 := by
    unfold wo at hwo ⊢
    rw [tS_24 _ _ _ _ _ (by decide), tS_v24 _ _ _ _ _ (by decide)]; exact hwo
  have v31 : ∀ k, vN (tS σ c p a (nI n0)) 31 k = if k = c then n0 else vN σ 31 k := by
    intro k
    show (gI (tS σ c p a (nI n0)) 31 k).toNatClampNeg = _
    rw [tS_31]
    by_cases e : k = c
    · rw [if_pos e, if_pos e, nI_clamp (by omega)]
    · rw [if_neg e, if_neg e]; rfl
  unfold sS
  rw [tS_v _ _ _ _ _ (by omega), rf_s, hwo', hwo, ← hc]
  have e1 : rf (fun k => vN (tS σ c p a (nI n0)) 31 k == n && ne 100 k) c = rf (fun k => vN σ 31 k == n && ne 100 k) c := by
    refine rf_congr (fun k hk => ?_)
    rw [v31, if_neg (by omega)]
  rw [e1, v31, if_pos rfl]
  have e2 : ne 100 c = true := by rw [ne_iff]; omega
  rw [e2, Bool.and_true]
  by_cases e : n = n0
  · rw [if_pos (by rw [beq_iff_eq]; exact e.symm), if_pos e, List.map_append]; rfl
  · rw [if_neg (by rw [beq_iff_eq]; exact fun z => e z.symm), if_neg e, List.append_nil]
theorem tS_nS (hwo : wo σ = 100) (hc : c = vN σ 24 10) (h25 : c < 25) (h40 : n0 < 40) (n : Nat) : nS (tS σ c p a (nI n0)) n = nS σ n ++ (if n = n0 then [14 + c] else []) := by
  have v36 : ∀ k, vN (tS σ c p a (nI n0)) 36 k = vN σ 36 k := fun k => by unfold vN; rw [tS_o _ _ _ _ _ (by decide) (by decide) (by decide) (by decide)]
  have v34 : ∀ k, vN (tS σ c p a (nI n0)) 34 k = vN σ 34 k := fun k => by unfold vN; rw [tS_o _ _ _ _ _ (by decide) (by decide) (by decide) (by decide)]
  have eA : aS (tS σ c p a (nI n0)) n = aS σ n := by
    unfold aS
    rw [tS_v24 _ _ _ _ _ (by decide)]
    simp only [v36]
  have eX : xS (tS σ c p a (nI n0)) n = xS σ n := by
    unfold xS
    rw [tS_v24 _ _ _ _ _ (by decide), tS_24 _ _ _ _ _ (by decide)]
  have eB : bS' (tS σ c p a (nI n0)) n = bS' σ n := by
    unfold bS'
    rw [tS_v24 _ _ _ _ _ (by decide)]
    simp only [v34]
  have eY : yS (tS σ c p a (nI n0)) n = yS σ n := by
    unfold yS
    rw [tS_v24 _ _ _ _ _ (by decide), tS_24 _ _ _ _ _ (by decide)]
  unfold nS
  rw [eA, eX, eB, eY, tS_sS hwo hc h25 h40, List.append_assoc, List.append_assoc, List.append_assoc, List.append_assoc]
theorem tS_MS0 (hwo : wo σ = 100) (hc : c = vN σ 24 10) (h25 : c < 25) (h40 : n0 < 40) : ∀ N, N ≤ n0 → MS (tS σ c p a (nI n0)) N = MS σ N := by
  intro N
  induction N with
  | zero => intro _; rfl
  | succ N ih =>
    intro h
    show MS (tS σ c p a (nI n0)) N ++ nS (tS σ c p a (nI n0)) N = MS σ N ++ nS σ N
    rw [ih (by omega), tS_nS hwo hc h25 h40, if_neg (by omega), List.append_nil]
theorem tS_MS1 (hwo : wo σ = 100) (hc : c = vN σ 24 10) (h25 : c < 25) (h40 : n0 < 40) : ∀ d, MS (tS σ c p a (nI n0)) (n0 + 1 + d) = MS σ (n0 + 1) ++ (14 + c) :: BN σ n0 d := by
  intro d
  induction d with
  | zero =>
    show MS (tS σ c p a (nI n0)) n0 ++ nS (tS σ c p a (nI n0)) n0 = (MS σ n0 ++ nS σ n0) ++ [14 + c]
    rw [tS_MS0 hwo hc h25 h40 n0 (Nat.le_refl _), tS_nS hwo hc h25 h40, if_pos rfl, List.append_assoc]
  | succ d ih =>
    show MS (tS σ c p a (nI n0)) (n0 + 1 + d) ++ nS (tS σ c p a (nI n0)) (n0 + 1 + d) = MS σ (n0 + 1) ++ (14 + c) :: (BN σ n0 d ++ nS σ (n0 + 1 + d))
    rw [ih, tS_nS hwo hc h25 h40, if_neg (by omega), List.append_nil, List.append_assoc]
    rfl
theorem tS_ev {n : Int32} {s : Nat} (hs : s ≠ 14 + c) : evM (tS σ c p a n) s = evM σ s := by
  unfold evM
  have v35 : vN (tS σ c p a n) 35 s = vN σ 35 s := by unfold vN; rw [tS_o _ _ _ _ _ (by decide) (by decide) (by decide) (by decide)]
  have v32 : vN (tS σ c p a n) 32 (s - 7) = vN σ 32 (s - 7) := by unfold vN; rw [tS_o _ _ _ _ _ (by decide) (by decide) (by decide) (by decide)]
  have v33 : vN (tS σ c p a n) 33 (s - 7) = vN σ 33 (s - 7) := by unfold vN; rw [tS_o _ _ _ _ _ (by decide) (by decide) (by decide) (by decide)]
  rw [tS_v24 _ _ _ _ _ (by decide), tS_v24 _ _ _ _ _ (by decide), tS_v24 _ _ _ _ _ (by decide), tS_v24 _ _ _ _ _ (by decide), tS_v24 _ _ _ _ _ (by decide), v35, v32, v33]
  by_cases h7 : s < 7
  · rw [if_pos h7, if_pos h7]
  · rw [if_neg h7, if_neg h7]
    by_cases h14 : s < 14
    · rw [if_pos h14, if_pos h14]
    · rw [if_neg h14, if_neg h14]
      have : vN (tS σ c p a n) 30 (s - 14) = vN σ 30 (s - 14) := by
        unfold vN
        rw [tS_30, if_neg (by omega)]
      rw [this]
theorem tS_evc {n : Int32} {t : Nat} (ht : t < 100) : evM (tS σ c p (nI t) n) (14 + c) = (2, t, c) := by
  rw [evM_s' (by omega), show 14 + c - 14 = c by omega]
  have : vN (tS σ c p (nI t) n) 30 c = t := by
    show (gI (tS σ c p (nI t) n) 30 c).toNatClampNeg = t
    rw [tS_30, if_pos rfl, nI_clamp (by omega)]
  rw [this]
end TS
/-- where a gum left at a place on one night lies at the end of another -/
def rest (σ : XS) (n0 e t : Nat) : Option Nat := if n0 ≤ e then reL ((BN σ n0 (e - n0)).map (evM σ)) (some t) else none
def pY (σ : XS) (e : Nat) : Ch := play ((MS σ (e + 1)).map (evM σ)) ch0
theorem okEv_M {σ : XS} (hM : Md σ) {s : Nat} (h : mM σ s) : okEv (evM σ s) := by
  obtain ⟨⟨-, c6⟩, ⟨-, m6⟩, ⟨-, s25⟩, A, B, D, X, Y, -⟩ := hM
  rcases h with w | ⟨w, z⟩ | w | ⟨w, z⟩ | w
  · rw [evM_a' (by omega) w]
    exact ⟨fun _ => vin_lt (A s w).1, fun (q : (0 : Nat) = 1) => absurd q (by decide)⟩
  · rw [evM_x' (by omega) (by omega)]
    rcases X with x | ⟨-, x⟩
    · exact absurd x z
    · exact ⟨fun _ => vin_lt x, fun (q : (0 : Nat) = 1) => absurd q (by decide)⟩
  · rw [evM_b' w.1 (by omega) w.2]
    have := B (s - 7) (by omega)
    exact ⟨fun (q : (1 : Nat) = 0) => absurd q (by decide), fun _ => ⟨vin_lt this.1, vin_lt this.2.1⟩⟩
  · rw [evM_y' (by omega) (by omega) (by omega)]
    rcases Y with y | ⟨-, y1, y2⟩
    · exact absurd y z
    · exact ⟨fun (q : (1 : Nat) = 0) => absurd q (by decide), fun _ => ⟨vin_lt y1, vin_lt y2⟩⟩
  · rw [evM_s' w.1]
    exact ⟨fun (q : (2 : Nat) = 0) => absurd q (by decide), fun (q : (2 : Nat) = 1) => absurd q (by decide)⟩
theorem okEv_MS {σ : XS} (hM : Md σ) {N : Nat} (hN : N ≤ 40) : ∀ e, e ∈ (MS σ N).map (evM σ) → okEv e := by
  intro e he
  obtain ⟨s, hs, rfl⟩ := List.mem_map.mp he
  exact okEv_M hM ((MS_mem hM N hN).mp hs).1
theorem pY_inj {σ : XS} (hM : Md σ) {e : Nat} (he : e < 40) : inj6 (pY σ e) := inj6_play _ _ inj6_0 (okEv_MS hM (by omega))
theorem mM_c {σ : XS} (hM : Md σ) {s : Nat} (h : mM σ s) : s ≠ 14 + vN σ 24 10 := by
  obtain ⟨⟨-, c6⟩, ⟨-, m6⟩, -⟩ := hM
  rcases h with w | w | w | w | w <;> omega
theorem map_tS {σ : XS} (hM : Md σ) {c : Nat} (hc : c = vN σ 24 10) {p a n : Int32} {L : List Nat} (hL : ∀ s, s ∈ L → mM σ s) : L.map (evM (tS σ c p a n)) = L.map (evM σ) := by
  apply List.map_congr_left
  intro s hs
  exact tS_ev (by rw [hc]; exact mM_c hM (hL s hs))
/-- with and without the one sitting more -/
theorem rel_look {σ : XS} (h : Gd σ) {c : Nat} (hc : c = vN σ 24 10) {p : Int32} {n0 e t : Nat} (h40 : n0 < 40) (he : e < 40) (ht : t < 6) : Rel (rest σ n0 e t) ((pY σ n0).1 t) ((pY σ n0).2.1 ((pY σ n0).1 t)) c (pY (tS σ c p (nI t) (nI n0)) e) (pY σ e) := by
  have hM := h.md
  have cs := h.w.2.1.s
  have hwo : wo σ = 100 := by unfold wo; rw [if_pos h.1.2.2.2.2.1]
  unfold rest
  by_cases w : n0 ≤ e
  · rw [if_pos w]
    have e1 : e + 1 = n0 + 1 + (e - n0) := by omega
    have eX : pY (tS σ c p (nI t) (nI n0)) e = play ((BN σ n0 (e - n0)).map (evM σ)) (efP t c (pY σ n0)) := by
      unfold pY
      rw [e1, tS_MS1 hwo hc (by omega) h40, List.map_append, List.map_cons, tS_evc (by omega), map_tS hM hc (fun s hs => ((MS_mem hM (n0 + 1) (by omega)).mp hs).1), map_tS hM hc (fun s hs => (BN_mem hM _ (by omega) hs).1), play_app]
      rfl
    have eY : pY σ e = play ((BN σ n0 (e - n0)).map (evM σ)) (pY σ n0) := by
      unfold pY
      rw [e1, MS_BN, List.map_append, play_app]
    rw [eX, eY]
    refine rel_play _ _ _ _ (rel_press ht _) (pY_inj hM h40) (fun e' he' => ?_)
    obtain ⟨s, hs, rfl⟩ := List.mem_map.mp he'
    exact okEv_M hM (BN_mem hM _ (by omega) hs).1
  · rw [if_neg w]
    have eX : pY (tS σ c p (nI t) (nI n0)) e = pY σ e := by
      unfold pY
      rw [tS_MS0 hwo hc (by omega) h40 (e + 1) (by omega), map_tS hM hc (fun s hs => ((MS_mem hM (e + 1) (by omega)).mp hs).1)]
    rw [eX]
    exact ⟨rfl, rfl, fun _ _ _ => rfl⟩
theorem rest_inj {σ : XS} (h : Gd σ) {n0 e t t' w : Nat} (h40 : n0 < 40) (he : e < 40) (ht : t < 6) (ht' : t' < 6) (e1 : rest σ n0 e t = some w) (e2 : rest σ n0 e t' = some w) : t = t' := by
  have r1 := rel_look h rfl (p := 0) h40 he ht
  have r2 := rel_look h rfl (p := 0) h40 he ht'
  rw [e1] at r1
  rw [e2] at r2
  exact pY_inj h.md h40 t t' ht ht' (r1.2.1.symm.trans r2.2.1)
theorem rest_lt {σ : XS} (h : Gd σ) {n0 e t w : Nat} (h40 : n0 < 40) (he : e < 40) (ht : t < 6) (e1 : rest σ n0 e t = some w) : w < 6 := by
  have r1 := rel_look h rfl (p := 0) h40 he ht
  rw [e1] at r1
  exact r1.1
/-! the class's way to it -/
def rsC (σ : XS) (n0 : Nat) (o : Option Nat) (s : Nat) : Option Nat := if vN σ 6 s ≤ n0 then o else o.bind (re (evC σ s))
def rsL (σ : XS) (n0 : Nat) (L : List Nat) (o : Option Nat) : Option Nat := L.foldl (rsC σ n0) o
theorem rsL_none (σ : XS) (n0 : Nat) : ∀ L : List Nat, rsL σ n0 L none = none := by
  intro L
  induction L with
  | nil => rfl
  | cons s L ih =>
    show rsL σ n0 L (rsC σ n0 none s) = none
    have : rsC σ n0 none s = none := by unfold rsC; split <;> rfl
    rw [this]; exact ih
theorem rsL_b (σ : XS) (n0 : Nat) : ∀ (L : List Nat) (o : Option Nat), rsL σ n0 L o = rsL σ n0 (L.filter b39) o := by
  intro L
  induction L with
  | nil => intro o; rfl
  | cons s L ih =>
    intro o
    rw [List.filter_cons]
    by_cases h : s < 39
    · rw [if_pos (by unfold b39; simp [h])]
      exact ih _
    · rw [if_neg (by unfold b39; simp [h])]
      show rsL σ n0 L (rsC σ n0 o s) = _
      have : rsC σ n0 o s = o := by
        unfold rsC
        rw [evC_r h]
        split
        · rfl
        · cases o <;> rfl
      rw [this]; exact ih o
theorem rsL_low {σ : XS} {n0 : Nat} : ∀ (L : List Nat) (o : Option Nat), (∀ s, s ∈ L → vN σ 6 s ≤ n0) → rsL σ n0 L o = o := by
  intro L
  induction L with
  | nil => intro o _; rfl
  | cons s L ih =>
    intro o h
    show rsL σ n0 L (rsC σ n0 o s) = o
    have : rsC σ n0 o s = o := by unfold rsC; rw [if_pos (h s (List.mem_cons_self ..))]
    rw [this]
    exact ih o (fun s hs => h s (List.mem_cons_of_mem _ hs))
theorem rsL_high {σ : XS} {n0 : Nat} : ∀ (L : List Nat) (o : Option Nat), (∀ s, s ∈ L → n0 < vN σ 6 s ∧ evC σ s = evM σ s) → rsL σ n0 L o = reL (L.map (evM σ)) o := by
  intro L
  induction L with
  | nil => intro o _; rfl
  | cons s L ih =>
    intro o h
    show rsL σ n0 L (rsC σ n0 o s) = reL (L.map (evM σ)) (o.bind (re (evM σ s)))
    obtain ⟨h1, h2⟩ := h s (List.mem_cons_self ..)
    have : rsC σ n0 o s = o.bind (re (evM σ s)) := by unfold rsC; rw [if_neg (by omega), h2]
    rw [this]
    exact ih _ (fun s hs => h s (List.mem_cons_of_mem _ hs))
theorem rsL_app (σ : XS) (n0 : Nat) (L L' : List Nat) (o : Option Nat) : rsL σ n0 (L ++ L') o = rsL σ n0 L' (rsL σ n0 L o) := List.foldl_append
theorem rsL_rest {σ : XS} (h : Gd σ) {n0 e t m : Nat} (he : e < 40) (hle : n0 ≤ e) (hm : m ≤ tot σ) (h1 : ∀ i, i < m → vN σ 6 (vN σ 10 i) ≤ e) (h2 : m = tot σ ∨ e < vN σ 6 (vN σ 10 m)) : rsL σ n0 (ordL σ m) (some t) = rest σ n0 e t := by
  have hM := h.md
  have hL := h.lk
  obtain ⟨hO, hT⟩ := h.w.o
  have hl48 : ∀ s, live σ s → s < 48 := fun s hs => by have := (h.w.lv hs).1; omega
  have cl := cl_eq hM hO hL hm he (fun s _ => to_mem hO hl48 hm h1 h2 s)
  have ef : (ordL σ m).filter (ne 100) = ordL σ m := by
    rw [List.filter_eq_self]
    intro s hs
    obtain ⟨i, hi, rfl⟩ := ord_mem.mp hs
    have := hl48 _ (hO.2.1 i (by omega)).2
    rw [ne_iff]; omega
  unfold clL at cl
  rw [ef] at cl
  rw [rsL_b, cl, show e + 1 = n0 + 1 + (e - n0) by omega, MS_BN, rsL_app, rsL_low (MS σ (n0 + 1)), rsL_high]
  · unfold rest; rw [if_pos hle]
  · intro s hs
    obtain ⟨q, w⟩ := BN_mem hM _ (by omega) hs
    obtain ⟨x, y⟩ := hL.2 s q
    exact ⟨by omega, y⟩
  · intro s hs
    obtain ⟨q, w⟩ := (MS_mem hM (n0 + 1) (by omega)).mp hs
    have := (hL.2 s q).1
    omega
def oI (o : Option Nat) : Int32 := match o with
  | none => -9
  | some r => nI r
theorem ord_S (σ : XS) (n0 m : Nat) (o : Option Nat) : rsL σ n0 (ordL σ (m + 1)) o = rsC σ n0 (rsL σ n0 (ordL σ m) o) (vN σ 10 m) := by
  rw [ordL_s, rsL_app]
  rfl
