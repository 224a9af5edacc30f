/-! ===== look: gums as numbers; how many leave the same ===== -/
theorem fickle_n {j n0 : Nat} (hj : j < 4) (h40 : n0 < 40) : fickle (nI j) (nI n0) = nI ((j + n0 / 10) % 4) := by
  unfold fickle
  rw [show (10 : Int32) = nI 10 from rfl, pk_div (by omega) (by decide) (by decide), nI_add, show (4 : Int32) = nI 4 from rfl, pk_rem (by omega) (by decide) (by decide)]
theorem gumv_in {k f : Int32} {n0 : Nat} (hf : vp_in f 4) (h40 : n0 < 40) : vp_in (gumv k f (nI n0)) 8 := by
  obtain ⟨j, hj, rfl⟩ := vp_in_of hf (by decide)
  unfold gumv
  rw [fickle_n hj h40]
  by_cases a : k = 0
  · rw [if_pos a]; exact pk_in j 8 (by omega)
  · rw [if_neg a]
    by_cases b : k = 2
    · rw [if_pos b, show (4 : Int32) = nI 4 from rfl, nI_add]
      exact vp_in_nI (by omega) (by decide)
    · rw [if_neg b]
      exact vp_in_nI (by omega) (by decide)
def gpN (σ : XS) (n0 p : Nat) : Nat := (gumv (gI σ 25 p) (gI σ 26 p) (nI n0)).toNatClampNeg
theorem Gw.fl {σ : XS} (hw : Gw σ) {p : Nat} (hp : p < vN σ 24 2) : vp_in (gI σ 26 p) 4 := by
  obtain ⟨a, -, -, -, e4, e5⟩ := hw.2.2.1 p hp
  rw [e4]; exact e5
theorem gpN_eq {σ : XS} (hw : Gw σ) {n0 p : Nat} (h40 : n0 < 40) (hp : p < vN σ 24 2) : gumv (gI σ 25 p) (gI σ 26 p) (nI n0) = nI (gpN σ n0 p) ∧ gpN σ n0 p < 8 := by
  have v := gumv_in (k := gI σ 25 p) (hw.fl hp) h40
  exact ⟨vin_nI v (by decide), vin_lt v⟩
def r3 (j _k : Nat) : Bool := j == 3
theorem Gw.k3 {σ σ' : XS} (h : Gw σ) (K : KK r3 σ σ') : Gw σ' := by
  refine h.k ⟨fun j k hs => K.1 j k ?_, by rw [K.2]⟩
  unfold scr at hs
  unfold r3
  simp only [Bool.or_eq_false_iff] at hs
  exact hs.1
def agc (σ : XS) (n0 m g : Nat) : Nat := ct (fun p => fP σ n0 p && (gpN σ n0 p == g)) m
theorem agc_s (σ : XS) (n0 m g : Nat) : agc σ n0 (m + 1) g = agc σ n0 m g + if fP σ n0 m = true ∧ gpN σ n0 m = g then 1 else 0 := by
  unfold agc
  rw [ct_s]
  simp only [Bool.and_eq_true, beq_iff_eq]
def mostM (σ : XS) (n0 m M : Nat) : Prop := isM (fun v => ∃ g, g < 8 ∧ agc σ n0 m g = v) M
theorem mostL {σ0 : XS} (h0 : Gw σ0) {n0 : Nat} (h40 : n0 < 40) {post : Int32 → XS → Prop} {kx : Int32 → Int32 → XS → Prop} (hk : ∀ M x σ', KK r3 σ0 σ' → M < 100 → mostM σ0 n0 (vN σ0 24 2) M → kx (nI M) x σ') : ∀ (n m M : Nat) (σ : XS), m ≤ vN σ0 24 2 → vN σ0 24 2 < m + n → KK r3 σ0 σ → (∀ g, g < 8 → gI σ 3 g = nI (agc σ0 n0 m g)) → mostM σ0 n0 m M → M ≤ m → LX7_mostAlike_12 (nI n0) post kx n (nI M) (nI m) σ := by
  have cp := h0.2.1.p
  intro n
  induction n with
  | zero => intro m M σ h1 h2; omega
  | succ n ih =>
    intro m M σ h1 h2 K hg hM hMm
    have hw := h0.k3 K
    have ev : vN σ 24 2 = vN σ0 24 2 := by unfold vN; rw [K.1 24 2 rfl]
    have es : vN σ 24 10 = vN σ0 24 10 := by unfold vN; rw [K.1 24 10 rfl]
    have e6 : gI σ 0 6 = nI (vN σ0 24 2) := by rw [K.1 0 6 rfl, h0.1.1]; exact cp.1
    rw [LX7_mostAlike_12, e6, nI_leI (by omega) (by omega)]
    refine ⟨fun z => ?_, fun z => wX7_gumLeft hw (by omega) ?_⟩
    · obtain rfl : m = vN σ0 24 2 := by omega
      exact hk M _ σ K (by omega) hM
    · obtain ⟨g1, g2⟩ := gpN_eq h0 (p := m) h40 (by omega)
      rw [K.1 25 m rfl, K.1 26 m rfl, g1]
      have v8 : vp_in (nI (gpN σ0 n0 m)) 8 := pk_in _ 8 g2
      have skip : fP σ0 n0 m = false → ∀ x : Int32, x = nI m + 1 → LX7_mostAlike_12 (nI n0) post kx n (nI M) x σ := by
        intro hf x ex
        have ea : ∀ g, agc σ0 n0 (m + 1) g = agc σ0 n0 m g := by
          intro g
          rw [agc_s, if_neg (fun w => by rw [hf] at w; exact absurd w.1 (by decide)), Nat.add_zero]
        rw [ex, nI_1]
        refine ih (m + 1) M σ (by omega) (by omega) K (fun g hg8 => by rw [ea]; exact hg g hg8) ?_ (by omega)
        unfold mostM
        simp only [ea]
        exact hM
      refine wX7_isGum (fun _ => ⟨fun w => absurd w (by decide), fun _ => ?_⟩) (fun w => absurd v8 w)
      refine wX7_placeOn hw (fun j hj e1 e2 => ?_) (fun hz => ?_)
      · have d := hw.sv hj
        refine ⟨fun w => ?_, fun _ => skip ?_⟩
        · rw [d.2.1.1] at w
          have := hw.2.1.q
          exact absurd w (nI_ne9 (by omega))
        · cases ef : fP σ0 n0 m with
          | false => rfl
          | true =>
            exfalso
            rw [d.2.2.1, nI_eq (by omega) (by omega)] at e1
            rw [d.1.1, nI_eq (by omega) (by omega)] at e2
            have q31 : vN σ 31 j = vN σ0 31 j := by unfold vN; rw [K.1 31 j rfl]
            have q29 : vN σ 29 j = vN σ0 29 j := by unfold vN; rw [K.1 29 j rfl]
            exact fP_iff.mp ef j (by omega) (by omega) (by omega)
      · have hf : fP σ0 n0 m = true := by
          rw [fP_iff]
          intro k hk e1 e2
          obtain ⟨a1, a2, a3⟩ := h0.sv hk
          exact hz k (by omega) (by rw [K.1 31 k rfl, a3.1, e1]) (by rw [K.1 29 k rfl, a1.1, e2])
        obtain ⟨G, eG⟩ : ∃ G, G = gpN σ0 n0 m := ⟨_, rfl⟩
        rw [← eG] at g2 v8 ⊢
        have ea : ∀ g, agc σ0 n0 (m + 1) g = agc σ0 n0 m g + if G = g then 1 else 0 := by
          intro g
          rw [agc_s, eG]
          by_cases w : gpN σ0 n0 m = g
          · rw [if_pos ⟨hf, w⟩, if_pos w]
          · rw [if_neg (fun z => w z.2), if_neg w]
        have le5 : agc σ0 n0 m G ≤ m := ct_le _ _
        rw [nI_clamp (by omega), hg G g2, nI_1]
        refine ⟨fun _ => ⟨v8, v8, fun σ10 e10 => ⟨v8, fun x11 e11 x12 e12 => ?_⟩⟩, fun w => absurd rfl w⟩
        have g10 : gI σ10 3 G = nI (agc σ0 n0 m G + 1) := by rw [e10, gI_sIe]
        rw [g10] at e11
        have e11' : x11 = nI (if M < agc σ0 n0 m G + 1 then agc σ0 n0 m G + 1 else M) := by
          rw [e11]
          by_cases w : M < agc σ0 n0 m G + 1
          · rw [if_pos ((nI_ltI (by omega) (by omega)).mpr w), if_pos w]
          · rw [if_neg (fun z => w ((nI_ltI (by omega) (by omega)).mp z)), if_neg w]
        rw [e11', e12, nI_1]
        refine ih (m + 1) _ σ10 (by omega) (by omega) (K.tr (by rw [e10]; exact KK.I rfl)) (fun g hg8 => ?_) ?_ ?_
        · rw [e10, gI_upd, ea]
          by_cases w : g = G
          · rw [if_pos w, if_pos w.symm, w]
          · rw [if_neg w, if_neg (fun z => w z.symm), Nat.add_zero]; exact hg g hg8
        · obtain ⟨M1, M2⟩ := hM
          refine ⟨?_, ?_⟩
          · rintro v ⟨g, hg8, rfl⟩
            rw [ea]
            have := M1 _ ⟨g, hg8, rfl⟩
            by_cases w : G = g
            · subst w
              rw [if_pos rfl]
              split <;> omega
            · rw [if_neg w]
              split <;> omega
          · by_cases w : M < agc σ0 n0 m G + 1
            · rw [if_pos w]
              exact Or.inr ⟨G, g2, by rw [ea, if_pos rfl]⟩
            · rw [if_neg w]
              rcases M2 with M2 | ⟨g, hg8, eg⟩
              · omega
              · refine Or.inr ⟨g, hg8, ?_⟩
                rw [ea, if_neg (fun z => by rw [z] at w; omega)]; exact eg
        · split <;> omega
theorem wMost {σ : XS} (h0 : Gw σ) {n0 : Nat} (h40 : n0 < 40) {post : Int32 → XS → Prop} (hk : ∀ M σ', KK r3 σ σ' → M < 100 → mostM σ n0 (vN σ 24 2) M → post (nI M) σ') : PX7_mostAlike (nI n0) σ post := by
  unfold PX7_mostAlike
  have cp := h0.2.1.p
  refine wFill (by decide) ?_
  refine mostL h0 h40 (fun M _ σ' K h1 h2 => hk M σ' K h1 h2) 1000 0 0 _ (by omega) (by omega) (KK.R (fun _ => rfl)) (fun g hg => ?_) ⟨?_, Or.inl rfl⟩ (by omega)
  · rw [gI_row, if_pos hg]; rfl
  · rintro v ⟨g, hg, rfl⟩
    exact Nat.le_refl 0
/-! the least of the greatest -/
def stp (V : Nat → Nat) (w : Nat) (s : Nat × Nat) : Nat × Nat := if V w < s.2 then (w, V w) else s
def lkV (V : Nat → Nat) (m : Nat) : Nat × Nat := fd (stp V) m (0, 99)
theorem lkV_s (V : Nat → Nat) (m : Nat) : lkV V (m + 1) = stp V m (lkV V m) := rfl
theorem lkV_b {V : Nat → Nat} (m : Nat) : (lkV V m).1 ≤ m ∧ (lkV V m).2 ≤ 99 := by
  induction m with
  | zero => exact ⟨Nat.le_refl _, Nat.le_refl _⟩
  | succ m ih =>
    rw [lkV_s]
    unfold stp
    by_cases w : V m < (lkV V m).2
    · rw [if_pos w]; exact ⟨Nat.le_succ m, by show V m ≤ 99; omega⟩
    · rw [if_neg w]; omega
theorem lookL {σ : XS} {V : Nat → Nat} {P S : Nat} {f1 f2 f3 f4 f5 f6 : Int32} (hP : gI σ 0 7 = nI P) (hP7 : P < 7) (hV : ∀ w, w < P → V w < 99) (h5 : ∀ w, w < P → tbit S w = false → f5 = nI (V w)) (h6 : ∀ w, w < P → tbit S w = true → f6 = nI (V w)) {post : Int32 → XS → Prop} {kx : Int32 → Int32 → Int32 → XS → Prop} (hk : kx (nI (lkV V P).1) (nI (lkV V P).2) (nI P) σ) : ∀ (n m : Nat), m ≤ P → P < m + n → LX7_look_106 f1 f2 f3 f4 f5 f6 (nI S) post kx n (nI (lkV V m).1) (nI (lkV V m).2) (nI m) σ := by
  intro n
  induction n with
  | zero => intro m h1 h2; omega
  | succ n ih =>
    intro m h1 h2
    rw [LX7_look_106, hP, nI_leI (by omega) (by omega)]
    refine ⟨fun z => ?_, fun z => ?_⟩
    · obtain rfl : m = P := by omega
      exact hk
    · rw [tbit_w]
      have q := ih (m + 1) (by omega) (by omega)
      rw [lkV_s] at q
      unfold stp at q
      have vb := hV m (by omega)
      have lb := (lkV_b (V := V) m).2
      have go : ∀ f : Int32, f = nI (V m) → ((nI (lkV V m).2 ≤ f → (∀ x : Int32, x = nI m + 1 → LX7_look_106 f1 f2 f3 f4 f5 f6 (nI S) post kx n (nI (lkV V m).1) (nI (lkV V m).2) x σ)) ∧ (¬ nI (lkV V m).2 ≤ f → (∀ x : Int32, x = nI m + 1 → LX7_look_106 f1 f2 f3 f4 f5 f6 (nI S) post kx n (nI m) f x σ))) := by
        intro f ef
        rw [ef, nI_leI (by omega) (by omega)]
        refine ⟨fun w x ex => ?_, fun w x ex => ?_⟩
        · rw [if_neg (by omega)] at q
          rw [ex, nI_1]; exact q
        · rw [if_pos (by omega)] at q
          rw [ex, nI_1]; exact q
      refine ⟨fun w => go f5 (h5 m (by omega) w), fun w => go f6 (h6 m (by omega) ?_)⟩
      cases e : tbit S m with
      | false => exact absurd e w
      | true => rfl
