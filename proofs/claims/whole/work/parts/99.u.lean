/-! ===== look: the class's side ===== -/
theorem restL {σ : XS} (h : Gd σ) {n0 e t M : Nat} {f1 : Int32} (h40 : n0 < 40) (he : e < 40) (hle : n0 ≤ e) (hm : M ≤ tot σ) (hm1 : ∀ i, i < M → vN σ 6 (vN σ 10 i) ≤ e) (hm2 : M = tot σ ∨ e < vN σ 6 (vN σ 10 M)) {post : Int32 → Prop} {kx : Int32 → Int32 → Prop} (hx : rest σ n0 e t = none → post (-9)) (hk : ∀ r x, rest σ n0 e t = some r → kx (nI r) x) : ∀ (n m r : Nat), m ≤ M → M < m + n → r < 6 → rsL σ n0 (ordL σ m) (some t) = some r → LX5_restOf_14 σ f1 (nI n0) (nI e) post kx n (nI r) (nI m) := by
  obtain ⟨hO, hT⟩ := h.w.o
  have fin := rsL_rest h (t := t) he hle hm hm1 hm2
  intro n
  induction n with
  | zero => intro m r h1 h2; omega
  | succ n ih =>
    intro m r h1 h2 hr hs
    rw [LX5_restOf_14, hO.1, nI_leI (by omega) (by omega), nI_clamp (by omega)]
    by_cases em : m = M
    · subst em
      rw [hs] at fin
      refine ⟨fun _ => hk r _ fin.symm, fun z => ?_⟩
      rcases hm2 with w | w
      · omega
      · obtain ⟨b1, b2⟩ := hO.2.1 m (by omega)
        obtain ⟨oe, on⟩ := h.okE b2
        have s48 := oe.1
        obtain ⟨c1, c2⟩ := cnt on (by decide)
        rw [b1, nI_clamp (by omega), c1, nI_ltI (by omega) (by omega)]
        exact ⟨pk_in m 48 (by omega), pk_in _ 48 s48, fun _ => hk r _ fin.symm, fun q => absurd w q⟩
    · refine ⟨fun z => by omega, fun z => ?_⟩
      obtain ⟨b1, b2⟩ := hO.2.1 m (by omega)
      obtain ⟨oe, on⟩ := h.okE b2
      have nle := hm1 m (by omega)
      obtain ⟨s, es⟩ : ∃ s, s = vN σ 10 m := ⟨_, rfl⟩
      have sS := ord_S σ n0 m (some t)
      rw [hs] at sS
      rw [← es] at b1 b2 oe on nle sS
      obtain ⟨s48, o7, o8⟩ := oe
      obtain ⟨c1, c2⟩ := cnt on (by decide)
      rw [b1, nI_clamp (by omega), c1, nI_ltI (by omega) (by omega)]
      refine ⟨pk_in m 48 (by omega), pk_in s 48 s48, fun q => absurd nle (by omega), fun _ => ⟨pk_in m 48 (by omega), fun x4 e4 => ?_⟩⟩
      subst e4
      rw [nI_clamp (by omega), c1, nI_leI (by omega) (by omega)]
      have next : ∀ r', r' < 6 → rsC σ n0 (some r) s = some r' → ∀ x : Int32, x = nI m + 1 → LX5_restOf_14 σ f1 (nI n0) (nI e) post kx n (nI r') x := by
        intro r' hr' e' x ex
        rw [ex, nI_1]
        exact ih (m + 1) r' (by omega) (by omega) hr' (sS.trans e')
      have v48 : vp_in (nI s) 48 := pk_in s 48 s48
      refine ⟨v48, fun w => next r hr ?_, fun w => wKind s48 ⟨fun k0 => ⟨v48, ?_⟩, fun k0 => wKind s48 ⟨fun k1 => ⟨v48, v48, ?_⟩, fun k1 => next r hr ?_⟩⟩⟩
      · unfold rsC; rw [if_pos w]
      · have s7 : s < 7 := by
          by_cases q : s < 7
          · exact q
          · exfalso
            revert k0
            unfold kdN
            rw [if_neg q]
            split
            · intro k0; exact absurd k0 (by decide)
            · split <;> (intro k0; exact absurd k0 (by decide))
        obtain ⟨d1, d2⟩ := o7 (by omega)
        rw [d1, nI_eq (by omega) (by omega)]
        refine ⟨fun q => hx ?_, fun q => wKind s48 ⟨fun k1 => ?_, fun _ => next r hr ?_⟩⟩
        · have z : rsL σ n0 (ordL σ (m + 1)) (some t) = none := by
            rw [sS]
            unfold rsC
            rw [if_neg w, evC_a s7]
            show re (0, vN σ 7 s, 0) r = none
            unfold re
            rw [if_pos rfl, if_pos q]
          obtain ⟨rr, er⟩ := ordL_split σ (m + 1) (M - (m + 1))
          rw [show m + 1 + (M - (m + 1)) = M by omega] at er
          rw [← fin, er, rsL_app, z, rsL_none]
        · exfalso
          revert k1
          unfold kdN
          rw [if_pos s7]
          intro k1
          exact absurd k1 (by decide)
        · unfold rsC
          rw [if_neg w, evC_a s7]
          show re (0, vN σ 7 s, 0) r = some r
          unfold re
          rw [if_pos rfl, if_neg q]
      · have s714 : 7 ≤ s ∧ s < 14 := by
          by_cases q : s < 7
          · exfalso; revert k1; unfold kdN; rw [if_pos q]; intro k1; exact absurd k1 (by decide)
          · by_cases q2 : s < 14
            · exact ⟨by omega, q2⟩
            · exfalso; revert k1; unfold kdN; rw [if_neg q, if_neg q2]
              split <;> (intro k1; exact absurd k1 (by decide))
        obtain ⟨d1, d2⟩ := o7 (by omega)
        obtain ⟨f1, f2⟩ := o8 s714.1 s714.2
        rw [d1, f1]
        have er : rsC σ n0 (some r) s = some (if r = vN σ 7 s then vN σ 8 s else if r = vN σ 8 s then vN σ 7 s else r) := by
          unfold rsC
          rw [if_neg w, evC_b s714.1 s714.2]
          show re (1, vN σ 7 s, vN σ 8 s) r = _
          unfold re
          rw [if_neg (show ¬ (1 : Nat) = 0 by decide), if_pos rfl]
        unfold PX5_movedFrom
        rw [nI_eq (by omega) (by omega), nI_eq (by omega) (by omega)]
        refine ⟨fun q => next (vN σ 8 s) f2 ?_, fun q => ⟨fun q2 => next (vN σ 7 s) d2 ?_, fun q2 => next r hr ?_⟩⟩
        · rw [er, if_pos q]
        · rw [er, if_neg q, if_pos q2]
        · rw [er, if_neg q, if_neg q2]
      · have s14 : 14 ≤ s := by
          by_cases q : s < 7
          · exfalso; apply k0; unfold kdN; rw [if_pos q]; rfl
          · by_cases q2 : s < 14
            · exfalso; apply k1; unfold kdN; rw [if_neg q, if_pos q2]; rfl
            · omega
        unfold rsC
        rw [if_neg w]
        show re (evC σ s) r = some r
        unfold evC re
        rw [if_neg (show ¬ s < 7 by omega), if_neg (show ¬ s < 14 by omega)]
        by_cases q : s < 39
        · rw [if_pos q, if_neg (show ¬ (2 : Nat) = 0 by decide), if_neg (show ¬ (2 : Nat) = 1 by decide)]
        · rw [if_neg q, if_neg (show ¬ (3 : Nat) = 0 by decide), if_neg (show ¬ (3 : Nat) = 1 by decide)]
theorem wRestOf {σ : XS} (h : Gd σ) {n0 e t : Nat} (h40 : n0 < 40) (he : e < 40) (ht : t < 6) {post : Int32 → Prop} (hp : post (oI (rest σ n0 e t))) : PX5_restOf (nI t) (nI n0) (nI e) σ post := by
  unfold PX5_restOf
  obtain ⟨hO, hT⟩ := h.w.o
  rw [nI_leI (by omega) (by omega)]
  refine ⟨fun hle => ?_, fun hle => ?_⟩
  · obtain ⟨M, hM, hl⟩ := pk_least (fun m => m = tot σ ∨ e < vN σ 6 (vN σ 10 m)) ⟨tot σ, Or.inl rfl⟩
    have hMT : M ≤ tot σ := by
      rcases Nat.lt_or_ge (tot σ) M with w | w
      · exact absurd (Or.inl rfl) (hl (tot σ) w)
      · exact w
    refine restL h h40 he hle hMT (fun i hi => ?_) hM (fun z => ?_) (fun r x z => ?_) 1000 0 t (by omega) (by omega) ht rfl
    · have := hl i hi
      exact Nat.not_lt.mp (fun w => this (Or.inr w))
    · rw [z] at hp; exact hp
    · rw [z] at hp; exact hp
  · unfold rest at hp
    rw [if_neg hle] at hp
    exact hp
/-! who is free -/
def onN (σ : XS) (n0 k : Nat) : Bool := vN σ 31 k == n0
def fP (σ : XS) (n0 p : Nat) : Bool := !((List.range (vN σ 24 10)).any (fun k => onN σ n0 k && (vN σ 29 k == p)))
def fT (σ : XS) (n0 t : Nat) : Bool := !((List.range (vN σ 24 10)).any (fun k => onN σ n0 k && (vN σ 30 k == t)))
def seat (σ : XS) (n0 : Nat) : Nat := ct (onN σ n0) (vN σ 24 10)
theorem fP_iff {σ : XS} {n0 p : Nat} : fP σ n0 p = true ↔ ∀ k, k < vN σ 24 10 → vN σ 31 k = n0 → ¬ vN σ 29 k = p := by
  unfold fP onN
  rw [Bool.not_eq_true', List.any_eq_false]
  simp only [Bool.and_eq_true, beq_iff_eq, not_and, List.mem_range]
theorem fT_iff {σ : XS} {n0 t : Nat} : fT σ n0 t = true ↔ ∀ k, k < vN σ 24 10 → vN σ 31 k = n0 → ¬ vN σ 30 k = t := by
  unfold fT onN
  rw [Bool.not_eq_true', List.any_eq_false]
  simp only [Bool.and_eq_true, beq_iff_eq, not_and, List.mem_range]
section FR
variable {σ : XS} {n0 : Nat}
theorem Gw.sv (hw : Gw σ) {k : Nat} (hk : k < vN σ 24 10) : (gI σ 29 k = nI (vN σ 29 k) ∧ vN σ 29 k < vN σ 24 2) ∧ (gI σ 30 k = nI (vN σ 30 k) ∧ vN σ 30 k < vN σ 24 1) ∧ (gI σ 31 k = nI (vN σ 31 k) ∧ vN σ 31 k < 40) := by
  obtain ⟨-, hB, -, hDs, -⟩ := hw
  have hp := hB.p
  have hq := hB.q
  have d := hDs k hk
  exact ⟨cnt d.1 (by omega), cnt d.2.1 (by omega), cnt d.2.2.1 (by decide)⟩
theorem fP_ct (hw : Gw σ) : ct (fP σ n0) (vN σ 24 2) + seat σ n0 = vN σ 24 2 := by
  have hU := hw.2.2.2.2.2.2.2.1
  have e := ct_hit (S := onN σ n0) (f := fun k => vN σ 29 k) (c := vN σ 24 10) (Q := vN σ 24 2) (fun k hk _ => (hw.sv hk).1.2) (fun j k hj hk sj sk e => ?_)
  · have n := ct_not (fun p => (List.range (vN σ 24 10)).any (fun k => onN σ n0 k && (vN σ 29 k == p))) (vN σ 24 2)
    unfold seat
    rw [← e]
    exact n
  · unfold onN at sj sk
    rw [beq_iff_eq] at sj sk
    obtain ⟨a1, a2, a3⟩ := hw.sv hj
    obtain ⟨b1, b2, b3⟩ := hw.sv hk
    have e' : vN σ 29 j = vN σ 29 k := e
    exact hU j k hj hk (by rw [a3.1, b3.1, sj, sk]) (Or.inl (by rw [a1.1, b1.1, e']))
theorem fT_ct (hw : Gw σ) : ct (fT σ n0) (vN σ 24 1) + seat σ n0 = vN σ 24 1 := by
  have hU := hw.2.2.2.2.2.2.2.1
  have e := ct_hit (S := onN σ n0) (f := fun k => vN σ 30 k) (c := vN σ 24 10) (Q := vN σ 24 1) (fun k hk _ => (hw.sv hk).2.1.2) (fun j k hj hk sj sk e => ?_)
  · have n := ct_not (fun p => (List.range (vN σ 24 10)).any (fun k => onN σ n0 k && (vN σ 30 k == p))) (vN σ 24 1)
    unfold seat
    rw [← e]
    exact n
  · unfold onN at sj sk
    rw [beq_iff_eq] at sj sk
    obtain ⟨a1, a2, a3⟩ := hw.sv hj
    obtain ⟨b1, b2, b3⟩ := hw.sv hk
    have e' : vN σ 30 j = vN σ 30 k := e
    exact hU j k hj hk (by rw [a3.1, b3.1, sj, sk]) (Or.inr (by rw [a2.1, b2.1, e']))
theorem maB_f (hw : Gw σ) (h40 : n0 < 40) {p t : Nat} (hp : p < 100) (ht : t < 100) : maB σ (nI p) (nI t) (nI n0) = (fP σ n0 p && fT σ n0 t) := by
  rw [Bool.eq_iff_iff, maB_iff, Bool.and_eq_true, fP_iff, fT_iff]
  have conv : ∀ k, k < vN σ 24 10 → ((gI σ 31 k = nI n0 ↔ vN σ 31 k = n0) ∧ (gI σ 29 k = nI p ↔ vN σ 29 k = p) ∧ (gI σ 30 k = nI t ↔ vN σ 30 k = t)) := by
    intro k hk
    obtain ⟨a1, a2, a3⟩ := hw.sv hk
    have h6 := hw.2.1.p
    have h7 := hw.2.1.q
    rw [a1.1, a2.1, a3.1, nI_eq (by omega) (by omega), nI_eq (by omega) (by omega), nI_eq (by omega) (by omega)]
    exact ⟨Iff.rfl, Iff.rfl, Iff.rfl⟩
  constructor
  · intro h
    refine ⟨fun k hk e w => ?_, fun k hk e w => ?_⟩
    · obtain ⟨x, y, z⟩ := conv k hk
      exact (h k hk (x.mpr e)).1 (y.mpr w)
    · obtain ⟨x, y, z⟩ := conv k hk
      exact (h k hk (x.mpr e)).2 (z.mpr w)
  · rintro ⟨h1, h2⟩ k hk e
    obtain ⟨x, y, z⟩ := conv k hk
    exact ⟨fun w => h1 k hk (x.mp e) (y.mp w), fun w => h2 k hk (x.mp e) (z.mp w)⟩
theorem seatL (hw : Gw σ) (h40 : n0 < 40) {post : Int32 → Prop} {kx : Int32 → Int32 → Prop} (hk : kx (nI (seat σ n0)) (nI (vN σ 24 10))) : ∀ (n m : Nat), m ≤ vN σ 24 10 → vN σ 24 10 < m + n → LX7_seatedOn_4 σ (nI n0) post kx n (nI (ct (onN σ n0) m)) (nI m) := by
  have cs := hw.2.1.s
  have hc := hw.cs
  intro n
  induction n with
  | zero => intro m h1 h2; omega
  | succ n ih =>
    intro m h1 h2
    rw [LX7_seatedOn_4]
    refine wX5_count (k := 2) (by decide) ?_
    rw [hc, nI_leI (by omega) (by omega)]
    refine ⟨fun h => ?_, fun h => wX5_night hc (by omega) (by omega) ?_⟩
    · obtain rfl : m = vN σ 24 10 := by omega
      exact hk
    · obtain ⟨a1, a2, a3⟩ := hw.sv (k := m) (by omega)
      rw [(hw.2.2.2.1 m (by omega)).2.2.2.1, a3.1, nI_eq (by omega) (by omega)]
      have q := ih (m + 1) (by omega) (by omega)
      rw [ct_s] at q
      refine ⟨fun w x ex y ey => ?_, fun w x ex => ?_⟩
      · have e : onN σ n0 m = true := by unfold onN; rw [beq_iff_eq]; exact w
        rw [if_pos e] at q
        rw [ex, ey, nI_1, nI_1]; exact q
      · have e : ¬ onN σ n0 m = true := by unfold onN; rw [beq_iff_eq]; exact w
        rw [if_neg e] at q
        rw [ex, nI_1]; exact q
theorem wSeated (hw : Gw σ) (h40 : n0 < 40) {post : Int32 → Prop} (h : post (nI (seat σ n0))) : PX7_seatedOn (nI n0) σ post := by
  unfold PX7_seatedOn
  have cs := hw.2.1.s
  exact seatL hw h40 h 1000 0 (by omega) (by omega)
end FR
/-! the places that tell, as a set -/
def tbit (S w : Nat) : Bool := !(decide (((nI S >>> (nI w &&& 31)) &&& (1 : Int32)) = 0))
theorem tbit_or : ∀ S, S < 64 → ∀ r, r < 6 → (nI S ||| bit1 r = nI (S ||| 2 ^ r) ∧ S ||| 2 ^ r < 64 ∧ ∀ w, w < 6 → tbit (S ||| 2 ^ r) w = (tbit S w || w == r)) := by decide +kernel
theorem tbit_0 : ∀ w, w < 6 → tbit 0 w = false := by decide +kernel
theorem tbit_1 : ∀ S, S < 64 → ((nI S &&& (1 : Int32)) = 0 ↔ tbit S 0 = false) := by decide +kernel
theorem tbit_w {S w : Nat} : ((nI S >>> (nI w &&& 31)) &&& (1 : Int32)) = 0 ↔ tbit S w = false := by
  unfold tbit
  rw [Bool.not_eq_false', decide_eq_true_iff]
def told (σ : XS) (n0 e m w : Nat) : Prop := ∃ t, t < m ∧ fT σ n0 t = true ∧ rest σ n0 e t = some w
theorem tellL {σ : XS} (h : Gd σ) {n0 e : Nat} (h40 : n0 < 40) (he : e < 40) {post : Int32 → Prop} {kx : Int32 → Int32 → Prop} (hk : ∀ S x, S < 64 → (∀ w, w < 6 → (tbit S w = true ↔ told σ n0 e (vN σ 24 1) w)) → kx (nI S) x) : ∀ (n m S : Nat), m ≤ vN σ 24 1 → vN σ 24 1 < m + n → S < 64 → (∀ w, w < 6 → (tbit S w = true ↔ told σ n0 e m w)) → LX7_telling_5 σ (nI n0) (nI e) post kx n (nI S) (nI m) := by
  have hw := h.w
  have cq := hw.2.1.q
  intro n
  induction n with
  | zero => intro m S h1 h2; omega
  | succ n ih =>
    intro m S h1 h2 hS hT
    rw [LX7_telling_5, hw.1.2, cq.1, nI_leI (by omega) (by omega)]
    refine ⟨fun z => ?_, fun z => ?_⟩
    · obtain rfl : m = vN σ 24 1 := by omega
      exact hk S _ hS hT
    · have skip : (fT σ n0 m = true → rest σ n0 e m = none) → ∀ x : Int32, x = nI m + 1 → LX7_telling_5 σ (nI n0) (nI e) post kx n (nI S) x := by
        intro hno x ex
        rw [ex, nI_1]
        refine ih (m + 1) S (by omega) (by omega) hS (fun w hw6 => ?_)
        rw [hT w hw6]
        constructor
        · rintro ⟨t, a, b, c⟩; exact ⟨t, by omega, b, c⟩
        · rintro ⟨t, a, b, c⟩
          by_cases et : t = m
          · rw [et] at b c; rw [hno b] at c; cases c
          · exact ⟨t, by omega, b, c⟩
      refine wX7_isTaken hw (fun j hj e1 e2 => ⟨fun w => absurd w (by decide), fun _ => ⟨fun _ => skip (fun hf => ?_), fun w => absurd rfl w⟩⟩) (fun hz => ⟨fun _ => wRestOf h h40 he (by omega) ?_, fun w => absurd rfl w⟩)
      · exfalso
        obtain ⟨a1, a2, a3⟩ := hw.sv hj
        refine fT_iff.mp hf j hj ?_ ?_
        · rw [a3.1, nI_eq (by omega) (by omega)] at e1; exact e1
        · rw [a2.1, nI_eq (by omega) (by omega)] at e2; exact e2
      · have hf : fT σ n0 m = true := by
          rw [fT_iff]
          intro k hk e1 e2
          obtain ⟨a1, a2, a3⟩ := hw.sv hk
          exact hz k hk (by rw [a3.1, e1]) (by rw [a2.1, e2])
        cases er : rest σ n0 e m with
        | none => exact ⟨fun _ => skip (fun _ => er), fun w => absurd rfl w⟩
        | some r =>
          have r6 := rest_lt h h40 he (by omega) er
          refine ⟨fun w => absurd w (nI_ne9 (by omega)), fun _ x ex y ey => ?_⟩
          obtain ⟨t1, t2, t3⟩ := tbit_or S hS r r6
          have ex' : x = nI (S ||| 2 ^ r) := ex.trans t1
          rw [ex', ey, nI_1]
          refine ih (m + 1) _ (by omega) (by omega) t2 (fun w hw6 => ?_)
          rw [t3 w hw6, Bool.or_eq_true, hT w hw6, beq_iff_eq]
          constructor
          · rintro (⟨t, a, b, c⟩ | e')
            · exact ⟨t, by omega, b, c⟩
            · exact ⟨m, by omega, hf, by rw [er, e']⟩
          · rintro ⟨t, a, b, c⟩
            by_cases et : t = m
            · rw [et, er] at c; cases c; exact Or.inr rfl
            · exact Or.inl ⟨t, by omega, b, c⟩
theorem wTelling {σ : XS} (h : Gd σ) {n0 e : Nat} (h40 : n0 < 40) (he : e < 40) {post : Int32 → Prop} (hk : ∀ S, S < 64 → (∀ w, w < 6 → (tbit S w = true ↔ told σ n0 e (vN σ 24 1) w)) → post (nI S)) : PX7_telling (nI n0) (nI e) σ post := by
  unfold PX7_telling
  have cq := h.w.2.1.q
  refine tellL h h40 he (fun S _ h1 h2 => hk S h1 h2) 1000 0 0 (by omega) (by omega) (by decide) (fun w hw => ?_)
  rw [tbit_0 w hw]
  exact ⟨fun z => absurd z (by decide), fun ⟨t, a, _⟩ => absurd a (Nat.not_lt_zero t)⟩
