/-! ===== moved ===== -/
def tY (σ : XS) (n a b : Int32) : XS := sI (sI (sI σ 24 22 n) 24 23 a) 24 24 b
theorem tY_t (σ : XS) (n a b : Int32) : (∀ j i, j ≠ 24 → gI (tY σ n a b) j i = gI σ j i) ∧ (∀ i, i ≠ 22 → i ≠ 23 → i ≠ 24 → gI (tY σ n a b) 24 i = gI σ 24 i) ∧ gI (tY σ n a b) 24 22 = n ∧ gI (tY σ n a b) 24 23 = a ∧ gI (tY σ n a b) 24 24 = b := by
  refine ⟨fun j i h => ?_, fun i h1 h2 h3 => ?_, ?_, ?_, ?_⟩ <;> unfold tY
  · rw [gI_sIj _ _ h, gI_sIj _ _ h, gI_sIj _ _ h]
  · rw [gI_sIk _ _ h3, gI_sIk _ _ h2, gI_sIk _ _ h1]
  · rw [gI_sIk _ _ (by decide), gI_sIk _ _ (by decide), gI_sIe]
  · rw [gI_sIk _ _ (by decide), gI_sIe]
  · rw [gI_sIe]
theorem mrY {σ : XS} (h : Gd σ) {n a b : Int32} (hn : vp_in n 40) (ha : vp_in a 6) (hb : vp_in b 6) : MdR (tY σ n a b) := by
  obtain ⟨t, t24, e22, e23, e24⟩ := tY_t σ n a b
  refine h.mr.of t (fun i hi => t24 i (by omega) (by omega) (by omega)) (Or.inl ?_) (Or.inr ⟨by rw [e22]; exact hn, by rw [e23]; exact ha, by rw [e24]; exact hb⟩) (Or.inl ?_)
  · rw [t24 25 (by decide) (by decide) (by decide)]; exact h.1.2.2.2.2.2.2
  · rw [t24 21 (by decide) (by decide) (by decide)]; exact h.1.2.2.2.2.1
theorem lksY {σ : XS} (h : Gd σ) {n a b a5 : Int32} (hn : vp_in n 40) (ha : vp_in a 6) (hb : vp_in b 6) (σ1 : XS) (hR : AddR σ 1 (vN σ 24 (mc 1)) (tot σ) (live σ) n a b a5 σ1) : Lks σ1 (tY σ n a b) (tot σ + 1) 100 (fun s => live σ s ∨ s = fs 1 + vN σ 24 (mc 1)) := by
  obtain ⟨t, t24, e22, e23, e24⟩ := tY_t σ n a b
  have x22 : gI (tY σ n a b) 24 22 ≠ -9 := by rw [e22]; exact vne9 hn
  have x25 : gI (tY σ n a b) 24 25 = -9 := by rw [t24 25 (by decide) (by decide) (by decide)]; exact h.1.2.2.2.2.2.2
  have x21 : gI (tY σ n a b) 24 21 = -9 := by rw [t24 21 (by decide) (by decide) (by decide)]; exact h.1.2.2.2.2.1
  obtain ⟨hO, hT⟩ := h.w.o
  have v : ∀ i, i ≠ 22 → i ≠ 23 → i ≠ 24 → vN (tY σ n a b) 24 i = vN σ 24 i := fun i hi hj hk => by unfold vN; rw [t24 i hi hj hk]
  have hwo : wo (tY σ n a b) = 100 := by unfold wo; rw [if_pos x21]
  have efs : fs 1 + vN σ 24 (mc 1) = 7 + vN σ 24 14 := rfl
  refine Lks.of (mrY h hn ha hb) (by omega) hR.2.2.2.2.2.2 (RE.of h (fun s hs => hR.g (h.nl (by decide) hs)) t (fun i hi => t24 i (by omega) (by omega) (by omega)) (fun w => absurd x25 w) (fun _ => ?_)) (fun s => ?_) (fun s _ => ?_) ?_
  · obtain ⟨y6, y7, y8, y9⟩ := hR.n (s := 7 + vN σ 24 14) efs.symm
    rw [e22, e23, e24]
    exact ⟨y6, y7, y8⟩
  · unfold LV live
    rw [v 18 (by decide) (by decide) (by decide), v 14 (by decide) (by decide) (by decide), v 10 (by decide) (by decide) (by decide), v 30 (by decide) (by decide) (by decide), x25, efs]
    constructor
    · rintro ((w | w | w | w) | w)
      · exact Or.inl w
      · exact Or.inr (Or.inr (Or.inl w))
      · exact Or.inr (Or.inr (Or.inr (Or.inr (Or.inl w))))
      · exact Or.inr (Or.inr (Or.inr (Or.inr (Or.inr w))))
      · exact Or.inr (Or.inr (Or.inr (Or.inl ⟨w, x22⟩)))
    · rintro (w | ⟨-, w⟩ | w | ⟨w, -⟩ | w | w)
      · exact Or.inl (Or.inl w)
      · exact absurd rfl w
      · exact Or.inl (Or.inr (Or.inl w))
      · exact Or.inr w
      · exact Or.inl (Or.inr (Or.inr (Or.inl w)))
      · exact Or.inl (Or.inr (Or.inr (Or.inr w)))
  · rw [hwo]; omega
  · rw [t24 10 (by decide) (by decide) (by decide), hR.2.1, if_neg (by decide)]; exact h.w.2.1.2.2.2.2.2.2.2.2.1
def Qm (P : Nat) (G : Nat → Nat → Bool) (i : Nat) : Prop := i / P < i % P ∧ G (i / P) (i % P) = true
def RSm (P : Nat) (G : Nat → Nat → Bool) (r : Int32) : Prop := (∃ i, i < P * P ∧ Qm P G i ∧ (∀ i', i' < i → ¬ Qm P G i') ∧ r = nI (10 * (i / P) + i % P)) ∨ (r = -9 ∧ ∀ i, i < P * P → ¬ Qm P G i)
theorem RSm.uniq {P : Nat} {G : Nat → Nat → Bool} {r r' : Int32} (h : RSm P G r) (h' : RSm P G r') : r = r' := by
  rcases h with ⟨i, hi, q, z, e⟩ | ⟨e, z⟩ <;> rcases h' with ⟨i', hi', q', z', e'⟩ | ⟨e', z'⟩
  · obtain rfl : i = i' := by
      rcases Nat.lt_trichotomy i i' with w | w | w
      · exact absurd q (z' i w)
      · exact w
      · exact absurd q' (z i' w)
    rw [e, e']
  · exact absurd q (z' i hi)
  · exact absurd q' (z i' hi')
  · rw [e, e']
theorem dm_eq {P a b : Nat} (hb : b < P) : (a * P + b) / P = a ∧ (a * P + b) % P = b := by
  have hP : 0 < P := by omega
  refine ⟨?_, ?_⟩
  · rw [Nat.add_comm, Nat.add_mul_div_right _ _ hP, Nat.div_eq_of_lt hb, Nat.zero_add]
  · rw [Nat.add_comm, Nat.add_mul_mod_self_right, Nat.mod_eq_of_lt hb]
theorem lt_sq {P a b : Nat} (ha : a < P) (hb : b < P) : a * P + b < P * P := by
  have : (a + 1) * P ≤ P * P := Nat.mul_le_mul_right P ha
  rw [Nat.succ_mul] at this
  omega
theorem movedI {σ0 : XS} (h0 : Gd σ0) {nn : Int32} (hn : vp_in nn 40) {G : Nat → Nat → Bool} {a : Nat} (ha : a < vN σ0 24 1) (hG : ∀ a b, a < vN σ0 24 1 → b < vN σ0 24 1 → soB (tY σ0 nn (nI a) (nI b)) = G a b) {post : Int32 → XS → Prop} {kx : Int32 → XS → Prop} (hx : ∀ r σ', Gd σ' → KK scw σ0 σ' → RSm (vN σ0 24 1) G r → post r σ') (hk : ∀ σ', Gd σ' → KK scw σ0 σ' → (∀ i, i < (a + 1) * vN σ0 24 1 → ¬ Qm (vN σ0 24 1) G i) → kx (nI (vN σ0 24 1)) σ') : ∀ (n b : Nat) (σ : XS), b ≤ vN σ0 24 1 → vN σ0 24 1 < b + n → a < b → Gd σ → KK scw σ0 σ → (∀ i, i < a * vN σ0 24 1 + b → ¬ Qm (vN σ0 24 1) G i) → LX7_moved_34 nn (nI a) post kx n (nI b) σ := by
  have cq := h0.w.2.1.q
  intro n
  induction n with
  | zero => intro b σ h1 h2; omega
  | succ n ih =>
    intro b σ h1 h2 hab g K hq
    have e1 : gI σ 0 7 = nI (vN σ0 24 1) := by rw [g.1.2.1, K.1 24 1 rfl]; exact cq.1
    rw [LX7_moved_34, e1, nI_leI (by omega) (by omega)]
    refine ⟨fun h => ?_, fun h => ?_⟩
    · obtain rfl : b = vN σ0 24 1 := by omega
      exact hk σ g K (by rw [Nat.succ_mul]; exact hq)
    · have va : vp_in (nI a) 6 := pk_in a 6 (by omega)
      have vb : vp_in (nI b) 6 := pk_in b 6 (by omega)
      refine wIsSoWith (κ := 1) (a5 := 0) g (by decide) hn (fun w => absurd w (by decide)) (fun _ => rfl) (mrY g hn va vb) (fun σ1 hR => lksY g hn va vb σ1 hR) (fun σ' g' K' => ?_)
      have eF : soB (tY σ nn (nI a) (nI b)) = G a b := (soB_ag ((((K.ag scw_ag).c 24 22 nn).c 24 23 (nI a)).c 24 24 (nI b))).trans (hG a b ha (by omega))
      rw [eF]
      obtain ⟨d1, d2⟩ := dm_eq (P := vN σ0 24 1) (a := a) (b := b) (by omega)
      cases eb : G a b with
      | false =>
        refine ⟨fun _ x ex => ?_, fun w => absurd rfl w⟩
        rw [ex, nI_1]
        refine ih (b + 1) σ' (by omega) (by omega) (by omega) g' (K.tr K') (fun i hi => ?_)
        rcases (show i < a * vN σ0 24 1 + b ∨ i = a * vN σ0 24 1 + b by omega) with w | w
        · exact hq i w
        · rw [w]
          intro z
          unfold Qm at z
          rw [d1, d2, eb] at z
          cases z.2
      | true =>
        refine ⟨fun w => absurd w (by decide), fun _ => hx _ σ' g' (K.tr K') (Or.inl ⟨a * vN σ0 24 1 + b, lt_sq ha (by omega), ?_, hq, ?_⟩)⟩
        · unfold Qm
          rw [d1, d2]; exact ⟨hab, eb⟩
        · rw [d1, d2, show (10 : Int32) = nI 10 from rfl, pk_mul, nI_add]
theorem movedO {σ0 : XS} (h0 : Gd σ0) {nn : Int32} (hn : vp_in nn 40) {G : Nat → Nat → Bool} (hG : ∀ a b, a < vN σ0 24 1 → b < vN σ0 24 1 → soB (tY σ0 nn (nI a) (nI b)) = G a b) {post : Int32 → XS → Prop} {kx : Int32 → XS → Prop} (hx : ∀ r σ', Gd σ' → KK scw σ0 σ' → RSm (vN σ0 24 1) G r → post r σ') (hk : ∀ σ', Gd σ' → KK scw σ0 σ' → (∀ i, i < vN σ0 24 1 * vN σ0 24 1 → ¬ Qm (vN σ0 24 1) G i) → kx (nI (vN σ0 24 1)) σ') : ∀ (n a : Nat) (σ : XS), a ≤ vN σ0 24 1 → vN σ0 24 1 < a + n → Gd σ → KK scw σ0 σ → (∀ i, i < a * vN σ0 24 1 → ¬ Qm (vN σ0 24 1) G i) → LX7_moved_22 nn post kx n (nI a) σ := by
  have cq := h0.w.2.1.q
  intro n
  induction n with
  | zero => intro a σ h1 h2; omega
  | succ n ih =>
    intro a σ h1 h2 g K hq
    have e1 : gI σ 0 7 = nI (vN σ0 24 1) := by rw [g.1.2.1, K.1 24 1 rfl]; exact cq.1
    rw [LX7_moved_22, e1, nI_leI (by omega) (by omega)]
    refine ⟨fun h => ?_, fun h x6 e6 => ?_⟩
    · obtain rfl : a = vN σ0 24 1 := by omega
      exact hk σ g K hq
    · rw [e6, nI_1]
      refine movedI h0 hn (by omega) hG hx (fun σ' g' K' hq' x ex => ?_) 1000 (a + 1) σ (by omega) (by omega) (by omega) g K (fun i hi => ?_)
      · rw [ex]
        exact ih (a + 1) σ' (by omega) (by omega) g' K' hq'
      · rcases (show i < a * vN σ0 24 1 ∨ a * vN σ0 24 1 ≤ i by omega) with w | w
        · exact hq i w
        · obtain ⟨d, rfl⟩ : ∃ d, i = a * vN σ0 24 1 + d := ⟨i - a * vN σ0 24 1, by omega⟩
          obtain ⟨d1, d2⟩ := dm_eq (P := vN σ0 24 1) (a := a) (b := d) (by omega)
          intro z
          unfold Qm at z
          rw [d1, d2] at z
          have := z.1
          omega
def fY (k : Nat) : Bool := (k == 22 || (k == 23 || k == 24))
theorem fY_6 (k : Nat) (h : fY k = true) : f6 k = true := by
  unfold fY at h
  simp only [Bool.or_eq_true, beq_iff_eq] at h
  rcases h with rfl | rfl | rfl <;> rfl
theorem movedM {σ0 : XS} (h0 : Gd σ0) {nn : Int32} (hn : vp_in nn 40) {G : Nat → Nat → Bool} (hG : ∀ a b, a < vN σ0 24 1 → b < vN σ0 24 1 → soB (tY σ0 nn (nI a) (nI b)) = G a b) {post : Int32 → XS → Prop} {kx : Int32 → Int32 → XS → Prop} {W : Nat} (hW : W = vN σ0 24 1 * vN σ0 24 1) (hk : ∀ r x σ', KK (bF fY) σ0 σ' → RSm (vN σ0 24 1) G r → kx r x σ') : ∀ (n m : Nat) (σ : XS), m ≤ W → W < m + n → KK (bF fY) σ0 σ → gI σ 24 22 = nn → (∀ i, i < m → ¬ Qm (vN σ0 24 1) G i) → LX8_moved_30 nn post kx n (-9) (nI m) σ := by
  have cq := h0.w.2.1.q
  have W36 : W ≤ 36 := by
    rw [hW]
    exact Nat.le_trans (Nat.mul_le_mul (by omega : vN σ0 24 1 ≤ 6) (by omega : vN σ0 24 1 ≤ 6)) (by decide)
  intro n
  induction n with
  | zero => intro m σ h1 h2; omega
  | succ n ih =>
    intro m σ h1 h2 K e22 hq
    have e1 : gI σ 24 1 = nI (vN σ0 24 1) := by rw [K.1 24 1 rfl]; exact cq.1
    rw [LX8_moved_30, e1, pk_mul, ← hW, nI_leI (by omega) (by omega)]
    refine ⟨fun h => ?_, fun h => ⟨fun w => absurd w (by decide), fun _ => ?_⟩⟩
    · obtain rfl : m = W := by omega
      exact hk _ _ σ K (Or.inr ⟨rfl, by rw [← hW]; exact hq⟩)
    · have hP : 0 < vN σ0 24 1 := by
        rcases Nat.eq_zero_or_pos (vN σ0 24 1) with z | z
        · rw [z] at hW; omega
        · exact z
      have hdl : m / vN σ0 24 1 < vN σ0 24 1 := Nat.div_lt_of_lt_mul (by rw [← hW]; omega)
      have hml : m % vN σ0 24 1 < vN σ0 24 1 := Nat.mod_lt _ hP
      have nz : ¬ nI (vN σ0 24 1) = 0 := nI_ne0 hP (by omega)
      refine ⟨nz, fun σ7 e7 => ?_⟩
      have e1' : gI σ7 24 1 = nI (vN σ0 24 1) := by rw [e7, gI_sIk _ _ (by decide)]; exact e1
      rw [pk_div (by omega) hP (by omega)] at e7
      rw [e1']
      refine ⟨nz, fun σ8 e8 => ?_⟩
      rw [pk_rem (by omega) hP (by omega)] at e8
      have x24 : gI σ8 24 24 = nI (m % vN σ0 24 1) := by rw [e8, gI_sIe]
      have x23 : gI σ8 24 23 = nI (m / vN σ0 24 1) := by rw [e8, gI_sIk _ _ (by decide), e7, gI_sIe]
      have x22 : gI σ8 24 22 = nn := by rw [e8, gI_sIk _ _ (by decide), e7, gI_sIk _ _ (by decide)]; exact e22
      have K8 : KK (bF fY) σ0 σ8 := K.tr (by rw [e8, e7]; exact (KK.bI rfl).tr (KK.bI rfl))
      rw [x24, x23, nI_leI (by omega) (by omega)]
      have more : ∀ σ', KK (bF fY) σ0 σ' → gI σ' 24 22 = nn → ¬ Qm (vN σ0 24 1) G m → ∀ x : Int32, x = nI m + 1 → LX8_moved_30 nn post kx n (-9) x σ' := by
        intro σ' K' z22 hz x ex
        rw [ex, nI_1]
        refine ih (m + 1) σ' (by omega) (by omega) K' z22 (fun i hi => ?_)
        rcases (show i < m ∨ i = m by omega) with w | w
        · exact hq i w
        · rw [w]; exact hz
      refine ⟨fun hle => more σ8 K8 x22 (fun z => by have := z.1; omega), fun hle => ?_⟩
      have va : vp_in (nI (m / vN σ0 24 1)) 6 := pk_in (m / vN σ0 24 1) 6 (by omega)
      have vb : vp_in (nI (m % vN σ0 24 1)) 6 := pk_in (m % vN σ0 24 1) 6 (by omega)
      obtain ⟨t, t24, y22, y23, y24⟩ := tY_t σ0 nn (nI (m / vN σ0 24 1)) (nI (m % vN σ0 24 1))
      have ag : AG (tY σ0 nn (nI (m / vN σ0 24 1)) (nI (m % vN σ0 24 1))) σ8 := by
        refine K8.agF (fun k hk => ?_) (fun j k w => ?_) (fun j k w => rfl)
        · unfold fY at hk
          simp only [Bool.or_eq_true, beq_iff_eq] at hk
          rcases hk with rfl | rfl | rfl
          · rw [x22, y22]
          · rw [x23, y23]
          · rw [x24, y24]
        · by_cases z : j = 24
          · subst z
            refine t24 k (fun z => w ⟨rfl, ?_⟩) (fun z => w ⟨rfl, ?_⟩) (fun z => w ⟨rfl, ?_⟩) <;> rw [z] <;> rfl
          · exact t j k z
      refine wAreSo (ag.mr (mrY h0 hn va vb)) (fun σ' K' => ?_)
      rw [soB_ag ag, hG _ _ hdl hml, K'.1 24 23 rfl, K'.1 24 24 rfl, x23, x24]
      have K9 : KK (bF fY) σ0 σ' := K8.tr (K'.mono (mw_bF _))
      cases eb : G (m / vN σ0 24 1) (m % vN σ0 24 1) with
      | false =>
        refine ⟨fun _ => more σ' K9 (by rw [K'.1 24 22 rfl]; exact x22) (fun z => ?_), fun w => absurd rfl w⟩
        have := z.2
        rw [eb] at this
        cases this
      | true =>
        refine ⟨fun w => absurd w (by decide), fun _ x ex y ey => ?_⟩
        have rs : RSm (vN σ0 24 1) G x := by
          refine Or.inl ⟨m, by rw [← hW]; omega, ⟨by omega, eb⟩, hq, ?_⟩
          rw [ex, show (10 : Int32) = nI 10 from rfl, pk_mul, nI_add]
        obtain ⟨n', rfl⟩ : ∃ n', n = n' + 1 := ⟨n - 1, by omega⟩
        have x0 : 0 ≤ x := by
          rw [ex, show (10 : Int32) = nI 10 from rfl, pk_mul, nI_add]
          exact nI_pos' (by omega)
        rw [LX8_moved_30]
        exact ⟨fun _ => hk _ _ σ' K9 rs, fun _ => ⟨fun _ => hk _ _ σ' K9 rs, fun w => absurd x0 w⟩⟩
theorem st19 {σ : XS} (h : Gd σ) : S19 Gd σ := by
  intro a1
  have hw := h.w
  obtain ⟨hA, hB, -⟩ := id hw
  have cq := hB.q
  unfold PX7_moved
  refine wX7_isNight (fun hn => ⟨fun w => absurd w (by decide), fun _ => ?_⟩) (fun hn => ⟨fun _ => ?_, fun w => absurd rfl w⟩)
  · refine wX7_hasHall hA hB (fun q => ⟨fun w => absurd w (by decide), fun _ => ?_⟩) (fun q => ⟨fun _ => ?_, fun w => absurd rfl w⟩)
    · have fin : ∀ r σ', Gd σ' → KK scw σ σ' → RSm (vN σ 24 1) (fun a b => soB (tY σ a1 (nI a) (nI b))) r → PX8_moved a1 σ' (fun r2 σ2 => r = r2 ∧ Gd σ2) := by
        intro r σ1 g K hr
        unfold PX8_moved
        refine wX8_isNight (fun _ => ⟨fun w => absurd w (by decide), fun _ => ⟨fun w => absurd ((K.1 24 2 rfl).symm.trans w) q, fun _ σ4 e4 => ?_⟩⟩) (fun w => absurd hn w)
        have ev : vN σ1 24 1 = vN σ 24 1 := by unfold vN; rw [K.1 24 1 rfl]
        refine movedM g hn (G := fun a b => soB (tY σ a1 (nI a) (nI b))) (fun a b _ _ => soB_ag ((((K.ag scw_ag).c 24 22 a1).c 24 23 (nI a)).c 24 24 (nI b))) rfl (fun r' x σ2 K2 hr' => ?_) 1000 0 σ4 (by omega) ?_ (by rw [e4]; exact KK.bI rfl) (by rw [e4, gI_sIe]) (fun i hi => by omega)
        · rw [ev] at hr'
          exact wMean g (f6_mono fY_6 K2) (fun σ3 g3 => ⟨hr.uniq hr', g3⟩)
        · rw [ev]
          have : vN σ 24 1 * vN σ 24 1 ≤ 6 * 6 := Nat.mul_le_mul (by omega) (by omega)
          omega
      refine movedO h hn (G := fun a b => soB (tY σ a1 (nI a) (nI b))) (fun _ _ _ _ => rfl) fin (fun σ1 g K hq => fin _ σ1 g K (Or.inr ⟨rfl, hq⟩)) 1000 0 σ (by omega) (by omega) h (KK.rf σ) (fun i hi => by omega)
    · unfold PX8_moved
      exact wX8_isNight (fun _ => ⟨fun w => absurd w (by decide), fun _ => ⟨fun _ => ⟨rfl, h⟩, fun w => absurd q w⟩⟩) (fun w => absurd hn w)
  · unfold PX8_moved
    exact wX8_isNight (fun w => absurd w hn) (fun _ => ⟨fun _ => ⟨rfl, h⟩, fun w => absurd rfl w⟩)
