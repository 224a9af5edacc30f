/-! ===== look: the reference lays its looks side by side ===== -/
theorem lN_81 (a g : Nat) : (8 : Int64) * lN a + lN g = lN (8 * a + g) := by
  rw [show (8 : Int64) = lN 8 from rfl, lN_mul, lN_add]
def lF (f : Nat → Nat) (m : Nat) : List Nat := (List.range m).map f
theorem lF_s (f : Nat → Nat) (m : Nat) : lF f (m + 1) = lF f m ++ [f m] := by
  unfold lF
  rw [List.range_succ, List.map_append]; rfl
theorem lF_len (f : Nat → Nat) (m : Nat) : (lF f m).length = m := by
  unfold lF
  rw [List.length_map, List.length_range]
theorem lF_lo {f : Nat → Nat} {m h : Nat} (hm : m < 20) : enc 0 ((lF f (m + 1)).take 20) = 8 * enc 0 ((lF f m).take 20) + f m ∧ enc h ((lF f (m + 1)).drop 20) = enc h ((lF f m).drop 20) := by
  have a : (lF f (m + 1)).take 20 = lF f m ++ [f m] := by rw [List.take_of_length_le (by rw [lF_len]; omega), lF_s]
  have b : (lF f m).take 20 = lF f m := List.take_of_length_le (by rw [lF_len]; omega)
  have c : (lF f (m + 1)).drop 20 = [] := List.drop_of_length_le (by rw [lF_len]; omega)
  have d : (lF f m).drop 20 = [] := List.drop_of_length_le (by rw [lF_len]; omega)
  rw [a, b, c, d, enc_one]
  exact ⟨rfl, rfl⟩
theorem lF_hi {f : Nat → Nat} {m h : Nat} (hm : 20 ≤ m) : enc 0 ((lF f (m + 1)).take 20) = enc 0 ((lF f m).take 20) ∧ enc h ((lF f (m + 1)).drop 20) = 8 * enc h ((lF f m).drop 20) + f m := by
  rw [lF_s, List.take_append_of_le_length (by rw [lF_len]; omega), List.drop_append_of_le_length (by rw [lF_len]; omega), enc_one]
  exact ⟨rfl, rfl⟩
/-- a change of one look alone -/
def LL (x : Nat) (σ σ' : XS) : Prop := σ'.1 = σ.1 ∧ σ'.2.2 = σ.2.2 ∧ ∀ j k, k ≠ x → gL σ' j k = gL σ j k
theorem LL.rf {x : Nat} (σ : XS) : LL x σ σ := ⟨rfl, rfl, fun _ _ _ => rfl⟩
theorem LL.tr {x : Nat} {σ σ1 σ2 : XS} (h : LL x σ σ1) (h2 : LL x σ1 σ2) : LL x σ σ2 := ⟨h2.1.trans h.1, h2.2.1.trans h.2.1, fun j k z => (h2.2.2 j k z).trans (h.2.2 j k z)⟩
theorem LL.L {x j : Nat} {σ : XS} {v : Int64} : LL x σ (sL σ j x v) := ⟨rfl, rfl, fun j' k z => by rw [gL_sL, if_neg (fun w => z w.2)]⟩
theorem LL.I {x : Nat} {σ σ' : XS} (h : LL x σ σ') (j k : Nat) : gI σ' j k = gI σ j k := by unfold gI; rw [h.1]
theorem gL_e (σ : XS) (j k : Nat) (x : Int64) : gL (sL σ j k x) j k = x := by rw [gL_sL, if_pos ⟨rfl, rfl⟩]
theorem gL_j (σ : XS) {j j' : Nat} (k k' : Nat) (x : Int64) (h : j' ≠ j) : gL (sL σ j k x) j' k' = gL σ j' k' := by rw [gL_sL, if_neg (fun w => h w.1)]
theorem layL {σ0 : XS} {c : Ch} {x w N : Nat} {f2 : Int32} {g : Nat → Nat} (hr : rp 37 38 39 25 σ0 c) (hw : w < 6) (hx : x < 30) (hl : lab N c) (hN : N ≤ 25) (hg : ∀ j, j < N → vp_in (gI σ0 29 j) 5 ∧ gM σ0 j = nI (g j) ∧ g j < 8) {post : XS → Prop} {kx : Int32 → XS → Prop} (hk : ∀ y σ', LL x σ0 σ' → gL σ' 44 x = lN (ky1 (gl g c w)) → gL σ' 45 x = lN (ky2 (gl g c w)) → kx y σ') : ∀ (n m : Nat) (σ : XS), m ≤ c.2.1 (c.1 w) → c.2.1 (c.1 w) < m + n → LL x σ0 σ → gL σ 44 x = lN (enc 0 ((lF (fun k => g (c.2.2 (c.1 w) k)) m).take 20)) → gL σ 45 x = lN (enc (c.2.1 (c.1 w)) ((lF (fun k => g (c.2.2 (c.1 w) k)) m).drop 20)) → LX8_layLook_30 (nI x) f2 (nI (c.1 w)) post kx n (nI m) σ := by
  obtain ⟨e1, hq⟩ := hr.1 w hw
  obtain ⟨e2, hh⟩ := hr.2.1 (c.1 w) hq
  intro n
  induction n with
  | zero => intro m σ h1 h2; omega
  | succ n ih =>
    intro m σ h1 h2 K l4 l5
    rw [LX8_layLook_30, nI_clamp (by omega), K.I 38, e2, nI_leI (by omega) (by omega)]
    refine ⟨pk_in _ 6 hq, fun z => ?_, fun z => ?_⟩
    · obtain rfl : m = c.2.1 (c.1 w) := by omega
      refine hk _ σ K l4 ?_
      rw [l5]
      unfold ky2
      have : (gl g c w).length = c.2.1 (c.1 w) := lF_len _ _
      rw [this]; rfl
    · have hm : m < c.2.1 (c.1 w) := by omega
      rw [show (25 : Int32) * nI (c.1 w) + nI m = nI (25 * c.1 w + m) by rw [show (25 : Int32) = nI 25 from rfl, pk_mul, nI_add], nI_clamp (by omega), K.I 39, hr.2.2 _ hq m hm]
      have hlt := hl _ _ hm
      obtain ⟨g1, g2, g3⟩ := hg _ hlt
      have gMe : gM σ (c.2.2 (c.1 w) m) = gM σ0 (c.2.2 (c.1 w) m) := by
        unfold gM vN
        rw [K.I, K.I, K.I, K.I]
      refine ⟨pk_in (25 * c.1 w + m) 150 (by omega), wX8_gumBy (by omega) (by rw [K.I]; exact g1) ?_⟩
      rw [gMe, g2]
      intro x6 e6
      rw [nI_l (by omega)] at e6
      subst e6
      have vx : vp_in (nI x) 30 := pk_in x 30 hx
      rw [show (20 : Int32) = nI 20 from rfl, nI_leI (by decide) (by omega), nI_clamp (by omega)]
      refine ⟨fun h20 => ⟨vx, vx, fun σ8 e8 y ey => ?_⟩, fun h20 => ⟨vx, vx, fun σ8 e8 y ey => ?_⟩⟩
      · rw [l5, lN_81] at e8
        obtain ⟨q1, q2⟩ := lF_hi (f := fun k => g (c.2.2 (c.1 w) k)) (m := m) (h := c.2.1 (c.1 w)) h20
        rw [ey, nI_1]
        refine ih (m + 1) σ8 (by omega) (by omega) (K.tr (by rw [e8]; exact LL.L)) ?_ ?_
        · rw [e8, gL_j _ _ _ _ (by decide), q1]; exact l4
        · rw [e8, gL_e, q2]
      · rw [l4, lN_81] at e8
        obtain ⟨q1, q2⟩ := lF_lo (f := fun k => g (c.2.2 (c.1 w) k)) (m := m) (h := c.2.1 (c.1 w)) (by omega)
        rw [ey, nI_1]
        refine ih (m + 1) σ8 (by omega) (by omega) (K.tr (by rw [e8]; exact LL.L)) ?_ ?_
        · rw [e8, gL_e, q1]
        · rw [e8, gL_j _ _ _ _ (by decide), q2]; exact l5
theorem wLayLook {σ : XS} {c : Ch} {x w N : Nat} {g : Nat → Nat} (hr : rp 37 38 39 25 σ c) (hw : w < 6) (hx : x < 30) (hl : lab N c) (hN : N ≤ 25) (hg : ∀ j, j < N → vp_in (gI σ 29 j) 5 ∧ gM σ j = nI (g j) ∧ g j < 8) {post : XS → Prop} (hk : ∀ σ', LL x σ σ' → gL σ' 44 x = lN (ky1 (gl g c w)) → gL σ' 45 x = lN (ky2 (gl g c w)) → post σ') : PX8_layLook (nI x) (nI w) σ post := by
  unfold PX8_layLook
  obtain ⟨e1, hq⟩ := hr.1 w hw
  obtain ⟨e2, hh⟩ := hr.2.1 (c.1 w) hq
  have vx : vp_in (nI x) 30 := pk_in x 30 hx
  rw [nI_clamp (by omega), e1]
  refine ⟨pk_in w 6 hw, fun x1 ex1 => ?_⟩
  subst ex1
  rw [nI_clamp (by omega), nI_clamp (by omega)]
  refine ⟨vx, fun σ2 es2 => ⟨pk_in _ 6 hq, vx, fun σ3 es3 => ?_⟩⟩
  have i2 : gI σ2 38 (c.1 w) = nI (c.2.1 (c.1 w)) := by rw [es2]; exact e2
  rw [i2, nI_l (by omega)] at es3
  refine layL hr hw hx hl hN hg (fun y σ' K l4 l5 => hk σ' K l4 l5) 1000 0 σ3 (by omega) (by omega) ?_ ?_ ?_
  · rw [es3, es2]; exact LL.L.tr LL.L
  · rw [es3, gL_j _ _ _ _ (by decide), es2, gL_e]; rfl
  · rw [es3, gL_e]; rfl
/-! the greatest group among those laid -/
def lk2 (σ : XS) (i : Nat) : Int64 × Int64 := (gL σ 44 i, gL σ 45 i)
def ca (σ : XS) (N x : Nat) : Nat := ct (fun y => decide (lk2 σ x = lk2 σ y)) N
theorem grpI {σ : XS} {N x : Nat} {f1 f2 f3 f5 : Int32} (hN : N ≤ 30) (hx : x < N) {post : Int32 → XS → Prop} {kx : Int32 → Int32 → XS → Prop} (hk : ∀ y, kx (nI (ca σ N x)) y σ) : ∀ (n m : Nat), m ≤ N → N < m + n → LX8_groupBy_109 f1 f2 f3 (nI N) f5 (nI x) post kx n (nI (ct (fun y => decide (lk2 σ x = lk2 σ y)) m)) (nI m) σ := by
  intro n
  induction n with
  | zero => intro m h1 h2; omega
  | succ n ih =>
    intro m h1 h2
    rw [LX8_groupBy_109, nI_leI (by omega) (by omega)]
    refine ⟨fun z => ?_, fun z => ?_⟩
    · obtain rfl : m = N := by omega
      exact hk _
    · have vx : vp_in (nI x) 30 := pk_in x 30 (by omega)
      have vm : vp_in (nI m) 30 := pk_in m 30 (by omega)
      rw [nI_clamp (by omega), nI_clamp (by omega), cmp_eq, cmp_eq]
      have q := ih (m + 1) (by omega) (by omega)
      rw [ct_s] at q
      have no : ¬ lk2 σ x = lk2 σ m → ∀ x19 : Int32, x19 = nI (ct (fun y => decide (lk2 σ x = lk2 σ y)) m) + 0 → ∀ x20 : Int32, x20 = nI m + 1 → LX8_groupBy_109 f1 f2 f3 (nI N) f5 (nI x) post kx n x19 x20 σ := by
        intro w x19 e19 x20 e20
        rw [if_neg (by rw [decide_eq_true_iff]; exact w)] at q
        rw [e19, e20, nI_1, show (0 : Int32) = nI 0 from rfl, nI_add]; exact q
      refine ⟨vx, vm, fun w4 => ⟨vx, vm, fun w5 x24 e24 x25 e25 => ?_, fun w5 => no (fun e => w5 (congrArg Prod.snd e))⟩, fun w4 => no (fun e => w4 (congrArg Prod.fst e))⟩
      have w : lk2 σ x = lk2 σ m := by unfold lk2; rw [w4, w5]
      rw [if_pos (by rw [decide_eq_true_iff]; exact w)] at q
      rw [e24, e25, nI_1, nI_1]; exact q
theorem grpO {σ : XS} {N : Nat} {f1 f2 f3 : Int32} (hN : N ≤ 30) {post : Int32 → XS → Prop} {kx : Int32 → Int32 → XS → Prop} (hk : ∀ M y, M ≤ 30 → isM (fun v => ∃ x, x < N ∧ ca σ N x = v) M → kx (nI M) y σ) : ∀ (n m M : Nat), m ≤ N → N < m + n → M ≤ 30 → isM (fun v => ∃ x, x < m ∧ ca σ N x = v) M → LX8_groupBy_96 f1 f2 f3 (nI N) post kx n (nI M) (nI m) σ := by
  intro n
  induction n with
  | zero => intro m M h1 h2; omega
  | succ n ih =>
    intro m M h1 h2 hM30 hM
    rw [LX8_groupBy_96, nI_leI (by omega) (by omega)]
    refine ⟨fun z => ?_, fun z => ?_⟩
    · obtain rfl : m = N := by omega
      exact hk M _ hM30 hM
    · have cb : ca σ N m ≤ N := ct_le _ _
      refine grpI hN (by omega) (fun y => ?_) 1000 0 (by omega) (by omega)
      obtain ⟨M1, M2⟩ := hM
      rw [nI_leI (by omega) (by omega)]
      refine ⟨fun w x30 e30 => ?_, fun w x31 e31 => ?_⟩
      · rw [e30, nI_1]
        refine ih (m + 1) M (by omega) (by omega) hM30 ⟨?_, ?_⟩
        · rintro v ⟨x, hx, rfl⟩
          by_cases e : x = m
          · rw [e]; exact w
          · exact M1 _ ⟨x, by omega, rfl⟩
        · rcases M2 with M2 | ⟨x, hx, e⟩
          · exact Or.inl M2
          · exact Or.inr ⟨x, by omega, e⟩
      · rw [e31, nI_1]
        refine ih (m + 1) (ca σ N m) (by omega) (by omega) (by omega) ⟨?_, Or.inr ⟨m, by omega, rfl⟩⟩
        rintro v ⟨x, hx, rfl⟩
        by_cases e : x = m
        · rw [e]; exact Nat.le_refl _
        · have := M1 _ ⟨x, by omega, rfl⟩; omega
