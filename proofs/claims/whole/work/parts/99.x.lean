/-! ===== look: the reference's groups ===== -/
section GX
variable (σ0 : XS) (n0 e w : Nat)
def tP (x : Nat) : XS := tS σ0 (vN σ0 24 10) (nI (x / vN σ0 24 1)) (nI (x % vN σ0 24 1)) (nI n0)
def gX (x k : Nat) : Nat := (gM (tP σ0 n0 x) k).toNatClampNeg
def gx (x : Nat) : List Nat := gl (gX σ0 n0 x) (pY (tP σ0 n0 x) e) w
def may (x : Nat) : Bool := fP σ0 n0 (x / vN σ0 24 1) && fT σ0 n0 (x % vN σ0 24 1)
def kap (x : Nat) : Int64 × Int64 := (lN (ky1 (gx σ0 n0 e w x)), lN (ky2 (gx σ0 n0 e w x)))
def grp (v : Nat) : Prop := ∃ y, y < vN σ0 24 2 * vN σ0 24 1 ∧ may σ0 n0 y = true ∧ ct (fun y' => may σ0 n0 y' && decide (gx σ0 n0 e w y = gx σ0 n0 e w y')) (vN σ0 24 2 * vN σ0 24 1) = v
def g0N (k : Nat) : Nat := (gM σ0 k).toNatClampNeg
end GX
section GY
variable {σ0 : XS} {n0 e w : Nat}
theorem gM_in (h : Gd σ0) {k : Nat} (hk : k < vN σ0 24 10) : vp_in (gM σ0 k) 8 := by
  have hw := h.w
  obtain ⟨a1, a2, a3⟩ := hw.sv hk
  unfold gM
  rw [a3.1]
  exact gumv_in (hw.fl a1.2) a3.2
theorem pq (h : Gd σ0) {x : Nat} (hx : x < vN σ0 24 2 * vN σ0 24 1) : 0 < vN σ0 24 1 ∧ x / vN σ0 24 1 < vN σ0 24 2 ∧ x % vN σ0 24 1 < vN σ0 24 1 ∧ vN σ0 24 2 * vN σ0 24 1 ≤ 30 ∧ vN σ0 24 2 ≤ 5 ∧ vN σ0 24 1 ≤ 6 := by
  have hp := h.w.2.1.p
  have hq := h.w.2.1.q
  have hP : 0 < vN σ0 24 1 := by
    rcases Nat.eq_zero_or_pos (vN σ0 24 1) with z | z
    · rw [z] at hx; omega
    · exact z
  exact ⟨hP, Nat.div_lt_of_lt_mul (by rw [Nat.mul_comm]; exact hx), Nat.mod_lt _ hP, Nat.le_trans (Nat.mul_le_mul (by omega : vN σ0 24 2 ≤ 5) (by omega : vN σ0 24 1 ≤ 6)) (by decide), by omega, by omega⟩
theorem gX_c (h : Gd σ0) (h40 : n0 < 40) {x : Nat} (hx : x < vN σ0 24 2 * vN σ0 24 1) : gM (tP σ0 n0 x) (vN σ0 24 10) = nI (gpN σ0 n0 (x / vN σ0 24 1)) ∧ gpN σ0 n0 (x / vN σ0 24 1) < 8 := by
  obtain ⟨hP, hd, hm, h30, h5, h6⟩ := pq h hx
  unfold tP
  rw [gM_tS, if_pos rfl, nI_clamp (by omega)]
  exact gpN_eq h.w h40 hd
theorem gX_k {x k : Nat} (hk : k < vN σ0 24 10) : gM (tP σ0 n0 x) k = gM σ0 k := by
  unfold tP
  rw [gM_tS, if_neg (by omega)]
theorem gX_ok (h : Gd σ0) (h40 : n0 < 40) {x : Nat} (hx : x < vN σ0 24 2 * vN σ0 24 1) {k : Nat} (hk : k < vN σ0 24 10 + 1) : gM (tP σ0 n0 x) k = nI (gX σ0 n0 x k) ∧ gX σ0 n0 x k < 8 := by
  have v : vp_in (gM (tP σ0 n0 x) k) 8 := by
    by_cases z : k = vN σ0 24 10
    · rw [z]
      obtain ⟨a, b⟩ := gX_c h h40 hx
      rw [a]; exact pk_in _ 8 b
    · rw [gX_k (by omega)]; exact gM_in h (by omega)
  exact ⟨vin_nI v (by decide), vin_lt v⟩
theorem mrP (h : Gd σ0) (h40 : n0 < 40) {x : Nat} (hx : x < vN σ0 24 2 * vN σ0 24 1) : MdR (tP σ0 n0 x) := by
  obtain ⟨hP, hd, hm, h30, h5, h6⟩ := pq h hx
  exact mrS h rfl (pk_in (x / vN σ0 24 1) 5 (by omega)) (pk_in (x % vN σ0 24 1) 6 (by omega)) (pk_in n0 40 h40)
theorem labP (h : Gd σ0) (h40 : n0 < 40) (he : e < 40) {x : Nat} (hx : x < vN σ0 24 2 * vN σ0 24 1) : lab (vN σ0 24 10 + 1) (pY (tP σ0 n0 x) e) := by
  have cs := h.w.2.1.s
  have := MS_lab (mrP h h40 hx).1 (N := e + 1) (by omega)
  unfold tP at this
  rw [tS_v _ _ _ _ _ (by omega)] at this
  exact this
theorem lab0' (h : Gd σ0) (he : e < 40) : lab (vN σ0 24 10) (pY σ0 e) := MS_lab h.md (N := e + 1) (by omega)
theorem gx_dig (h : Gd σ0) (h40 : n0 < 40) (he : e < 40) {x : Nat} (hx : x < vN σ0 24 2 * vN σ0 24 1) : ∀ g, g ∈ gx σ0 n0 e w x → g < 8 := by
  intro g hg
  unfold gx gl at hg
  obtain ⟨k, hk, rfl⟩ := List.mem_map.mp hg
  have hk2 := List.mem_range.mp hk
  exact (gX_ok h h40 hx (labP h h40 he hx _ _ hk2)).2
theorem gx_len (h : Gd σ0) (h40 : n0 < 40) (he : e < 40) {x : Nat} (hx : x < vN σ0 24 2 * vN σ0 24 1) {τ : XS} (hr : rp 37 38 39 25 τ (pY (tP σ0 n0 x) e)) (hw : w < 6) : (gx σ0 n0 e w x).length ≤ 25 := by
  unfold gx gl
  rw [List.length_map, List.length_range]
  exact (hr.2.1 _ (hr.1 w hw).2).2
end GY
theorem rf_len (p : Nat → Bool) (m : Nat) : (rf p m).length = ct p m := by
  unfold rf ct
  rw [List.countP_eq_length_filter]
theorem grpF {σ0 : XS} (h0 : Gd σ0) {n0 e w : Nat} (h40 : n0 < 40) (he : e < 40) (hw : w < 6) {post : Int32 → XS → Prop} {kx : Int32 → Int32 → XS → Prop} (hk : ∀ y σ', QK (vN σ0 24 10) σ0 σ' → (List.range (ct (may σ0 n0) (vN σ0 24 2 * vN σ0 24 1))).map (lk2 σ') = (rf (may σ0 n0) (vN σ0 24 2 * vN σ0 24 1)).map (kap σ0 n0 e w) → (∀ x, x < vN σ0 24 2 * vN σ0 24 1 → may σ0 n0 x = true → (gx σ0 n0 e w x).length ≤ 25) → kx (nI (ct (may σ0 n0) (vN σ0 24 2 * vN σ0 24 1))) y σ') : ∀ (n m : Nat) (σ : XS), m ≤ vN σ0 24 2 * vN σ0 24 1 → vN σ0 24 2 * vN σ0 24 1 < m + n → QK (vN σ0 24 10) σ0 σ → (List.range (ct (may σ0 n0) m)).map (lk2 σ) = (rf (may σ0 n0) m).map (kap σ0 n0 e w) → (∀ x, x < m → may σ0 n0 x = true → (gx σ0 n0 e w x).length ≤ 25) → LX8_groupBy_6 (nI w) (nI n0) (nI e) post kx n (nI (ct (may σ0 n0) m)) (nI m) σ := by
  have cp := h0.w.2.1.p
  have cq := h0.w.2.1.q
  have cs := h0.w.2.1.s
  have QP30 : vN σ0 24 2 * vN σ0 24 1 ≤ 30 := Nat.le_trans (Nat.mul_le_mul (by omega : vN σ0 24 2 ≤ 5) (by omega : vN σ0 24 1 ≤ 6)) (by decide)
  obtain ⟨W, eW⟩ : ∃ W, W = vN σ0 24 2 * vN σ0 24 1 := ⟨_, rfl⟩
  intro n
  induction n with
  | zero => intro m σ h1 h2; omega
  | succ n ih =>
    intro m σ h1 h2 K hl hlen
    have e1 : gI σ 24 1 = nI (vN σ0 24 1) := by rw [K.g rfl (fun w => by omega)]; exact cq.1
    have e2 : gI σ 24 2 = nI (vN σ0 24 2) := by rw [K.g rfl (fun w => by omega)]; exact cp.1
    have e10 : gI σ 24 10 = nI (vN σ0 24 10) := by rw [K.g rfl (fun w => by omega)]; exact cs.1
    have ec := K.v 10
    rw [LX8_groupBy_6, e1, e2, pk_mul, nI_leI (by omega) (by omega)]
    refine ⟨fun z => ?_, fun z => ?_⟩
    · have em : m = vN σ0 24 2 * vN σ0 24 1 := by omega
      rw [em] at hl hlen ⊢
      exact hk _ σ K hl hlen
    · have hm : m < vN σ0 24 2 * vN σ0 24 1 := by omega
      obtain ⟨hP, hd, hmm, h30, h5, h6⟩ := pq h0 hm
      have nz : ¬ nI (vN σ0 24 1) = 0 := nI_ne0 hP (by omega)
      refine ⟨nz, fun x2 ex2 => ⟨nz, fun x3 ex3 => ?_⟩⟩
      rw [pk_div (by omega) hP (by omega)] at ex2
      rw [pk_rem (by omega) hP (by omega)] at ex3
      subst ex2; subst ex3
      refine wMayM ⟨by rw [ec]; exact e10, by omega⟩ ?_
      rw [maB_qk K, maB_f h0.w h40 (by omega) (by omega)]
      have cts := ct_s (may σ0 n0) m
      have rfs := rf_s (may σ0 n0) m
      have mm : (fP σ0 n0 (m / vN σ0 24 1) && fT σ0 n0 (m % vN σ0 24 1)) = may σ0 n0 m := rfl
      rw [mm]
      cases eb : may σ0 n0 m with
      | false =>
        rw [eb, if_neg (by decide)] at cts rfs
        refine ⟨fun _ x6 ex6 => ?_, fun w => absurd rfl w⟩
        have q := ih (m + 1) σ (by omega) (by omega) K (by rw [cts, Nat.add_zero, rfs]; exact hl) (fun x hx hmx => ?_)
        · rw [cts, Nat.add_zero] at q
          rw [ex6, nI_1]; exact q
        · by_cases ex : x = m
          · rw [ex, eb] at hmx; cases hmx
          · exact hlen x (by omega) hmx
      | true =>
        rw [eb, if_pos rfl] at cts rfs
        have ctm : ct (may σ0 n0) m ≤ m := ct_le _ _
        refine ⟨fun w => absurd w (by decide), fun _ => wSitDown e10 (by omega) ?_⟩
        have agS : AG (tP σ0 n0 m) (tS σ (vN σ0 24 10) (nI (m / vN σ0 24 1)) (nI (m % vN σ0 24 1)) (nI n0)) := K.agS _ _ _
        have hMP := mrP h0 h40 hm
        refine wGoTo (agS.md hMP.1) he (fun τ' K' hr => ?_)
        rw [agS.ms, agS.ev] at hr
        have hr25 : rp 37 38 39 25 τ' (pY (tP σ0 n0 m) e) := rp.mono hr (prs25 hMP.1 _)
        have ag' : AG (tP σ0 n0 m) τ' := agS.tr (K'.ag mw_ag)
        have v10 : vN (tP σ0 n0 m) 24 10 = vN σ0 24 10 + 1 := tS_v _ _ _ _ _ (by omega)
        refine wLayLook (g := gX σ0 n0 m) hr25 hw (by omega) (labP h0 h40 he hm) (by omega) (fun j hj => ?_) (fun σ9 K9 l4 l5 σ10 es10 x11 e11 x12 e12 => ?_)
        · rw [ag' 29 j rfl, gM_ag ag']
          exact ⟨hMP.2.2.2 j (by omega), gX_ok h0 h40 hm hj⟩
        · have bk : QK (vN σ0 24 10) σ σ10 := QK.back e10 (fun j k hjk => (K9.I j k).trans (K'.1 j k hjk)) (by rw [K9.2.1, K'.2]; rfl) es10
          have lkk : ∀ i, i ≠ ct (may σ0 n0) m → lk2 σ10 i = lk2 σ i := by
            intro i hi
            have q : ∀ j, gL σ10 j i = gL σ j i := by
              intro j
              rw [es10, gL_sI, K9.2.2 j i hi]
              show τ'.2.1 j i = σ.2.1 j i
              rw [K'.2]; rfl
            unfold lk2
            rw [q, q]
          have q := ih (m + 1) σ10 (by omega) (by omega) (K.tr bk) ?_ (fun x hx hmx => ?_)
          · rw [cts] at q
            rw [e11, e12, nI_1, nI_1]; exact q
          · rw [cts, rfs, List.range_succ, List.map_append, List.map_append]
            congr 1
            · rw [← hl]
              apply List.map_congr_left
              intro i hi
              have := List.mem_range.mp hi
              exact lkk i (by omega)
            · show [lk2 σ10 (ct (may σ0 n0) m)] = [kap σ0 n0 e w m]
              have a4 : gL σ10 44 (ct (may σ0 n0) m) = lN (ky1 (gx σ0 n0 e w m)) := by rw [es10, gL_sI]; exact l4
              have a5 : gL σ10 45 (ct (may σ0 n0) m) = lN (ky2 (gx σ0 n0 e w m)) := by rw [es10, gL_sI]; exact l5
              unfold lk2 kap
              rw [a4, a5]
          · by_cases ex : x = m
            · rw [ex]; exact gx_len h0 h40 he hm hr25 hw
            · exact hlen x (by omega) hmx
theorem wGroup {σ0 : XS} (h0 : Gd σ0) {n0 e w : Nat} (h40 : n0 < 40) (he : e < 40) (hw : w < 6) {post : Int32 → XS → Prop} {σ : XS} (K : QK (vN σ0 24 10) σ0 σ) (hk : ∀ M σ', QK (vN σ0 24 10) σ0 σ' → M ≤ 30 → isM (grp σ0 n0 e w) M → post (nI M) σ') : PX8_groupBy (nI w) (nI n0) (nI e) σ post := by
  have cp := h0.w.2.1.p
  have cq := h0.w.2.1.q
  have QP30 : vN σ0 24 2 * vN σ0 24 1 ≤ 30 := Nat.le_trans (Nat.mul_le_mul (by omega : vN σ0 24 2 ≤ 5) (by omega : vN σ0 24 1 ≤ 6)) (by decide)
  have ctN : ct (may σ0 n0) (vN σ0 24 2 * vN σ0 24 1) ≤ vN σ0 24 2 * vN σ0 24 1 := ct_le _ _
  unfold PX8_groupBy
  refine grpF h0 h40 he hw (fun y σ1 K1 hl hlen => ?_) 1000 0 σ (by omega) (by omega) K rfl (fun x hx => by omega)
  refine grpO (by omega) (fun M y2 hM30 hM => hk M σ1 K1 hM30 ?_) 1000 0 0 (by omega) (by omega) (by omega) ⟨fun v ⟨x, hx, _⟩ => by omega, Or.inl rfl⟩
  have kinj : ∀ y y', y < vN σ0 24 2 * vN σ0 24 1 → y' < vN σ0 24 2 * vN σ0 24 1 → may σ0 n0 y = true → may σ0 n0 y' = true → (kap σ0 n0 e w y = kap σ0 n0 e w y' ↔ gx σ0 n0 e w y = gx σ0 n0 e w y') := by
    intro y y' hy hy' my my'
    have d := gx_dig (w := w) h0 h40 he hy
    have d' := gx_dig (w := w) h0 h40 he hy'
    constructor
    · intro q
      have q1 : lN (ky1 (gx σ0 n0 e w y)) = lN (ky1 (gx σ0 n0 e w y')) := congrArg Prod.fst q
      have q2 : lN (ky2 (gx σ0 n0 e w y)) = lN (ky2 (gx σ0 n0 e w y')) := congrArg Prod.snd q
      rw [pk_lEQ (ky1_b d) (ky1_b d')] at q1
      rw [pk_lEQ (ky2_b d (hlen y hy my)) (ky2_b d' (hlen y' hy' my'))] at q2
      exact ky_inj d d' q1 q2
    · intro q
      unfold kap
      rw [q]
  have cav : ∀ v : Int64 × Int64, ct (fun i => decide (v = lk2 σ1 i)) (ct (may σ0 n0) (vN σ0 24 2 * vN σ0 24 1)) = ct (fun y' => may σ0 n0 y' && decide (v = kap σ0 n0 e w y')) (vN σ0 24 2 * vN σ0 24 1) := by
    intro v
    have a : ct (fun i => decide (v = lk2 σ1 i)) (ct (may σ0 n0) (vN σ0 24 2 * vN σ0 24 1)) = ((List.range (ct (may σ0 n0) (vN σ0 24 2 * vN σ0 24 1))).map (lk2 σ1)).countP (fun z => decide (v = z)) := by
      unfold ct
      rw [List.countP_map]
      rfl
    rw [a, hl, List.countP_map]
    unfold rf ct
    rw [List.countP_filter]
    refine List.countP_congr (fun x _ => ?_)
    show (decide (v = kap σ0 n0 e w x) && may σ0 n0 x) = true ↔ _
    rw [Bool.and_comm]
  have mem : ∀ v : Int64 × Int64, (∃ i, i < ct (may σ0 n0) (vN σ0 24 2 * vN σ0 24 1) ∧ lk2 σ1 i = v) ↔ (∃ y, y < vN σ0 24 2 * vN σ0 24 1 ∧ may σ0 n0 y = true ∧ kap σ0 n0 e w y = v) := by
    intro v
    have a : v ∈ (List.range (ct (may σ0 n0) (vN σ0 24 2 * vN σ0 24 1))).map (lk2 σ1) ↔ v ∈ (rf (may σ0 n0) (vN σ0 24 2 * vN σ0 24 1)).map (kap σ0 n0 e w) := by rw [hl]
    rw [List.mem_map, List.mem_map] at a
    constructor
    · rintro ⟨i, hi, ei⟩
      obtain ⟨y, hy, ey⟩ := a.mp ⟨i, List.mem_range.mpr hi, ei⟩
      rw [rf_mem] at hy
      exact ⟨y, hy.1, hy.2, ey⟩
    · rintro ⟨y, hy, my, ey⟩
      obtain ⟨i, hi, ei⟩ := a.mpr ⟨y, (rf_mem _ _ _).mpr ⟨hy, my⟩, ey⟩
      exact ⟨i, List.mem_range.mp hi, ei⟩
  have same : ∀ y, y < vN σ0 24 2 * vN σ0 24 1 → may σ0 n0 y = true → ct (fun y' => may σ0 n0 y' && decide (kap σ0 n0 e w y = kap σ0 n0 e w y')) (vN σ0 24 2 * vN σ0 24 1) = ct (fun y' => may σ0 n0 y' && decide (gx σ0 n0 e w y = gx σ0 n0 e w y')) (vN σ0 24 2 * vN σ0 24 1) := by
    intro y hy my
    refine ct_congr (fun y' hy' => ?_)
    cases my' : may σ0 n0 y' with
    | false => rfl
    | true =>
      rw [Bool.true_and, Bool.true_and]
      have := kinj y y' hy hy' my my'
      by_cases q : gx σ0 n0 e w y = gx σ0 n0 e w y'
      · rw [decide_eq_true (this.mpr q), decide_eq_true q]
      · rw [decide_eq_false (fun z => q (this.mp z)), decide_eq_false q]
  have eqv : ∀ v, (∃ x, x < ct (may σ0 n0) (vN σ0 24 2 * vN σ0 24 1) ∧ ca σ1 (ct (may σ0 n0) (vN σ0 24 2 * vN σ0 24 1)) x = v) ↔ grp σ0 n0 e w v := by
    intro v
    unfold ca grp
    constructor
    · rintro ⟨x, hx, rfl⟩
      obtain ⟨y, hy, my, ey⟩ := (mem (lk2 σ1 x)).mp ⟨x, hx, rfl⟩
      refine ⟨y, hy, my, ?_⟩
      rw [cav, ← ey, same y hy my]
    · rintro ⟨y, hy, my, rfl⟩
      obtain ⟨x, hx, ex⟩ := (mem (kap σ0 n0 e w y)).mpr ⟨y, hy, my, rfl⟩
      refine ⟨x, hx, ?_⟩
      rw [cav, ex, same y hy my]
  obtain ⟨M1, M2⟩ := hM
  exact ⟨fun v hv => M1 v ((eqv v).mpr hv), M2.imp id (fun q => (eqv M).mp q)⟩
