/-! ===== all readings are so: the reference ===== -/
def soE (τ : XS) (k : Nat) : Bool := fnd (play ((MS τ (vN τ 41 k + 1)).map (evM τ)) ch0) (gM τ) (vN τ 40 k) (vN τ 42 k) == gI τ 43 k
def soB (τ : XS) : Bool := (List.range (vN τ 24 30)).all (soE τ)
def b01 (b : Bool) : Int32 := if b = true then 1 else 0
theorem soB_iff {τ : XS} : soB τ = true ↔ ∀ k, k < vN τ 24 30 → soE τ k = true := by
  unfold soB
  rw [List.all_eq_true]
  exact ⟨fun h k hk => h k (List.mem_range.mpr hk), fun h k hk => h k (List.mem_range.mp hk)⟩
theorem soB_ag {τ τ' : XS} (h : AG τ τ') : soB τ' = soB τ := by
  have e : soE τ' = soE τ := by
    funext k
    unfold soE
    rw [h.ms, h.ev, (funext (gM_ag h) : gM τ' = gM τ), h.v (j := 41) (k := k) rfl, h.v (j := 40) (k := k) rfl, h.v (j := 42) (k := k) rfl, h 43 k rfl]
  unfold soB
  rw [e, h.v (j := 24) (k := 30) rfl]
def MdR (τ : XS) : Prop := Md τ ∧ (gI τ 24 30 = nI (vN τ 24 30) ∧ vN τ 24 30 ≤ 8) ∧ (∀ k, k < vN τ 24 30 → vp_in (gI τ 40 k) 6 ∧ vp_in (gI τ 41 k) 40 ∧ vp_in (gI τ 42 k) 10) ∧ (∀ k, k < vN τ 24 10 → vp_in (gI τ 29 k) 5)
theorem AG.mr {τ τ' : XS} (h : AG τ τ') (hM : MdR τ) : MdR τ' := by
  refine ⟨h.md hM.1, ?_, ?_, ?_⟩
  · rw [h.v (j := 24) (k := 30) rfl, h 24 30 rfl]; exact hM.2.1
  · intro k hk
    rw [h.v (j := 24) (k := 30) rfl] at hk
    rw [h 40 k rfl, h 41 k rfl, h 42 k rfl]; exact hM.2.2.1 k hk
  · intro k hk
    rw [h.v (j := 24) (k := 10) rfl] at hk
    rw [h 29 k rfl]; exact hM.2.2.2 k hk
theorem soAL {τ0 : XS} {post : Int32 → XS → Prop} {kx : Int32 → Int32 → XS → Prop} (hM : MdR τ0) (hk : ∀ x τ, KK mw τ0 τ → kx (b01 (soB τ0)) x τ) : ∀ (n m : Nat) (τ : XS), m ≤ vN τ0 24 30 → vN τ0 24 30 < m + n → KK mw τ0 τ → (∀ k, k < m → soE τ0 k = true) → LX8_areSo_4 post kx n 1 (nI m) τ := by
  obtain ⟨hMd, ⟨r1, r2⟩, hR, hP⟩ := id hM
  have stop : soB τ0 = false → ∀ n x τ, KK mw τ0 τ → LX8_areSo_4 post kx (n + 1) 0 x τ := by
    intro hb n x τ K
    have : kx 0 x τ := by have := hk x τ K; rw [hb] at this; exact this
    rw [LX8_areSo_4]
    exact ⟨fun _ => this, fun _ => ⟨fun _ => this, fun w => absurd rfl w⟩⟩
  intro n
  induction n with
  | zero => intro m τ h1 h2; omega
  | succ n ih =>
    intro m τ h1 h2 K hs
    rw [LX8_areSo_4, K.1 24 30 rfl, r1, nI_leI (by omega) (by omega)]
    refine ⟨fun h => ?_, fun h => ⟨fun w => absurd w (by decide), fun _ => ?_⟩⟩
    · have : soB τ0 = true := soB_iff.mpr (fun k hk' => hs k (by omega))
      have q := hk (nI m) τ K
      rw [this] at q
      exact q
    · obtain ⟨q40, q41, q42⟩ := hR m (by omega)
      obtain ⟨p1, p2⟩ := cnt q40 (by decide)
      obtain ⟨e1, e2⟩ := cnt q41 (by decide)
      obtain ⟨k1, k2⟩ := cnt q42 (by decide)
      have v8 : vp_in (nI m) 8 := pk_in m 8 (by omega)
      have agt : AG τ0 τ := K.ag mw_ag
      rw [nI_clamp (by omega), K.1 41 m rfl, e1]
      refine ⟨v8, wGoTo (agt.md hMd) e2 (fun τ' K' hr => ?_)⟩
      have K2 := K.tr K'
      have ag2 : AG τ0 τ' := K2.ag mw_ag
      rw [agt.ms, agt.ev] at hr
      have hr25 := rp.mono hr (prs25 hMd _)
      have hlab := MS_lab hMd (N := vN τ0 41 m + 1) (by omega)
      rw [K2.1 40 m rfl, K2.1 42 m rfl, K2.1 43 m rfl, p1, k1]
      have step : ∀ x : Int32, x = fnd (play ((MS τ0 (vN τ0 41 m + 1)).map (evM τ0)) ch0) (gM τ0) (vN τ0 40 m) (vN τ0 42 m) → ((x = gI τ0 43 m → (∀ x9 : Int32, x9 = nI m + 1 → LX8_areSo_4 post kx n (1 : Int32) x9 τ')) ∧ (¬ x = gI τ0 43 m → (∀ x8 : Int32, x8 = nI m + 1 → LX8_areSo_4 post kx n (0 : Int32) x8 τ'))) := by
        intro x ex
        refine ⟨fun z x9 e9 => ?_, fun z x8 e8 => ?_⟩
        · rw [e9, nI_1]
          refine ih (m + 1) τ' (by omega) (by omega) K2 (fun k hk' => ?_)
          rcases (show k < m ∨ k = m by omega) with hk' | rfl
          · exact hs k hk'
          · unfold soE; rw [← ex, z]; exact beq_self_eq_true _
        · obtain ⟨n', rfl⟩ : ∃ n', n = n' + 1 := ⟨n - 1, by omega⟩
          refine stop ?_ n' x8 τ' K2
          cases eb : soB τ0 with
          | false => rfl
          | true =>
            exfalso
            have := soB_iff.mp eb m (by omega)
            unfold soE at this
            rw [← ex, beq_iff_eq] at this
            exact z this
      refine ⟨v8, v8, wX8_layerAt hr25 (Nat.le_refl _) p2 (by omega) (fun w => ?_) (fun w => ?_)⟩
      · have hlt := hlab _ _ w
        have n25 := hMd.2.2.1.2
        refine ⟨fun _ => wX8_gumBy (by omega) (by rw [ag2 29 _ rfl]; exact hP _ hlt) ⟨v8, step _ ?_⟩, fun z => absurd (nI_pos' (by omega)) z⟩
        unfold fnd
        rw [if_pos w, gM_ag ag2]
      · refine ⟨fun z => absurd z (by decide), fun _ => ⟨v8, step _ ?_⟩⟩
        unfold fnd
        rw [if_neg w]
theorem wAreSo {τ : XS} {post : Int32 → XS → Prop} (hM : MdR τ) (h : ∀ τ', KK mw τ τ' → post (b01 (soB τ)) τ') : PX8_areSo τ post := by
  unfold PX8_areSo
  refine soAL (m := 0) hM (fun x τ' K => ⟨?_, h τ' K⟩) 1000 τ (by omega) (by have := hM.2.1.2; omega) (KK.rf τ) (fun k hk => by omega)
  cases soB τ <;> rfl
/-! ===== all readings are so: the class, linked ===== -/
def Lks (σ τ : XS) (T lo : Nat) (lv : Nat → Prop) : Prop := T ≤ 48 ∧ GOc σ T lv ∧ Lk σ τ lv lo ∧ (∀ s, lv s → okE σ s ∧ vN σ 6 s < 40 ∧ (14 ≤ s → s < 39 → s - 14 < vN τ 24 10)) ∧ gI σ 5 2 = nI (vN τ 24 10) ∧ (∀ j, j < vN τ 24 10 → gI σ 9 (14 + j) = gM τ j) ∧ (∀ s, 39 ≤ s → (lv s ↔ s < 39 + vN τ 24 30)) ∧ (∀ k, k < vN τ 24 30 → gI σ 6 (39 + k) = gI τ 41 k ∧ gI σ 7 (39 + k) = gI τ 40 k ∧ gI σ 8 (39 + k) = gI τ 42 k ∧ gI σ 9 (39 + k) = gI τ 43 k)
theorem so_one {σ τ : XS} {T lo i k : Nat} {lv : Nat → Prop} (hM : MdR τ) (h : Lks σ τ T lo lv) (hi : i < T) (hk : k < vN τ 24 30) (e : vN σ 10 i = 39 + k) : soC σ lo i ↔ soE τ k = true := by
  obtain ⟨hT, hO, hL, hE, h5, hg, hrd, hr⟩ := h
  obtain ⟨r6, r7, r8, r9⟩ := hr k hk
  obtain ⟨q40, q41, q42⟩ := hM.2.2.1 k hk
  have k8 := hM.2.1.2
  have e40 : vN τ 41 k < 40 := vin_lt q41
  have v6 : vN σ 6 (39 + k) = vN τ 41 k := by unfold vN; rw [r6]
  have v7 : vN σ 7 (39 + k) = vN τ 40 k := by unfold vN; rw [r7]
  have v8 : vN σ 8 (39 + k) = vN τ 42 k := by unfold vN; rw [r8]
  have hmem : ∀ s, s < 39 → (s ∈ ordL σ i ↔ lv s ∧ vN σ 6 s ≤ vN τ 41 k) := by
    intro s hs
    rw [ord_mem]
    constructor
    · rintro ⟨i', hi', rfl⟩
      have a := hO.2.2.1 i' i hi' hi
      rw [e] at a
      unfold key at a
      rw [v6] at a
      exact ⟨(hO.2.1 i' (by omega)).2, by omega⟩
    · rintro ⟨a, b⟩
      obtain ⟨i', hi', e'⟩ := hO.2.2.2 s a
      refine ⟨i', ?_, e'⟩
      by_cases q : i' < i
      · exact q
      · exfalso
        have hle : key σ (vN σ 10 i) ≤ key σ (vN σ 10 i') := by
          by_cases z : i' = i
          · rw [z]; exact Nat.le_refl _
          · exact Nat.le_of_lt (hO.2.2.1 i i' (by omega) hi')
        rw [e, e'] at hle
        unfold key at hle
        rw [v6] at hle
        omega
  unfold soC soE
  rw [ev_play hM.1 hO hL (by omega) e40 hmem, e, v7, v8, r9, beq_iff_eq]
  have hlab := MS_lab hM.1 (N := vN τ 41 k + 1) (by omega)
  unfold fnd
  by_cases w : vN τ 42 k < (play ((MS τ (vN τ 41 k + 1)).map (evM τ)) ch0).2.1 ((play ((MS τ (vN τ 41 k + 1)).map (evM τ)) ch0).1 (vN τ 40 k))
  · rw [if_pos w, if_pos w, ← hg _ (hlab _ _ w)]
  · rw [if_neg w, if_neg w]
theorem so_all {σ τ : XS} {T lo : Nat} {lv : Nat → Prop} (hM : MdR τ) (h : Lks σ τ T lo lv) : (∀ i, i < T → 39 ≤ vN σ 10 i → soC σ lo i) ↔ soB τ = true := by
  rw [soB_iff]
  obtain ⟨hT, hO, hL, hE, h5, hg, hrd, hr⟩ := id h
  constructor
  · intro w k hk
    obtain ⟨i, hi, e⟩ := hO.2.2.2 (39 + k) ((hrd _ (by omega)).mpr (by omega))
    exact (so_one hM h hi hk e).mp (w i hi (by omega))
  · intro w i hi h39
    have := (hrd _ h39).mp (hO.2.1 i hi).2
    exact (so_one (k := vN σ 10 i - 39) hM h hi (by omega) (by omega)).mpr (w _ (by omega))
theorem wSoC {σ τ : XS} {T lo : Nat} {lv : Nat → Prop} {a1 : Int32} {post : Int32 → XS → Prop} (hM : MdR τ) (h : Lks σ τ T lo lv) (ha : (a1 = -9 ∧ lo = 100) ∨ ∃ k, k < vN τ 24 10 ∧ a1 = nI k ∧ lo = 14 + k) (hk : ∀ σ', KK cw σ σ' → post (b01 (soB τ)) σ') : PX5_isSoWithout a1 σ post := by
  obtain ⟨hT, hO, hL, hE, h5, hg, hrd, hr⟩ := id h
  refine wSoWithout hT hO (fun s hs => ?_) (ev_prs hM.1 hO hL (fun s hs => (hE s hs).2.1)) h5 hM.1.2.2.1.2 ha (fun σ' K w => ?_) (fun σ' K w => ?_)
  · refine ⟨(hE s hs).1, fun h39 => ?_, (hE s hs).2.2⟩
    have hlt := (hrd s h39).mp hs
    obtain ⟨r6, r7, r8, r9⟩ := hr (s - 39) (by omega)
    rw [show 39 + (s - 39) = s by omega] at r6 r7 r8 r9
    obtain ⟨q40, q41, q42⟩ := hM.2.2.1 (s - 39) (by omega)
    have a : vp_in (gI σ 7 s) 6 := by rw [r7]; exact q40
    have b : vp_in (gI σ 8 s) 10 := by rw [r8]; exact q42
    exact ⟨(cnt a (by decide)).1, (cnt a (by decide)).2, (cnt b (by decide)).1⟩
  · have := hk σ' K
    rw [(so_all hM h).mp w] at this
    exact this
  · have := hk σ' K
    have e : soB τ = false := by
      cases eb : soB τ with
      | false => rfl
      | true =>
        obtain ⟨i, hi, h39, z⟩ := w
        exact absurd ((so_all hM h).mpr eb i hi h39) z
    rw [e] at this
    exact this
