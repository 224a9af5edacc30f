/-! ===== sheets ===== -/
def scr2 (j k : Nat) : Bool := (j == 16 || (j == 17 || (j == 18 || (j == 19 || (j == 20 || (j == 21 || (j == 22 || (j == 23 || (j == 46 || (j == 47 || (j == 48 || scr j k)))))))))))
def Kv (σ σ' : XS) : Prop := (∀ j k, scr2 j k = false → gI σ' j k = gI σ j k) ∧ σ'.2.2 = σ.2.2
def Gv (σ : XS) : Prop := (gI σ 0 6 = gI σ 24 2 ∧ gI σ 0 7 = gI σ 24 1) ∧ GB σ ∧ GC σ ∧ GDs σ ∧ GDm σ ∧ GDc σ ∧ GDr σ ∧ GU σ ∧ GO σ
theorem Kv.rf (σ : XS) : Kv σ σ := ⟨fun _ _ _ => rfl, rfl⟩
theorem Kv.tr {σ σ1 σ2 : XS} (h : Kv σ σ1) (h2 : Kv σ1 σ2) : Kv σ σ2 := ⟨fun j k hs => (h2.1 j k hs).trans (h.1 j k hs), h2.2.trans h.2⟩
theorem Kv.I {σ : XS} {j k : Nat} {x : Int32} (hs : scr2 j k = true) : Kv σ (sI σ j k x) := by
  refine ⟨fun j' k' h => ?_, rfl⟩
  rw [gI_sI]
  by_cases hq : j' = j ∧ k' = k
  · rw [hq.1, hq.2, hs] at h
    cases h
  · rw [if_neg hq]
theorem Kv.R {σ : XS} {j : Nat} {f : Nat → Int32} (hs : ∀ k, scr2 j k = true) : Kv σ (sR σ j f) := by
  refine ⟨fun j' k' h => ?_, rfl⟩
  rw [gI_sR]
  by_cases hq : j' = j
  · rw [hq, hs] at h
    cases h
  · rw [if_neg hq]
theorem Kv.row {σ σ' : XS} (h : Kv σ σ') {j : Nat} (hs : ∀ k, scr2 j k = false) : gI σ' j = gI σ j := by
  funext k
  exact h.1 j k (hs k)
theorem Gd.v {σ : XS} (h : Gd σ) : Gv σ := ⟨⟨h.1.1, h.1.2.1⟩, h.2.1, h.2.2.1, h.2.2.2.1, h.2.2.2.2.1, h.2.2.2.2.2.1, h.2.2.2.2.2.2.1, h.2.2.2.2.2.2.2.1, h.2.2.2.2.2.2.2.2.1⟩
theorem Gd.sh {σ : XS} (h : Gd σ) : GS σ := h.2.2.2.2.2.2.2.2.2
theorem Gv.k {σ σ' : XS} (h : Gv σ) (K : Kv σ σ') : Gv σ' := by
  have r5 : gI σ' 5 = gI σ 5 := K.row (fun _ => rfl)
  have r6 : gI σ' 6 = gI σ 6 := K.row (fun _ => rfl)
  have r7 : gI σ' 7 = gI σ 7 := K.row (fun _ => rfl)
  have r8 : gI σ' 8 = gI σ 8 := K.row (fun _ => rfl)
  have r9 : gI σ' 9 = gI σ 9 := K.row (fun _ => rfl)
  have r10 : gI σ' 10 = gI σ 10 := K.row (fun _ => rfl)
  have r25 : gI σ' 25 = gI σ 25 := K.row (fun _ => rfl)
  have r26 : gI σ' 26 = gI σ 26 := K.row (fun _ => rfl)
  have r29 : gI σ' 29 = gI σ 29 := K.row (fun _ => rfl)
  have r30 : gI σ' 30 = gI σ 30 := K.row (fun _ => rfl)
  have r31 : gI σ' 31 = gI σ 31 := K.row (fun _ => rfl)
  have r32 : gI σ' 32 = gI σ 32 := K.row (fun _ => rfl)
  have r33 : gI σ' 33 = gI σ 33 := K.row (fun _ => rfl)
  have r34 : gI σ' 34 = gI σ 34 := K.row (fun _ => rfl)
  have r35 : gI σ' 35 = gI σ 35 := K.row (fun _ => rfl)
  have r36 : gI σ' 36 = gI σ 36 := K.row (fun _ => rfl)
  have r40 : gI σ' 40 = gI σ 40 := K.row (fun _ => rfl)
  have r41 : gI σ' 41 = gI σ 41 := K.row (fun _ => rfl)
  have r42 : gI σ' 42 = gI σ 42 := K.row (fun _ => rfl)
  have r43 : gI σ' 43 = gI σ 43 := K.row (fun _ => rfl)
  have c1 : gI σ' 24 1 = gI σ 24 1 := K.1 _ _ rfl
  have c2 : gI σ' 24 2 = gI σ 24 2 := K.1 _ _ rfl
  have c10 : gI σ' 24 10 = gI σ 24 10 := K.1 _ _ rfl
  have c14 : gI σ' 24 14 = gI σ 24 14 := K.1 _ _ rfl
  have c18 : gI σ' 24 18 = gI σ 24 18 := K.1 _ _ rfl
  have c30 : gI σ' 24 30 = gI σ 24 30 := K.1 _ _ rfl
  have c06 : gI σ' 0 6 = gI σ 0 6 := K.1 _ _ rfl
  have c07 : gI σ' 0 7 = gI σ 0 7 := K.1 _ _ rfl
  have c46 : gI σ' 4 6 = gI σ 4 6 := K.1 _ _ rfl
  have pP : ∀ k, gP σ' k = gP σ k := fun k => by unfold gP; rw [K.2]
  have pA : gA σ' = gA σ := by unfold gA; rw [K.2]
  have pK : ∀ k, gK σ' k = gK σ k := fun k => by unfold gK; rw [K.2]
  have pV : ∀ k, gV σ' k = gV σ k := fun k => by unfold gV; rw [K.2]
  have v1 : vN σ' 24 1 = vN σ 24 1 := by unfold vN; rw [c1]
  have v2 : vN σ' 24 2 = vN σ 24 2 := by unfold vN; rw [c2]
  have v10 : vN σ' 24 10 = vN σ 24 10 := by unfold vN; rw [c10]
  have v14 : vN σ' 24 14 = vN σ 24 14 := by unfold vN; rw [c14]
  have v18 : vN σ' 24 18 = vN σ 24 18 := by unfold vN; rw [c18]
  have v30 : vN σ' 24 30 = vN σ 24 30 := by unfold vN; rw [c30]
  have vo : ∀ i, vN σ' 10 i = vN σ 10 i := fun i => by unfold vN; rw [r10]
  have v6 : ∀ i, vN σ' 6 i = vN σ 6 i := fun i => by unfold vN; rw [r6]
  have v29 : ∀ i, vN σ' 29 i = vN σ 29 i := fun i => by unfold vN; rw [r29]
  have hl : ∀ s, live σ' s ↔ live σ s := fun s => by unfold live; rw [v10, v14, v18, v30]
  have hk : ∀ s, key σ' s = key σ s := fun s => by unfold key; rw [v6]
  have ht : tot σ' = tot σ := by unfold tot vN; rw [c46]
  obtain ⟨hA, hB, hC, hDs, hDm, hDc, hDr, hU, hO⟩ := h
  refine ⟨?_, ?_, ?_, ?_, ?_, ?_, ?_, ?_, ?_⟩
  · rw [c06, c07, c1, c2]; exact hA
  · unfold GB at hB ⊢; rw [c1, c2, c10, c14, c18, c30, r5]; exact hB
  · intro p hp
    rw [v2] at hp
    obtain ⟨a, e1, e2, e3, e4, e5⟩ := hC p hp
    refine ⟨a, by rw [pP]; exact e1, ?_, by rw [r25, pK]; exact e3, by rw [r26, pV]; exact e4, by rw [pV]; exact e5⟩
    unfold isPe at e2 ⊢
    rw [pA, pK]; exact e2
  · intro k hk2
    rw [v10] at hk2
    have := hDs k hk2
    rw [r29, r30, r31, r6, r7, r8, r9, r25, r26, v29, v1, v2]; exact this
  · intro k hk2
    rw [v14] at hk2
    have := hDm k hk2
    rw [r32, r33, r34, r6, r7, r8, v1]; exact this
  · intro k hk2
    rw [v18] at hk2
    have := hDc k hk2
    rw [r35, r36, r6, r7, v1]; exact this
  · intro k hk2
    rw [v30] at hk2
    have := hDr k hk2
    rw [r40, r41, r42, r43, r6, r7, r8, r9, v1]; exact this
  · intro j k hj hk2
    rw [v10] at hj hk2
    rw [r29, r30, r31]
    exact hU j k hj hk2
  · obtain ⟨o1, o2, o3, o4⟩ := hO
    refine ⟨by rw [c46, ht]; exact o1, fun i hi => ?_, fun i j hij hj => ?_, fun s hs => ?_⟩
    · rw [ht] at hi
      rw [r10, vo, hl]; exact o2 i hi
    · rw [ht] at hj
      rw [hk, hk, vo, vo]; exact o3 i j hij hj
    · rw [hl] at hs
      obtain ⟨i, hi, e⟩ := o4 s hs
      exact ⟨i, by rw [ht]; exact hi, by rw [vo]; exact e⟩
theorem Gd.ofv {σ σ' : XS} (h : Gd σ) (K : Kv σ σ') (hS : GS σ') (h1 : gI σ' 0 8 = gI σ' 24 0) (h2 : gI σ' 15 0 = gI σ 15 0) (h2' : gI σ' 24 41 = gI σ 24 41) (h3 : gI σ' 24 21 = gI σ 24 21) (h4 : gI σ' 24 22 = gI σ 24 22) (h5 : gI σ' 24 25 = gI σ 24 25) : Gd σ' := by
  obtain ⟨a, b, c, d, e, f, g, u, o⟩ := h.v.k K
  exact ⟨⟨a.1, a.2, h1, h2.trans (h.1.2.2.2.1.trans h2'.symm), h3.trans h.1.2.2.2.2.1, h4.trans h.1.2.2.2.2.2.1, h5.trans h.1.2.2.2.2.2.2⟩, b, c, d, e, f, g, u, o, hS⟩
def shR (σ : XS) (i : Nat) : Prop := (gI σ (16 + 2 * i) 2 = -1 ∧ gI σ (16 + 2 * i) 1 = 0 ∧ gI σ 46 i = -1) ∨ (vp_in (gI σ (16 + 2 * i) 2) 3 ∧ vp_in (gI σ (16 + 2 * i) 1) 61 ∧ gI σ 46 i = gI σ (16 + 2 * i) 1 ∧ gI σ 47 i = gI σ (16 + 2 * i) 2 ∧ ∀ j, j < vN σ 46 i → gI σ 48 (60 * i + j) = gI σ (17 + 2 * i) j)
theorem GS.set {σ σ' : XS} (h : GS σ) {i : Nat} (ho : ∀ i', i' < 4 → i' ≠ i → gI σ' (16 + 2 * i') = gI σ (16 + 2 * i') ∧ gI σ' (17 + 2 * i') = gI σ (17 + 2 * i') ∧ gI σ' 46 i' = gI σ 46 i' ∧ gI σ' 47 i' = gI σ 47 i' ∧ ∀ j, j < 60 → gI σ' 48 (60 * i' + j) = gI σ 48 (60 * i' + j)) (hn : shR σ' i) : GS σ' := by
  intro i' hi'
  by_cases hq : i' = i
  · subst hq; exact hn
  · obtain ⟨o1, o2, o3, o4, o5⟩ := ho i' hi' hq
    rw [o1, o2, o3, o4]
    rcases h i' hi' with z | ⟨z1, z2, z3, z4, z5⟩
    · exact Or.inl z
    · refine Or.inr ⟨z1, z2, z3, z4, fun j hj => ?_⟩
      have e : vN σ' 46 i' = vN σ 46 i' := by unfold vN; rw [o3]
      rw [e] at hj
      have hl : vN σ 46 i' < 61 := by unfold vN; rw [z3]; exact vin_lt z2
      rw [o5 j (by omega)]
      exact z5 j hj
theorem sI_sR (σ : XS) (j k : Nat) (f : Nat → Int32) (x : Int32) : sI (sR σ j f) j k x = sR σ j (upd f k x) := by
  unfold sI sR gI
  show (va_up (va_up σ.1 j f) j (upd (va_up σ.1 j f j) k x), σ.2) = _
  rw [va_up_self, bx_uu]
theorem sR_id (σ : XS) (j : Nat) : sR σ j (gI σ j) = σ := by
  unfold sR
  have : va_up σ.1 j (gI σ j) = σ.1 := by
    funext i
    unfold va_up
    by_cases h : i = j
    · subst h; rw [if_pos rfl]; rfl
    · rw [if_neg h]
  rw [this]
theorem gI_row (σ : XS) (j : Nat) (f : Nat → Int32) : gI (sR σ j f) j = f := by
  funext k
  rw [gI_sR, if_pos rfl]
theorem gI_row' (σ : XS) {j j' : Nat} (f : Nat → Int32) (h : j' ≠ j) : gI (sR σ j f) j' = gI σ j' := by
  funext k
  rw [gI_sR, if_neg h]
theorem fillL {q N : Nat} {f : Int32} {post : XS → Prop} {kx : Int32 → XS → Prop} {σ : XS} (hN : N < 1000) (hk : kx (nI N) (sR σ q (fun k => if k < N then f else gI σ q k))) : ∀ (n m : Nat), m ≤ N → N < m + n → LJ7_fill_53178_5 q N f (nI N) post kx n (nI m) (sR σ q (fun k => if k < m then f else gI σ q k)) := by
  intro n
  induction n with
  | zero => intro m h1 h2; omega
  | succ n ih =>
    intro m h1 h2
    rw [LJ7_fill_53178_5]
    refine ⟨fun h => ?_, fun h => ⟨?_, fun σ3 e3 x4 e4 => ?_⟩⟩
    · rw [nI_leI (by omega) (by omega)] at h
      obtain rfl : m = N := by omega
      exact hk
    · rw [nI_leI (by omega) (by omega)] at h
      exact vp_in_nI (by omega) (by omega)
    · rw [nI_leI (by omega) (by omega)] at h
      rw [e3, e4, nI_1, nI_clamp (by omega), sI_sR]
      have e : upd (fun k => if k < m then f else gI σ q k) m f = (fun k => if k < m + 1 then f else gI σ q k) := by
        funext k
        unfold upd
        by_cases hk : k = m
        · subst hk; simp
        · have : (k < m + 1) ↔ (k < m) := by omega
          simp [hk, this]
      rw [e]
      exact ih (m + 1) (by omega) (by omega)
theorem wFill {q N : Nat} {f : Int32} {post : XS → Prop} {σ : XS} (hN : N < 900) (h : post (sR σ q (fun k => if k < N then f else gI σ q k))) : PJ7_fill_53178 q N f σ post := by
  unfold PJ7_fill_53178
  intro x1 e1
  rw [e1]
  have := fillL (q := q) (N := N) (f := f) (post := post) (kx := fun x5 σ6 => post σ6) (σ := σ) (by omega) h 1000 0 (by omega) (by omega)
  have e : (fun k => if k < 0 then f else gI σ q k) = gI σ q := by
    funext k
    rw [if_neg (by omega)]
  rw [e, sR_id] at this
  exact this
theorem Gd.vk {σ σ' : XS} (h : Gd σ) (K : Kv σ σ') : Gv σ' := h.v.k K
