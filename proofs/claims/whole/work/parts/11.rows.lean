/-! ===== rows over the world: fields, arrays, calls, ends ===== -/
section XR
variable {p : Program} {l : Launch} {e : Env} {R : Room} {s : State} {m : MethodId} {args : Array Value} {below : List Frame} {meth : Method} {c : Code} {H : Heap} {locs : List Loc} {cells slots : Nat} {Q : State → Prop}
variable {g : XG} {A : Nat → Prop} {ws : List Cond} {own : String} {cc : ByteArray} {nL : Nat} {rt : Option FieldType} {σ : XS} {pc : Nat} {ls : Array Slot} {rest : List Value}
theorem x_geti (C0 : xC g A ws own cc nL rt p s m args meth c) (hO : xO g A s σ H locs) (j k : Nat) {ci : Nat} {fs : List (Option Nat)} {Cn ref : String} {T : u_T} {N index : Nat} (ht : xTab[j]? = some (.inr (ci, fs))) (hc : vwCl[ci]? = some (Cn, T, N)) (hk : k < N) (hf : fs[k]? = some none) (hin : ∀ w ∈ u_ws Cn T N, w ∈ ws) (href : (T k).1 = ref) (hlink : Cond.fieldLink own index ref (T k).2.1 (T k).2.2.1 ∈ ws) (hdg : decode cc pc = .ok (.getfield index, 3))
    (kk : W p l e R s m args below meth c H locs cells slots Q (F0 m (pc + 3) ls (.int (gI σ j k) :: rest))) : W p l e R s m args below meth c H locs cells slots Q (F0 m pc ls (.ref (xa g j) :: rest)) := by
  obtain ⟨hx, hb, -, -, -, hown, hts, hK, -, -⟩ := C0
  exact va_get hx hb hts hin hown hK hO.1 j (xB_at g σ ht) hc k hk (hts _ hlink) (fun x h => by rw [← href]; exact h) (by show (fs.mapIdx _)[k]? = _; rw [List.getElem?_mapIdx, hf]; rfl) hdg kk
theorem x_getr (C0 : xC g A ws own cc nL rt p s m args meth c) (hO : xO g A s σ H locs) (j k q : Nat) {ci : Nat} {fs : List (Option Nat)} {Cn ref : String} {T : u_T} {N index : Nat} (ht : xTab[j]? = some (.inr (ci, fs))) (hc : vwCl[ci]? = some (Cn, T, N)) (hk : k < N) (hf : fs[k]? = some (some q)) (hin : ∀ w ∈ u_ws Cn T N, w ∈ ws) (href : (T k).1 = ref) (hlink : Cond.fieldLink own index ref (T k).2.1 (T k).2.2.1 ∈ ws) (hdg : decode cc pc = .ok (.getfield index, 3))
    (kk : W p l e R s m args below meth c H locs cells slots Q (F0 m (pc + 3) ls (.ref (xa g q) :: rest))) : W p l e R s m args below meth c H locs cells slots Q (F0 m pc ls (.ref (xa g j) :: rest)) := by
  obtain ⟨hx, hb, -, -, -, hown, hts, hK, -, -⟩ := C0
  exact va_get hx hb hts hin hown hK hO.1 j (xB_at g σ ht) hc k hk (hts _ hlink) (fun x h => by rw [← href]; exact h) (by show (fs.mapIdx _)[k]? = _; rw [List.getElem?_mapIdx, hf]; rfl) hdg kk
theorem x_flds {j k : Nat} {fs : List (Option Nat)} {a : Nat → Nat} {x : Int32} (hf : fs[k]? = some none) : (fs.mapIdx (xFld a σ j)).set k (.int x) = fs.mapIdx (xFld a (sI σ j k x) j) := by
  apply List.ext_getElem?
  intro i
  have hl : k < fs.length := (List.getElem?_eq_some_iff.mp hf).1
  rw [List.getElem?_set, List.getElem?_mapIdx, List.getElem?_mapIdx, List.length_mapIdx]
  by_cases hi : k = i
  · subst hi
    rw [if_pos rfl, if_pos hl, hf]
    show some (Value.int x) = some (Value.int _)
    rw [gI_sIe]
  · rw [if_neg hi]
    cases he : fs[i]? with
    | none => rfl
    | some q =>
      cases q with
      | none =>
        show some (Value.int _) = some (Value.int _)
        rw [gI_sIk _ _ (fun q => hi q.symm)]
      | some r => rfl
theorem x_puti (C0 : xC g A ws own cc nL rt p s m args meth c) (hO : xO g A s σ H locs) (j k : Nat) {ci : Nat} {fs : List (Option Nat)} {Cn ref : String} {T : u_T} {N index : Nat} {x : Int32} (ty : Nat → FieldType) (hty : ∀ k, k < N → parseFieldDescriptor (T k).2.2.1 = some (ty k)) (hnm : ∀ a, a < N → ∀ b, b < N → a ≠ b → (T a).2.1 ≠ (T b).2.1) (ht : xTab[j]? = some (.inr (ci, fs))) (hc : vwCl[ci]? = some (Cn, T, N)) (hk : k < N) (hf : fs[k]? = some none) (hin : ∀ w ∈ u_ws Cn T N, w ∈ ws) (href : (T k).1 = ref) (hfin : (T k).2.2.2 = false) (hti : ty k = .int) (hlink : Cond.fieldLink own index ref (T k).2.1 (T k).2.2.1 ∈ ws) (hdg : decode cc pc = .ok (.putfield index, 3))
    (kk : ∀ (σ' : XS) (H1 : Heap) (locs1 : List Loc), σ' = sI σ j k x → xO g A s σ' H1 locs1 → W p l e R s m args below meth c H1 locs1 cells slots Q (F0 m (pc + 3) ls rest)) : W p l e R s m args below meth c H locs cells slots Q (F0 m pc ls (.int x :: .ref (xa g j) :: rest)) := by
  obtain ⟨hx, hb, -, -, -, hown, hts, hK, -, -⟩ := C0
  have hl : k < fs.length := (List.getElem?_eq_some_iff.mp hf).1
  have hset : ∀ w, w = xEl g (sI σ j k x) j (.inr (ci, fs)) → (xW g σ).set j w = xW g (sI σ j k x) := fun w hw => xB_set g σ (sI σ j k x) ht hw (fun j' e' _ hne => xEl_sR hne) rfl (fun _ => rfl)
  refine va_put hx hb hts hin ty hty hnm hown hK hO.1 hO.2.1 hO.2.2 j (xB_at g σ ht) hc k hk (hts _ hlink) (fun x h => by rw [← href]; exact h) hfin (ty := .int) (by rw [hty k hk, hti]) rfl rfl (by rw [List.length_mapIdx]; exact hl) hdg (fun H1 locs1 hP hD hS => ?_)
  have hw : (xa g j, (Sum.inr (ci, (fs.mapIdx (xFld (xa g) σ j)).set k (.int x)) : va_E)) = xEl g (sI σ j k x) j (.inr (ci, fs)) := by
    rw [x_flds hf]; rfl
  rw [hset _ hw] at hP hD
  exact kk _ H1 locs1 rfl ⟨hP, hD, hS⟩
theorem x_iald (C0 : xC g A ws own cc nL rt p s m args meth c) (hO : xO g A s σ H locs) (j : Nat) {n : Nat} (ht : xTab[j]? = some (.inl (0, n))) {i : Int32} (hi : vp_in i n) (hdg : decode cc pc = .ok (.iaload, 1))
    (kk : W p l e R s m args below meth c H locs cells slots Q (F0 m (pc + 1) ls (.int (gI σ j i.toNatClampNeg) :: rest))) : W p l e R s m args below meth c H locs cells slots Q (F0 m pc ls (.int i :: .ref (xa g j) :: rest)) := by
  obtain ⟨hx, hb, -, -, -, hown, hts, hK, -, -⟩ := C0
  exact va_iald hx hb hK hO.1 j 0 (xB_at g σ ht) rfl hi hdg kk
theorem x_lald (C0 : xC g A ws own cc nL rt p s m args meth c) (hO : xO g A s σ H locs) (j : Nat) {n : Nat} (ht : xTab[j]? = some (.inl (1, n))) {i : Int32} (hi : vp_in i n) (hdg : decode cc pc = .ok (.laload, 1))
    (kk : W p l e R s m args below meth c H locs cells slots Q (F0 m (pc + 1) ls (.long (gL σ j i.toNatClampNeg) :: rest))) : W p l e R s m args below meth c H locs cells slots Q (F0 m pc ls (.int i :: .ref (xa g j) :: rest)) := by
  obtain ⟨hx, hb, -, -, -, hown, hts, hK, -, -⟩ := C0
  exact va_lald hx hb hK hO.1 j 1 (xB_at g σ ht) rfl hi hdg kk
theorem x_iast (C0 : xC g A ws own cc nL rt p s m args meth c) (hO : xO g A s σ H locs) (j : Nat) {n : Nat} (ht : xTab[j]? = some (.inl (0, n))) {i x : Int32} (hi : vp_in i n) (hdg : decode cc pc = .ok (.iastore, 1))
    (kk : ∀ (σ' : XS) (H1 : Heap) (locs1 : List Loc), σ' = sI σ j i.toNatClampNeg x → xO g A s σ' H1 locs1 → W p l e R s m args below meth c H1 locs1 cells slots Q (F0 m (pc + 1) ls rest)) : W p l e R s m args below meth c H locs cells slots Q (F0 m pc ls (.int x :: .int i :: .ref (xa g j) :: rest)) := by
  obtain ⟨hx, hb, -, -, -, hown, hts, hK, -, -⟩ := C0
  refine va_iast hx hb hK hO.1 hO.2.1 hO.2.2 j 0 (xB_at g σ ht) rfl hi hdg (fun H1 locs1 hP hD hS => ?_)
  have hw : (xa g j, (Sum.inl ((xk g).1, n, Sum.inl (upd (gI σ j) i.toNatClampNeg x)) : va_E)) = xEl g (sI σ j i.toNatClampNeg x) j (.inl (0, n)) := by
    have h1 : gI (sI σ j i.toNatClampNeg x) j = upd (gI σ j) i.toNatClampNeg x := by
      funext k
      show gI (sR _ _ _) _ _ = _
      rw [gI_sR, if_pos rfl]
    show _ = (xa g j, (Sum.inl ((xk g).1, n, Sum.inl (gI (sI σ j i.toNatClampNeg x) j)) : va_E))
    rw [h1]
  rw [xB_set g σ (sI σ j i.toNatClampNeg x) ht hw (fun j' e' _ hne => xEl_sR hne) rfl (fun _ => rfl)] at hP hD
  exact kk _ H1 locs1 rfl ⟨hP, hD, hS⟩
theorem x_last (C0 : xC g A ws own cc nL rt p s m args meth c) (hO : xO g A s σ H locs) (j : Nat) {n : Nat} (ht : xTab[j]? = some (.inl (1, n))) {i : Int32} {x : Int64} (hi : vp_in i n) (hdg : decode cc pc = .ok (.lastore, 1))
    (kk : ∀ (σ' : XS) (H1 : Heap) (locs1 : List Loc), σ' = sL σ j i.toNatClampNeg x → xO g A s σ' H1 locs1 → W p l e R s m args below meth c H1 locs1 cells slots Q (F0 m (pc + 1) ls rest)) : W p l e R s m args below meth c H locs cells slots Q (F0 m pc ls (.long x :: .int i :: .ref (xa g j) :: rest)) := by
  obtain ⟨hx, hb, -, -, -, hown, hts, hK, -, -⟩ := C0
  refine va_last hx hb hK hO.1 hO.2.1 hO.2.2 j 1 (xB_at g σ ht) rfl hi hdg (fun H1 locs1 hP hD hS => ?_)
  have hw : (xa g j, (Sum.inl ((xk g).2.1, n, Sum.inr (Sum.inl (vp_updL (gL σ j) i.toNatClampNeg x))) : va_E)) = xEl g (sL σ j i.toNatClampNeg x) j (.inl (1, n)) := by
    have h1 : gL (sL σ j i.toNatClampNeg x) j = vp_updL (gL σ j) i.toNatClampNeg x := by
      funext k
      rw [gL_sL]
      unfold vp_updL
      simp
    show _ = (xa g j, (Sum.inl ((xk g).2.1, n, Sum.inr (Sum.inl (gL (sL σ j i.toNatClampNeg x) j))) : va_E))
    rw [h1]
  rw [xB_set g σ (sL σ j i.toNatClampNeg x) ht hw (fun j' e' _ hne => xEl_sL hne) rfl (fun _ => rfl)] at hP hD
  exact kk _ H1 locs1 rfl ⟨hP, hD, hS⟩
theorem x_alen (C0 : xC g A ws own cc nL rt p s m args meth c) (hO : xO g A s σ H locs) (j : Nat) {n : Nat} (ht : xTab[j]? = some (.inl (0, n))) (hdg : decode cc pc = .ok (.arraylength, 1))
    (kk : W p l e R s m args below meth c H locs cells slots Q (F0 m (pc + 1) ls (.int (nI n) :: rest))) : W p l e R s m args below meth c H locs cells slots Q (F0 m pc ls (.ref (xa g j) :: rest)) := by
  obtain ⟨hx, hb, -, -, -, hown, hts, hK, -, -⟩ := C0
  exact va_alen hx hb hK hO.1 j 0 (xB_at g σ ht) rfl rfl hdg kk
/-- the sheets' row -/
theorem x_aldS (C0 : xC g A ws own cc nL rt p s m args meth c) (hO : xO g A s σ H locs) {i : Int32} (hi : vp_in i 4) (hdg : decode cc pc = .ok (.aaload, 1))
    (kk : W p l e R s m args below meth c H locs cells slots Q (F0 m (pc + 1) ls (.ref (xa g (16 + 2 * i.toNatClampNeg)) :: rest))) : W p l e R s m args below meth c H locs cells slots Q (F0 m pc ls (.int i :: .ref (xa g 1) :: rest)) := by
  obtain ⟨hx, hb, -, -, -, hown, hts, hK, -, -⟩ := C0
  have hlt : i.toNatClampNeg < 4 := Nat.not_le.mp fun q => hi (Or.inr q)
  refine va_aldq hx hb hK hO.1 1 2 (xB_at g σ (j := 1) rfl) rfl hi hdg ?_
  show W p l e R s m args below meth c H locs cells slots Q (F0 m (pc + 1) ls (va_rf (xSh (xa g) i.toNatClampNeg) :: rest))
  unfold xSh
  rw [if_pos hlt]
  exact kk
/-- the persons' row -/
theorem x_aldP (C0 : xC g A ws own cc nL rt p s m args meth c) (hO : xO g A s σ H locs) {i : Int32} (hi : vp_in i 5) (hdg : decode cc pc = .ok (.aaload, 1))
    (kk : W p l e R s m args below meth c H locs cells slots Q (F0 m (pc + 1) ls (va_rf (gP σ i.toNatClampNeg) :: rest))) : W p l e R s m args below meth c H locs cells slots Q (F0 m pc ls (.int i :: .ref (xa g 2) :: rest)) := by
  obtain ⟨hx, hb, -, -, -, hown, hts, hK, -, -⟩ := C0
  exact va_aldq hx hb hK hO.1 2 3 (xB_at g σ (j := 2) rfl) rfl hi hdg kk
/-- the static tables -/
theorem x_first (C0 : xC g A ws own cc nL rt p s m args meth c) (hO : xO g A s σ H locs) {index : Nat} (hlink : Cond.fieldLink own index "GumHall$Story" "FIRST_SLOT" "[I" ∈ ws) (hdg : decode cc pc = .ok (.getstatic index, 3))
    (kk : W p l e R s m args below meth c H locs cells slots Q (F0 m (pc + 3) ls (.ref g.2.2.2.1 :: rest))) : W p l e R s m args below meth c H locs cells slots Q (F0 m pc ls rest) := by
  obtain ⟨hx, hb, -, -, -, hown, hts, hK, -, hSt⟩ := C0
  exact va_gets hx hb hSt.1 hO.2.2 hown (hts _ hlink) (fun _ h => h) hdg kk
theorem x_most (C0 : xC g A ws own cc nL rt p s m args meth c) (hO : xO g A s σ H locs) {index : Nat} (hlink : Cond.fieldLink own index "GumHall$Story" "MOST" "[I" ∈ ws) (hdg : decode cc pc = .ok (.getstatic index, 3))
    (kk : W p l e R s m args below meth c H locs cells slots Q (F0 m (pc + 3) ls (.ref g.2.2.2.2 :: rest))) : W p l e R s m args below meth c H locs cells slots Q (F0 m pc ls rest) := by
  obtain ⟨hx, hb, -, -, -, hown, hts, hK, -, hSt⟩ := C0
  exact va_gets hx hb hSt.2.2.1 hO.2.2 hown (hts _ hlink) (fun _ h => h) hdg kk
theorem x_firstAt (C0 : xC g A ws own cc nL rt p s m args meth c) (hO : xO g A s σ H locs) {i : Int32} (hi : vp_in i 4) (hdg : decode cc pc = .ok (.iaload, 1))
    (kk : W p l e R s m args below meth c H locs cells slots Q (F0 m (pc + 1) ls (.int (xFirst i.toNatClampNeg) :: rest))) : W p l e R s m args below meth c H locs cells slots Q (F0 m pc ls (.int i :: .ref g.2.2.2.1 :: rest)) := by
  obtain ⟨hx, hb, -, -, -, hown, hts, hK, -, hSt⟩ := C0
  exact va_ti hx hb hSt.2.1 hO.2.2 hi rfl hdg kk
theorem x_mostAt (C0 : xC g A ws own cc nL rt p s m args meth c) (hO : xO g A s σ H locs) {i : Int32} (hi : vp_in i 4) (hdg : decode cc pc = .ok (.iaload, 1))
    (kk : W p l e R s m args below meth c H locs cells slots Q (F0 m (pc + 1) ls (.int (xMost i.toNatClampNeg) :: rest))) : W p l e R s m args below meth c H locs cells slots Q (F0 m pc ls (.int i :: .ref g.2.2.2.2 :: rest)) := by
  obtain ⟨hx, hb, -, -, -, hown, hts, hK, -, hSt⟩ := C0
  exact va_ti hx hb hSt.2.2.2.1 hO.2.2 hi rfl hdg kk
/-! ends -/
theorem x_at {A : Nat → Prop} (C0 : xC g A ws own cc nL rt p s m args meth c) (hO : xO g A s σ H locs) {t : State} (ht : t.heap = H) (hW : s.WarmedH t.vm) : xAt g A σ t := by
  obtain ⟨-, -, -, -, -, -, -, hK, -, -⟩ := C0
  exact ⟨by rw [ht]; exact hO.1, va_K.moved hW.alike hK, hO.2.1⟩
theorem x_iret {post : Int32 → XS → Prop} {v : Int32} (C0 : xC g A ws own cc nL (some .int) p s m args meth c) (hO : xO g A s σ H locs) (hw : post v σ) (hdg : decode cc pc = .ok (.ireturn, 1)) : W p l e R s m args below meth c H locs cells slots (MQ below (va_Qi post (xAt g A) A) args s cells slots A) (F0 m pc ls [.int v]) := by
  have hlocks : meth.locks = false := C0.2.2.2.1
  exact W.iret C0.1 C0.2.1 C0.2.2.1 (fun t ht hW => ⟨⟨v, σ, rfl, hw, x_at C0 hO ht hW⟩, hO.2.2.F ht⟩) hO.2.2.2.2 hdg
theorem x_zret {post : Int32 → XS → Prop} {v : Int32} (C0 : xC g A ws own cc nL (some .boolean) p s m args meth c) (hO : xO g A s σ H locs) (hn : narrow .boolean (.int v) = .int v) (hw : post v σ) (hdg : decode cc pc = .ok (.ireturn, 1)) : W p l e R s m args below meth c H locs cells slots (MQ below (va_Qi post (xAt g A) A) args s cells slots A) (F0 m pc ls [.int v]) := by
  have hlocks : meth.locks = false := C0.2.2.2.1
  exact W.zret C0.1 C0.2.1 C0.2.2.1 hn (fun t ht hW => ⟨⟨v, σ, rfl, hw, x_at C0 hO ht hW⟩, hO.2.2.F ht⟩) hO.2.2.2.2 hdg
theorem x_lret {post : Int64 → XS → Prop} {v : Int64} (C0 : xC g A ws own cc nL (some .long) p s m args meth c) (hO : xO g A s σ H locs) (hw : post v σ) (hdg : decode cc pc = .ok (.lreturn, 1)) : W p l e R s m args below meth c H locs cells slots (MQ below (va_Ql post (xAt g A) A) args s cells slots A) (F0 m pc ls [.long v]) := by
  have hlocks : meth.locks = false := C0.2.2.2.1
  exact W.lret C0.1 C0.2.1 C0.2.2.1 (fun t ht hW => ⟨⟨v, σ, rfl, hw, x_at C0 hO ht hW⟩, hO.2.2.F ht⟩) hO.2.2.2.2 hdg
theorem x_vret {post : XS → Prop} (C0 : xC g A ws own cc nL none p s m args meth c) (hO : xO g A s σ H locs) (hw : post σ) (hdg : decode cc pc = .ok (.return_, 1)) : W p l e R s m args below meth c H locs cells slots (MQ below (va_Qv post (xAt g A) A) args s cells slots A) (F0 m pc ls []) := by
  have hlocks : meth.locks = false := C0.2.2.2.1
  exact W.vret C0.1 C0.2.1 C0.2.2.1 (fun t ht hW => ⟨⟨σ, rfl, hw, x_at C0 hO ht hW⟩, hO.2.2.F ht⟩) hO.2.2.2.2 hdg
theorem x_aret {post : Option Nat → XS → Prop} {cn : String} {v : Option Nat} (C0 : xC g A ws own cc nL (some (.object cn)) p s m args meth c) (hO : xO g A s σ H locs) (hw : post v σ) (hdg : decode cc pc = .ok (.areturn, 1)) : W p l e R s m args below meth c H locs cells slots (MQ below (va_Qq post (xAt g A) A) args s cells slots A) (F0 m pc ls [va_rf v]) := by
  have hlocks : meth.locks = false := C0.2.2.2.1
  exact W.aret C0.1 C0.2.1 C0.2.2.1 (Or.inl ⟨_, rfl⟩) (va_rf_or v) (fun t ht hW => ⟨⟨v, σ, rfl, hw, x_at C0 hO ht hW⟩, hO.2.2.F ht⟩) hO.2.2.2.2 hdg
/-! calls: by a run of the callee over the whole world -/
variable {st0 : List Value} {a : Array Value} {mc ms : Nat}
theorem x_after (C0 : xC g A ws own cc nL rt p s m args meth c) (hO : xO g A s σ H locs) {u : XS} {t : State} {H1 : Heap} {locs1 : List Loc} (ht : t.heap = H1) (hB : xAt g (va_A (xW g σ) H.size) u t) (hS : va_S A s.heap H1 locs1) : xO g A s u H1 locs1 := by
  obtain ⟨-, -, -, -, -, -, -, -, hA, -⟩ := C0
  obtain ⟨h1, -, h3⟩ := hB
  exact ⟨by rw [← ht]; exact h1, h3.weaken (fun k q _ h => xFree hA hO q.1 h), hS⟩
theorem x_calli {post : Int32 → XS → Prop} (C0 : xC g A ws own cc nL rt p s m args meth c) (hO : xO g A s σ H locs) (hr : va_Run p l e R s m args below meth c H locs cells slots mc ms (F0 m pc ls st0) rest (va_Qi post (xAt g (va_A (xW g σ) H.size)) (va_A (xW g σ) H.size) a) (va_A (xW g σ) H.size))
    (kk : ∀ (r : Int32) (u : XS) (H1 : Heap) (locs1 : List Loc), post r u → xO g A s u H1 locs1 → W p l e R s m args below meth c H1 locs1 (cells + mc) (slots + ms) Q (F0 m (pc + 3) ls (.int r :: rest))) : W p l e R s m args below meth c H locs cells slots Q (F0 m pc ls st0) := by
  have hF := xFree C0.2.2.2.2.2.2.2.2.1 hO
  exact va_calli hr hO.2.2 (fun q _ h => hF q h) hF (fun r u t H1 locs1 ht hvm hw hB hz1 hk1 hS => kk r u H1 locs1 hw (x_after C0 hO ht hB hS))
theorem x_calll {post : Int64 → XS → Prop} (C0 : xC g A ws own cc nL rt p s m args meth c) (hO : xO g A s σ H locs) (hr : va_Run p l e R s m args below meth c H locs cells slots mc ms (F0 m pc ls st0) rest (va_Ql post (xAt g (va_A (xW g σ) H.size)) (va_A (xW g σ) H.size) a) (va_A (xW g σ) H.size))
    (kk : ∀ (r : Int64) (u : XS) (H1 : Heap) (locs1 : List Loc), post r u → xO g A s u H1 locs1 → W p l e R s m args below meth c H1 locs1 (cells + mc) (slots + ms) Q (F0 m (pc + 3) ls (.long r :: rest))) : W p l e R s m args below meth c H locs cells slots Q (F0 m pc ls st0) := by
  have hF := xFree C0.2.2.2.2.2.2.2.2.1 hO
  exact va_calll hr hO.2.2 (fun q _ h => hF q h) hF (fun r u t H1 locs1 ht hvm hw hB hz1 hk1 hS => kk r u H1 locs1 hw (x_after C0 hO ht hB hS))
theorem x_callv {post : XS → Prop} (C0 : xC g A ws own cc nL rt p s m args meth c) (hO : xO g A s σ H locs) (hr : va_Run p l e R s m args below meth c H locs cells slots mc ms (F0 m pc ls st0) rest (va_Qv post (xAt g (va_A (xW g σ) H.size)) (va_A (xW g σ) H.size) a) (va_A (xW g σ) H.size))
    (kk : ∀ (u : XS) (H1 : Heap) (locs1 : List Loc), post u → xO g A s u H1 locs1 → W p l e R s m args below meth c H1 locs1 (cells + mc) (slots + ms) Q (F0 m (pc + 3) ls rest)) : W p l e R s m args below meth c H locs cells slots Q (F0 m pc ls st0) := by
  have hF := xFree C0.2.2.2.2.2.2.2.2.1 hO
  exact va_callv hr hO.2.2 (fun q _ h => hF q h) hF (fun u t H1 locs1 ht hvm hw hB hz1 hk1 hS => kk u H1 locs1 hw (x_after C0 hO ht hB hS))
theorem x_callq {post : Option Nat → XS → Prop} (C0 : xC g A ws own cc nL rt p s m args meth c) (hO : xO g A s σ H locs) (hr : va_Run p l e R s m args below meth c H locs cells slots mc ms (F0 m pc ls st0) rest (va_Qq post (xAt g (va_A (xW g σ) H.size)) (va_A (xW g σ) H.size) a) (va_A (xW g σ) H.size))
    (kk : ∀ (r : Option Nat) (u : XS) (H1 : Heap) (locs1 : List Loc), post r u → xO g A s u H1 locs1 → W p l e R s m args below meth c H1 locs1 (cells + mc) (slots + ms) Q (F0 m (pc + 3) ls (va_rf r :: rest))) : W p l e R s m args below meth c H locs cells slots Q (F0 m pc ls st0) := by
  have hF := xFree C0.2.2.2.2.2.2.2.2.1 hO
  exact va_callq hr hO.2.2 (fun q _ h => hF q h) hF (fun r u t H1 locs1 ht hvm hw hB hz1 hk1 hS => kk r u H1 locs1 hw (x_after C0 hO ht hB hS))
variable {y : MethodName} {bytes : ByteArray} {maxL index : Nat} {ret : Option FieldType} {ws2 ws3 : List Cond} {rm : Room} {Cn : String} {b : Addr} {As : List Value} {Qc : Array Value → State → Outcome → State → Prop} {free : Addr → Prop}
/-- a run of a method of an object of ours -/
theorem x_runV (C0 : xC g A ws own cc nL rt p s m args meth c) (hO : xO g A s σ H locs) (hM : Met l y ws2 rm (xPc g H.size (.ref b :: As) σ) Qc mc ms free) (n : Nat) (hn : As.length = n) (hre : ∃ cell : Cell, H[b]? = some cell ∧ cell.vm.isStatics = false ∧ s.vm.findClass Cn = some cell.cls) (hG : GoodIn ws (wsV own index Cn y ws2)) (hw : ws2 = Cond.code y bytes maxL ret :: ws3) (hrc : rm.cells = mc) (hrs : rm.slots = ms)
    (hd : y.cls = Cn ∧ y.cls ≠ "java/lang/invoke/MethodHandle" ∧ y.cls ≠ "java/lang/invoke/VarHandle" ∧ (parseMethodDescriptor y.desc).map (fun d => d.parameters.length) = some n) (hR : rm.frames + 1 ≤ R.frames ∧ 8 + (maxL + 11) + rm.locals ≤ R.locals)
    (hl : ls.size = nL) (hst : st0 = As.reverse ++ .ref b :: rest) (hr8 : (rest.map fun v => v.category).sum ≤ 8) (hdg : decode cc pc = .ok (.invokevirtual index, 3)) (hf : cells + mc ≤ R.cells ∧ slots + ms ≤ R.slots) :
    va_Run p l e R s m args below meth c H locs cells slots mc ms (F0 m pc ls st0) rest (Qc (Value.ref b :: As).toArray) free := by
  obtain ⟨hx, hb, -, -, hml, hown, hts, -, -, -⟩ := id C0
  exact va_runV ⟨hx, hb, hml, hown, hts⟩ hM (cwV n hts hG hw hrc hrs hd hR) ⟨(xPre C0 hO _).1, hre, (xPre C0 hO _).2⟩ rfl hn hl hst (lv_room hr8) hdg hf
theorem x_runS (C0 : xC g A ws own cc nL rt p s m args meth c) (hO : xO g A s σ H locs) (hM : Met l y ws2 rm (xPc g H.size As σ) Qc mc ms free) (n : Nat) (hn : As.length = n) (hG : GoodIn ws (va_wsS own index y ws2)) (hw : ws2 = Cond.code y bytes maxL ret :: ws3) (hrc : rm.cells = mc) (hrs : rm.slots = ms)
    (hd : y.cls ≠ "java/lang/invoke/MethodHandle" ∧ y.cls ≠ "java/lang/invoke/VarHandle" ∧ (parseMethodDescriptor y.desc).map (fun d => d.parameters.length) = some n) (hR : rm.frames + 1 ≤ R.frames ∧ 8 + (maxL + 11) + rm.locals ≤ R.locals)
    (hl : ls.size = nL) (hst : st0 = As.reverse ++ rest) (hr8 : (rest.map fun v => v.category).sum ≤ 8) (hdg : decode cc pc = .ok (.invokestatic index, 3)) (hf : cells + mc ≤ R.cells ∧ slots + ms ≤ R.slots) :
    va_Run p l e R s m args below meth c H locs cells slots mc ms (F0 m pc ls st0) rest (Qc As.toArray) free := by
  obtain ⟨hx, hb, -, -, hml, hown, hts, -, -, -⟩ := id C0
  exact va_runS ⟨hx, hb, hml, hown, hts⟩ hM (va_cwS n hts hG hw hrc hrs hd hR) (xPre C0 hO _) rfl hn hl hst (lv_room hr8) hdg hf
end XR
/-- the head of a method over the world -/
theorem x_head {l : Launch} {y : MethodName} {ws ws' : List Cond} {rm : Room} {mc ms : Nat} {g : XG} {sz : Nat} {av : List Value} {σ : XS} {Qc : (Nat → Prop) → Array Value → State → Outcome → State → Prop} {cc : ByteArray} {maxL : Nat} {ret : Option FieldType} (hy : plainName y.cls = true) (hw : ws = Cond.code y cc maxL ret :: ws')
    (body : ∀ (p : Program) (e : Env) (s : State) (m : MethodId) (below : List Frame) (meth : Method) (c : Code) (A : Nat → Prop), xC g A ws y.cls cc maxL ret p s m av.toArray meth c → meth.name = y.name → xO g A s σ s.heap [] →
      W p l e (headSpec ws rm).room s m av.toArray below meth c s.heap [] 0 0 (MQ below (Qc A) av.toArray s mc ms A) (entryFrame m av.toArray maxL)) :
    Met l y ws rm (xPc g sz av σ) (Qc (va_A (xW g σ) sz)) mc ms (va_A (xW g σ) sz) := by
  refine Met.ofW (cc := cc) (maxL := maxL) (ret := ret) hy hw ?_
  intro p e s m args below meth c s₁ B hml hv
  obtain ⟨rfl, hsz, hP, hK, hD0, hSt⟩ := hv
  subst hsz
  exact body p e s m below meth c (va_A (xW g σ) s.heap.size) ⟨B.exec, B.bytes, B.returns, B.notSynchronized, hml, findClass_of_methodNamed B.named, atoms_spec (ws := ws) B.pre, hK, fun q h => Or.inr h, hSt⟩ (name_of_methodNamed B.named B.method).1 ⟨hP, hD0.self, va_S.rf⟩
theorem x_entry {p : Program} {l : Launch} {e : Env} {R : Room} {s : State} {m : MethodId} {args : Array Value} {below : List Frame} {meth : Method} {c : Code} {H : Heap} {locs : List Loc} {cells slots : Nat} {Q : State → Prop} {av : List Value} {n : Nat} (h : (lg_sl av).length ≤ n) (k : ∀ ls : Array Slot, lv_has ls n (lv_args 0 av) → W p l e R s m args below meth c H locs cells slots Q (F0 m 0 ls [])) : W p l e R s m args below meth c H locs cells slots Q (entryFrame m av.toArray n) := by
  rw [lg_entry_eq]
  exact k _ (lv_entry av h)
